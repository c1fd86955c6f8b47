/-! stretches of the code (printed by wip/whole/mkreg.py) -/
/-- PoolHouseModel.own(III)I -/
theorem bq_230_0 : mm_blk 230 0 = bk_230_0 := by decide +kernel
theorem bq_230_1 : mm_blk 230 1 = bk_230_1 := by decide +kernel
theorem bq_230_2 : mm_blk 230 2 = bk_230_2 := by decide +kernel
theorem bq_230_3 : mm_blk 230 3 = bk_230_3 := by decide +kernel
theorem bq_230_4 : mm_blk 230 4 = bk_230_4 := by decide +kernel
theorem bq_230_5 : mm_blk 230 5 = bk_230_5 := by decide +kernel
theorem r_230_e (x1 : Int) (x2 : Int) (x3 : Int) {hi : mm_Id → Int → Int} {dh : Int → Int} {nx ns : Int} {Q : mm_V → mm_H → Prop} (hy : 5306 ≤ nx) :
    mm_Cl 230 [zR (40, 0, 0), zI x1, zI x2, zI x3] (mm_z hi dh nx ns) Q =
    mm_Cl 181 [zR (40, 0, 0), zI x1] (mm_z (mm_up hi (40, 0, 0) 0 0) dh nx ns) (fun r h3 => mm_Wp 230 (bk_230_0.drop 6) [zR (40, 0, 0), zI x1, zI x2, zI x3, zU, zU, zU, zU] (mm_push r []) h3 Q) :=
  mm_ce (l2 := [zR (40, 0, 0), zI x1, zI x2, zI x3, zU, zU, zU, zU]) rfl (mm_kb bq_230_0 ((wp_5_0).trans ((wp_1).trans ((wp_63 (mm_o40 hy)).trans ((wp_5_0).trans ((wp_3_1).trans ((wp_v2 mm_n_181 (mm_leq mm_m_181 (mm_lb rfl)) (mm_lb rfl) (mm_o40 hy)).trans rfl)))))))
theorem r_230_0_6 (vx1 : mm_V) (x2 : Int) (x3 : Int) (vx4 : mm_V) (vx5 : mm_V) (vx6 : mm_V) (vx7 : mm_V) (y0 : Int) {hi : mm_Id → Int → Int} {dh : Int → Int} {nx ns : Int} {Q : mm_V → mm_H → Prop} (hy : 5306 ≤ nx) :
    mm_Wp 230 (bk_230_0.drop 6) [zR (40, 0, 0), vx1, zI x2, zI x3, vx4, vx5, vx6, vx7] [zI y0] (mm_z hi dh nx ns) Q =
    mm_Cl 210 [zR (40, 0, 0), zI y0, zI x2] (mm_z hi dh nx ns) (fun r h3 => mm_Wp 230 (bk_230_0.drop 11) [zR (40, 0, 0), vx1, zI x2, zI x3, zI y0, vx5, vx6, vx7] (mm_push r []) h3 Q) :=
  (wp_6 (l2 := [zR (40, 0, 0), vx1, zI x2, zI x3, zI y0, vx5, vx6, vx7]) rfl).trans ((wp_5_0).trans ((wp_3_4).trans ((wp_3_2).trans ((wp_v3 mm_n_210 (mm_leq mm_m_210 (mm_lb rfl)) (mm_lb rfl) (mm_o40 hy)).trans rfl))))
theorem r_230_0_11 (vx1 : mm_V) (x2 : Int) (x3 : Int) (x4 : Int) (vx5 : mm_V) (vx6 : mm_V) (vx7 : mm_V) (y0 : Int) {hi : mm_Id → Int → Int} {dh : Int → Int} {nx ns : Int} {Q : mm_V → mm_H → Prop} (hy : 5306 ≤ nx) :
    mm_Wp 230 (bk_230_0.drop 11) [zR (40, 0, 0), vx1, zI x2, zI x3, zI x4, vx5, vx6, vx7] [zI y0] (mm_z hi dh nx ns) Q =
    (if y0 = 0 then Q (zI (-1)) (mm_z hi dh nx ns) else mm_Cl 174 [zL x3, zL 0, zL 7] (mm_z hi dh nx ns) (fun r h3 => mm_Wp 230 (bk_230_1.drop 5) [zR (40, 0, 0), vx1, zI x2, zI x3, zI x4, vx5, vx6, vx7] (mm_push r []) h3 Q)) :=
  (wp_41).trans (mm_ic ((wp_1).trans (wp_90)) (mm_kb bq_230_1 ((wp_3_3).trans ((wp_31).trans ((wp_2).trans ((wp_2).trans ((wp_s3 mm_n_174 (mm_leq mm_m_174 (mm_lb rfl)) (mm_lb rfl)).trans rfl)))))))
theorem r_230_1_5 (vx1 : mm_V) (x2 : Int) (x3 : Int) (x4 : Int) (vx5 : mm_V) (vx6 : mm_V) (vx7 : mm_V) (y0 : Int) {hi : mm_Id → Int → Int} {dh : Int → Int} {nx ns : Int} {Q : mm_V → mm_H → Prop} (hy : 5306 ≤ nx) :
    mm_Wp 230 (bk_230_1.drop 5) [zR (40, 0, 0), vx1, zI x2, zI x3, zI x4, vx5, vx6, vx7] [zI y0] (mm_z hi dh nx ns) Q =
    (if y0 = 0 then Q (zI (-2)) (mm_z hi dh nx ns) else (if x4 < 5 then (if (hi (40, 0, 0) 29) = 0 then mm_Cl 175 [zI x4, zI x2] (mm_z hi dh nx ns) (fun r h3 => mm_Wp 230 (bk_230_4.drop 3) [zR (40, 0, 0), vx1, zI x2, zI x3, zI x4, vx5, vx6, vx7] (mm_push r []) h3 Q) else Q (zI (-5)) (mm_z hi dh nx ns)) else Q (zI (-3)) (mm_z hi dh nx ns))) :=
  (wp_41).trans (mm_ic ((wp_1).trans (wp_90)) (mm_kb bq_230_2 ((wp_3_4).trans ((wp_1).trans ((wp_48).trans (mm_ic (mm_kb bq_230_3 ((wp_5_0).trans ((wp_60 (by decide) (mm_o40 hy)).trans ((wp_40).trans (mm_ic (mm_kb bq_230_4 ((wp_3_4).trans ((wp_3_2).trans ((wp_s2 mm_n_175 (mm_leq mm_m_175 (mm_lb rfl)) (mm_lb rfl)).trans rfl)))) ((wp_1).trans (wp_90))))))) ((wp_1).trans (wp_90))))))))
theorem r_230_4_3 (vx1 : mm_V) (vx2 : mm_V) (x3 : Int) (x4 : Int) (vx5 : mm_V) (vx6 : mm_V) (vx7 : mm_V) (y0 : Int) {hi : mm_Id → Int → Int} {dh : Int → Int} {nx ns : Int} {Q : mm_V → mm_H → Prop} (hy : 5306 ≤ nx) :
    mm_Wp 230 (bk_230_4.drop 3) [zR (40, 0, 0), vx1, vx2, zI x3, zI x4, vx5, vx6, vx7] [zI y0] (mm_z hi dh nx ns) Q =
    ((0 ≤ y0 ∧ y0 < 1044) ∧ mm_Cl 205 [zR (40, 0, 0), zI x4, zI x3] (mm_z hi dh nx ns) (fun r h3 => mm_Wp 230 (bk_230_4.drop 13) [zR (40, 0, 0), vx1, vx2, zI x3, zI x4, zI y0, zI (hi (47, 0, 0) y0), vx7] (mm_push r []) h3 Q)) :=
  (wp_6 (l2 := [zR (40, 0, 0), vx1, vx2, zI x3, zI x4, zI y0, vx6, vx7]) rfl).trans ((wp_5_0).trans ((wp_62 (by decide) (mm_o40 hy) (mm_r40_8 hy)).trans ((wp_3_5).trans ((wp_70 (mm_q47 hy)).trans (mm_ae ((wp_6 (l2 := [zR (40, 0, 0), vx1, vx2, zI x3, zI x4, zI y0, zI (hi (47, 0, 0) y0), vx7]) rfl).trans ((wp_5_0).trans ((wp_3_4).trans ((wp_3_3).trans ((wp_v3 mm_n_205 (mm_leq mm_m_205 (mm_lb rfl)) (mm_lb rfl) (mm_o40 hy)).trans rfl))))))))))
theorem r_230_4_13 (vx1 : mm_V) (vx2 : mm_V) (x3 : Int) (x4 : Int) (x5 : Int) (x6 : Int) (vx7 : mm_V) (y0 : Int) {hi : mm_Id → Int → Int} {dh : Int → Int} {nx ns : Int} {Q : mm_V → mm_H → Prop} (hy : 5306 ≤ nx) :
    mm_Wp 230 (bk_230_4.drop 13) [zR (40, 0, 0), vx1, vx2, zI x3, zI x4, zI x5, zI x6, vx7] [zI y0] (mm_z hi dh nx ns) Q =
    ((0 ≤ x5 ∧ x5 < 1044) ∧ mm_Cl 205 [zR (40, 0, 0), zI x4, zI x3] (mm_z (mm_up hi (47, 0, 0) x5 x3) dh nx ns) (fun r h3 => mm_Wp 230 (bk_230_4.drop 23) [zR (40, 0, 0), vx1, vx2, zI x3, zI x4, zI x5, zI x6, zI y0] (mm_push r []) h3 Q)) :=
  (wp_6 (l2 := [zR (40, 0, 0), vx1, vx2, zI x3, zI x4, zI x5, zI x6, zI y0]) rfl).trans ((wp_5_0).trans ((wp_62 (by decide) (mm_o40 hy) (mm_r40_8 hy)).trans ((wp_3_5).trans ((wp_3_3).trans ((wp_74 (mm_q47 hy)).trans (mm_ae ((wp_5_0).trans ((wp_3_4).trans ((wp_3_3).trans ((wp_v3 mm_n_205 (mm_leq mm_m_205 (mm_lb rfl)) (mm_lb rfl) (mm_o40 hy)).trans rfl))))))))))
theorem r_230_4_23 (vx1 : mm_V) (vx2 : mm_V) (x3 : Int) (x4 : Int) (x5 : Int) (x6 : Int) (x7 : Int) (y0 : Int) {hi : mm_Id → Int → Int} {dh : Int → Int} {nx ns : Int} {Q : mm_V → mm_H → Prop} (hy : 5306 ≤ nx) :
    mm_Wp 230 (bk_230_4.drop 23) [zR (40, 0, 0), vx1, vx2, zI x3, zI x4, zI x5, zI x6, zI x7] [zI y0] (mm_z hi dh nx ns) Q =
    (if x7 < y0 then mm_Cl 206 [zR (40, 0, 0), zI x4, zI x3] (mm_z hi dh nx ns) (fun r h3 => mm_Wp 230 (bk_230_4.drop 29) [zR (40, 0, 0), vx1, vx2, zI x3, zI x4, zI x5, zI x6, zI x7] (mm_push r []) h3 Q) else mm_Wp 230 (mm_blk 230 5) [zR (40, 0, 0), vx1, vx2, zI x3, zI x4, zI x5, zI x6, zI x7] [] (mm_z hi dh nx ns) Q) :=
  (wp_3_7).trans ((wp_51).trans (mm_ic ((wp_5_0).trans ((wp_3_4).trans ((wp_3_3).trans ((wp_v3 mm_n_206 (mm_leq mm_m_206 (mm_lb rfl)) (mm_lb rfl) (mm_o40 hy)).trans rfl)))) (rfl)))
theorem r_230_5 (vx1 : mm_V) (vx2 : mm_V) (vx3 : mm_V) (vx4 : mm_V) (vx5 : mm_V) (x6 : Int) (vx7 : mm_V) {hi : mm_Id → Int → Int} {dh : Int → Int} {nx ns : Int} {Q : mm_V → mm_H → Prop} (hy : 5306 ≤ nx) :
    mm_Wp 230 (mm_blk 230 5) [zR (40, 0, 0), vx1, vx2, vx3, vx4, vx5, zI x6, vx7] [] (mm_z hi dh nx ns) Q =
    mm_Cl 209 [zR (40, 0, 0)] (mm_z hi dh nx ns) (fun r h3 => mm_Wp 230 (bk_230_5.drop 2) [zR (40, 0, 0), vx1, vx2, vx3, vx4, vx5, zI x6, vx7] (mm_push r []) h3 Q) :=
  mm_kb bq_230_5 ((wp_5_0).trans ((wp_v1 mm_n_209 (mm_leq mm_m_209 (mm_lb rfl)) (mm_lb rfl) (mm_o40 hy)).trans rfl))
theorem r_230_4_29 (vx1 : mm_V) (vx2 : mm_V) (vx3 : mm_V) (vx4 : mm_V) (x5 : Int) (x6 : Int) (vx7 : mm_V) (y0 : Int) {hi : mm_Id → Int → Int} {dh : Int → Int} {nx ns : Int} {Q : mm_V → mm_H → Prop} (hy : 5306 ≤ nx) :
    mm_Wp 230 (bk_230_4.drop 29) [zR (40, 0, 0), vx1, vx2, vx3, vx4, zI x5, zI x6, vx7] [zI y0] (mm_z hi dh nx ns) Q =
    (if y0 = 0 then ((0 ≤ x5 ∧ x5 < 1044) ∧ Q (zI (-4)) (mm_z (mm_up hi (47, 0, 0) x5 x6) dh nx ns)) else mm_Wp 230 (mm_blk 230 5) [zR (40, 0, 0), vx1, vx2, vx3, vx4, zI x5, zI x6, vx7] [] (mm_z hi dh nx ns) Q) :=
  (wp_41).trans (mm_ic ((wp_5_0).trans ((wp_62 (by decide) (mm_o40 hy) (mm_r40_8 hy)).trans ((wp_3_5).trans ((wp_3_6).trans ((wp_74 (mm_q47 hy)).trans (mm_ae ((wp_1).trans (wp_90)))))))) (rfl))
theorem r_230_5_2 (vx0 : mm_V) (vx1 : mm_V) (vx2 : mm_V) (vx3 : mm_V) (vx4 : mm_V) (vx5 : mm_V) (x6 : Int) (vx7 : mm_V) {hi : mm_Id → Int → Int} {dh : Int → Int} {nx ns : Int} {Q : mm_V → mm_H → Prop} (hy : 5306 ≤ nx) :
    mm_Wp 230 (bk_230_5.drop 2) [vx0, vx1, vx2, vx3, vx4, vx5, zI x6, vx7] [] (mm_z hi dh nx ns) Q =
    Q (zI x6) (mm_z hi dh nx ns) :=
  (wp_3_6).trans (wp_90)
/-- PoolHouseModel.isOwner(I)Z -/
theorem bq_231_0 : mm_blk 231 0 = bk_231_0 := by decide +kernel
theorem bq_231_1 : mm_blk 231 1 = bk_231_1 := by decide +kernel
theorem bq_231_2 : mm_blk 231 2 = bk_231_2 := by decide +kernel
theorem bq_231_3 : mm_blk 231 3 = bk_231_3 := by decide +kernel
theorem r_231_e (x1 : Int) {hi : mm_Id → Int → Int} {dh : Int → Int} {nx ns : Int} {Q : mm_V → mm_H → Prop} (hy : 5306 ≤ nx) :
    mm_Cl 231 [zR (40, 0, 0), zI x1] (mm_z hi dh nx ns) Q =
    (if (hi (40, 0, 0) 29) = 0 then mm_Wp 231 (mm_blk 231 1) [zR (40, 0, 0), zI x1] [] (mm_z hi dh nx ns) Q else ((0 ≤ x1 ∧ x1 < 1044) ∧ (if (hi (40, 0, 0) 29) = (hi (47, 0, 0) x1) then mm_Wp 231 (mm_blk 231 1) [zR (40, 0, 0), zI x1] [] (mm_z hi dh nx ns) Q else mm_Wp 231 (mm_blk 231 3) [zR (40, 0, 0), zI x1] [zI 0] (mm_z hi dh nx ns) Q))) :=
  mm_ce (l2 := [zR (40, 0, 0), zI x1]) rfl (mm_kb bq_231_0 ((wp_5_0).trans ((wp_60 (by decide) (mm_o40 hy)).trans ((wp_40).trans (mm_ic (rfl) ((wp_5_0).trans ((wp_60 (by decide) (mm_o40 hy)).trans ((wp_5_0).trans ((wp_62 (by decide) (mm_o40 hy) (mm_r40_8 hy)).trans ((wp_3_1).trans ((wp_70 (mm_q47 hy)).trans (mm_ae ((wp_47).trans (mm_ic ((wp_0).trans (rfl)) (mm_kb bq_231_2 ((wp_1).trans ((wp_0).trans (rfl))))))))))))))))))
theorem r_231_1 (vx0 : mm_V) (vx1 : mm_V) {hi : mm_Id → Int → Int} {dh : Int → Int} {nx ns : Int} {Q : mm_V → mm_H → Prop} (hy : 5306 ≤ nx) :
    mm_Wp 231 (mm_blk 231 1) [vx0, vx1] [] (mm_z hi dh nx ns) Q =
    mm_Wp 231 (mm_blk 231 3) [vx0, vx1] [zI 1] (mm_z hi dh nx ns) Q :=
  mm_kb bq_231_1 ((wp_1).trans ((wp_56).trans (rfl)))
theorem r_231_3 (vx0 : mm_V) (vx1 : mm_V) (y0 : Int) {hi : mm_Id → Int → Int} {dh : Int → Int} {nx ns : Int} {Q : mm_V → mm_H → Prop} (hy : 5306 ≤ nx) :
    mm_Wp 231 (mm_blk 231 3) [vx0, vx1] [zI y0] (mm_z hi dh nx ns) Q =
    ((y0 = 0 ∨ y0 = 1) ∧ Q (zI y0) (mm_z hi dh nx ns)) :=
  mm_kb bq_231_3 (wp_94z)
/-- PoolHouseModel.rights(III)I -/
theorem bq_232_0 : mm_blk 232 0 = bk_232_0 := by decide +kernel
theorem bq_232_1 : mm_blk 232 1 = bk_232_1 := by decide +kernel
theorem bq_232_2 : mm_blk 232 2 = bk_232_2 := by decide +kernel
theorem bq_232_3 : mm_blk 232 3 = bk_232_3 := by decide +kernel
theorem bq_232_4 : mm_blk 232 4 = bk_232_4 := by decide +kernel
theorem r_232_e (x1 : Int) (x2 : Int) (x3 : Int) {hi : mm_Id → Int → Int} {dh : Int → Int} {nx ns : Int} {Q : mm_V → mm_H → Prop} (hy : 5306 ≤ nx) :
    mm_Cl 232 [zR (40, 0, 0), zI x1, zI x2, zI x3] (mm_z hi dh nx ns) Q =
    mm_Cl 181 [zR (40, 0, 0), zI x1] (mm_z (mm_up hi (40, 0, 0) 0 0) dh nx ns) (fun r h3 => mm_Wp 232 (bk_232_0.drop 6) [zR (40, 0, 0), zI x1, zI x2, zI x3, zU, zU, zU] (mm_push r []) h3 Q) :=
  mm_ce (l2 := [zR (40, 0, 0), zI x1, zI x2, zI x3, zU, zU, zU]) rfl (mm_kb bq_232_0 ((wp_5_0).trans ((wp_1).trans ((wp_63 (mm_o40 hy)).trans ((wp_5_0).trans ((wp_3_1).trans ((wp_v2 mm_n_181 (mm_leq mm_m_181 (mm_lb rfl)) (mm_lb rfl) (mm_o40 hy)).trans rfl)))))))
theorem r_232_0_6 (vx1 : mm_V) (x2 : Int) (x3 : Int) (vx4 : mm_V) (vx5 : mm_V) (vx6 : mm_V) (y0 : Int) {hi : mm_Id → Int → Int} {dh : Int → Int} {nx ns : Int} {Q : mm_V → mm_H → Prop} (hy : 5306 ≤ nx) :
    mm_Wp 232 (bk_232_0.drop 6) [zR (40, 0, 0), vx1, zI x2, zI x3, vx4, vx5, vx6] [zI y0] (mm_z hi dh nx ns) Q =
    mm_Cl 210 [zR (40, 0, 0), zI y0, zI x2] (mm_z hi dh nx ns) (fun r h3 => mm_Wp 232 (bk_232_0.drop 11) [zR (40, 0, 0), vx1, zI x2, zI x3, zI y0, vx5, vx6] (mm_push r []) h3 Q) :=
  (wp_6 (l2 := [zR (40, 0, 0), vx1, zI x2, zI x3, zI y0, vx5, vx6]) rfl).trans ((wp_5_0).trans ((wp_3_4).trans ((wp_3_2).trans ((wp_v3 mm_n_210 (mm_leq mm_m_210 (mm_lb rfl)) (mm_lb rfl) (mm_o40 hy)).trans rfl))))
theorem r_232_0_11 (vx1 : mm_V) (x2 : Int) (x3 : Int) (x4 : Int) (vx5 : mm_V) (vx6 : mm_V) (y0 : Int) {hi : mm_Id → Int → Int} {dh : Int → Int} {nx ns : Int} {Q : mm_V → mm_H → Prop} (hy : 5306 ≤ nx) :
    mm_Wp 232 (bk_232_0.drop 11) [zR (40, 0, 0), vx1, zI x2, zI x3, zI x4, vx5, vx6] [zI y0] (mm_z hi dh nx ns) Q =
    (if y0 = 0 then Q (zI (-1)) (mm_z hi dh nx ns) else mm_Cl 174 [zL x3, zL 0, zL 63] (mm_z hi dh nx ns) (fun r h3 => mm_Wp 232 (bk_232_1.drop 5) [zR (40, 0, 0), vx1, zI x2, zI x3, zI x4, vx5, vx6] (mm_push r []) h3 Q)) :=
  (wp_41).trans (mm_ic ((wp_1).trans (wp_90)) (mm_kb bq_232_1 ((wp_3_3).trans ((wp_31).trans ((wp_2).trans ((wp_2).trans ((wp_s3 mm_n_174 (mm_leq mm_m_174 (mm_lb rfl)) (mm_lb rfl)).trans rfl)))))))
theorem r_232_1_5 (vx1 : mm_V) (x2 : Int) (x3 : Int) (x4 : Int) (vx5 : mm_V) (vx6 : mm_V) (y0 : Int) {hi : mm_Id → Int → Int} {dh : Int → Int} {nx ns : Int} {Q : mm_V → mm_H → Prop} (hy : 5306 ≤ nx) :
    mm_Wp 232 (bk_232_1.drop 5) [zR (40, 0, 0), vx1, zI x2, zI x3, zI x4, vx5, vx6] [zI y0] (mm_z hi dh nx ns) Q =
    (if y0 = 0 then Q (zI (-2)) (mm_z hi dh nx ns) else (if x4 < 5 then mm_Cl 175 [zI x4, zI x2] (mm_z hi dh nx ns) (fun r h3 => mm_Wp 232 (bk_232_3.drop 3) [zR (40, 0, 0), vx1, zI x2, zI x3, zI x4, vx5, vx6] (mm_push r []) h3 Q) else Q (zI (-3)) (mm_z hi dh nx ns))) :=
  (wp_41).trans (mm_ic ((wp_1).trans (wp_90)) (mm_kb bq_232_2 ((wp_3_4).trans ((wp_1).trans ((wp_48).trans (mm_ic (mm_kb bq_232_3 ((wp_3_4).trans ((wp_3_2).trans ((wp_s2 mm_n_175 (mm_leq mm_m_175 (mm_lb rfl)) (mm_lb rfl)).trans rfl)))) ((wp_1).trans (wp_90))))))))
theorem r_232_3_3 (vx1 : mm_V) (vx2 : mm_V) (x3 : Int) (vx4 : mm_V) (vx5 : mm_V) (vx6 : mm_V) (y0 : Int) {hi : mm_Id → Int → Int} {dh : Int → Int} {nx ns : Int} {Q : mm_V → mm_H → Prop} (hvx4 : mm_wt vx4 = 1) (hy : 5306 ≤ nx) :
    mm_Wp 232 (bk_232_3.drop 3) [zR (40, 0, 0), vx1, vx2, zI x3, vx4, vx5, vx6] [zI y0] (mm_z hi dh nx ns) Q =
    mm_Cl 231 [zR (40, 0, 0), zI y0] (mm_z hi dh nx ns) (fun r h3 => mm_Wp 232 (bk_232_3.drop 7) [zR (40, 0, 0), vx1, vx2, zI x3, vx4, zI y0, vx6] (mm_push r []) h3 Q) :=
  (wp_6 (l2 := [zR (40, 0, 0), vx1, vx2, zI x3, vx4, zI y0, vx6]) ((if_pos (mm_lb rfl)).trans (congrArg some (mm_stw rfl hvx4)))).trans ((wp_5_0).trans ((wp_3_5).trans ((wp_v2 mm_n_231 (mm_leq mm_m_231 (mm_lb rfl)) (mm_lb rfl) (mm_o40 hy)).trans rfl)))
theorem r_232_3_7 (vx1 : mm_V) (vx2 : mm_V) (x3 : Int) (vx4 : mm_V) (x5 : Int) (vx6 : mm_V) (y0 : Int) {hi : mm_Id → Int → Int} {dh : Int → Int} {nx ns : Int} {Q : mm_V → mm_H → Prop} (hy : 5306 ≤ nx) :
    mm_Wp 232 (bk_232_3.drop 7) [zR (40, 0, 0), vx1, vx2, zI x3, vx4, zI x5, vx6] [zI y0] (mm_z hi dh nx ns) Q =
    (if y0 = 0 then Q (zI (-5)) (mm_z hi dh nx ns) else ((0 ≤ x5 ∧ x5 < 1044) ∧ ((0 ≤ x5 ∧ x5 < 1044) ∧ mm_Cl 209 [zR (40, 0, 0)] (mm_z (mm_up hi (48, 0, 0) x5 x3) dh nx ns) (fun r h3 => mm_Wp 232 (bk_232_4.drop 12) [zR (40, 0, 0), vx1, vx2, zI x3, vx4, zI x5, zI (hi (48, 0, 0) x5)] (mm_push r []) h3 Q)))) :=
  (wp_41).trans (mm_ic ((wp_1).trans (wp_90)) (mm_kb bq_232_4 ((wp_5_0).trans ((wp_62 (by decide) (mm_o40 hy) (mm_r40_9 hy)).trans ((wp_3_5).trans ((wp_70 (mm_q48 hy)).trans (mm_ae ((wp_6 (l2 := [zR (40, 0, 0), vx1, vx2, zI x3, vx4, zI x5, zI (hi (48, 0, 0) x5)]) rfl).trans ((wp_5_0).trans ((wp_62 (by decide) (mm_o40 hy) (mm_r40_9 hy)).trans ((wp_3_5).trans ((wp_3_3).trans ((wp_74 (mm_q48 hy)).trans (mm_ae ((wp_5_0).trans ((wp_v1 mm_n_209 (mm_leq mm_m_209 (mm_lb rfl)) (mm_lb rfl) (mm_o40 hy)).trans rfl))))))))))))))))
theorem r_232_4_12 (vx0 : mm_V) (vx1 : mm_V) (vx2 : mm_V) (vx3 : mm_V) (vx4 : mm_V) (vx5 : mm_V) (x6 : Int) {hi : mm_Id → Int → Int} {dh : Int → Int} {nx ns : Int} {Q : mm_V → mm_H → Prop} (hy : 5306 ≤ nx) :
    mm_Wp 232 (bk_232_4.drop 12) [vx0, vx1, vx2, vx3, vx4, vx5, zI x6] [] (mm_z hi dh nx ns) Q =
    Q (zI x6) (mm_z hi dh nx ns) :=
  (wp_3_6).trans (wp_90)
/-- PoolHouseModel.keyPlace(II)I -/
theorem bq_233_0 : mm_blk 233 0 = bk_233_0 := by decide +kernel
theorem bq_233_1 : mm_blk 233 1 = bk_233_1 := by decide +kernel
theorem bq_233_2 : mm_blk 233 2 = bk_233_2 := by decide +kernel
theorem r_233_e (x1 : Int) (x2 : Int) {hi : mm_Id → Int → Int} {dh : Int → Int} {nx ns : Int} {Q : mm_V → mm_H → Prop} (hy : 5306 ≤ nx) :
    mm_Cl 233 [zR (40, 0, 0), zI x1, zI x2] (mm_z hi dh nx ns) Q =
    mm_Wp 233 (mm_blk 233 1) [zR (40, 0, 0), zI x1, zI x2, zI 0] [] (mm_z hi dh nx ns) Q :=
  mm_ce (l2 := [zR (40, 0, 0), zI x1, zI x2, zU]) rfl (mm_kb bq_233_0 ((wp_1).trans ((wp_6 (l2 := [zR (40, 0, 0), zI x1, zI x2, zI 0]) rfl).trans ((wp_0).trans (rfl)))))
theorem r_233_1 (x1 : Int) (x2 : Int) (x3 : Int) {hi : mm_Id → Int → Int} {dh : Int → Int} {nx ns : Int} {Q : mm_V → mm_H → Prop} (hy : 5306 ≤ nx) :
    mm_Wp 233 (mm_blk 233 1) [zR (40, 0, 0), zI x1, zI x2, zI x3] [] (mm_z hi dh nx ns) Q =
    ((0 ≤ x1 ∧ x1 < 1044) ∧ (if x3 < (hi (49, 0, 0) x1) then ((0 ≤ (mm_w ((mm_w (4 * x1)) + x3)) ∧ (mm_w ((mm_w (4 * x1)) + x3)) < 4176) ∧ (if (hi (50, 0, 0) (mm_w ((mm_w (4 * x1)) + x3))) < x2 then mm_Wp 233 (mm_blk 233 1) [zR (40, 0, 0), zI x1, zI x2, zI (mm_w (x3 + 1))] [] (mm_z hi dh nx ns) Q else mm_Wp 233 (mm_blk 233 2) [zR (40, 0, 0), zI x1, zI x2, zI x3] [] (mm_z hi dh nx ns) Q)) else mm_Wp 233 (mm_blk 233 2) [zR (40, 0, 0), zI x1, zI x2, zI x3] [] (mm_z hi dh nx ns) Q)) :=
  mm_kb bq_233_1 ((wp_3_3).trans ((wp_5_0).trans ((wp_62 (by decide) (mm_o40 hy) (mm_r40_10 hy)).trans ((wp_3_1).trans ((wp_70 (mm_q49 hy)).trans (mm_ae ((wp_49).trans (mm_ic ((wp_5_0).trans ((wp_62 (by decide) (mm_o40 hy) (mm_r40_11 hy)).trans ((wp_1).trans ((wp_3_1).trans ((wp_12).trans ((wp_3_3).trans ((wp_10).trans ((wp_70 (mm_q50 hy)).trans (mm_ae ((wp_3_2).trans ((wp_49).trans (mm_ic ((wp_9 (l2 := [zR (40, 0, 0), zI x1, zI x2, zI (mm_w (x3 + 1))]) rfl rfl).trans ((wp_56).trans (rfl))) (rfl))))))))))))) (rfl)))))))))
theorem r_233_2 (vx0 : mm_V) (vx1 : mm_V) (vx2 : mm_V) (x3 : Int) {hi : mm_Id → Int → Int} {dh : Int → Int} {nx ns : Int} {Q : mm_V → mm_H → Prop} (hy : 5306 ≤ nx) :
    mm_Wp 233 (mm_blk 233 2) [vx0, vx1, vx2, zI x3] [] (mm_z hi dh nx ns) Q =
    Q (zI x3) (mm_z hi dh nx ns) :=
  mm_kb bq_233_2 ((wp_3_3).trans (wp_90))
/-- PoolHouseModel.hasKey(II)Z -/
theorem bq_234_0 : mm_blk 234 0 = bk_234_0 := by decide +kernel
theorem bq_234_1 : mm_blk 234 1 = bk_234_1 := by decide +kernel
theorem bq_234_2 : mm_blk 234 2 = bk_234_2 := by decide +kernel
theorem r_234_e (x1 : Int) (x2 : Int) {hi : mm_Id → Int → Int} {dh : Int → Int} {nx ns : Int} {Q : mm_V → mm_H → Prop} (hy : 5306 ≤ nx) :
    mm_Cl 234 [zR (40, 0, 0), zI x1, zI x2] (mm_z hi dh nx ns) Q =
    mm_Cl 233 [zR (40, 0, 0), zI x1, zI x2] (mm_z hi dh nx ns) (fun r h3 => mm_Wp 234 (bk_234_0.drop 4) [zR (40, 0, 0), zI x1, zI x2, zU] (mm_push r []) h3 Q) :=
  mm_ce (l2 := [zR (40, 0, 0), zI x1, zI x2, zU]) rfl (mm_kb bq_234_0 ((wp_5_0).trans ((wp_3_1).trans ((wp_3_2).trans ((wp_v3 mm_n_233 (mm_leq mm_m_233 (mm_lb rfl)) (mm_lb rfl) (mm_o40 hy)).trans rfl)))))
theorem r_234_0_4 (x1 : Int) (x2 : Int) (vx3 : mm_V) (y0 : Int) {hi : mm_Id → Int → Int} {dh : Int → Int} {nx ns : Int} {Q : mm_V → mm_H → Prop} (hy : 5306 ≤ nx) :
    mm_Wp 234 (bk_234_0.drop 4) [zR (40, 0, 0), zI x1, zI x2, vx3] [zI y0] (mm_z hi dh nx ns) Q =
    ((0 ≤ x1 ∧ x1 < 1044) ∧ (if y0 < (hi (49, 0, 0) x1) then ((0 ≤ (mm_w ((mm_w (4 * x1)) + y0)) ∧ (mm_w ((mm_w (4 * x1)) + y0)) < 4176) ∧ (if (hi (50, 0, 0) (mm_w ((mm_w (4 * x1)) + y0))) = x2 then mm_Wp 234 (mm_blk 234 2) [zR (40, 0, 0), zI x1, zI x2, zI y0] [zI 1] (mm_z hi dh nx ns) Q else mm_Wp 234 (mm_blk 234 1) [zR (40, 0, 0), zI x1, zI x2, zI y0] [] (mm_z hi dh nx ns) Q)) else mm_Wp 234 (mm_blk 234 1) [zR (40, 0, 0), zI x1, zI x2, zI y0] [] (mm_z hi dh nx ns) Q)) :=
  (wp_6 (l2 := [zR (40, 0, 0), zI x1, zI x2, zI y0]) rfl).trans ((wp_3_3).trans ((wp_5_0).trans ((wp_62 (by decide) (mm_o40 hy) (mm_r40_10 hy)).trans ((wp_3_1).trans ((wp_70 (mm_q49 hy)).trans (mm_ae ((wp_49).trans (mm_ic ((wp_5_0).trans ((wp_62 (by decide) (mm_o40 hy) (mm_r40_11 hy)).trans ((wp_1).trans ((wp_3_1).trans ((wp_12).trans ((wp_3_3).trans ((wp_10).trans ((wp_70 (mm_q50 hy)).trans (mm_ae ((wp_3_2).trans ((wp_47).trans (mm_ic ((wp_1).trans ((wp_56).trans (rfl))) (rfl))))))))))))) (rfl)))))))))
theorem r_234_1 (vx0 : mm_V) (vx1 : mm_V) (vx2 : mm_V) (vx3 : mm_V) {hi : mm_Id → Int → Int} {dh : Int → Int} {nx ns : Int} {Q : mm_V → mm_H → Prop} (hy : 5306 ≤ nx) :
    mm_Wp 234 (mm_blk 234 1) [vx0, vx1, vx2, vx3] [] (mm_z hi dh nx ns) Q =
    mm_Wp 234 (mm_blk 234 2) [vx0, vx1, vx2, vx3] [zI 0] (mm_z hi dh nx ns) Q :=
  mm_kb bq_234_1 ((wp_1).trans ((wp_0).trans (rfl)))
theorem r_234_2 (vx0 : mm_V) (vx1 : mm_V) (vx2 : mm_V) (vx3 : mm_V) (y0 : Int) {hi : mm_Id → Int → Int} {dh : Int → Int} {nx ns : Int} {Q : mm_V → mm_H → Prop} (hy : 5306 ≤ nx) :
    mm_Wp 234 (mm_blk 234 2) [vx0, vx1, vx2, vx3] [zI y0] (mm_z hi dh nx ns) Q =
    ((y0 = 0 ∨ y0 = 1) ∧ Q (zI y0) (mm_z hi dh nx ns)) :=
  mm_kb bq_234_2 (wp_94z)
/-- PoolHouseModel.attribute(IIIJZ)I -/
theorem bq_235_0 : mm_blk 235 0 = bk_235_0 := by decide +kernel
theorem bq_235_1 : mm_blk 235 1 = bk_235_1 := by decide +kernel
theorem bq_235_2 : mm_blk 235 2 = bk_235_2 := by decide +kernel
theorem bq_235_3 : mm_blk 235 3 = bk_235_3 := by decide +kernel
theorem bq_235_4 : mm_blk 235 4 = bk_235_4 := by decide +kernel
theorem bq_235_5 : mm_blk 235 5 = bk_235_5 := by decide +kernel
theorem bq_235_6 : mm_blk 235 6 = bk_235_6 := by decide +kernel
theorem bq_235_7 : mm_blk 235 7 = bk_235_7 := by decide +kernel
theorem bq_235_8 : mm_blk 235 8 = bk_235_8 := by decide +kernel
theorem bq_235_9 : mm_blk 235 9 = bk_235_9 := by decide +kernel
theorem bq_235_10 : mm_blk 235 10 = bk_235_10 := by decide +kernel
theorem bq_235_11 : mm_blk 235 11 = bk_235_11 := by decide +kernel
theorem bq_235_12 : mm_blk 235 12 = bk_235_12 := by decide +kernel
theorem bq_235_13 : mm_blk 235 13 = bk_235_13 := by decide +kernel
theorem r_235_e (x1 : Int) (x2 : Int) (x3 : Int) (x4 : Int) (x5 : Int) {hi : mm_Id → Int → Int} {dh : Int → Int} {nx ns : Int} {Q : mm_V → mm_H → Prop} (hy : 5306 ≤ nx) :
    mm_Cl 235 [zR (40, 0, 0), zI x1, zI x2, zI x3, zL x4, zI x5] (mm_z hi dh nx ns) Q =
    mm_Cl 181 [zR (40, 0, 0), zI x1] (mm_z (mm_up hi (40, 0, 0) 0 0) dh nx ns) (fun r h3 => mm_Wp 235 (bk_235_0.drop 6) [zR (40, 0, 0), zI x1, zI x2, zI x3, zL x4, zU, zI x5, zU, zU, zU, zU, zU] (mm_push r []) h3 Q) :=
  mm_ce (l2 := [zR (40, 0, 0), zI x1, zI x2, zI x3, zL x4, zU, zI x5, zU, zU, zU, zU, zU]) rfl (mm_kb bq_235_0 ((wp_5_0).trans ((wp_1).trans ((wp_63 (mm_o40 hy)).trans ((wp_5_0).trans ((wp_3_1).trans ((wp_v2 mm_n_181 (mm_leq mm_m_181 (mm_lb rfl)) (mm_lb rfl) (mm_o40 hy)).trans rfl)))))))
theorem r_235_0_6 (vx1 : mm_V) (x2 : Int) (x3 : Int) (x4 : Int) (x6 : Int) (vx7 : mm_V) (vx8 : mm_V) (vx9 : mm_V) (vx10 : mm_V) (vx11 : mm_V) (y0 : Int) {hi : mm_Id → Int → Int} {dh : Int → Int} {nx ns : Int} {Q : mm_V → mm_H → Prop} (hy : 5306 ≤ nx) :
    mm_Wp 235 (bk_235_0.drop 6) [zR (40, 0, 0), vx1, zI x2, zI x3, zL x4, zU, zI x6, vx7, vx8, vx9, vx10, vx11] [zI y0] (mm_z hi dh nx ns) Q =
    mm_Cl 210 [zR (40, 0, 0), zI y0, zI x2] (mm_z hi dh nx ns) (fun r h3 => mm_Wp 235 (bk_235_0.drop 11) [zR (40, 0, 0), vx1, zI x2, zI x3, zL x4, zU, zI x6, zI y0, vx8, vx9, vx10, vx11] (mm_push r []) h3 Q) :=
  (wp_6 (l2 := [zR (40, 0, 0), vx1, zI x2, zI x3, zL x4, zU, zI x6, zI y0, vx8, vx9, vx10, vx11]) rfl).trans ((wp_5_0).trans ((wp_3_7).trans ((wp_3_2).trans ((wp_v3 mm_n_210 (mm_leq mm_m_210 (mm_lb rfl)) (mm_lb rfl) (mm_o40 hy)).trans rfl))))
theorem r_235_0_11 (vx1 : mm_V) (x2 : Int) (x3 : Int) (x4 : Int) (x6 : Int) (x7 : Int) (vx8 : mm_V) (vx9 : mm_V) (vx10 : mm_V) (vx11 : mm_V) (y0 : Int) {hi : mm_Id → Int → Int} {dh : Int → Int} {nx ns : Int} {Q : mm_V → mm_H → Prop} (hy : 5306 ≤ nx) :
    mm_Wp 235 (bk_235_0.drop 11) [zR (40, 0, 0), vx1, zI x2, zI x3, zL x4, zU, zI x6, zI x7, vx8, vx9, vx10, vx11] [zI y0] (mm_z hi dh nx ns) Q =
    (if y0 = 0 then Q (zI (-1)) (mm_z hi dh nx ns) else mm_Cl 174 [zL x3, zL 1, zL 99] (mm_z hi dh nx ns) (fun r h3 => mm_Wp 235 (bk_235_1.drop 5) [zR (40, 0, 0), vx1, zI x2, zI x3, zL x4, zU, zI x6, zI x7, vx8, vx9, vx10, vx11] (mm_push r []) h3 Q)) :=
  (wp_41).trans (mm_ic ((wp_1).trans (wp_90)) (mm_kb bq_235_1 ((wp_3_3).trans ((wp_31).trans ((wp_2).trans ((wp_2).trans ((wp_s3 mm_n_174 (mm_leq mm_m_174 (mm_lb rfl)) (mm_lb rfl)).trans rfl)))))))
theorem r_235_1_5 (vx1 : mm_V) (x2 : Int) (x3 : Int) (x4 : Int) (x6 : Int) (x7 : Int) (vx8 : mm_V) (vx9 : mm_V) (vx10 : mm_V) (vx11 : mm_V) (y0 : Int) {hi : mm_Id → Int → Int} {dh : Int → Int} {nx ns : Int} {Q : mm_V → mm_H → Prop} (hy : 5306 ≤ nx) :
    mm_Wp 235 (bk_235_1.drop 5) [zR (40, 0, 0), vx1, zI x2, zI x3, zL x4, zU, zI x6, zI x7, vx8, vx9, vx10, vx11] [zI y0] (mm_z hi dh nx ns) Q =
    (if y0 = 0 then Q (zI (-2)) (mm_z hi dh nx ns) else (if x7 < 5 then mm_Cl 175 [zI x7, zI x2] (mm_z hi dh nx ns) (fun r h3 => mm_Wp 235 (bk_235_3.drop 3) [zR (40, 0, 0), vx1, zI x2, zI x3, zL x4, zU, zI x6, zI x7, vx8, vx9, vx10, vx11] (mm_push r []) h3 Q) else Q (zI (-3)) (mm_z hi dh nx ns))) :=
  (wp_41).trans (mm_ic ((wp_1).trans (wp_90)) (mm_kb bq_235_2 ((wp_3_7).trans ((wp_1).trans ((wp_48).trans (mm_ic (mm_kb bq_235_3 ((wp_3_7).trans ((wp_3_2).trans ((wp_s2 mm_n_175 (mm_leq mm_m_175 (mm_lb rfl)) (mm_lb rfl)).trans rfl)))) ((wp_1).trans (wp_90))))))))
theorem r_235_3_3 (vx1 : mm_V) (vx2 : mm_V) (x3 : Int) (x4 : Int) (x6 : Int) (vx7 : mm_V) (vx8 : mm_V) (vx9 : mm_V) (vx10 : mm_V) (vx11 : mm_V) (y0 : Int) {hi : mm_Id → Int → Int} {dh : Int → Int} {nx ns : Int} {Q : mm_V → mm_H → Prop} (hvx7 : mm_wt vx7 = 1) (hy : 5306 ≤ nx) :
    mm_Wp 235 (bk_235_3.drop 3) [zR (40, 0, 0), vx1, vx2, zI x3, zL x4, zU, zI x6, vx7, vx8, vx9, vx10, vx11] [zI y0] (mm_z hi dh nx ns) Q =
    mm_Cl 231 [zR (40, 0, 0), zI y0] (mm_z hi dh nx ns) (fun r h3 => mm_Wp 235 (bk_235_3.drop 7) [zR (40, 0, 0), vx1, vx2, zI x3, zL x4, zU, zI x6, vx7, zI y0, vx9, vx10, vx11] (mm_push r []) h3 Q) :=
  (wp_6 (l2 := [zR (40, 0, 0), vx1, vx2, zI x3, zL x4, zU, zI x6, vx7, zI y0, vx9, vx10, vx11]) ((if_pos (mm_lb rfl)).trans (congrArg some (mm_stw rfl hvx7)))).trans ((wp_5_0).trans ((wp_3_8).trans ((wp_v2 mm_n_231 (mm_leq mm_m_231 (mm_lb rfl)) (mm_lb rfl) (mm_o40 hy)).trans rfl)))
theorem r_235_3_7 (vx1 : mm_V) (vx2 : mm_V) (x3 : Int) (x4 : Int) (x6 : Int) (vx7 : mm_V) (x8 : Int) (vx9 : mm_V) (vx10 : mm_V) (vx11 : mm_V) (y0 : Int) {hi : mm_Id → Int → Int} {dh : Int → Int} {nx ns : Int} {Q : mm_V → mm_H → Prop} (hy : 5306 ≤ nx) :
    mm_Wp 235 (bk_235_3.drop 7) [zR (40, 0, 0), vx1, vx2, zI x3, zL x4, zU, zI x6, vx7, zI x8, vx9, vx10, vx11] [zI y0] (mm_z hi dh nx ns) Q =
    (if y0 = 0 then Q (zI (-5)) (mm_z hi dh nx ns) else mm_Cl 234 [zR (40, 0, 0), zI x8, zI x3] (mm_z hi dh nx ns) (fun r h3 => mm_Wp 235 (bk_235_4.drop 4) [zR (40, 0, 0), vx1, vx2, zI x3, zL x4, zU, zI x6, vx7, zI x8, vx9, vx10, vx11] (mm_push r []) h3 Q)) :=
  (wp_41).trans (mm_ic ((wp_1).trans (wp_90)) (mm_kb bq_235_4 ((wp_5_0).trans ((wp_3_8).trans ((wp_3_3).trans ((wp_v3 mm_n_234 (mm_leq mm_m_234 (mm_lb rfl)) (mm_lb rfl) (mm_o40 hy)).trans rfl))))))
theorem r_235_4_4 (vx1 : mm_V) (vx2 : mm_V) (x3 : Int) (x4 : Int) (x6 : Int) (vx7 : mm_V) (x8 : Int) (vx9 : mm_V) (vx10 : mm_V) (vx11 : mm_V) (y0 : Int) {hi : mm_Id → Int → Int} {dh : Int → Int} {nx ns : Int} {Q : mm_V → mm_H → Prop} (hy : 5306 ≤ nx) :
    mm_Wp 235 (bk_235_4.drop 4) [zR (40, 0, 0), vx1, vx2, zI x3, zL x4, zU, zI x6, vx7, zI x8, vx9, vx10, vx11] [zI y0] (mm_z hi dh nx ns) Q =
    mm_Cl 233 [zR (40, 0, 0), zI x8, zI x3] (mm_z hi dh nx ns) (fun r h3 => mm_Wp 235 (bk_235_4.drop 12) [zR (40, 0, 0), vx1, vx2, zI x3, zL x4, zU, zI x6, vx7, zI x8, zI y0, vx10, vx11] (mm_push r [zI (mm_w (4 * x8))]) h3 Q) :=
  (wp_6 (l2 := [zR (40, 0, 0), vx1, vx2, zI x3, zL x4, zU, zI x6, vx7, zI x8, zI y0, vx10, vx11]) rfl).trans ((wp_1).trans ((wp_3_8).trans ((wp_12).trans ((wp_5_0).trans ((wp_3_8).trans ((wp_3_3).trans ((wp_v3 mm_n_233 (mm_leq mm_m_233 (mm_lb rfl)) (mm_lb rfl) (mm_o40 hy)).trans rfl)))))))
theorem r_235_4_12 (vx1 : mm_V) (vx2 : mm_V) (x3 : Int) (x4 : Int) (x6 : Int) (vx7 : mm_V) (x8 : Int) (x9 : Int) (vx10 : mm_V) (vx11 : mm_V) (y0 : Int) (y1 : Int) {hi : mm_Id → Int → Int} {dh : Int → Int} {nx ns : Int} {Q : mm_V → mm_H → Prop} (hy : 5306 ≤ nx) :
    mm_Wp 235 (bk_235_4.drop 12) [zR (40, 0, 0), vx1, vx2, zI x3, zL x4, zU, zI x6, vx7, zI x8, zI x9, vx10, vx11] [zI y0, zI y1] (mm_z hi dh nx ns) Q =
    (if x6 = 0 then mm_Wp 235 (mm_blk 235 5) [zR (40, 0, 0), vx1, vx2, zI x3, zL x4, zU, zI x6, vx7, zI x8, zI x9, zI (mm_w (y1 + y0)), vx11] [] (mm_z hi dh nx ns) Q else (if x9 = 0 then ((0 ≤ x8 ∧ x8 < 1044) ∧ (if (hi (49, 0, 0) x8) = 4 then Q (zI (-4)) (mm_z hi dh nx ns) else mm_Wp 235 (mm_blk 235 5) [zR (40, 0, 0), vx1, vx2, zI x3, zL x4, zU, zI x6, vx7, zI x8, zI x9, zI (mm_w (y1 + y0)), vx11] [] (mm_z hi dh nx ns) Q)) else mm_Wp 235 (mm_blk 235 5) [zR (40, 0, 0), vx1, vx2, zI x3, zL x4, zU, zI x6, vx7, zI x8, zI x9, zI (mm_w (y1 + y0)), vx11] [] (mm_z hi dh nx ns) Q)) :=
  (wp_10).trans ((wp_6 (l2 := [zR (40, 0, 0), vx1, vx2, zI x3, zL x4, zU, zI x6, vx7, zI x8, zI x9, zI (mm_w (y1 + y0)), vx11]) rfl).trans ((wp_3_6).trans ((wp_40).trans (mm_ic (rfl) ((wp_3_9).trans ((wp_41).trans (mm_ic ((wp_5_0).trans ((wp_62 (by decide) (mm_o40 hy) (mm_r40_10 hy)).trans ((wp_3_8).trans ((wp_70 (mm_q49 hy)).trans (mm_ae ((wp_1).trans ((wp_47).trans (mm_ic ((wp_1).trans (wp_90)) (rfl))))))))) (rfl))))))))
theorem r_235_5 (vx1 : mm_V) (vx2 : mm_V) (x3 : Int) (x4 : Int) (x6 : Int) (vx7 : mm_V) (x8 : Int) (x9 : Int) (x10 : Int) (vx11 : mm_V) {hi : mm_Id → Int → Int} {dh : Int → Int} {nx ns : Int} {Q : mm_V → mm_H → Prop} (hy : 5306 ≤ nx) :
    mm_Wp 235 (mm_blk 235 5) [zR (40, 0, 0), vx1, vx2, zI x3, zL x4, zU, zI x6, vx7, zI x8, zI x9, zI x10, vx11] [] (mm_z hi dh nx ns) Q =
    (if x6 = 0 then mm_Wp 235 (mm_blk 235 8) [zR (40, 0, 0), vx1, vx2, zI x3, zL x4, zU, zI x6, vx7, zI x8, zI x9, zI x10, vx11] [] (mm_z hi dh nx ns) Q else (if x9 = 0 then ((0 ≤ x8 ∧ x8 < 1044) ∧ mm_Wp 235 (mm_blk 235 6) [zR (40, 0, 0), vx1, vx2, zI x3, zL x4, zU, zI x6, vx7, zI x8, zI x9, zI x10, zI (mm_w ((mm_w (4 * x8)) + (hi (49, 0, 0) x8)))] [] (mm_z hi dh nx ns) Q) else mm_Wp 235 (mm_blk 235 8) [zR (40, 0, 0), vx1, vx2, zI x3, zL x4, zU, zI x6, vx7, zI x8, zI x9, zI x10, vx11] [] (mm_z hi dh nx ns) Q)) :=
  mm_kb bq_235_5 ((wp_3_6).trans ((wp_40).trans (mm_ic (rfl) ((wp_3_9).trans ((wp_41).trans (mm_ic ((wp_1).trans ((wp_3_8).trans ((wp_12).trans ((wp_5_0).trans ((wp_62 (by decide) (mm_o40 hy) (mm_r40_10 hy)).trans ((wp_3_8).trans ((wp_70 (mm_q49 hy)).trans (mm_ae ((wp_10).trans ((wp_6 (l2 := [zR (40, 0, 0), vx1, vx2, zI x3, zL x4, zU, zI x6, vx7, zI x8, zI x9, zI x10, zI (mm_w ((mm_w (4 * x8)) + (hi (49, 0, 0) x8)))]) rfl).trans ((wp_0).trans (rfl)))))))))))) (rfl)))))))
theorem r_235_8 (vx1 : mm_V) (vx2 : mm_V) (x3 : Int) (x4 : Int) (x6 : Int) (vx7 : mm_V) (x8 : Int) (x9 : Int) (x10 : Int) (vx11 : mm_V) {hi : mm_Id → Int → Int} {dh : Int → Int} {nx ns : Int} {Q : mm_V → mm_H → Prop} (hy : 5306 ≤ nx) :
    mm_Wp 235 (mm_blk 235 8) [zR (40, 0, 0), vx1, vx2, zI x3, zL x4, zU, zI x6, vx7, zI x8, zI x9, zI x10, vx11] [] (mm_z hi dh nx ns) Q =
    (if x6 = 0 then (if x9 = 0 then mm_Wp 235 (mm_blk 235 10) [zR (40, 0, 0), vx1, vx2, zI x3, zL x4, zU, zI x6, vx7, zI x8, zI x9, zI x10, vx11] [] (mm_z hi dh nx ns) Q else ((0 ≤ x8 ∧ x8 < 1044) ∧ ((0 ≤ x8 ∧ x8 < 1044) ∧ mm_Wp 235 (mm_blk 235 9) [zR (40, 0, 0), vx1, vx2, zI x3, zL x4, zU, zI x6, vx7, zI x8, zI x9, zI x10, zI x10] [] (mm_z (mm_up hi (49, 0, 0) x8 (mm_w ((hi (49, 0, 0) x8) - 1))) dh nx ns) Q))) else mm_Wp 235 (mm_blk 235 10) [zR (40, 0, 0), vx1, vx2, zI x3, zL x4, zU, zI x6, vx7, zI x8, zI x9, zI x10, vx11] [] (mm_z hi dh nx ns) Q) :=
  mm_kb bq_235_8 ((wp_3_6).trans ((wp_41).trans (mm_ic ((wp_3_9).trans ((wp_40).trans (mm_ic (rfl) ((wp_5_0).trans ((wp_62 (by decide) (mm_o40 hy) (mm_r40_10 hy)).trans ((wp_3_8).trans ((wp_37).trans ((wp_70 (mm_q49 hy)).trans (mm_ae ((wp_1).trans ((wp_11).trans ((wp_74 (mm_q49 hy)).trans (mm_ae ((wp_3_10).trans ((wp_6 (l2 := [zR (40, 0, 0), vx1, vx2, zI x3, zL x4, zU, zI x6, vx7, zI x8, zI x9, zI x10, zI x10]) rfl).trans ((wp_0).trans (rfl))))))))))))))))) (rfl))))
theorem r_235_6 (vx1 : mm_V) (vx2 : mm_V) (x3 : Int) (x4 : Int) (x6 : Int) (vx7 : mm_V) (x8 : Int) (x9 : Int) (x10 : Int) (x11 : Int) {hi : mm_Id → Int → Int} {dh : Int → Int} {nx ns : Int} {Q : mm_V → mm_H → Prop} (hy : 5306 ≤ nx) :
    mm_Wp 235 (mm_blk 235 6) [zR (40, 0, 0), vx1, vx2, zI x3, zL x4, zU, zI x6, vx7, zI x8, zI x9, zI x10, zI x11] [] (mm_z hi dh nx ns) Q =
    (if x10 < x11 then ((0 ≤ (mm_w (x11 - 1)) ∧ (mm_w (x11 - 1)) < 4176) ∧ ((0 ≤ x11 ∧ x11 < 4176) ∧ ((0 ≤ (mm_w (x11 - 1)) ∧ (mm_w (x11 - 1)) < 4176) ∧ ((0 ≤ x11 ∧ x11 < 4176) ∧ mm_Wp 235 (mm_blk 235 6) [zR (40, 0, 0), vx1, vx2, zI x3, zL x4, zU, zI x6, vx7, zI x8, zI x9, zI x10, zI (mm_w (x11 + (-1)))] [] (mm_z (mm_up (mm_up hi (50, 0, 0) x11 (hi (50, 0, 0) (mm_w (x11 - 1)))) (51, 0, 0) x11 ((mm_up hi (50, 0, 0) x11 (hi (50, 0, 0) (mm_w (x11 - 1)))) (51, 0, 0) (mm_w (x11 - 1)))) dh nx ns) Q)))) else ((0 ≤ x8 ∧ x8 < 1044) ∧ ((0 ≤ x8 ∧ x8 < 1044) ∧ mm_Wp 235 (mm_blk 235 8) [zR (40, 0, 0), vx1, vx2, zI x3, zL x4, zU, zI x6, vx7, zI x8, zI x9, zI x10, zI x11] [] (mm_z (mm_up hi (49, 0, 0) x8 (mm_w ((hi (49, 0, 0) x8) + 1))) dh nx ns) Q))) :=
  mm_kb bq_235_6 ((wp_3_11).trans ((wp_3_10).trans ((wp_51).trans (mm_ic ((wp_5_0).trans ((wp_62 (by decide) (mm_o40 hy) (mm_r40_11 hy)).trans ((wp_3_11).trans ((wp_5_0).trans ((wp_62 (by decide) (mm_o40 hy) (mm_r40_11 hy)).trans ((wp_3_11).trans ((wp_1).trans ((wp_11).trans ((wp_70 (mm_q50 hy)).trans (mm_ae ((wp_74 (mm_q50 hy)).trans (mm_ae ((wp_5_0).trans ((wp_62 (by decide) (mm_o40 hy) (mm_r40_12 hy)).trans ((wp_3_11).trans ((wp_5_0).trans ((wp_62 (by decide) (mm_o40 hy) (mm_r40_12 hy)).trans ((wp_3_11).trans ((wp_1).trans ((wp_11).trans ((wp_72 (mm_q51 hy)).trans (mm_ae ((wp_76 (mm_q51 hy)).trans (mm_ae ((wp_9 (l2 := [zR (40, 0, 0), vx1, vx2, zI x3, zL x4, zU, zI x6, vx7, zI x8, zI x9, zI x10, zI (mm_w (x11 + (-1)))]) rfl rfl).trans ((wp_56).trans (rfl))))))))))))))))))))))))))) (mm_kb bq_235_7 ((wp_5_0).trans ((wp_62 (by decide) (mm_o40 hy) (mm_r40_10 hy)).trans ((wp_3_8).trans ((wp_37).trans ((wp_70 (mm_q49 hy)).trans (mm_ae ((wp_1).trans ((wp_10).trans ((wp_74 (mm_q49 hy)).trans (mm_ae ((wp_0).trans (rfl)))))))))))))))))
theorem r_235_10 (vx1 : mm_V) (vx2 : mm_V) (x3 : Int) (x4 : Int) (x6 : Int) (vx7 : mm_V) (vx8 : mm_V) (x9 : Int) (x10 : Int) (vx11 : mm_V) {hi : mm_Id → Int → Int} {dh : Int → Int} {nx ns : Int} {Q : mm_V → mm_H → Prop} (hy : 5306 ≤ nx) :
    mm_Wp 235 (mm_blk 235 10) [zR (40, 0, 0), vx1, vx2, zI x3, zL x4, zU, zI x6, vx7, vx8, zI x9, zI x10, vx11] [] (mm_z hi dh nx ns) Q =
    (if x6 = 0 then mm_Wp 235 (mm_blk 235 11) [zR (40, 0, 0), vx1, vx2, zI x3, zL x4, zU, zI x6, vx7, vx8, zI x9, zI x10, vx11] [] (mm_z hi dh nx ns) Q else ((0 ≤ x10 ∧ x10 < 4176) ∧ ((0 ≤ x10 ∧ x10 < 4176) ∧ mm_Wp 235 (mm_blk 235 11) [zR (40, 0, 0), vx1, vx2, zI x3, zL x4, zU, zI x6, vx7, vx8, zI x9, zI x10, vx11] [] (mm_z (mm_up (mm_up hi (50, 0, 0) x10 x3) (51, 0, 0) x10 x4) dh nx ns) Q))) :=
  mm_kb bq_235_10 ((wp_3_6).trans ((wp_40).trans (mm_ic (rfl) ((wp_5_0).trans ((wp_62 (by decide) (mm_o40 hy) (mm_r40_11 hy)).trans ((wp_3_10).trans ((wp_3_3).trans ((wp_74 (mm_q50 hy)).trans (mm_ae ((wp_5_0).trans ((wp_62 (by decide) (mm_o40 hy) (mm_r40_12 hy)).trans ((wp_3_10).trans ((wp_4_4).trans ((wp_76 (mm_q51 hy)).trans (mm_ae ((wp_0).trans (rfl)))))))))))))))))
theorem r_235_9 (vx1 : mm_V) (vx2 : mm_V) (x3 : Int) (x4 : Int) (x6 : Int) (vx7 : mm_V) (x8 : Int) (x9 : Int) (x10 : Int) (x11 : Int) {hi : mm_Id → Int → Int} {dh : Int → Int} {nx ns : Int} {Q : mm_V → mm_H → Prop} (hy : 5306 ≤ nx) :
    mm_Wp 235 (mm_blk 235 9) [zR (40, 0, 0), vx1, vx2, zI x3, zL x4, zU, zI x6, vx7, zI x8, zI x9, zI x10, zI x11] [] (mm_z hi dh nx ns) Q =
    ((0 ≤ x8 ∧ x8 < 1044) ∧ (if x11 < (mm_w ((mm_w (4 * x8)) + (hi (49, 0, 0) x8))) then ((0 ≤ (mm_w (x11 + 1)) ∧ (mm_w (x11 + 1)) < 4176) ∧ ((0 ≤ x11 ∧ x11 < 4176) ∧ ((0 ≤ (mm_w (x11 + 1)) ∧ (mm_w (x11 + 1)) < 4176) ∧ ((0 ≤ x11 ∧ x11 < 4176) ∧ mm_Wp 235 (mm_blk 235 9) [zR (40, 0, 0), vx1, vx2, zI x3, zL x4, zU, zI x6, vx7, zI x8, zI x9, zI x10, zI (mm_w (x11 + 1))] [] (mm_z (mm_up (mm_up hi (50, 0, 0) x11 (hi (50, 0, 0) (mm_w (x11 + 1)))) (51, 0, 0) x11 ((mm_up hi (50, 0, 0) x11 (hi (50, 0, 0) (mm_w (x11 + 1)))) (51, 0, 0) (mm_w (x11 + 1)))) dh nx ns) Q)))) else mm_Wp 235 (mm_blk 235 10) [zR (40, 0, 0), vx1, vx2, zI x3, zL x4, zU, zI x6, vx7, zI x8, zI x9, zI x10, zI x11] [] (mm_z hi dh nx ns) Q)) :=
  mm_kb bq_235_9 ((wp_3_11).trans ((wp_1).trans ((wp_3_8).trans ((wp_12).trans ((wp_5_0).trans ((wp_62 (by decide) (mm_o40 hy) (mm_r40_10 hy)).trans ((wp_3_8).trans ((wp_70 (mm_q49 hy)).trans (mm_ae ((wp_10).trans ((wp_49).trans (mm_ic ((wp_5_0).trans ((wp_62 (by decide) (mm_o40 hy) (mm_r40_11 hy)).trans ((wp_3_11).trans ((wp_5_0).trans ((wp_62 (by decide) (mm_o40 hy) (mm_r40_11 hy)).trans ((wp_3_11).trans ((wp_1).trans ((wp_10).trans ((wp_70 (mm_q50 hy)).trans (mm_ae ((wp_74 (mm_q50 hy)).trans (mm_ae ((wp_5_0).trans ((wp_62 (by decide) (mm_o40 hy) (mm_r40_12 hy)).trans ((wp_3_11).trans ((wp_5_0).trans ((wp_62 (by decide) (mm_o40 hy) (mm_r40_12 hy)).trans ((wp_3_11).trans ((wp_1).trans ((wp_10).trans ((wp_72 (mm_q51 hy)).trans (mm_ae ((wp_76 (mm_q51 hy)).trans (mm_ae ((wp_9 (l2 := [zR (40, 0, 0), vx1, vx2, zI x3, zL x4, zU, zI x6, vx7, zI x8, zI x9, zI x10, zI (mm_w (x11 + 1))]) rfl rfl).trans ((wp_56).trans (rfl))))))))))))))))))))))))))) (rfl)))))))))))))
theorem r_235_11 (vx1 : mm_V) (vx2 : mm_V) (vx3 : mm_V) (x4 : Int) (vx6 : mm_V) (vx7 : mm_V) (vx8 : mm_V) (x9 : Int) (vx10 : mm_V) (vx11 : mm_V) {hi : mm_Id → Int → Int} {dh : Int → Int} {nx ns : Int} {Q : mm_V → mm_H → Prop} (hy : 5306 ≤ nx) :
    mm_Wp 235 (mm_blk 235 11) [zR (40, 0, 0), vx1, vx2, vx3, zL x4, zU, vx6, vx7, vx8, zI x9, vx10, vx11] [] (mm_z hi dh nx ns) Q =
    mm_Cl 209 [zR (40, 0, 0)] (mm_z hi dh nx ns) (fun r h3 => mm_Wp 235 (bk_235_11.drop 2) [zR (40, 0, 0), vx1, vx2, vx3, zL x4, zU, vx6, vx7, vx8, zI x9, vx10, vx11] (mm_push r []) h3 Q) :=
  mm_kb bq_235_11 ((wp_5_0).trans ((wp_v1 mm_n_209 (mm_leq mm_m_209 (mm_lb rfl)) (mm_lb rfl) (mm_o40 hy)).trans rfl))
theorem r_235_11_2 (vx0 : mm_V) (vx1 : mm_V) (vx2 : mm_V) (vx3 : mm_V) (x4 : Int) (vx6 : mm_V) (vx7 : mm_V) (vx8 : mm_V) (x9 : Int) (vx10 : mm_V) (vx11 : mm_V) {hi : mm_Id → Int → Int} {dh : Int → Int} {nx ns : Int} {Q : mm_V → mm_H → Prop} (hy : 5306 ≤ nx) :
    mm_Wp 235 (bk_235_11.drop 2) [vx0, vx1, vx2, vx3, zL x4, zU, vx6, vx7, vx8, zI x9, vx10, vx11] [] (mm_z hi dh nx ns) Q =
    (if x9 = 0 then mm_Wp 235 (mm_blk 235 13) [vx0, vx1, vx2, vx3, zL x4, zU, vx6, vx7, vx8, zI x9, vx10, vx11] [zI 0] (mm_z hi dh nx ns) Q else mm_Wp 235 (mm_blk 235 13) [vx0, vx1, vx2, vx3, zL x4, zU, vx6, vx7, vx8, zI x9, vx10, vx11] [zI 1] (mm_z hi dh nx ns) Q) :=
  (wp_3_9).trans ((wp_40).trans (mm_ic (mm_kb bq_235_12 ((wp_1).trans ((wp_0).trans (rfl)))) ((wp_1).trans ((wp_56).trans (rfl)))))
theorem r_235_13 (vx0 : mm_V) (vx1 : mm_V) (vx2 : mm_V) (vx3 : mm_V) (x4 : Int) (vx6 : mm_V) (vx7 : mm_V) (vx8 : mm_V) (vx9 : mm_V) (vx10 : mm_V) (vx11 : mm_V) (y0 : Int) {hi : mm_Id → Int → Int} {dh : Int → Int} {nx ns : Int} {Q : mm_V → mm_H → Prop} (hy : 5306 ≤ nx) :
    mm_Wp 235 (mm_blk 235 13) [vx0, vx1, vx2, vx3, zL x4, zU, vx6, vx7, vx8, vx9, vx10, vx11] [zI y0] (mm_z hi dh nx ns) Q =
    Q (zI y0) (mm_z hi dh nx ns) :=
  mm_kb bq_235_13 (wp_90)
/-- PoolHouseModel.attributeOf(III)J -/
theorem bq_236_0 : mm_blk 236 0 = bk_236_0 := by decide +kernel
theorem bq_236_1 : mm_blk 236 1 = bk_236_1 := by decide +kernel
theorem bq_236_2 : mm_blk 236 2 = bk_236_2 := by decide +kernel
theorem r_236_e (x1 : Int) (x2 : Int) (x3 : Int) {hi : mm_Id → Int → Int} {dh : Int → Int} {nx ns : Int} {Q : mm_V → mm_H → Prop} (hy : 5306 ≤ nx) :
    mm_Cl 236 [zR (40, 0, 0), zI x1, zI x2, zI x3] (mm_z hi dh nx ns) Q =
    mm_Cl 181 [zR (40, 0, 0), zI x1] (mm_z (mm_up hi (40, 0, 0) 0 0) dh nx ns) (fun r h3 => mm_Wp 236 (bk_236_0.drop 6) [zR (40, 0, 0), zI x1, zI x2, zI x3, zU] (mm_push r []) h3 Q) :=
  mm_ce (l2 := [zR (40, 0, 0), zI x1, zI x2, zI x3, zU]) rfl (mm_kb bq_236_0 ((wp_5_0).trans ((wp_1).trans ((wp_63 (mm_o40 hy)).trans ((wp_5_0).trans ((wp_3_1).trans ((wp_v2 mm_n_181 (mm_leq mm_m_181 (mm_lb rfl)) (mm_lb rfl) (mm_o40 hy)).trans rfl)))))))
theorem r_236_0_6 (vx1 : mm_V) (x2 : Int) (x3 : Int) (vx4 : mm_V) (y0 : Int) {hi : mm_Id → Int → Int} {dh : Int → Int} {nx ns : Int} {Q : mm_V → mm_H → Prop} (hy : 5306 ≤ nx) :
    mm_Wp 236 (bk_236_0.drop 6) [zR (40, 0, 0), vx1, zI x2, zI x3, vx4] [zI y0] (mm_z hi dh nx ns) Q =
    mm_Cl 210 [zR (40, 0, 0), zI y0, zI x2] (mm_z hi dh nx ns) (fun r h3 => mm_Wp 236 (bk_236_0.drop 11) [zR (40, 0, 0), vx1, zI x2, zI x3, zI y0] (mm_push r []) h3 Q) :=
  (wp_6 (l2 := [zR (40, 0, 0), vx1, zI x2, zI x3, zI y0]) rfl).trans ((wp_5_0).trans ((wp_3_4).trans ((wp_3_2).trans ((wp_v3 mm_n_210 (mm_leq mm_m_210 (mm_lb rfl)) (mm_lb rfl) (mm_o40 hy)).trans rfl))))
theorem r_236_0_11 (vx1 : mm_V) (x2 : Int) (x3 : Int) (x4 : Int) (y0 : Int) {hi : mm_Id → Int → Int} {dh : Int → Int} {nx ns : Int} {Q : mm_V → mm_H → Prop} (hy : 5306 ≤ nx) :
    mm_Wp 236 (bk_236_0.drop 11) [zR (40, 0, 0), vx1, zI x2, zI x3, zI x4] [zI y0] (mm_z hi dh nx ns) Q =
    (if y0 = 0 then mm_Wp 236 (mm_blk 236 1) [zR (40, 0, 0), vx1, zI x2, zI x3, zI x4] [] (mm_z hi dh nx ns) Q else mm_Cl 175 [zI x4, zI x2] (mm_z hi dh nx ns) (fun r h3 => mm_Wp 236 (bk_236_0.drop 16) [zR (40, 0, 0), vx1, zI x2, zI x3, zI x4] (mm_push r [zR (40, 0, 0)]) h3 Q)) :=
  (wp_40).trans (mm_ic (rfl) ((wp_5_0).trans ((wp_3_4).trans ((wp_3_2).trans ((wp_s2 mm_n_175 (mm_leq mm_m_175 (mm_lb rfl)) (mm_lb rfl)).trans rfl)))))
theorem r_236_1 (vx0 : mm_V) (vx1 : mm_V) (vx2 : mm_V) (vx3 : mm_V) (vx4 : mm_V) {hi : mm_Id → Int → Int} {dh : Int → Int} {nx ns : Int} {Q : mm_V → mm_H → Prop} (hy : 5306 ≤ nx) :
    mm_Wp 236 (mm_blk 236 1) [vx0, vx1, vx2, vx3, vx4] [] (mm_z hi dh nx ns) Q =
    mm_Wp 236 (mm_blk 236 2) [vx0, vx1, vx2, vx3, vx4] [zL 0] (mm_z hi dh nx ns) Q :=
  mm_kb bq_236_1 ((wp_2).trans ((wp_0).trans (rfl)))
theorem r_236_0_16 (vx1 : mm_V) (x2 : Int) (x3 : Int) (x4 : Int) (y0 : Int) {hi : mm_Id → Int → Int} {dh : Int → Int} {nx ns : Int} {Q : mm_V → mm_H → Prop} (hy : 5306 ≤ nx) :
    mm_Wp 236 (bk_236_0.drop 16) [zR (40, 0, 0), vx1, zI x2, zI x3, zI x4] [zI y0, zR (40, 0, 0)] (mm_z hi dh nx ns) Q =
    mm_Cl 234 [zR (40, 0, 0), zI y0, zI x3] (mm_z hi dh nx ns) (fun r h3 => mm_Wp 236 (bk_236_0.drop 18) [zR (40, 0, 0), vx1, zI x2, zI x3, zI x4] (mm_push r []) h3 Q) :=
  (wp_3_3).trans ((wp_v3 mm_n_234 (mm_leq mm_m_234 (mm_lb rfl)) (mm_lb rfl) (mm_o40 hy)).trans rfl)
theorem r_236_2 (vx0 : mm_V) (vx1 : mm_V) (vx2 : mm_V) (vx3 : mm_V) (vx4 : mm_V) (y0 : Int) {hi : mm_Id → Int → Int} {dh : Int → Int} {nx ns : Int} {Q : mm_V → mm_H → Prop} (hy : 5306 ≤ nx) :
    mm_Wp 236 (mm_blk 236 2) [vx0, vx1, vx2, vx3, vx4] [zL y0] (mm_z hi dh nx ns) Q =
    Q (zL y0) (mm_z hi dh nx ns) :=
  mm_kb bq_236_2 (wp_91)
theorem r_236_0_18 (vx1 : mm_V) (x2 : Int) (x3 : Int) (x4 : Int) (y0 : Int) {hi : mm_Id → Int → Int} {dh : Int → Int} {nx ns : Int} {Q : mm_V → mm_H → Prop} (hy : 5306 ≤ nx) :
    mm_Wp 236 (bk_236_0.drop 18) [zR (40, 0, 0), vx1, zI x2, zI x3, zI x4] [zI y0] (mm_z hi dh nx ns) Q =
    (if y0 = 0 then mm_Wp 236 (mm_blk 236 1) [zR (40, 0, 0), vx1, zI x2, zI x3, zI x4] [] (mm_z hi dh nx ns) Q else mm_Cl 175 [zI x4, zI x2] (mm_z hi dh nx ns) (fun r h3 => mm_Wp 236 (bk_236_0.drop 25) [zR (40, 0, 0), vx1, zI x2, zI x3, zI x4] (mm_push r [zI 4, zR (51, 0, 0)]) h3 Q)) :=
  (wp_40).trans (mm_ic (rfl) ((wp_5_0).trans ((wp_62 (by decide) (mm_o40 hy) (mm_r40_12 hy)).trans ((wp_1).trans ((wp_3_4).trans ((wp_3_2).trans ((wp_s2 mm_n_175 (mm_leq mm_m_175 (mm_lb rfl)) (mm_lb rfl)).trans rfl)))))))
theorem r_236_0_25 (vx1 : mm_V) (x2 : Int) (x3 : Int) (x4 : Int) (y0 : Int) (y1 : Int) {hi : mm_Id → Int → Int} {dh : Int → Int} {nx ns : Int} {Q : mm_V → mm_H → Prop} (hy : 5306 ≤ nx) :
    mm_Wp 236 (bk_236_0.drop 25) [zR (40, 0, 0), vx1, zI x2, zI x3, zI x4] [zI y0, zI y1, zR (51, 0, 0)] (mm_z hi dh nx ns) Q =
    mm_Cl 175 [zI x4, zI x2] (mm_z hi dh nx ns) (fun r h3 => mm_Wp 236 (bk_236_0.drop 30) [zR (40, 0, 0), vx1, zI x2, zI x3, zI x4] (mm_push r [zR (40, 0, 0), zI (mm_w (y1 * y0)), zR (51, 0, 0)]) h3 Q) :=
  (wp_12).trans ((wp_5_0).trans ((wp_3_4).trans ((wp_3_2).trans ((wp_s2 mm_n_175 (mm_leq mm_m_175 (mm_lb rfl)) (mm_lb rfl)).trans rfl))))
theorem r_236_0_30 (vx0 : mm_V) (vx1 : mm_V) (vx2 : mm_V) (x3 : Int) (vx4 : mm_V) (y0 : Int) (y2 : Int) {hi : mm_Id → Int → Int} {dh : Int → Int} {nx ns : Int} {Q : mm_V → mm_H → Prop} (hy : 5306 ≤ nx) :
    mm_Wp 236 (bk_236_0.drop 30) [vx0, vx1, vx2, zI x3, vx4] [zI y0, zR (40, 0, 0), zI y2, zR (51, 0, 0)] (mm_z hi dh nx ns) Q =
    mm_Cl 233 [zR (40, 0, 0), zI y0, zI x3] (mm_z hi dh nx ns) (fun r h3 => mm_Wp 236 (bk_236_0.drop 32) [vx0, vx1, vx2, zI x3, vx4] (mm_push r [zI y2, zR (51, 0, 0)]) h3 Q) :=
  (wp_3_3).trans ((wp_v3 mm_n_233 (mm_leq mm_m_233 (mm_lb rfl)) (mm_lb rfl) (mm_o40 hy)).trans rfl)
theorem r_236_0_32 (vx0 : mm_V) (vx1 : mm_V) (vx2 : mm_V) (vx3 : mm_V) (vx4 : mm_V) (y0 : Int) (y1 : Int) {hi : mm_Id → Int → Int} {dh : Int → Int} {nx ns : Int} {Q : mm_V → mm_H → Prop} (hy : 5306 ≤ nx) :
    mm_Wp 236 (bk_236_0.drop 32) [vx0, vx1, vx2, vx3, vx4] [zI y0, zI y1, zR (51, 0, 0)] (mm_z hi dh nx ns) Q =
    ((0 ≤ (mm_w (y1 + y0)) ∧ (mm_w (y1 + y0)) < 4176) ∧ mm_Wp 236 (mm_blk 236 2) [vx0, vx1, vx2, vx3, vx4] [zL (hi (51, 0, 0) (mm_w (y1 + y0)))] (mm_z hi dh nx ns) Q) :=
  (wp_10).trans ((wp_72 (mm_q51 hy)).trans (mm_ae ((wp_56).trans (rfl))))
/-- PoolHouseModel.key(III)I -/
theorem bq_237_0 : mm_blk 237 0 = bk_237_0 := by decide +kernel
theorem bq_237_1 : mm_blk 237 1 = bk_237_1 := by decide +kernel
theorem bq_237_2 : mm_blk 237 2 = bk_237_2 := by decide +kernel
theorem bq_237_3 : mm_blk 237 3 = bk_237_3 := by decide +kernel
theorem r_237_e (x1 : Int) (x2 : Int) (x3 : Int) {hi : mm_Id → Int → Int} {dh : Int → Int} {nx ns : Int} {Q : mm_V → mm_H → Prop} (hy : 5306 ≤ nx) :
    mm_Cl 237 [zR (40, 0, 0), zI x1, zI x2, zI x3] (mm_z hi dh nx ns) Q =
    mm_Cl 181 [zR (40, 0, 0), zI x1] (mm_z (mm_up hi (40, 0, 0) 0 0) dh nx ns) (fun r h3 => mm_Wp 237 (bk_237_0.drop 6) [zR (40, 0, 0), zI x1, zI x2, zI x3, zU] (mm_push r []) h3 Q) :=
  mm_ce (l2 := [zR (40, 0, 0), zI x1, zI x2, zI x3, zU]) rfl (mm_kb bq_237_0 ((wp_5_0).trans ((wp_1).trans ((wp_63 (mm_o40 hy)).trans ((wp_5_0).trans ((wp_3_1).trans ((wp_v2 mm_n_181 (mm_leq mm_m_181 (mm_lb rfl)) (mm_lb rfl) (mm_o40 hy)).trans rfl)))))))
theorem r_237_0_6 (vx1 : mm_V) (x2 : Int) (x3 : Int) (vx4 : mm_V) (y0 : Int) {hi : mm_Id → Int → Int} {dh : Int → Int} {nx ns : Int} {Q : mm_V → mm_H → Prop} (hy : 5306 ≤ nx) :
    mm_Wp 237 (bk_237_0.drop 6) [zR (40, 0, 0), vx1, zI x2, zI x3, vx4] [zI y0] (mm_z hi dh nx ns) Q =
    mm_Cl 210 [zR (40, 0, 0), zI y0, zI x2] (mm_z hi dh nx ns) (fun r h3 => mm_Wp 237 (bk_237_0.drop 11) [zR (40, 0, 0), vx1, zI x2, zI x3, zI y0] (mm_push r []) h3 Q) :=
  (wp_6 (l2 := [zR (40, 0, 0), vx1, zI x2, zI x3, zI y0]) rfl).trans ((wp_5_0).trans ((wp_3_4).trans ((wp_3_2).trans ((wp_v3 mm_n_210 (mm_leq mm_m_210 (mm_lb rfl)) (mm_lb rfl) (mm_o40 hy)).trans rfl))))
theorem r_237_0_11 (vx1 : mm_V) (x2 : Int) (x3 : Int) (x4 : Int) (y0 : Int) {hi : mm_Id → Int → Int} {dh : Int → Int} {nx ns : Int} {Q : mm_V → mm_H → Prop} (hy : 5306 ≤ nx) :
    mm_Wp 237 (bk_237_0.drop 11) [zR (40, 0, 0), vx1, zI x2, zI x3, zI x4] [zI y0] (mm_z hi dh nx ns) Q =
    (if y0 = 0 then Q (zI (-1)) (mm_z hi dh nx ns) else mm_Cl 175 [zI x4, zI x2] (mm_z hi dh nx ns) (fun r h3 => mm_Wp 237 (bk_237_1.drop 8) [zR (40, 0, 0), vx1, zI x2, zI x3, zI x4] (mm_push r [zR (49, 0, 0), zL 0, zL x3]) h3 Q)) :=
  (wp_41).trans (mm_ic ((wp_1).trans (wp_90)) (mm_kb bq_237_1 ((wp_3_3).trans ((wp_31).trans ((wp_2).trans ((wp_5_0).trans ((wp_62 (by decide) (mm_o40 hy) (mm_r40_10 hy)).trans ((wp_3_4).trans ((wp_3_2).trans ((wp_s2 mm_n_175 (mm_leq mm_m_175 (mm_lb rfl)) (mm_lb rfl)).trans rfl))))))))))
theorem r_237_1_8 (vx1 : mm_V) (x2 : Int) (x3 : Int) (x4 : Int) (y0 : Int) (y2 : Int) (y3 : Int) {hi : mm_Id → Int → Int} {dh : Int → Int} {nx ns : Int} {Q : mm_V → mm_H → Prop} (hy : 5306 ≤ nx) :
    mm_Wp 237 (bk_237_1.drop 8) [zR (40, 0, 0), vx1, zI x2, zI x3, zI x4] [zI y0, zR (49, 0, 0), zL y2, zL y3] (mm_z hi dh nx ns) Q =
    ((0 ≤ y0 ∧ y0 < 1044) ∧ mm_Cl 174 [zL y3, zL y2, zL (mm_w ((hi (49, 0, 0) y0) - 1))] (mm_z hi dh nx ns) (fun r h3 => mm_Wp 237 (bk_237_1.drop 13) [zR (40, 0, 0), vx1, zI x2, zI x3, zI x4] (mm_push r []) h3 Q)) :=
  (wp_70 (mm_q49 hy)).trans (mm_ae ((wp_1).trans ((wp_11).trans ((wp_31).trans ((wp_s3 mm_n_174 (mm_leq mm_m_174 (mm_lb rfl)) (mm_lb rfl)).trans rfl)))))
theorem r_237_1_13 (vx1 : mm_V) (x2 : Int) (x3 : Int) (x4 : Int) (y0 : Int) {hi : mm_Id → Int → Int} {dh : Int → Int} {nx ns : Int} {Q : mm_V → mm_H → Prop} (hy : 5306 ≤ nx) :
    mm_Wp 237 (bk_237_1.drop 13) [zR (40, 0, 0), vx1, zI x2, zI x3, zI x4] [zI y0] (mm_z hi dh nx ns) Q =
    (if y0 = 0 then mm_Wp 237 (mm_blk 237 3) [zR (40, 0, 0), vx1, zI x2, zI x3, zI x4] [zI (-2)] (mm_z hi dh nx ns) Q else mm_Cl 175 [zI x4, zI x2] (mm_z hi dh nx ns) (fun r h3 => mm_Wp 237 (bk_237_1.drop 20) [zR (40, 0, 0), vx1, zI x2, zI x3, zI x4] (mm_push r [zI 4, zR (50, 0, 0)]) h3 Q)) :=
  (wp_40).trans (mm_ic (mm_kb bq_237_2 ((wp_1).trans ((wp_0).trans (rfl)))) ((wp_5_0).trans ((wp_62 (by decide) (mm_o40 hy) (mm_r40_11 hy)).trans ((wp_1).trans ((wp_3_4).trans ((wp_3_2).trans ((wp_s2 mm_n_175 (mm_leq mm_m_175 (mm_lb rfl)) (mm_lb rfl)).trans rfl)))))))
theorem r_237_3 (vx0 : mm_V) (vx1 : mm_V) (vx2 : mm_V) (vx3 : mm_V) (vx4 : mm_V) (y0 : Int) {hi : mm_Id → Int → Int} {dh : Int → Int} {nx ns : Int} {Q : mm_V → mm_H → Prop} (hy : 5306 ≤ nx) :
    mm_Wp 237 (mm_blk 237 3) [vx0, vx1, vx2, vx3, vx4] [zI y0] (mm_z hi dh nx ns) Q =
    Q (zI y0) (mm_z hi dh nx ns) :=
  mm_kb bq_237_3 (wp_90)
theorem r_237_1_20 (vx0 : mm_V) (vx1 : mm_V) (vx2 : mm_V) (x3 : Int) (vx4 : mm_V) (y0 : Int) (y1 : Int) {hi : mm_Id → Int → Int} {dh : Int → Int} {nx ns : Int} {Q : mm_V → mm_H → Prop} (hy : 5306 ≤ nx) :
    mm_Wp 237 (bk_237_1.drop 20) [vx0, vx1, vx2, zI x3, vx4] [zI y0, zI y1, zR (50, 0, 0)] (mm_z hi dh nx ns) Q =
    ((0 ≤ (mm_w ((mm_w (y1 * y0)) + x3)) ∧ (mm_w ((mm_w (y1 * y0)) + x3)) < 4176) ∧ mm_Wp 237 (mm_blk 237 3) [vx0, vx1, vx2, zI x3, vx4] [zI (hi (50, 0, 0) (mm_w ((mm_w (y1 * y0)) + x3)))] (mm_z hi dh nx ns) Q) :=
  (wp_12).trans ((wp_3_3).trans ((wp_10).trans ((wp_70 (mm_q50 hy)).trans (mm_ae ((wp_56).trans (rfl))))))
/-- PoolHouseModel.as(I)I -/
theorem bq_238_0 : mm_blk 238 0 = bk_238_0 := by decide +kernel
theorem bq_238_1 : mm_blk 238 1 = bk_238_1 := by decide +kernel
theorem r_238_e (x1 : Int) {hi : mm_Id → Int → Int} {dh : Int → Int} {nx ns : Int} {Q : mm_V → mm_H → Prop} (hy : 5306 ≤ nx) :
    mm_Cl 238 [zR (40, 0, 0), zI x1] (mm_z hi dh nx ns) Q =
    mm_Cl 174 [zL x1, zL 0, zL 7] (mm_z (mm_up hi (40, 0, 0) 0 0) dh nx ns) (fun r h3 => mm_Wp 238 (bk_238_0.drop 8) [zR (40, 0, 0), zI x1, zU] (mm_push r []) h3 Q) :=
  mm_ce (l2 := [zR (40, 0, 0), zI x1, zU]) rfl (mm_kb bq_238_0 ((wp_5_0).trans ((wp_1).trans ((wp_63 (mm_o40 hy)).trans ((wp_3_1).trans ((wp_31).trans ((wp_2).trans ((wp_2).trans ((wp_s3 mm_n_174 (mm_leq mm_m_174 (mm_lb rfl)) (mm_lb rfl)).trans rfl)))))))))
theorem r_238_0_8 (x1 : Int) (vx2 : mm_V) (y0 : Int) {hi : mm_Id → Int → Int} {dh : Int → Int} {nx ns : Int} {Q : mm_V → mm_H → Prop} (hy : 5306 ≤ nx) :
    mm_Wp 238 (bk_238_0.drop 8) [zR (40, 0, 0), zI x1, vx2] [zI y0] (mm_z hi dh nx ns) Q =
    (if y0 = 0 then Q (zI (-2)) (mm_z hi dh nx ns) else Q (zI (hi (40, 0, 0) 29)) (mm_z (mm_up hi (40, 0, 0) 29 x1) dh nx ns)) :=
  (wp_41).trans (mm_ic ((wp_1).trans (wp_90)) (mm_kb bq_238_1 ((wp_5_0).trans ((wp_60 (by decide) (mm_o40 hy)).trans ((wp_6 (l2 := [zR (40, 0, 0), zI x1, zI (hi (40, 0, 0) 29)]) rfl).trans ((wp_5_0).trans ((wp_3_1).trans ((wp_63 (mm_o40 hy)).trans ((wp_3_2).trans (wp_90))))))))))
/-- PoolHouseModel.usage(II)I -/
theorem bq_239_0 : mm_blk 239 0 = bk_239_0 := by decide +kernel
theorem bq_239_1 : mm_blk 239 1 = bk_239_1 := by decide +kernel
theorem bq_239_2 : mm_blk 239 2 = bk_239_2 := by decide +kernel
theorem bq_239_3 : mm_blk 239 3 = bk_239_3 := by decide +kernel
theorem r_239_e (x1 : Int) (x2 : Int) {hi : mm_Id → Int → Int} {dh : Int → Int} {nx ns : Int} {Q : mm_V → mm_H → Prop} (hy : 5306 ≤ nx) :
    mm_Cl 239 [zR (40, 0, 0), zI x1, zI x2] (mm_z hi dh nx ns) Q =
    mm_Cl 181 [zR (40, 0, 0), zI x1] (mm_z (mm_up hi (40, 0, 0) 0 0) dh nx ns) (fun r h3 => mm_Wp 239 (bk_239_0.drop 6) [zR (40, 0, 0), zI x1, zI x2, zU] (mm_push r []) h3 Q) :=
  mm_ce (l2 := [zR (40, 0, 0), zI x1, zI x2, zU]) rfl (mm_kb bq_239_0 ((wp_5_0).trans ((wp_1).trans ((wp_63 (mm_o40 hy)).trans ((wp_5_0).trans ((wp_3_1).trans ((wp_v2 mm_n_181 (mm_leq mm_m_181 (mm_lb rfl)) (mm_lb rfl) (mm_o40 hy)).trans rfl)))))))
theorem r_239_0_6 (vx1 : mm_V) (x2 : Int) (vx3 : mm_V) (y0 : Int) {hi : mm_Id → Int → Int} {dh : Int → Int} {nx ns : Int} {Q : mm_V → mm_H → Prop} (hy : 5306 ≤ nx) :
    mm_Wp 239 (bk_239_0.drop 6) [zR (40, 0, 0), vx1, zI x2, vx3] [zI y0] (mm_z hi dh nx ns) Q =
    (if y0 < 0 then Q (zI (-1)) (mm_z hi dh nx ns) else mm_Cl 174 [zL x2, zL 0, zL 7] (mm_z hi dh nx ns) (fun r h3 => mm_Wp 239 (bk_239_1.drop 5) [zR (40, 0, 0), vx1, zI x2, zI y0] (mm_push r []) h3 Q)) :=
  (wp_6 (l2 := [zR (40, 0, 0), vx1, zI x2, zI y0]) rfl).trans ((wp_3_3).trans ((wp_43).trans (mm_ic ((wp_1).trans (wp_90)) (mm_kb bq_239_1 ((wp_3_2).trans ((wp_31).trans ((wp_2).trans ((wp_2).trans ((wp_s3 mm_n_174 (mm_leq mm_m_174 (mm_lb rfl)) (mm_lb rfl)).trans rfl)))))))))
theorem r_239_1_5 (vx1 : mm_V) (x2 : Int) (x3 : Int) (y0 : Int) {hi : mm_Id → Int → Int} {dh : Int → Int} {nx ns : Int} {Q : mm_V → mm_H → Prop} (hy : 5306 ≤ nx) :
    mm_Wp 239 (bk_239_1.drop 5) [zR (40, 0, 0), vx1, zI x2, zI x3] [zI y0] (mm_z hi dh nx ns) Q =
    (if y0 = 0 then mm_Wp 239 (mm_blk 239 3) [zR (40, 0, 0), vx1, zI x2, zI x3] [zI (-2)] (mm_z hi dh nx ns) Q else mm_Cl 205 [zR (40, 0, 0), zI x3, zI x2] (mm_z hi dh nx ns) (fun r h3 => mm_Wp 239 (bk_239_1.drop 10) [zR (40, 0, 0), vx1, zI x2, zI x3] (mm_push r []) h3 Q)) :=
  (wp_40).trans (mm_ic (mm_kb bq_239_2 ((wp_1).trans ((wp_0).trans (rfl)))) ((wp_5_0).trans ((wp_3_3).trans ((wp_3_2).trans ((wp_v3 mm_n_205 (mm_leq mm_m_205 (mm_lb rfl)) (mm_lb rfl) (mm_o40 hy)).trans rfl)))))
theorem r_239_3 (vx0 : mm_V) (vx1 : mm_V) (vx2 : mm_V) (vx3 : mm_V) (y0 : Int) {hi : mm_Id → Int → Int} {dh : Int → Int} {nx ns : Int} {Q : mm_V → mm_H → Prop} (hy : 5306 ≤ nx) :
    mm_Wp 239 (mm_blk 239 3) [vx0, vx1, vx2, vx3] [zI y0] (mm_z hi dh nx ns) Q =
    Q (zI y0) (mm_z hi dh nx ns) :=
  mm_kb bq_239_3 (wp_90)
theorem r_239_1_10 (vx0 : mm_V) (vx1 : mm_V) (vx2 : mm_V) (vx3 : mm_V) (y0 : Int) {hi : mm_Id → Int → Int} {dh : Int → Int} {nx ns : Int} {Q : mm_V → mm_H → Prop} (hy : 5306 ≤ nx) :
    mm_Wp 239 (bk_239_1.drop 10) [vx0, vx1, vx2, vx3] [zI y0] (mm_z hi dh nx ns) Q =
    mm_Wp 239 (mm_blk 239 3) [vx0, vx1, vx2, vx3] [zI y0] (mm_z hi dh nx ns) Q :=
  (wp_56).trans (rfl)
/-- PoolHouseModel.limit(III)I -/
theorem bq_240_0 : mm_blk 240 0 = bk_240_0 := by decide +kernel
theorem bq_240_1 : mm_blk 240 1 = bk_240_1 := by decide +kernel
theorem bq_240_2 : mm_blk 240 2 = bk_240_2 := by decide +kernel
theorem bq_240_3 : mm_blk 240 3 = bk_240_3 := by decide +kernel
theorem bq_240_4 : mm_blk 240 4 = bk_240_4 := by decide +kernel
theorem bq_240_5 : mm_blk 240 5 = bk_240_5 := by decide +kernel
theorem r_240_e (x1 : Int) (x2 : Int) (x3 : Int) {hi : mm_Id → Int → Int} {dh : Int → Int} {nx ns : Int} {Q : mm_V → mm_H → Prop} (hy : 5306 ≤ nx) :
    mm_Cl 240 [zR (40, 0, 0), zI x1, zI x2, zI x3] (mm_z hi dh nx ns) Q =
    mm_Cl 182 [zR (40, 0, 0), zI x1] (mm_z (mm_up hi (40, 0, 0) 0 0) dh nx ns) (fun r h3 => mm_Wp 240 (bk_240_0.drop 6) [zR (40, 0, 0), zI x1, zI x2, zI x3, zU, zU] (mm_push r []) h3 Q) :=
  mm_ce (l2 := [zR (40, 0, 0), zI x1, zI x2, zI x3, zU, zU]) rfl (mm_kb bq_240_0 ((wp_5_0).trans ((wp_1).trans ((wp_63 (mm_o40 hy)).trans ((wp_5_0).trans ((wp_3_1).trans ((wp_v2 mm_n_182 (mm_leq mm_m_182 (mm_lb rfl)) (mm_lb rfl) (mm_o40 hy)).trans rfl)))))))
theorem r_240_0_6 (vx1 : mm_V) (x2 : Int) (x3 : Int) (vx4 : mm_V) (vx5 : mm_V) (y0 : Int) {hi : mm_Id → Int → Int} {dh : Int → Int} {nx ns : Int} {Q : mm_V → mm_H → Prop} (hy : 5306 ≤ nx) :
    mm_Wp 240 (bk_240_0.drop 6) [zR (40, 0, 0), vx1, zI x2, zI x3, vx4, vx5] [zI y0] (mm_z hi dh nx ns) Q =
    (if y0 < 0 then Q (zI (-1)) (mm_z hi dh nx ns) else mm_Cl 174 [zL x2, zL 0, zL 7] (mm_z hi dh nx ns) (fun r h3 => mm_Wp 240 (bk_240_1.drop 5) [zR (40, 0, 0), vx1, zI x2, zI x3, zI y0, vx5] (mm_push r []) h3 Q)) :=
  (wp_6 (l2 := [zR (40, 0, 0), vx1, zI x2, zI x3, zI y0, vx5]) rfl).trans ((wp_3_4).trans ((wp_43).trans (mm_ic ((wp_1).trans (wp_90)) (mm_kb bq_240_1 ((wp_3_2).trans ((wp_31).trans ((wp_2).trans ((wp_2).trans ((wp_s3 mm_n_174 (mm_leq mm_m_174 (mm_lb rfl)) (mm_lb rfl)).trans rfl)))))))))
theorem r_240_1_5 (vx1 : mm_V) (x2 : Int) (x3 : Int) (x4 : Int) (vx5 : mm_V) (y0 : Int) {hi : mm_Id → Int → Int} {dh : Int → Int} {nx ns : Int} {Q : mm_V → mm_H → Prop} (hy : 5306 ≤ nx) :
    mm_Wp 240 (bk_240_1.drop 5) [zR (40, 0, 0), vx1, zI x2, zI x3, zI x4, vx5] [zI y0] (mm_z hi dh nx ns) Q =
    (if y0 = 0 then mm_Wp 240 (mm_blk 240 2) [zR (40, 0, 0), vx1, zI x2, zI x3, zI x4, vx5] [] (mm_z hi dh nx ns) Q else mm_Cl 174 [zL x3, zL 0, zL 400] (mm_z hi dh nx ns) (fun r h3 => mm_Wp 240 (bk_240_1.drop 11) [zR (40, 0, 0), vx1, zI x2, zI x3, zI x4, vx5] (mm_push r []) h3 Q)) :=
  (wp_40).trans (mm_ic (rfl) ((wp_3_3).trans ((wp_31).trans ((wp_2).trans ((wp_2).trans ((wp_s3 mm_n_174 (mm_leq mm_m_174 (mm_lb rfl)) (mm_lb rfl)).trans rfl))))))
theorem r_240_2 (vx0 : mm_V) (vx1 : mm_V) (vx2 : mm_V) (vx3 : mm_V) (vx4 : mm_V) (vx5 : mm_V) {hi : mm_Id → Int → Int} {dh : Int → Int} {nx ns : Int} {Q : mm_V → mm_H → Prop} (hy : 5306 ≤ nx) :
    mm_Wp 240 (mm_blk 240 2) [vx0, vx1, vx2, vx3, vx4, vx5] [] (mm_z hi dh nx ns) Q =
    Q (zI (-2)) (mm_z hi dh nx ns) :=
  mm_kb bq_240_2 ((wp_1).trans (wp_90))
theorem r_240_1_11 (vx1 : mm_V) (x2 : Int) (x3 : Int) (x4 : Int) (vx5 : mm_V) (y0 : Int) {hi : mm_Id → Int → Int} {dh : Int → Int} {nx ns : Int} {Q : mm_V → mm_H → Prop} (hy : 5306 ≤ nx) :
    mm_Wp 240 (bk_240_1.drop 11) [zR (40, 0, 0), vx1, zI x2, zI x3, zI x4, vx5] [zI y0] (mm_z hi dh nx ns) Q =
    (if y0 = 0 then mm_Wp 240 (mm_blk 240 2) [zR (40, 0, 0), vx1, zI x2, zI x3, zI x4, vx5] [] (mm_z hi dh nx ns) Q else mm_Cl 205 [zR (40, 0, 0), zI x4, zI x2] (mm_z hi dh nx ns) (fun r h3 => mm_Wp 240 (bk_240_3.drop 4) [zR (40, 0, 0), vx1, zI x2, zI x3, zI x4, vx5] (mm_push r []) h3 Q)) :=
  (wp_41).trans (mm_ic ((wp_0).trans (rfl)) (mm_kb bq_240_3 ((wp_5_0).trans ((wp_3_4).trans ((wp_3_2).trans ((wp_v3 mm_n_205 (mm_leq mm_m_205 (mm_lb rfl)) (mm_lb rfl) (mm_o40 hy)).trans rfl))))))
theorem r_240_3_4 (vx1 : mm_V) (x2 : Int) (x3 : Int) (x4 : Int) (vx5 : mm_V) (y0 : Int) {hi : mm_Id → Int → Int} {dh : Int → Int} {nx ns : Int} {Q : mm_V → mm_H → Prop} (hy : 5306 ≤ nx) :
    mm_Wp 240 (bk_240_3.drop 4) [zR (40, 0, 0), vx1, zI x2, zI x3, zI x4, vx5] [zI y0] (mm_z hi dh nx ns) Q =
    (if x3 < y0 then Q (zI (-3)) (mm_z hi dh nx ns) else (if (hi (40, 0, 0) 29) = 0 then ((0 ≤ (mm_w ((mm_w (8 * x4)) + x2)) ∧ (mm_w ((mm_w (8 * x4)) + x2)) < 208) ∧ ((0 ≤ (mm_w ((mm_w (8 * x4)) + x2)) ∧ (mm_w ((mm_w (8 * x4)) + x2)) < 208) ∧ mm_Cl 208 [zR (40, 0, 0)] (mm_z (mm_up hi (61, 0, 0) (mm_w ((mm_w (8 * x4)) + x2)) x3) dh nx ns) (fun r h3 => mm_Wp 240 (bk_240_5.drop 20) [zR (40, 0, 0), vx1, zI x2, zI x3, zI x4, zI (hi (61, 0, 0) (mm_w ((mm_w (8 * x4)) + x2)))] (mm_push r []) h3 Q))) else Q (zI (-5)) (mm_z hi dh nx ns))) :=
  (wp_3_3).trans ((wp_51).trans (mm_ic ((wp_1).trans (wp_90)) (mm_kb bq_240_4 ((wp_5_0).trans ((wp_60 (by decide) (mm_o40 hy)).trans ((wp_40).trans (mm_ic (mm_kb bq_240_5 ((wp_5_0).trans ((wp_62 (by decide) (mm_o40 hy) (mm_r40_23 hy)).trans ((wp_1).trans ((wp_3_4).trans ((wp_12).trans ((wp_3_2).trans ((wp_10).trans ((wp_70 (mm_q61 hy)).trans (mm_ae ((wp_6 (l2 := [zR (40, 0, 0), vx1, zI x2, zI x3, zI x4, zI (hi (61, 0, 0) (mm_w ((mm_w (8 * x4)) + x2)))]) rfl).trans ((wp_5_0).trans ((wp_62 (by decide) (mm_o40 hy) (mm_r40_23 hy)).trans ((wp_1).trans ((wp_3_4).trans ((wp_12).trans ((wp_3_2).trans ((wp_10).trans ((wp_3_3).trans ((wp_74 (mm_q61 hy)).trans (mm_ae ((wp_5_0).trans ((wp_v1 mm_n_208 (mm_leq mm_m_208 (mm_lb rfl)) (mm_lb rfl) (mm_o40 hy)).trans rfl))))))))))))))))))))))) ((wp_1).trans (wp_90)))))))))
theorem r_240_5_20 (vx0 : mm_V) (vx1 : mm_V) (vx2 : mm_V) (vx3 : mm_V) (vx4 : mm_V) (x5 : Int) {hi : mm_Id → Int → Int} {dh : Int → Int} {nx ns : Int} {Q : mm_V → mm_H → Prop} (hy : 5306 ≤ nx) :
    mm_Wp 240 (bk_240_5.drop 20) [vx0, vx1, vx2, vx3, vx4, zI x5] [] (mm_z hi dh nx ns) Q =
    Q (zI x5) (mm_z hi dh nx ns) :=
  (wp_3_5).trans (wp_90)
/-- PoolHouseModel.open(II)I -/
theorem bq_241_0 : mm_blk 241 0 = bk_241_0 := by decide +kernel
theorem bq_241_1 : mm_blk 241 1 = bk_241_1 := by decide +kernel
theorem bq_241_2 : mm_blk 241 2 = bk_241_2 := by decide +kernel
theorem bq_241_3 : mm_blk 241 3 = bk_241_3 := by decide +kernel
theorem bq_241_4 : mm_blk 241 4 = bk_241_4 := by decide +kernel
theorem bq_241_5 : mm_blk 241 5 = bk_241_5 := by decide +kernel
theorem bq_241_6 : mm_blk 241 6 = bk_241_6 := by decide +kernel
theorem bq_241_7 : mm_blk 241 7 = bk_241_7 := by decide +kernel
theorem r_241_e (x1 : Int) (x2 : Int) {hi : mm_Id → Int → Int} {dh : Int → Int} {nx ns : Int} {Q : mm_V → mm_H → Prop} (hy : 5306 ≤ nx) :
    mm_Cl 241 [zR (40, 0, 0), zI x1, zI x2] (mm_z hi dh nx ns) Q =
    mm_Cl 181 [zR (40, 0, 0), zI x1] (mm_z (mm_up hi (40, 0, 0) 0 0) dh nx ns) (fun r h3 => mm_Wp 241 (bk_241_0.drop 6) [zR (40, 0, 0), zI x1, zI x2, zU, zU] (mm_push r []) h3 Q) :=
  mm_ce (l2 := [zR (40, 0, 0), zI x1, zI x2, zU, zU]) rfl (mm_kb bq_241_0 ((wp_5_0).trans ((wp_1).trans ((wp_63 (mm_o40 hy)).trans ((wp_5_0).trans ((wp_3_1).trans ((wp_v2 mm_n_181 (mm_leq mm_m_181 (mm_lb rfl)) (mm_lb rfl) (mm_o40 hy)).trans rfl)))))))
theorem r_241_0_6 (vx1 : mm_V) (x2 : Int) (vx3 : mm_V) (vx4 : mm_V) (y0 : Int) {hi : mm_Id → Int → Int} {dh : Int → Int} {nx ns : Int} {Q : mm_V → mm_H → Prop} (hy : 5306 ≤ nx) :
    mm_Wp 241 (bk_241_0.drop 6) [zR (40, 0, 0), vx1, zI x2, vx3, vx4] [zI y0] (mm_z hi dh nx ns) Q =
    mm_Cl 210 [zR (40, 0, 0), zI y0, zI x2] (mm_z hi dh nx ns) (fun r h3 => mm_Wp 241 (bk_241_0.drop 11) [zR (40, 0, 0), vx1, zI x2, zI y0, vx4] (mm_push r []) h3 Q) :=
  (wp_6 (l2 := [zR (40, 0, 0), vx1, zI x2, zI y0, vx4]) rfl).trans ((wp_5_0).trans ((wp_3_3).trans ((wp_3_2).trans ((wp_v3 mm_n_210 (mm_leq mm_m_210 (mm_lb rfl)) (mm_lb rfl) (mm_o40 hy)).trans rfl))))
theorem r_241_0_11 (vx1 : mm_V) (x2 : Int) (x3 : Int) (vx4 : mm_V) (y0 : Int) {hi : mm_Id → Int → Int} {dh : Int → Int} {nx ns : Int} {Q : mm_V → mm_H → Prop} (hy : 5306 ≤ nx) :
    mm_Wp 241 (bk_241_0.drop 11) [zR (40, 0, 0), vx1, zI x2, zI x3, vx4] [zI y0] (mm_z hi dh nx ns) Q =
    (if y0 = 0 then Q (zI (-1)) (mm_z hi dh nx ns) else (if x3 < 5 then mm_Cl 177 [zR (40, 0, 0), zI x3, zI x2] (mm_z hi dh nx ns) (fun r h3 => mm_Wp 241 (bk_241_1.drop 7) [zR (40, 0, 0), vx1, zI x2, zI x3, vx4] (mm_push r []) h3 Q) else mm_Wp 241 (mm_blk 241 2) [zR (40, 0, 0), vx1, zI x2, zI x3, vx4] [] (mm_z hi dh nx ns) Q)) :=
  (wp_41).trans (mm_ic ((wp_1).trans (wp_90)) (mm_kb bq_241_1 ((wp_3_3).trans ((wp_1).trans ((wp_49).trans (mm_ic ((wp_5_0).trans ((wp_3_3).trans ((wp_3_2).trans ((wp_v3 mm_n_177 (mm_leq mm_m_177 (mm_lb rfl)) (mm_lb rfl) (mm_o40 hy)).trans rfl)))) (rfl)))))))
theorem r_241_2 (vx0 : mm_V) (vx1 : mm_V) (vx2 : mm_V) (vx3 : mm_V) (vx4 : mm_V) {hi : mm_Id → Int → Int} {dh : Int → Int} {nx ns : Int} {Q : mm_V → mm_H → Prop} (hy : 5306 ≤ nx) :
    mm_Wp 241 (mm_blk 241 2) [vx0, vx1, vx2, vx3, vx4] [] (mm_z hi dh nx ns) Q =
    Q (zI (-3)) (mm_z hi dh nx ns) :=
  mm_kb bq_241_2 ((wp_1).trans (wp_90))
theorem r_241_1_7 (vx1 : mm_V) (x2 : Int) (x3 : Int) (vx4 : mm_V) (y0 : Int) {hi : mm_Id → Int → Int} {dh : Int → Int} {nx ns : Int} {Q : mm_V → mm_H → Prop} (hy : 5306 ≤ nx) :
    mm_Wp 241 (bk_241_1.drop 7) [zR (40, 0, 0), vx1, zI x2, zI x3, vx4] [zI y0] (mm_z hi dh nx ns) Q =
    (if y0 = 0 then mm_Wp 241 (mm_blk 241 2) [zR (40, 0, 0), vx1, zI x2, zI x3, vx4] [] (mm_z hi dh nx ns) Q else mm_Cl 203 [zR (40, 0, 0), zI x3, zI x2, zI 4] (mm_z hi dh nx ns) (fun r h3 => mm_Wp 241 (bk_241_3.drop 5) [zR (40, 0, 0), vx1, zI x2, zI x3, vx4] (mm_push r []) h3 Q)) :=
  (wp_41).trans (mm_ic ((wp_0).trans (rfl)) (mm_kb bq_241_3 ((wp_5_0).trans ((wp_3_3).trans ((wp_3_2).trans ((wp_1).trans ((wp_v4 mm_n_203 (mm_leq mm_m_203 (mm_lb rfl)) (mm_lb rfl) (mm_o40 hy)).trans rfl)))))))
theorem r_241_3_5 (vx1 : mm_V) (x2 : Int) (x3 : Int) (vx4 : mm_V) (y0 : Int) {hi : mm_Id → Int → Int} {dh : Int → Int} {nx ns : Int} {Q : mm_V → mm_H → Prop} (hy : 5306 ≤ nx) :
    mm_Wp 241 (bk_241_3.drop 5) [zR (40, 0, 0), vx1, zI x2, zI x3, vx4] [zI y0] (mm_z hi dh nx ns) Q =
    (if y0 = 0 then mm_Cl 203 [zR (40, 0, 0), zI x3, zI x2, zI 2] (mm_z hi dh nx ns) (fun r h3 => mm_Wp 241 (bk_241_3.drop 11) [zR (40, 0, 0), vx1, zI x2, zI x3, vx4] (mm_push r []) h3 Q) else mm_Wp 241 (mm_blk 241 4) [zR (40, 0, 0), vx1, zI x2, zI x3, vx4] [] (mm_z hi dh nx ns) Q) :=
  (wp_41).trans (mm_ic ((wp_5_0).trans ((wp_3_3).trans ((wp_3_2).trans ((wp_1).trans ((wp_v4 mm_n_203 (mm_leq mm_m_203 (mm_lb rfl)) (mm_lb rfl) (mm_o40 hy)).trans rfl))))) (rfl))
theorem r_241_4 (vx1 : mm_V) (x2 : Int) (x3 : Int) (vx4 : mm_V) {hi : mm_Id → Int → Int} {dh : Int → Int} {nx ns : Int} {Q : mm_V → mm_H → Prop} (hy : 5306 ≤ nx) :
    mm_Wp 241 (mm_blk 241 4) [zR (40, 0, 0), vx1, zI x2, zI x3, vx4] [] (mm_z hi dh nx ns) Q =
    mm_Wp 241 (mm_blk 241 5) [zR (40, 0, 0), vx1, zI x2, zI x3, zI 1] [] (mm_z hi dh nx ns) Q :=
  mm_kb bq_241_4 ((wp_1).trans ((wp_6 (l2 := [zR (40, 0, 0), vx1, zI x2, zI x3, zI 1]) rfl).trans ((wp_0).trans (rfl))))
theorem r_241_3_11 (vx1 : mm_V) (x2 : Int) (x3 : Int) (vx4 : mm_V) (y0 : Int) {hi : mm_Id → Int → Int} {dh : Int → Int} {nx ns : Int} {Q : mm_V → mm_H → Prop} (hy : 5306 ≤ nx) :
    mm_Wp 241 (bk_241_3.drop 11) [zR (40, 0, 0), vx1, zI x2, zI x3, vx4] [zI y0] (mm_z hi dh nx ns) Q =
    (if y0 = 0 then Q (zI (-5)) (mm_z hi dh nx ns) else mm_Wp 241 (mm_blk 241 4) [zR (40, 0, 0), vx1, zI x2, zI x3, vx4] [] (mm_z hi dh nx ns) Q) :=
  (wp_41).trans (mm_ic ((wp_1).trans (wp_90)) (rfl))
theorem r_241_5 (vx1 : mm_V) (x2 : Int) (x3 : Int) (x4 : Int) {hi : mm_Id → Int → Int} {dh : Int → Int} {nx ns : Int} {Q : mm_V → mm_H → Prop} (hy : 5306 ≤ nx) :
    mm_Wp 241 (mm_blk 241 5) [zR (40, 0, 0), vx1, zI x2, zI x3, zI x4] [] (mm_z hi dh nx ns) Q =
    (if 8 < x4 then mm_Wp 241 (mm_blk 241 6) [zR (40, 0, 0), vx1, zI x2, zI x3, zI x4] [] (mm_z hi dh nx ns) Q else ((0 ≤ x4 ∧ x4 < 9) ∧ (if 0 < (hi (63, 0, 0) x4) then mm_Wp 241 (mm_blk 241 5) [zR (40, 0, 0), vx1, zI x2, zI x3, zI (mm_w (x4 + 1))] [] (mm_z hi dh nx ns) Q else mm_Wp 241 (mm_blk 241 6) [zR (40, 0, 0), vx1, zI x2, zI x3, zI x4] [] (mm_z hi dh nx ns) Q))) :=
  mm_kb bq_241_5 ((wp_3_4).trans ((wp_1).trans ((wp_50).trans (mm_ic (rfl) ((wp_5_0).trans ((wp_62 (by decide) (mm_o40 hy) (mm_r40_27 hy)).trans ((wp_3_4).trans ((wp_70 (mm_q63 hy)).trans (mm_ae ((wp_45).trans (mm_ic ((wp_9 (l2 := [zR (40, 0, 0), vx1, zI x2, zI x3, zI (mm_w (x4 + 1))]) rfl rfl).trans ((wp_56).trans (rfl))) (rfl))))))))))))
theorem r_241_6 (vx1 : mm_V) (x2 : Int) (x3 : Int) (x4 : Int) {hi : mm_Id → Int → Int} {dh : Int → Int} {nx ns : Int} {Q : mm_V → mm_H → Prop} (hy : 5306 ≤ nx) :
    mm_Wp 241 (mm_blk 241 6) [zR (40, 0, 0), vx1, zI x2, zI x3, zI x4] [] (mm_z hi dh nx ns) Q =
    (if 8 < x4 then Q (zI (-4)) (mm_z hi dh nx ns) else ((0 ≤ x4 ∧ x4 < 9) ∧ ((0 ≤ x4 ∧ x4 < 9) ∧ Q (zI x4) (mm_z (mm_up (mm_up hi (62, 0, 0) x4 x3) (63, 0, 0) x4 x2) dh nx ns)))) :=
  mm_kb bq_241_6 ((wp_3_4).trans ((wp_1).trans ((wp_51).trans (mm_ic ((wp_1).trans (wp_90)) (mm_kb bq_241_7 ((wp_5_0).trans ((wp_62 (by decide) (mm_o40 hy) (mm_r40_26 hy)).trans ((wp_3_4).trans ((wp_3_3).trans ((wp_74 (mm_q62 hy)).trans (mm_ae ((wp_5_0).trans ((wp_62 (by decide) (mm_o40 hy) (mm_r40_27 hy)).trans ((wp_3_4).trans ((wp_3_2).trans ((wp_74 (mm_q63 hy)).trans (mm_ae ((wp_3_4).trans (wp_90)))))))))))))))))))
/-- PoolHouseModel.isHandle(I)Z -/
theorem bq_242_0 : mm_blk 242 0 = bk_242_0 := by decide +kernel
theorem bq_242_1 : mm_blk 242 1 = bk_242_1 := by decide +kernel
theorem bq_242_2 : mm_blk 242 2 = bk_242_2 := by decide +kernel
theorem r_242_e (x1 : Int) {hi : mm_Id → Int → Int} {dh : Int → Int} {nx ns : Int} {Q : mm_V → mm_H → Prop} (hy : 5306 ≤ nx) :
    mm_Cl 242 [zR (40, 0, 0), zI x1] (mm_z hi dh nx ns) Q =
    mm_Cl 174 [zL x1, zL 1, zL 8] (mm_z hi dh nx ns) (fun r h3 => mm_Wp 242 (bk_242_0.drop 5) [zR (40, 0, 0), zI x1] (mm_push r []) h3 Q) :=
  mm_ce (l2 := [zR (40, 0, 0), zI x1]) rfl (mm_kb bq_242_0 ((wp_3_1).trans ((wp_31).trans ((wp_2).trans ((wp_2).trans ((wp_s3 mm_n_174 (mm_leq mm_m_174 (mm_lb rfl)) (mm_lb rfl)).trans rfl))))))
theorem r_242_0_5 (x1 : Int) (y0 : Int) {hi : mm_Id → Int → Int} {dh : Int → Int} {nx ns : Int} {Q : mm_V → mm_H → Prop} (hy : 5306 ≤ nx) :
    mm_Wp 242 (bk_242_0.drop 5) [zR (40, 0, 0), zI x1] [zI y0] (mm_z hi dh nx ns) Q =
    (if y0 = 0 then mm_Wp 242 (mm_blk 242 1) [zR (40, 0, 0), zI x1] [] (mm_z hi dh nx ns) Q else ((0 ≤ x1 ∧ x1 < 9) ∧ (if 0 < (hi (63, 0, 0) x1) then mm_Wp 242 (mm_blk 242 2) [zR (40, 0, 0), zI x1] [zI 1] (mm_z hi dh nx ns) Q else mm_Wp 242 (mm_blk 242 1) [zR (40, 0, 0), zI x1] [] (mm_z hi dh nx ns) Q))) :=
  (wp_40).trans (mm_ic (rfl) ((wp_5_0).trans ((wp_62 (by decide) (mm_o40 hy) (mm_r40_27 hy)).trans ((wp_3_1).trans ((wp_70 (mm_q63 hy)).trans (mm_ae ((wp_45).trans (mm_ic ((wp_1).trans ((wp_56).trans (rfl))) (rfl)))))))))
theorem r_242_1 (vx0 : mm_V) (vx1 : mm_V) {hi : mm_Id → Int → Int} {dh : Int → Int} {nx ns : Int} {Q : mm_V → mm_H → Prop} (hy : 5306 ≤ nx) :
    mm_Wp 242 (mm_blk 242 1) [vx0, vx1] [] (mm_z hi dh nx ns) Q =
    mm_Wp 242 (mm_blk 242 2) [vx0, vx1] [zI 0] (mm_z hi dh nx ns) Q :=
  mm_kb bq_242_1 ((wp_1).trans ((wp_0).trans (rfl)))
theorem r_242_2 (vx0 : mm_V) (vx1 : mm_V) (y0 : Int) {hi : mm_Id → Int → Int} {dh : Int → Int} {nx ns : Int} {Q : mm_V → mm_H → Prop} (hy : 5306 ≤ nx) :
    mm_Wp 242 (mm_blk 242 2) [vx0, vx1] [zI y0] (mm_z hi dh nx ns) Q =
    ((y0 = 0 ∨ y0 = 1) ∧ Q (zI y0) (mm_z hi dh nx ns)) :=
  mm_kb bq_242_2 (wp_94z)
/-- PoolHouseModel.close(I)I -/
theorem bq_243_0 : mm_blk 243 0 = bk_243_0 := by decide +kernel
theorem bq_243_1 : mm_blk 243 1 = bk_243_1 := by decide +kernel
theorem r_243_e (x1 : Int) {hi : mm_Id → Int → Int} {dh : Int → Int} {nx ns : Int} {Q : mm_V → mm_H → Prop} (hy : 5306 ≤ nx) :
    mm_Cl 243 [zR (40, 0, 0), zI x1] (mm_z hi dh nx ns) Q =
    mm_Cl 242 [zR (40, 0, 0), zI x1] (mm_z (mm_up hi (40, 0, 0) 0 0) dh nx ns) (fun r h3 => mm_Wp 243 (bk_243_0.drop 6) [zR (40, 0, 0), zI x1, zU] (mm_push r []) h3 Q) :=
  mm_ce (l2 := [zR (40, 0, 0), zI x1, zU]) rfl (mm_kb bq_243_0 ((wp_5_0).trans ((wp_1).trans ((wp_63 (mm_o40 hy)).trans ((wp_5_0).trans ((wp_3_1).trans ((wp_v2 mm_n_242 (mm_leq mm_m_242 (mm_lb rfl)) (mm_lb rfl) (mm_o40 hy)).trans rfl)))))))
theorem r_243_0_6 (x1 : Int) (vx2 : mm_V) (y0 : Int) {hi : mm_Id → Int → Int} {dh : Int → Int} {nx ns : Int} {Q : mm_V → mm_H → Prop} (hy : 5306 ≤ nx) :
    mm_Wp 243 (bk_243_0.drop 6) [zR (40, 0, 0), zI x1, vx2] [zI y0] (mm_z hi dh nx ns) Q =
    (if y0 = 0 then Q (zI (-1)) (mm_z hi dh nx ns) else ((0 ≤ x1 ∧ x1 < 9) ∧ mm_Cl 192 [zR (40, 0, 0), zI x1] (mm_z hi dh nx ns) (fun r h3 => mm_Wp 243 (bk_243_1.drop 8) [zR (40, 0, 0), zI x1, zI (hi (63, 0, 0) x1)] (mm_push r []) h3 Q))) :=
  (wp_41).trans (mm_ic ((wp_1).trans (wp_90)) (mm_kb bq_243_1 ((wp_5_0).trans ((wp_62 (by decide) (mm_o40 hy) (mm_r40_27 hy)).trans ((wp_3_1).trans ((wp_70 (mm_q63 hy)).trans (mm_ae ((wp_6 (l2 := [zR (40, 0, 0), zI x1, zI (hi (63, 0, 0) x1)]) rfl).trans ((wp_5_0).trans ((wp_3_1).trans ((wp_v2 mm_n_192 (mm_leq mm_m_192 (mm_lb rfl)) (mm_lb rfl) (mm_o40 hy)).trans rfl)))))))))))
theorem r_243_1_8 (x1 : Int) (x2 : Int) {hi : mm_Id → Int → Int} {dh : Int → Int} {nx ns : Int} {Q : mm_V → mm_H → Prop} (hy : 5306 ≤ nx) :
    mm_Wp 243 (bk_243_1.drop 8) [zR (40, 0, 0), zI x1, zI x2] [] (mm_z hi dh nx ns) Q =
    ((0 ≤ x1 ∧ x1 < 9) ∧ mm_Cl 191 [zR (40, 0, 0), zI (hi (62, 0, 0) x1)] (mm_z hi dh nx ns) (fun r h3 => mm_Wp 243 (bk_243_1.drop 14) [zR (40, 0, 0), zI x1, zI x2] (mm_push r []) h3 Q)) :=
  (wp_5_0).trans ((wp_5_0).trans ((wp_62 (by decide) (mm_o40 hy) (mm_r40_26 hy)).trans ((wp_3_1).trans ((wp_70 (mm_q62 hy)).trans (mm_ae ((wp_v2 mm_n_191 (mm_leq mm_m_191 (mm_lb rfl)) (mm_lb rfl) (mm_o40 hy)).trans rfl))))))
theorem r_243_1_14 (vx1 : mm_V) (x2 : Int) {hi : mm_Id → Int → Int} {dh : Int → Int} {nx ns : Int} {Q : mm_V → mm_H → Prop} (hy : 5306 ≤ nx) :
    mm_Wp 243 (bk_243_1.drop 14) [zR (40, 0, 0), vx1, zI x2] [] (mm_z hi dh nx ns) Q =
    mm_Cl 209 [zR (40, 0, 0)] (mm_z hi dh nx ns) (fun r h3 => mm_Wp 243 (bk_243_1.drop 16) [zR (40, 0, 0), vx1, zI x2] (mm_push r []) h3 Q) :=
  (wp_5_0).trans ((wp_v1 mm_n_209 (mm_leq mm_m_209 (mm_lb rfl)) (mm_lb rfl) (mm_o40 hy)).trans rfl)
theorem r_243_1_16 (vx0 : mm_V) (vx1 : mm_V) (x2 : Int) {hi : mm_Id → Int → Int} {dh : Int → Int} {nx ns : Int} {Q : mm_V → mm_H → Prop} (hy : 5306 ≤ nx) :
    mm_Wp 243 (bk_243_1.drop 16) [vx0, vx1, zI x2] [] (mm_z hi dh nx ns) Q =
    Q (zI x2) (mm_z hi dh nx ns) :=
  (wp_3_2).trans (wp_90)
/-- PoolHouseModel.handle(II)I -/
theorem bq_244_0 : mm_blk 244 0 = bk_244_0 := by decide +kernel
theorem bq_244_1 : mm_blk 244 1 = bk_244_1 := by decide +kernel
theorem bq_244_2 : mm_blk 244 2 = bk_244_2 := by decide +kernel
theorem bq_244_3 : mm_blk 244 3 = bk_244_3 := by decide +kernel
theorem bq_244_4 : mm_blk 244 4 = bk_244_4 := by decide +kernel
theorem r_244_e (x1 : Int) (x2 : Int) {hi : mm_Id → Int → Int} {dh : Int → Int} {nx ns : Int} {Q : mm_V → mm_H → Prop} (hy : 5306 ≤ nx) :
    mm_Cl 244 [zR (40, 0, 0), zI x1, zI x2] (mm_z hi dh nx ns) Q =
    mm_Cl 242 [zR (40, 0, 0), zI x1] (mm_z (mm_up hi (40, 0, 0) 0 0) dh nx ns) (fun r h3 => mm_Wp 244 (bk_244_0.drop 6) [zR (40, 0, 0), zI x1, zI x2] (mm_push r []) h3 Q) :=
  mm_ce (l2 := [zR (40, 0, 0), zI x1, zI x2]) rfl (mm_kb bq_244_0 ((wp_5_0).trans ((wp_1).trans ((wp_63 (mm_o40 hy)).trans ((wp_5_0).trans ((wp_3_1).trans ((wp_v2 mm_n_242 (mm_leq mm_m_242 (mm_lb rfl)) (mm_lb rfl) (mm_o40 hy)).trans rfl)))))))
theorem r_244_0_6 (x1 : Int) (x2 : Int) (y0 : Int) {hi : mm_Id → Int → Int} {dh : Int → Int} {nx ns : Int} {Q : mm_V → mm_H → Prop} (hy : 5306 ≤ nx) :
    mm_Wp 244 (bk_244_0.drop 6) [zR (40, 0, 0), zI x1, zI x2] [zI y0] (mm_z hi dh nx ns) Q =
    (if y0 = 0 then Q (zI (-1)) (mm_z hi dh nx ns) else (if x2 = 0 then ((0 ≤ x1 ∧ x1 < 9) ∧ ((0 ≤ (hi (62, 0, 0) x1) ∧ (hi (62, 0, 0) x1) < 26) ∧ mm_Wp 244 (mm_blk 244 4) [zR (40, 0, 0), zI x1, zI x2] [zI (hi (57, 0, 0) (hi (62, 0, 0) x1))] (mm_z hi dh nx ns) Q)) else (if x2 = 1 then ((0 ≤ x1 ∧ x1 < 9) ∧ mm_Wp 244 (mm_blk 244 4) [zR (40, 0, 0), zI x1, zI x2] [zI (hi (63, 0, 0) x1)] (mm_z hi dh nx ns) Q) else mm_Wp 244 (mm_blk 244 4) [zR (40, 0, 0), zI x1, zI x2] [zI (-2)] (mm_z hi dh nx ns) Q))) :=
  (wp_41).trans (mm_ic ((wp_1).trans (wp_90)) (mm_kb bq_244_1 ((wp_3_2).trans ((wp_41).trans (mm_ic ((wp_5_0).trans ((wp_62 (by decide) (mm_o40 hy) (mm_r40_19 hy)).trans ((wp_5_0).trans ((wp_62 (by decide) (mm_o40 hy) (mm_r40_26 hy)).trans ((wp_3_1).trans ((wp_70 (mm_q62 hy)).trans (mm_ae ((wp_70 (mm_q57 hy)).trans (mm_ae ((wp_56).trans (rfl))))))))))) (mm_kb bq_244_2 ((wp_3_2).trans ((wp_1).trans ((wp_47).trans (mm_ic ((wp_5_0).trans ((wp_62 (by decide) (mm_o40 hy) (mm_r40_27 hy)).trans ((wp_3_1).trans ((wp_70 (mm_q63 hy)).trans (mm_ae ((wp_56).trans (rfl))))))) (mm_kb bq_244_3 ((wp_1).trans ((wp_0).trans (rfl))))))))))))))
theorem r_244_4 (vx0 : mm_V) (vx1 : mm_V) (vx2 : mm_V) (y0 : Int) {hi : mm_Id → Int → Int} {dh : Int → Int} {nx ns : Int} {Q : mm_V → mm_H → Prop} (hy : 5306 ≤ nx) :
    mm_Wp 244 (mm_blk 244 4) [vx0, vx1, vx2] [zI y0] (mm_z hi dh nx ns) Q =
    Q (zI y0) (mm_z hi dh nx ns) :=
  mm_kb bq_244_4 (wp_90)
/-- PoolHouseModel.isLockedBy(IIII)Z -/
theorem bq_245_0 : mm_blk 245 0 = bk_245_0 := by decide +kernel
theorem bq_245_1 : mm_blk 245 1 = bk_245_1 := by decide +kernel
theorem bq_245_2 : mm_blk 245 2 = bk_245_2 := by decide +kernel
theorem bq_245_3 : mm_blk 245 3 = bk_245_3 := by decide +kernel
theorem bq_245_4 : mm_blk 245 4 = bk_245_4 := by decide +kernel
theorem bq_245_5 : mm_blk 245 5 = bk_245_5 := by decide +kernel
theorem r_245_e (x1 : Int) (x2 : Int) (x3 : Int) (x4 : Int) {hi : mm_Id → Int → Int} {dh : Int → Int} {nx ns : Int} {Q : mm_V → mm_H → Prop} (hy : 5306 ≤ nx) :
    mm_Cl 245 [zR (40, 0, 0), zI x1, zI x2, zI x3, zI x4] (mm_z hi dh nx ns) Q =
    mm_Wp 245 (mm_blk 245 1) [zR (40, 0, 0), zI x1, zI x2, zI x3, zI x4, zI 0, zI x2] [] (mm_z hi dh nx ns) Q :=
  mm_ce (l2 := [zR (40, 0, 0), zI x1, zI x2, zI x3, zI x4, zU, zU]) rfl (mm_kb bq_245_0 ((wp_1).trans ((wp_6 (l2 := [zR (40, 0, 0), zI x1, zI x2, zI x3, zI x4, zI 0, zU]) rfl).trans ((wp_3_2).trans ((wp_6 (l2 := [zR (40, 0, 0), zI x1, zI x2, zI x3, zI x4, zI 0, zI x2]) rfl).trans ((wp_0).trans (rfl)))))))
theorem r_245_1 (x1 : Int) (vx2 : mm_V) (x3 : Int) (x4 : Int) (x5 : Int) (x6 : Int) {hi : mm_Id → Int → Int} {dh : Int → Int} {nx ns : Int} {Q : mm_V → mm_H → Prop} (hy : 5306 ≤ nx) :
    mm_Wp 245 (mm_blk 245 1) [zR (40, 0, 0), zI x1, vx2, zI x3, zI x4, zI x5, zI x6] [] (mm_z hi dh nx ns) Q =
    (if x3 < x6 then ((x5 = 0 ∨ x5 = 1) ∧ Q (zI x5) (mm_z hi dh nx ns)) else (if x5 = 0 then ((0 ≤ (mm_w ((mm_w (2160 * x1)) + x6)) ∧ (mm_w ((mm_w (2160 * x1)) + x6)) < 19440) ∧ (if 2 < (mm_w ((hi (64, 0, 0) (mm_w ((mm_w (2160 * x1)) + x6))) + x4)) then ((0 ≤ (mm_w ((mm_w (2160 * x1)) + x6)) ∧ (mm_w ((mm_w (2160 * x1)) + x6)) < 19440) ∧ (if 0 < (hi (64, 0, 0) (mm_w ((mm_w (2160 * x1)) + x6))) then (if 0 < x4 then mm_Wp 245 (mm_blk 245 2) [zR (40, 0, 0), zI x1, vx2, zI x3, zI x4, zI x5, zI x6] [] (mm_z hi dh nx ns) Q else mm_Wp 245 (mm_blk 245 3) [zR (40, 0, 0), zI x1, vx2, zI x3, zI x4, zI x5, zI x6] [] (mm_z hi dh nx ns) Q) else mm_Wp 245 (mm_blk 245 3) [zR (40, 0, 0), zI x1, vx2, zI x3, zI x4, zI x5, zI x6] [] (mm_z hi dh nx ns) Q)) else mm_Wp 245 (mm_blk 245 3) [zR (40, 0, 0), zI x1, vx2, zI x3, zI x4, zI x5, zI x6] [] (mm_z hi dh nx ns) Q)) else mm_Wp 245 (mm_blk 245 2) [zR (40, 0, 0), zI x1, vx2, zI x3, zI x4, zI x5, zI x6] [] (mm_z hi dh nx ns) Q)) :=
  mm_kb bq_245_1 ((wp_3_6).trans ((wp_3_3).trans ((wp_50).trans (mm_ic (mm_kb bq_245_5 ((wp_3_5).trans (wp_94z))) ((wp_3_5).trans ((wp_41).trans (mm_ic ((wp_5_0).trans ((wp_62 (by decide) (mm_o40 hy) (mm_r40_28 hy)).trans ((wp_1).trans ((wp_3_1).trans ((wp_12).trans ((wp_3_6).trans ((wp_10).trans ((wp_71 (mm_q64 hy)).trans (mm_ae ((wp_3_4).trans ((wp_10).trans ((wp_1).trans ((wp_51).trans (mm_ic ((wp_5_0).trans ((wp_62 (by decide) (mm_o40 hy) (mm_r40_28 hy)).trans ((wp_1).trans ((wp_3_1).trans ((wp_12).trans ((wp_3_6).trans ((wp_10).trans ((wp_71 (mm_q64 hy)).trans (mm_ae ((wp_45).trans (mm_ic ((wp_3_4).trans ((wp_45).trans (mm_ic ((wp_0).trans (rfl)) (rfl)))) (rfl)))))))))))) (rfl))))))))))))))) (rfl))))))))
theorem r_245_2 (x1 : Int) (vx2 : mm_V) (x3 : Int) (x4 : Int) (vx5 : mm_V) (x6 : Int) {hi : mm_Id → Int → Int} {dh : Int → Int} {nx ns : Int} {Q : mm_V → mm_H → Prop} (hy : 5306 ≤ nx) :
    mm_Wp 245 (mm_blk 245 2) [zR (40, 0, 0), zI x1, vx2, zI x3, zI x4, vx5, zI x6] [] (mm_z hi dh nx ns) Q =
    mm_Wp 245 (mm_blk 245 4) [zR (40, 0, 0), zI x1, vx2, zI x3, zI x4, vx5, zI x6] [zI 1] (mm_z hi dh nx ns) Q :=
  mm_kb bq_245_2 ((wp_1).trans ((wp_56).trans (rfl)))
theorem r_245_3 (x1 : Int) (vx2 : mm_V) (x3 : Int) (x4 : Int) (vx5 : mm_V) (x6 : Int) {hi : mm_Id → Int → Int} {dh : Int → Int} {nx ns : Int} {Q : mm_V → mm_H → Prop} (hy : 5306 ≤ nx) :
    mm_Wp 245 (mm_blk 245 3) [zR (40, 0, 0), zI x1, vx2, zI x3, zI x4, vx5, zI x6] [] (mm_z hi dh nx ns) Q =
    mm_Wp 245 (mm_blk 245 4) [zR (40, 0, 0), zI x1, vx2, zI x3, zI x4, vx5, zI x6] [zI 0] (mm_z hi dh nx ns) Q :=
  mm_kb bq_245_3 ((wp_1).trans ((wp_0).trans (rfl)))
theorem r_245_4 (x1 : Int) (vx2 : mm_V) (x3 : Int) (x4 : Int) (vx5 : mm_V) (x6 : Int) (y0 : Int) {hi : mm_Id → Int → Int} {dh : Int → Int} {nx ns : Int} {Q : mm_V → mm_H → Prop} (hy : 5306 ≤ nx) :
    mm_Wp 245 (mm_blk 245 4) [zR (40, 0, 0), zI x1, vx2, zI x3, zI x4, vx5, zI x6] [zI y0] (mm_z hi dh nx ns) Q =
    mm_Wp 245 (mm_blk 245 1) [zR (40, 0, 0), zI x1, vx2, zI x3, zI x4, zI y0, zI (mm_w (x6 + 1))] [] (mm_z hi dh nx ns) Q :=
  mm_kb bq_245_4 ((wp_6 (l2 := [zR (40, 0, 0), zI x1, vx2, zI x3, zI x4, zI y0, zI x6]) rfl).trans ((wp_9 (l2 := [zR (40, 0, 0), zI x1, vx2, zI x3, zI x4, zI y0, zI (mm_w (x6 + 1))]) rfl rfl).trans ((wp_56).trans (rfl))))
/-- PoolHouseModel.lock(IIII)I -/
theorem bq_246_0 : mm_blk 246 0 = bk_246_0 := by decide +kernel
theorem bq_246_1 : mm_blk 246 1 = bk_246_1 := by decide +kernel
theorem bq_246_2 : mm_blk 246 2 = bk_246_2 := by decide +kernel
theorem bq_246_3 : mm_blk 246 3 = bk_246_3 := by decide +kernel
theorem bq_246_4 : mm_blk 246 4 = bk_246_4 := by decide +kernel
theorem bq_246_5 : mm_blk 246 5 = bk_246_5 := by decide +kernel
theorem bq_246_6 : mm_blk 246 6 = bk_246_6 := by decide +kernel
theorem bq_246_7 : mm_blk 246 7 = bk_246_7 := by decide +kernel
theorem bq_246_8 : mm_blk 246 8 = bk_246_8 := by decide +kernel
theorem bq_246_9 : mm_blk 246 9 = bk_246_9 := by decide +kernel
theorem r_246_e (x1 : Int) (x2 : Int) (x3 : Int) (x4 : Int) {hi : mm_Id → Int → Int} {dh : Int → Int} {nx ns : Int} {Q : mm_V → mm_H → Prop} (hy : 5306 ≤ nx) :
    mm_Cl 246 [zR (40, 0, 0), zI x1, zI x2, zI x3, zI x4] (mm_z hi dh nx ns) Q =
    mm_Cl 242 [zR (40, 0, 0), zI x1] (mm_z (mm_up hi (40, 0, 0) 0 0) dh nx ns) (fun r h3 => mm_Wp 246 (bk_246_0.drop 6) [zR (40, 0, 0), zI x1, zI x2, zI x3, zI x4, zU] (mm_push r []) h3 Q) :=
  mm_ce (l2 := [zR (40, 0, 0), zI x1, zI x2, zI x3, zI x4, zU]) rfl (mm_kb bq_246_0 ((wp_5_0).trans ((wp_1).trans ((wp_63 (mm_o40 hy)).trans ((wp_5_0).trans ((wp_3_1).trans ((wp_v2 mm_n_242 (mm_leq mm_m_242 (mm_lb rfl)) (mm_lb rfl) (mm_o40 hy)).trans rfl)))))))
theorem r_246_0_6 (x1 : Int) (x2 : Int) (x3 : Int) (x4 : Int) (vx5 : mm_V) (y0 : Int) {hi : mm_Id → Int → Int} {dh : Int → Int} {nx ns : Int} {Q : mm_V → mm_H → Prop} (hy : 5306 ≤ nx) :
    mm_Wp 246 (bk_246_0.drop 6) [zR (40, 0, 0), zI x1, zI x2, zI x3, zI x4, vx5] [zI y0] (mm_z hi dh nx ns) Q =
    (if y0 = 0 then Q (zI (-1)) (mm_z hi dh nx ns) else (if x2 < 0 then mm_Wp 246 (mm_blk 246 2) [zR (40, 0, 0), zI x1, zI x2, zI x3, zI x4, vx5] [] (mm_z hi dh nx ns) Q else (if x3 < x2 then mm_Wp 246 (mm_blk 246 2) [zR (40, 0, 0), zI x1, zI x2, zI x3, zI x4, vx5] [] (mm_z hi dh nx ns) Q else (if x3 < 2160 then mm_Cl 174 [zL x4, zL 0, zL 2] (mm_z hi dh nx ns) (fun r h3 => mm_Wp 246 (bk_246_1.drop 13) [zR (40, 0, 0), zI x1, zI x2, zI x3, zI x4, vx5] (mm_push r []) h3 Q) else mm_Wp 246 (mm_blk 246 2) [zR (40, 0, 0), zI x1, zI x2, zI x3, zI x4, vx5] [] (mm_z hi dh nx ns) Q)))) :=
  (wp_41).trans (mm_ic ((wp_1).trans (wp_90)) (mm_kb bq_246_1 ((wp_3_2).trans ((wp_42).trans (mm_ic (rfl) ((wp_3_2).trans ((wp_3_3).trans ((wp_50).trans (mm_ic (rfl) ((wp_3_3).trans ((wp_1).trans ((wp_49).trans (mm_ic ((wp_3_4).trans ((wp_31).trans ((wp_2).trans ((wp_2).trans ((wp_s3 mm_n_174 (mm_leq mm_m_174 (mm_lb rfl)) (mm_lb rfl)).trans rfl))))) (rfl))))))))))))))
theorem r_246_2 (vx0 : mm_V) (vx1 : mm_V) (vx2 : mm_V) (vx3 : mm_V) (vx4 : mm_V) (vx5 : mm_V) {hi : mm_Id → Int → Int} {dh : Int → Int} {nx ns : Int} {Q : mm_V → mm_H → Prop} (hy : 5306 ≤ nx) :
    mm_Wp 246 (mm_blk 246 2) [vx0, vx1, vx2, vx3, vx4, vx5] [] (mm_z hi dh nx ns) Q =
    Q (zI (-2)) (mm_z hi dh nx ns) :=
  mm_kb bq_246_2 ((wp_1).trans (wp_90))
theorem r_246_1_13 (x1 : Int) (x2 : Int) (x3 : Int) (x4 : Int) (vx5 : mm_V) (y0 : Int) {hi : mm_Id → Int → Int} {dh : Int → Int} {nx ns : Int} {Q : mm_V → mm_H → Prop} (hy : 5306 ≤ nx) :
    mm_Wp 246 (bk_246_1.drop 13) [zR (40, 0, 0), zI x1, zI x2, zI x3, zI x4, vx5] [zI y0] (mm_z hi dh nx ns) Q =
    (if y0 = 0 then mm_Wp 246 (mm_blk 246 2) [zR (40, 0, 0), zI x1, zI x2, zI x3, zI x4, vx5] [] (mm_z hi dh nx ns) Q else mm_Wp 246 (mm_blk 246 4) [zR (40, 0, 0), zI x1, zI x2, zI x3, zI x4, zI 1] [] (mm_z hi dh nx ns) Q) :=
  (wp_41).trans (mm_ic ((wp_0).trans (rfl)) (mm_kb bq_246_3 ((wp_1).trans ((wp_6 (l2 := [zR (40, 0, 0), zI x1, zI x2, zI x3, zI x4, zI 1]) rfl).trans ((wp_0).trans (rfl))))))
theorem r_246_4 (x1 : Int) (x2 : Int) (x3 : Int) (x4 : Int) (x5 : Int) {hi : mm_Id → Int → Int} {dh : Int → Int} {nx ns : Int} {Q : mm_V → mm_H → Prop} (hy : 5306 ≤ nx) :
    mm_Wp 246 (mm_blk 246 4) [zR (40, 0, 0), zI x1, zI x2, zI x3, zI x4, zI x5] [] (mm_z hi dh nx ns) Q =
    (if 8 < x5 then mm_Wp 246 (mm_blk 246 8) [zR (40, 0, 0), zI x1, zI x2, zI x3, zI x4, zI x2] [] (mm_z hi dh nx ns) Q else (if x5 = x1 then mm_Wp 246 (mm_blk 246 6) [zR (40, 0, 0), zI x1, zI x2, zI x3, zI x4, zI x5] [] (mm_z hi dh nx ns) Q else ((0 ≤ x5 ∧ x5 < 9) ∧ ((0 ≤ x1 ∧ x1 < 9) ∧ (if (hi (63, 0, 0) x5) = (hi (63, 0, 0) x1) then ((0 ≤ x5 ∧ x5 < 9) ∧ ((0 ≤ x1 ∧ x1 < 9) ∧ (if (hi (62, 0, 0) x5) = (hi (62, 0, 0) x1) then mm_Cl 245 [zR (40, 0, 0), zI x5, zI x2, zI x3, zI x4] (mm_z hi dh nx ns) (fun r h3 => mm_Wp 246 (bk_246_5.drop 6) [zR (40, 0, 0), zI x1, zI x2, zI x3, zI x4, zI x5] (mm_push r []) h3 Q) else mm_Wp 246 (mm_blk 246 6) [zR (40, 0, 0), zI x1, zI x2, zI x3, zI x4, zI x5] [] (mm_z hi dh nx ns) Q))) else mm_Wp 246 (mm_blk 246 6) [zR (40, 0, 0), zI x1, zI x2, zI x3, zI x4, zI x5] [] (mm_z hi dh nx ns) Q))))) :=
  mm_kb bq_246_4 ((wp_3_5).trans ((wp_1).trans ((wp_50).trans (mm_ic (mm_kb bq_246_7 ((wp_3_2).trans ((wp_6 (l2 := [zR (40, 0, 0), zI x1, zI x2, zI x3, zI x4, zI x2]) rfl).trans ((wp_0).trans (rfl))))) ((wp_3_5).trans ((wp_3_1).trans ((wp_46).trans (mm_ic (rfl) ((wp_5_0).trans ((wp_62 (by decide) (mm_o40 hy) (mm_r40_27 hy)).trans ((wp_3_5).trans ((wp_70 (mm_q63 hy)).trans (mm_ae ((wp_5_0).trans ((wp_62 (by decide) (mm_o40 hy) (mm_r40_27 hy)).trans ((wp_3_1).trans ((wp_70 (mm_q63 hy)).trans (mm_ae ((wp_47).trans (mm_ic ((wp_5_0).trans ((wp_62 (by decide) (mm_o40 hy) (mm_r40_26 hy)).trans ((wp_3_5).trans ((wp_70 (mm_q62 hy)).trans (mm_ae ((wp_5_0).trans ((wp_62 (by decide) (mm_o40 hy) (mm_r40_26 hy)).trans ((wp_3_1).trans ((wp_70 (mm_q62 hy)).trans (mm_ae ((wp_46).trans (mm_ic (mm_kb bq_246_5 ((wp_5_0).trans ((wp_3_5).trans ((wp_3_2).trans ((wp_3_3).trans ((wp_3_4).trans ((wp_v5 mm_n_245 (mm_leq mm_m_245 (mm_lb rfl)) (mm_lb rfl) (mm_o40 hy)).trans rfl))))))) ((wp_56).trans (rfl)))))))))))))) (rfl)))))))))))))))))))))
theorem r_246_8 (x1 : Int) (vx2 : mm_V) (x3 : Int) (x4 : Int) (x5 : Int) {hi : mm_Id → Int → Int} {dh : Int → Int} {nx ns : Int} {Q : mm_V → mm_H → Prop} (hy : 5306 ≤ nx) :
    mm_Wp 246 (mm_blk 246 8) [zR (40, 0, 0), zI x1, vx2, zI x3, zI x4, zI x5] [] (mm_z hi dh nx ns) Q =
    (if x3 < x5 then Q (zI 0) (mm_z hi dh nx ns) else ((0 ≤ (mm_w ((mm_w (2160 * x1)) + x5)) ∧ (mm_w ((mm_w (2160 * x1)) + x5)) < 19440) ∧ mm_Wp 246 (mm_blk 246 8) [zR (40, 0, 0), zI x1, vx2, zI x3, zI x4, zI (mm_w (x5 + 1))] [] (mm_z (mm_up hi (64, 0, 0) (mm_w ((mm_w (2160 * x1)) + x5)) (mm_b (mm_b x4))) dh nx ns) Q)) :=
  mm_kb bq_246_8 ((wp_3_5).trans ((wp_3_3).trans ((wp_50).trans (mm_ic (mm_kb bq_246_9 ((wp_1).trans (wp_90))) ((wp_5_0).trans ((wp_62 (by decide) (mm_o40 hy) (mm_r40_28 hy)).trans ((wp_1).trans ((wp_3_1).trans ((wp_12).trans ((wp_3_5).trans ((wp_10).trans ((wp_3_4).trans ((wp_33).trans ((wp_75 (mm_q64 hy)).trans (mm_ae ((wp_9 (l2 := [zR (40, 0, 0), zI x1, vx2, zI x3, zI x4, zI (mm_w (x5 + 1))]) rfl rfl).trans ((wp_56).trans (rfl))))))))))))))))))
theorem r_246_6 (x1 : Int) (x2 : Int) (x3 : Int) (x4 : Int) (x5 : Int) {hi : mm_Id → Int → Int} {dh : Int → Int} {nx ns : Int} {Q : mm_V → mm_H → Prop} (hy : 5306 ≤ nx) :
    mm_Wp 246 (mm_blk 246 6) [zR (40, 0, 0), zI x1, zI x2, zI x3, zI x4, zI x5] [] (mm_z hi dh nx ns) Q =
    mm_Wp 246 (mm_blk 246 4) [zR (40, 0, 0), zI x1, zI x2, zI x3, zI x4, zI (mm_w (x5 + 1))] [] (mm_z hi dh nx ns) Q :=
  mm_kb bq_246_6 ((wp_9 (l2 := [zR (40, 0, 0), zI x1, zI x2, zI x3, zI x4, zI (mm_w (x5 + 1))]) rfl rfl).trans ((wp_56).trans (rfl)))
theorem r_246_5_6 (x1 : Int) (x2 : Int) (x3 : Int) (x4 : Int) (x5 : Int) (y0 : Int) {hi : mm_Id → Int → Int} {dh : Int → Int} {nx ns : Int} {Q : mm_V → mm_H → Prop} (hy : 5306 ≤ nx) :
    mm_Wp 246 (bk_246_5.drop 6) [zR (40, 0, 0), zI x1, zI x2, zI x3, zI x4, zI x5] [zI y0] (mm_z hi dh nx ns) Q =
    (if y0 = 0 then mm_Wp 246 (mm_blk 246 6) [zR (40, 0, 0), zI x1, zI x2, zI x3, zI x4, zI x5] [] (mm_z hi dh nx ns) Q else Q (zI x5) (mm_z hi dh nx ns)) :=
  (wp_40).trans (mm_ic (rfl) ((wp_3_5).trans (wp_90)))
/-- PoolHouseModel.locked(II)I -/
theorem bq_247_0 : mm_blk 247 0 = bk_247_0 := by decide +kernel
theorem bq_247_1 : mm_blk 247 1 = bk_247_1 := by decide +kernel
theorem bq_247_2 : mm_blk 247 2 = bk_247_2 := by decide +kernel
theorem bq_247_3 : mm_blk 247 3 = bk_247_3 := by decide +kernel
theorem r_247_e (x1 : Int) (x2 : Int) {hi : mm_Id → Int → Int} {dh : Int → Int} {nx ns : Int} {Q : mm_V → mm_H → Prop} (hy : 5306 ≤ nx) :
    mm_Cl 247 [zR (40, 0, 0), zI x1, zI x2] (mm_z hi dh nx ns) Q =
    mm_Cl 242 [zR (40, 0, 0), zI x1] (mm_z (mm_up hi (40, 0, 0) 0 0) dh nx ns) (fun r h3 => mm_Wp 247 (bk_247_0.drop 6) [zR (40, 0, 0), zI x1, zI x2] (mm_push r []) h3 Q) :=
  mm_ce (l2 := [zR (40, 0, 0), zI x1, zI x2]) rfl (mm_kb bq_247_0 ((wp_5_0).trans ((wp_1).trans ((wp_63 (mm_o40 hy)).trans ((wp_5_0).trans ((wp_3_1).trans ((wp_v2 mm_n_242 (mm_leq mm_m_242 (mm_lb rfl)) (mm_lb rfl) (mm_o40 hy)).trans rfl)))))))
theorem r_247_0_6 (x1 : Int) (x2 : Int) (y0 : Int) {hi : mm_Id → Int → Int} {dh : Int → Int} {nx ns : Int} {Q : mm_V → mm_H → Prop} (hy : 5306 ≤ nx) :
    mm_Wp 247 (bk_247_0.drop 6) [zR (40, 0, 0), zI x1, zI x2] [zI y0] (mm_z hi dh nx ns) Q =
    (if y0 = 0 then Q (zI (-1)) (mm_z hi dh nx ns) else mm_Cl 174 [zL x2, zL 0, zL 2159] (mm_z hi dh nx ns) (fun r h3 => mm_Wp 247 (bk_247_1.drop 5) [zR (40, 0, 0), zI x1, zI x2] (mm_push r []) h3 Q)) :=
  (wp_41).trans (mm_ic ((wp_1).trans (wp_90)) (mm_kb bq_247_1 ((wp_3_2).trans ((wp_31).trans ((wp_2).trans ((wp_2).trans ((wp_s3 mm_n_174 (mm_leq mm_m_174 (mm_lb rfl)) (mm_lb rfl)).trans rfl)))))))
theorem r_247_1_5 (x1 : Int) (x2 : Int) (y0 : Int) {hi : mm_Id → Int → Int} {dh : Int → Int} {nx ns : Int} {Q : mm_V → mm_H → Prop} (hy : 5306 ≤ nx) :
    mm_Wp 247 (bk_247_1.drop 5) [zR (40, 0, 0), zI x1, zI x2] [zI y0] (mm_z hi dh nx ns) Q =
    (if y0 = 0 then mm_Wp 247 (mm_blk 247 3) [zR (40, 0, 0), zI x1, zI x2] [zI (-2)] (mm_z hi dh nx ns) Q else ((0 ≤ (mm_w ((mm_w (2160 * x1)) + x2)) ∧ (mm_w ((mm_w (2160 * x1)) + x2)) < 19440) ∧ mm_Wp 247 (mm_blk 247 3) [zR (40, 0, 0), zI x1, zI x2] [zI (hi (64, 0, 0) (mm_w ((mm_w (2160 * x1)) + x2)))] (mm_z hi dh nx ns) Q)) :=
  (wp_40).trans (mm_ic (mm_kb bq_247_2 ((wp_1).trans ((wp_0).trans (rfl)))) ((wp_5_0).trans ((wp_62 (by decide) (mm_o40 hy) (mm_r40_28 hy)).trans ((wp_1).trans ((wp_3_1).trans ((wp_12).trans ((wp_3_2).trans ((wp_10).trans ((wp_71 (mm_q64 hy)).trans (mm_ae ((wp_56).trans (rfl))))))))))))
theorem r_247_3 (vx0 : mm_V) (vx1 : mm_V) (vx2 : mm_V) (y0 : Int) {hi : mm_Id → Int → Int} {dh : Int → Int} {nx ns : Int} {Q : mm_V → mm_H → Prop} (hy : 5306 ≤ nx) :
    mm_Wp 247 (mm_blk 247 3) [vx0, vx1, vx2] [zI y0] (mm_z hi dh nx ns) Q =
    Q (zI y0) (mm_z hi dh nx ns) :=
  mm_kb bq_247_3 (wp_90)
/-- PoolHouseModel.freePlace(II)I -/
theorem bq_248_0 : mm_blk 248 0 = bk_248_0 := by decide +kernel
theorem bq_248_1 : mm_blk 248 1 = bk_248_1 := by decide +kernel
theorem bq_248_2 : mm_blk 248 2 = bk_248_2 := by decide +kernel
theorem r_248_e (x1 : Int) (x2 : Int) {hi : mm_Id → Int → Int} {dh : Int → Int} {nx ns : Int} {Q : mm_V → mm_H → Prop} (hy : 5306 ≤ nx) :
    mm_Cl 248 [zR (40, 0, 0), zI x1, zI x2] (mm_z hi dh nx ns) Q =
    mm_Wp 248 (mm_blk 248 1) [zR (40, 0, 0), zI x1, zI x2, zI x1] [] (mm_z hi dh nx ns) Q :=
  mm_ce (l2 := [zR (40, 0, 0), zI x1, zI x2, zU]) rfl (mm_kb bq_248_0 ((wp_3_1).trans ((wp_6 (l2 := [zR (40, 0, 0), zI x1, zI x2, zI x1]) rfl).trans ((wp_0).trans (rfl)))))
theorem r_248_1 (vx1 : mm_V) (x2 : Int) (x3 : Int) {hi : mm_Id → Int → Int} {dh : Int → Int} {nx ns : Int} {Q : mm_V → mm_H → Prop} (hy : 5306 ≤ nx) :
    mm_Wp 248 (mm_blk 248 1) [zR (40, 0, 0), vx1, zI x2, zI x3] [] (mm_z hi dh nx ns) Q =
    (if x3 < x2 then ((0 ≤ x3 ∧ x3 < 26) ∧ (if 0 < (hi (57, 0, 0) x3) then mm_Wp 248 (mm_blk 248 1) [zR (40, 0, 0), vx1, zI x2, zI (mm_w (x3 + 1))] [] (mm_z hi dh nx ns) Q else mm_Wp 248 (mm_blk 248 2) [zR (40, 0, 0), vx1, zI x2, zI x3] [] (mm_z hi dh nx ns) Q)) else mm_Wp 248 (mm_blk 248 2) [zR (40, 0, 0), vx1, zI x2, zI x3] [] (mm_z hi dh nx ns) Q) :=
  mm_kb bq_248_1 ((wp_3_3).trans ((wp_3_2).trans ((wp_49).trans (mm_ic ((wp_5_0).trans ((wp_62 (by decide) (mm_o40 hy) (mm_r40_19 hy)).trans ((wp_3_3).trans ((wp_70 (mm_q57 hy)).trans (mm_ae ((wp_45).trans (mm_ic ((wp_9 (l2 := [zR (40, 0, 0), vx1, zI x2, zI (mm_w (x3 + 1))]) rfl rfl).trans ((wp_56).trans (rfl))) (rfl)))))))) (rfl)))))
theorem r_248_2 (vx0 : mm_V) (vx1 : mm_V) (vx2 : mm_V) (x3 : Int) {hi : mm_Id → Int → Int} {dh : Int → Int} {nx ns : Int} {Q : mm_V → mm_H → Prop} (hy : 5306 ≤ nx) :
    mm_Wp 248 (mm_blk 248 2) [vx0, vx1, vx2, zI x3] [] (mm_z hi dh nx ns) Q =
    Q (zI x3) (mm_z hi dh nx ns) :=
  mm_kb bq_248_2 ((wp_3_3).trans (wp_90))
/-- PoolHouseModel.clearTree(I)V -/
theorem bq_249_0 : mm_blk 249 0 = bk_249_0 := by decide +kernel
theorem bq_249_1 : mm_blk 249 1 = bk_249_1 := by decide +kernel
theorem bq_249_2 : mm_blk 249 2 = bk_249_2 := by decide +kernel
theorem r_249_e (x1 : Int) {hi : mm_Id → Int → Int} {dh : Int → Int} {nx ns : Int} {Q : mm_V → mm_H → Prop} (hy : 5306 ≤ nx) :
    mm_Cl 249 [zR (40, 0, 0), zI x1] (mm_z hi dh nx ns) Q =
    mm_Wp 249 (mm_blk 249 1) [zR (40, 0, 0), zI x1, zI 1] [] (mm_z hi dh nx ns) Q :=
  mm_ce (l2 := [zR (40, 0, 0), zI x1, zU]) rfl (mm_kb bq_249_0 ((wp_1).trans ((wp_6 (l2 := [zR (40, 0, 0), zI x1, zI 1]) rfl).trans ((wp_0).trans (rfl)))))
theorem r_249_1 (x1 : Int) (x2 : Int) {hi : mm_Id → Int → Int} {dh : Int → Int} {nx ns : Int} {Q : mm_V → mm_H → Prop} (hy : 5306 ≤ nx) :
    mm_Wp 249 (mm_blk 249 1) [zR (40, 0, 0), zI x1, zI x2] [] (mm_z hi dh nx ns) Q =
    (if 36 < x2 then Q zU (mm_z hi dh nx ns) else mm_Cl 175 [zI x1, zI x2] (mm_z hi dh nx ns) (fun r h3 => mm_Wp 249 (bk_249_1.drop 7) [zR (40, 0, 0), zI x1, zI x2] (mm_push r [zR (40, 0, 0)]) h3 Q)) :=
  mm_kb bq_249_1 ((wp_3_2).trans ((wp_1).trans ((wp_50).trans (mm_ic (mm_kb bq_249_2 (wp_93)) ((wp_5_0).trans ((wp_3_1).trans ((wp_3_2).trans ((wp_s2 mm_n_175 (mm_leq mm_m_175 (mm_lb rfl)) (mm_lb rfl)).trans rfl))))))))
theorem r_249_1_7 (x1 : Int) (x2 : Int) (y0 : Int) {hi : mm_Id → Int → Int} {dh : Int → Int} {nx ns : Int} {Q : mm_V → mm_H → Prop} (hy : 5306 ≤ nx) :
    mm_Wp 249 (bk_249_1.drop 7) [zR (40, 0, 0), zI x1, zI x2] [zI y0, zR (40, 0, 0)] (mm_z hi dh nx ns) Q =
    mm_Cl 180 [zR (40, 0, 0), zI y0] (mm_z hi dh nx ns) (fun r h3 => mm_Wp 249 (bk_249_1.drop 8) [zR (40, 0, 0), zI x1, zI x2] (mm_push r []) h3 Q) :=
  (wp_v2 mm_n_180 (mm_leq mm_m_180 (mm_lb rfl)) (mm_lb rfl) (mm_o40 hy)).trans rfl
theorem r_249_1_8 (x1 : Int) (x2 : Int) {hi : mm_Id → Int → Int} {dh : Int → Int} {nx ns : Int} {Q : mm_V → mm_H → Prop} (hy : 5306 ≤ nx) :
    mm_Wp 249 (bk_249_1.drop 8) [zR (40, 0, 0), zI x1, zI x2] [] (mm_z hi dh nx ns) Q =
    mm_Wp 249 (mm_blk 249 1) [zR (40, 0, 0), zI x1, zI (mm_w (x2 + 1))] [] (mm_z hi dh nx ns) Q :=
  (wp_9 (l2 := [zR (40, 0, 0), zI x1, zI (mm_w (x2 + 1))]) rfl rfl).trans ((wp_56).trans (rfl))
/-- PoolHouseModel.snapshot(I)I -/
theorem bq_250_0 : mm_blk 250 0 = bk_250_0 := by decide +kernel
theorem bq_250_1 : mm_blk 250 1 = bk_250_1 := by decide +kernel
theorem bq_250_2 : mm_blk 250 2 = bk_250_2 := by decide +kernel
theorem bq_250_3 : mm_blk 250 3 = bk_250_3 := by decide +kernel
theorem r_250_e (x1 : Int) {hi : mm_Id → Int → Int} {dh : Int → Int} {nx ns : Int} {Q : mm_V → mm_H → Prop} (hy : 5306 ≤ nx) :
    mm_Cl 250 [zR (40, 0, 0), zI x1] (mm_z hi dh nx ns) Q =
    mm_Cl 182 [zR (40, 0, 0), zI x1] (mm_z (mm_up hi (40, 0, 0) 0 0) dh nx ns) (fun r h3 => mm_Wp 250 (bk_250_0.drop 6) [zR (40, 0, 0), zI x1, zU, zU] (mm_push r []) h3 Q) :=
  mm_ce (l2 := [zR (40, 0, 0), zI x1, zU, zU]) rfl (mm_kb bq_250_0 ((wp_5_0).trans ((wp_1).trans ((wp_63 (mm_o40 hy)).trans ((wp_5_0).trans ((wp_3_1).trans ((wp_v2 mm_n_182 (mm_leq mm_m_182 (mm_lb rfl)) (mm_lb rfl) (mm_o40 hy)).trans rfl)))))))
theorem r_250_0_6 (x1 : Int) (vx2 : mm_V) (vx3 : mm_V) (y0 : Int) {hi : mm_Id → Int → Int} {dh : Int → Int} {nx ns : Int} {Q : mm_V → mm_H → Prop} (hy : 5306 ≤ nx) :
    mm_Wp 250 (bk_250_0.drop 6) [zR (40, 0, 0), zI x1, vx2, vx3] [zI y0] (mm_z hi dh nx ns) Q =
    (if y0 < 0 then Q (zI (-1)) (mm_z hi dh nx ns) else (if (hi (40, 0, 0) 29) = 0 then mm_Cl 248 [zR (40, 0, 0), zI 5, zI 13] (mm_z hi dh nx ns) (fun r h3 => mm_Wp 250 (bk_250_2.drop 4) [zR (40, 0, 0), zI x1, zI y0, vx3] (mm_push r []) h3 Q) else Q (zI (-5)) (mm_z hi dh nx ns))) :=
  (wp_6 (l2 := [zR (40, 0, 0), zI x1, zI y0, vx3]) rfl).trans ((wp_3_2).trans ((wp_43).trans (mm_ic ((wp_1).trans (wp_90)) (mm_kb bq_250_1 ((wp_5_0).trans ((wp_60 (by decide) (mm_o40 hy)).trans ((wp_40).trans (mm_ic (mm_kb bq_250_2 ((wp_5_0).trans ((wp_1).trans ((wp_1).trans ((wp_v3 mm_n_248 (mm_leq mm_m_248 (mm_lb rfl)) (mm_lb rfl) (mm_o40 hy)).trans rfl))))) ((wp_1).trans (wp_90))))))))))
theorem r_250_2_4 (x1 : Int) (x2 : Int) (vx3 : mm_V) (y0 : Int) {hi : mm_Id → Int → Int} {dh : Int → Int} {nx ns : Int} {Q : mm_V → mm_H → Prop} (hy : 5306 ≤ nx) :
    mm_Wp 250 (bk_250_2.drop 4) [zR (40, 0, 0), zI x1, zI x2, vx3] [zI y0] (mm_z hi dh nx ns) Q =
    (if y0 = 13 then Q (zI (-4)) (mm_z hi dh nx ns) else ((0 ≤ y0 ∧ y0 < 26) ∧ ((0 ≤ y0 ∧ y0 < 26) ∧ ((0 ≤ y0 ∧ y0 < 26) ∧ mm_Cl 179 [zR (40, 0, 0), zI x2, zI y0] (mm_z (mm_up (mm_up (mm_up (mm_up hi (40, 0, 0) 25 (mm_w ((hi (40, 0, 0) 25) + 1))) (57, 0, 0) y0 ((mm_up hi (40, 0, 0) 25 (mm_w ((hi (40, 0, 0) 25) + 1))) (40, 0, 0) 25)) (58, 0, 0) y0 x1) (60, 0, 0) y0 0) dh nx ns) (fun r h3 => mm_Wp 250 (bk_250_3.drop 26) [zR (40, 0, 0), zI x1, zI x2, zI y0] (mm_push r []) h3 Q))))) :=
  (wp_6 (l2 := [zR (40, 0, 0), zI x1, zI x2, zI y0]) rfl).trans ((wp_3_3).trans ((wp_1).trans ((wp_47).trans (mm_ic ((wp_1).trans (wp_90)) (mm_kb bq_250_3 ((wp_5_0).trans ((wp_35r).trans ((wp_60 (by decide) (mm_o40 hy)).trans ((wp_1).trans ((wp_10).trans ((wp_63 (mm_o40 hy)).trans ((wp_5_0).trans ((wp_62 (by decide) (mm_o40 hy) (mm_r40_19 hy)).trans ((wp_3_3).trans ((wp_5_0).trans ((wp_60 (by decide) (mm_o40 hy)).trans ((wp_74 (mm_q57 hy)).trans (mm_ae ((wp_5_0).trans ((wp_62 (by decide) (mm_o40 hy) (mm_r40_20 hy)).trans ((wp_3_3).trans ((wp_3_1).trans ((wp_74 (mm_q58 hy)).trans (mm_ae ((wp_5_0).trans ((wp_62 (by decide) (mm_o40 hy) (mm_r40_22 hy)).trans ((wp_3_3).trans ((wp_1).trans ((wp_75z (by decide) (mm_q60 hy)).trans (mm_ae ((wp_5_0).trans ((wp_3_2).trans ((wp_3_3).trans ((wp_v3 mm_n_179 (mm_leq mm_m_179 (mm_lb rfl)) (mm_lb rfl) (mm_o40 hy)).trans rfl))))))))))))))))))))))))))))))))))
theorem r_250_3_26 (vx1 : mm_V) (vx2 : mm_V) (vx3 : mm_V) {hi : mm_Id → Int → Int} {dh : Int → Int} {nx ns : Int} {Q : mm_V → mm_H → Prop} (hy : 5306 ≤ nx) :
    mm_Wp 250 (bk_250_3.drop 26) [zR (40, 0, 0), vx1, vx2, vx3] [] (mm_z hi dh nx ns) Q =
    mm_Cl 208 [zR (40, 0, 0)] (mm_z hi dh nx ns) (fun r h3 => mm_Wp 250 (bk_250_3.drop 28) [zR (40, 0, 0), vx1, vx2, vx3] (mm_push r []) h3 Q) :=
  (wp_5_0).trans ((wp_v1 mm_n_208 (mm_leq mm_m_208 (mm_lb rfl)) (mm_lb rfl) (mm_o40 hy)).trans rfl)
theorem r_250_3_28 (vx1 : mm_V) (vx2 : mm_V) (vx3 : mm_V) {hi : mm_Id → Int → Int} {dh : Int → Int} {nx ns : Int} {Q : mm_V → mm_H → Prop} (hy : 5306 ≤ nx) :
    mm_Wp 250 (bk_250_3.drop 28) [zR (40, 0, 0), vx1, vx2, vx3] [] (mm_z hi dh nx ns) Q =
    Q (zI (hi (40, 0, 0) 25)) (mm_z hi dh nx ns) :=
  (wp_5_0).trans ((wp_60 (by decide) (mm_o40 hy)).trans (wp_90))
/-- PoolHouseModel.clone(I)I -/
theorem bq_251_0 : mm_blk 251 0 = bk_251_0 := by decide +kernel
theorem bq_251_1 : mm_blk 251 1 = bk_251_1 := by decide +kernel
theorem bq_251_2 : mm_blk 251 2 = bk_251_2 := by decide +kernel
theorem bq_251_3 : mm_blk 251 3 = bk_251_3 := by decide +kernel
theorem r_251_e (x1 : Int) {hi : mm_Id → Int → Int} {dh : Int → Int} {nx ns : Int} {Q : mm_V → mm_H → Prop} (hy : 5306 ≤ nx) :
    mm_Cl 251 [zR (40, 0, 0), zI x1] (mm_z hi dh nx ns) Q =
    mm_Cl 183 [zR (40, 0, 0), zI x1] (mm_z (mm_up hi (40, 0, 0) 0 0) dh nx ns) (fun r h3 => mm_Wp 251 (bk_251_0.drop 6) [zR (40, 0, 0), zI x1, zU, zU] (mm_push r []) h3 Q) :=
  mm_ce (l2 := [zR (40, 0, 0), zI x1, zU, zU]) rfl (mm_kb bq_251_0 ((wp_5_0).trans ((wp_1).trans ((wp_63 (mm_o40 hy)).trans ((wp_5_0).trans ((wp_3_1).trans ((wp_v2 mm_n_183 (mm_leq mm_m_183 (mm_lb rfl)) (mm_lb rfl) (mm_o40 hy)).trans rfl)))))))
theorem r_251_0_6 (x1 : Int) (vx2 : mm_V) (vx3 : mm_V) (y0 : Int) {hi : mm_Id → Int → Int} {dh : Int → Int} {nx ns : Int} {Q : mm_V → mm_H → Prop} (hy : 5306 ≤ nx) :
    mm_Wp 251 (bk_251_0.drop 6) [zR (40, 0, 0), zI x1, vx2, vx3] [zI y0] (mm_z hi dh nx ns) Q =
    (if y0 < 0 then Q (zI (-1)) (mm_z hi dh nx ns) else (if (hi (40, 0, 0) 29) = 0 then mm_Cl 248 [zR (40, 0, 0), zI 0, zI 5] (mm_z hi dh nx ns) (fun r h3 => mm_Wp 251 (bk_251_2.drop 4) [zR (40, 0, 0), zI x1, zI y0, vx3] (mm_push r []) h3 Q) else Q (zI (-5)) (mm_z hi dh nx ns))) :=
  (wp_6 (l2 := [zR (40, 0, 0), zI x1, zI y0, vx3]) rfl).trans ((wp_3_2).trans ((wp_43).trans (mm_ic ((wp_1).trans (wp_90)) (mm_kb bq_251_1 ((wp_5_0).trans ((wp_60 (by decide) (mm_o40 hy)).trans ((wp_40).trans (mm_ic (mm_kb bq_251_2 ((wp_5_0).trans ((wp_1).trans ((wp_1).trans ((wp_v3 mm_n_248 (mm_leq mm_m_248 (mm_lb rfl)) (mm_lb rfl) (mm_o40 hy)).trans rfl))))) ((wp_1).trans (wp_90))))))))))
theorem r_251_2_4 (x1 : Int) (x2 : Int) (vx3 : mm_V) (y0 : Int) {hi : mm_Id → Int → Int} {dh : Int → Int} {nx ns : Int} {Q : mm_V → mm_H → Prop} (hy : 5306 ≤ nx) :
    mm_Wp 251 (bk_251_2.drop 4) [zR (40, 0, 0), zI x1, zI x2, vx3] [zI y0] (mm_z hi dh nx ns) Q =
    (if y0 = 5 then Q (zI (-4)) (mm_z hi dh nx ns) else ((0 ≤ y0 ∧ y0 < 26) ∧ ((0 ≤ y0 ∧ y0 < 26) ∧ ((0 ≤ y0 ∧ y0 < 26) ∧ mm_Cl 202 [zR (40, 0, 0), zI y0] (mm_z (mm_up (mm_up (mm_up (mm_up hi (40, 0, 0) 24 (mm_w ((hi (40, 0, 0) 24) + 1))) (57, 0, 0) y0 ((mm_up hi (40, 0, 0) 24 (mm_w ((hi (40, 0, 0) 24) + 1))) (40, 0, 0) 24)) (58, 0, 0) y0 x1) (59, 0, 0) y0 400) dh nx ns) (fun r h3 => mm_Wp 251 (bk_251_3.drop 25) [zR (40, 0, 0), zI x1, zI x2, zI y0] (mm_push r []) h3 Q))))) :=
  (wp_6 (l2 := [zR (40, 0, 0), zI x1, zI x2, zI y0]) rfl).trans ((wp_3_3).trans ((wp_1).trans ((wp_47).trans (mm_ic ((wp_1).trans (wp_90)) (mm_kb bq_251_3 ((wp_5_0).trans ((wp_35r).trans ((wp_60 (by decide) (mm_o40 hy)).trans ((wp_1).trans ((wp_10).trans ((wp_63 (mm_o40 hy)).trans ((wp_5_0).trans ((wp_62 (by decide) (mm_o40 hy) (mm_r40_19 hy)).trans ((wp_3_3).trans ((wp_5_0).trans ((wp_60 (by decide) (mm_o40 hy)).trans ((wp_74 (mm_q57 hy)).trans (mm_ae ((wp_5_0).trans ((wp_62 (by decide) (mm_o40 hy) (mm_r40_20 hy)).trans ((wp_3_3).trans ((wp_3_1).trans ((wp_74 (mm_q58 hy)).trans (mm_ae ((wp_5_0).trans ((wp_62 (by decide) (mm_o40 hy) (mm_r40_21 hy)).trans ((wp_3_3).trans ((wp_1).trans ((wp_74 (mm_q59 hy)).trans (mm_ae ((wp_5_0).trans ((wp_3_3).trans ((wp_v2 mm_n_202 (mm_leq mm_m_202 (mm_lb rfl)) (mm_lb rfl) (mm_o40 hy)).trans rfl)))))))))))))))))))))))))))))))))
theorem r_251_3_25 (vx1 : mm_V) (x2 : Int) (x3 : Int) {hi : mm_Id → Int → Int} {dh : Int → Int} {nx ns : Int} {Q : mm_V → mm_H → Prop} (hy : 5306 ≤ nx) :
    mm_Wp 251 (bk_251_3.drop 25) [zR (40, 0, 0), vx1, zI x2, zI x3] [] (mm_z hi dh nx ns) Q =
    mm_Cl 179 [zR (40, 0, 0), zI x2, zI x3] (mm_z hi dh nx ns) (fun r h3 => mm_Wp 251 (bk_251_3.drop 29) [zR (40, 0, 0), vx1, zI x2, zI x3] (mm_push r []) h3 Q) :=
  (wp_5_0).trans ((wp_3_2).trans ((wp_3_3).trans ((wp_v3 mm_n_179 (mm_leq mm_m_179 (mm_lb rfl)) (mm_lb rfl) (mm_o40 hy)).trans rfl)))
theorem r_251_3_29 (vx1 : mm_V) (vx2 : mm_V) (x3 : Int) {hi : mm_Id → Int → Int} {dh : Int → Int} {nx ns : Int} {Q : mm_V → mm_H → Prop} (hy : 5306 ≤ nx) :
    mm_Wp 251 (bk_251_3.drop 29) [zR (40, 0, 0), vx1, vx2, zI x3] [] (mm_z hi dh nx ns) Q =
    mm_Cl 194 [zR (40, 0, 0), zI x3] (mm_z hi dh nx ns) (fun r h3 => mm_Wp 251 (bk_251_3.drop 32) [zR (40, 0, 0), vx1, vx2, zI x3] (mm_push r []) h3 Q) :=
  (wp_5_0).trans ((wp_3_3).trans ((wp_v2 mm_n_194 (mm_leq mm_m_194 (mm_lb rfl)) (mm_lb rfl) (mm_o40 hy)).trans rfl))
theorem r_251_3_32 (vx1 : mm_V) (vx2 : mm_V) (vx3 : mm_V) {hi : mm_Id → Int → Int} {dh : Int → Int} {nx ns : Int} {Q : mm_V → mm_H → Prop} (hy : 5306 ≤ nx) :
    mm_Wp 251 (bk_251_3.drop 32) [zR (40, 0, 0), vx1, vx2, vx3] [] (mm_z hi dh nx ns) Q =
    mm_Cl 208 [zR (40, 0, 0)] (mm_z hi dh nx ns) (fun r h3 => mm_Wp 251 (bk_251_3.drop 34) [zR (40, 0, 0), vx1, vx2, vx3] (mm_push r []) h3 Q) :=
  (wp_5_0).trans ((wp_v1 mm_n_208 (mm_leq mm_m_208 (mm_lb rfl)) (mm_lb rfl) (mm_o40 hy)).trans rfl)
theorem r_251_3_34 (vx1 : mm_V) (vx2 : mm_V) (vx3 : mm_V) {hi : mm_Id → Int → Int} {dh : Int → Int} {nx ns : Int} {Q : mm_V → mm_H → Prop} (hy : 5306 ≤ nx) :
    mm_Wp 251 (bk_251_3.drop 34) [zR (40, 0, 0), vx1, vx2, vx3] [] (mm_z hi dh nx ns) Q =
    Q (zI (hi (40, 0, 0) 24)) (mm_z hi dh nx ns) :=
  (wp_5_0).trans ((wp_60 (by decide) (mm_o40 hy)).trans (wp_90))
/-- PoolHouseModel.back(II)I -/
theorem bq_252_0 : mm_blk 252 0 = bk_252_0 := by decide +kernel
theorem bq_252_1 : mm_blk 252 1 = bk_252_1 := by decide +kernel
theorem bq_252_2 : mm_blk 252 2 = bk_252_2 := by decide +kernel
theorem bq_252_3 : mm_blk 252 3 = bk_252_3 := by decide +kernel
theorem bq_252_4 : mm_blk 252 4 = bk_252_4 := by decide +kernel
theorem bq_252_5 : mm_blk 252 5 = bk_252_5 := by decide +kernel
theorem bq_252_6 : mm_blk 252 6 = bk_252_6 := by decide +kernel
theorem bq_252_7 : mm_blk 252 7 = bk_252_7 := by decide +kernel
theorem bq_252_8 : mm_blk 252 8 = bk_252_8 := by decide +kernel
theorem bq_252_9 : mm_blk 252 9 = bk_252_9 := by decide +kernel
theorem bq_252_10 : mm_blk 252 10 = bk_252_10 := by decide +kernel
theorem bq_252_11 : mm_blk 252 11 = bk_252_11 := by decide +kernel
theorem bq_252_12 : mm_blk 252 12 = bk_252_12 := by decide +kernel
theorem bq_252_13 : mm_blk 252 13 = bk_252_13 := by decide +kernel
theorem bq_252_14 : mm_blk 252 14 = bk_252_14 := by decide +kernel
theorem r_252_e (x1 : Int) (x2 : Int) {hi : mm_Id → Int → Int} {dh : Int → Int} {nx ns : Int} {Q : mm_V → mm_H → Prop} (hy : 5306 ≤ nx) :
    mm_Cl 252 [zR (40, 0, 0), zI x1, zI x2] (mm_z hi dh nx ns) Q =
    mm_Cl 182 [zR (40, 0, 0), zI x1] (mm_z (mm_up hi (40, 0, 0) 0 0) dh nx ns) (fun r h3 => mm_Wp 252 (bk_252_0.drop 6) [zR (40, 0, 0), zI x1, zI x2, zU, zU, zU, zU] (mm_push r []) h3 Q) :=
  mm_ce (l2 := [zR (40, 0, 0), zI x1, zI x2, zU, zU, zU, zU]) rfl (mm_kb bq_252_0 ((wp_5_0).trans ((wp_1).trans ((wp_63 (mm_o40 hy)).trans ((wp_5_0).trans ((wp_3_1).trans ((wp_v2 mm_n_182 (mm_leq mm_m_182 (mm_lb rfl)) (mm_lb rfl) (mm_o40 hy)).trans rfl)))))))
theorem r_252_0_6 (x1 : Int) (x2 : Int) (vx3 : mm_V) (vx4 : mm_V) (vx5 : mm_V) (vx6 : mm_V) (y0 : Int) {hi : mm_Id → Int → Int} {dh : Int → Int} {nx ns : Int} {Q : mm_V → mm_H → Prop} (hy : 5306 ≤ nx) :
    mm_Wp 252 (bk_252_0.drop 6) [zR (40, 0, 0), zI x1, zI x2, vx3, vx4, vx5, vx6] [zI y0] (mm_z hi dh nx ns) Q =
    mm_Cl 183 [zR (40, 0, 0), zI x2] (mm_z hi dh nx ns) (fun r h3 => mm_Wp 252 (bk_252_0.drop 10) [zR (40, 0, 0), zI x1, zI x2, zI y0, vx4, vx5, vx6] (mm_push r []) h3 Q) :=
  (wp_6 (l2 := [zR (40, 0, 0), zI x1, zI x2, zI y0, vx4, vx5, vx6]) rfl).trans ((wp_5_0).trans ((wp_3_2).trans ((wp_v2 mm_n_183 (mm_leq mm_m_183 (mm_lb rfl)) (mm_lb rfl) (mm_o40 hy)).trans rfl)))
theorem r_252_0_10 (x1 : Int) (x2 : Int) (x3 : Int) (vx4 : mm_V) (vx5 : mm_V) (vx6 : mm_V) (y0 : Int) {hi : mm_Id → Int → Int} {dh : Int → Int} {nx ns : Int} {Q : mm_V → mm_H → Prop} (hy : 5306 ≤ nx) :
    mm_Wp 252 (bk_252_0.drop 10) [zR (40, 0, 0), zI x1, zI x2, zI x3, vx4, vx5, vx6] [zI y0] (mm_z hi dh nx ns) Q =
    (if x3 < 0 then mm_Wp 252 (mm_blk 252 1) [zR (40, 0, 0), zI x1, zI x2, zI x3, zI y0, vx5, vx6] [] (mm_z hi dh nx ns) Q else (if y0 < 0 then mm_Wp 252 (mm_blk 252 1) [zR (40, 0, 0), zI x1, zI x2, zI x3, zI y0, vx5, vx6] [] (mm_z hi dh nx ns) Q else mm_Wp 252 (mm_blk 252 3) [zR (40, 0, 0), zI x1, zI x2, zI x3, zI y0, zI 0, zI 5] [] (mm_z hi dh nx ns) Q)) :=
  (wp_6 (l2 := [zR (40, 0, 0), zI x1, zI x2, zI x3, zI y0, vx5, vx6]) rfl).trans ((wp_3_3).trans ((wp_42).trans (mm_ic (rfl) ((wp_3_4).trans ((wp_43).trans (mm_ic ((wp_0).trans (rfl)) (mm_kb bq_252_2 ((wp_1).trans ((wp_6 (l2 := [zR (40, 0, 0), zI x1, zI x2, zI x3, zI y0, zI 0, vx6]) rfl).trans ((wp_1).trans ((wp_6 (l2 := [zR (40, 0, 0), zI x1, zI x2, zI x3, zI y0, zI 0, zI 5]) rfl).trans ((wp_0).trans (rfl)))))))))))))
theorem r_252_1 (vx0 : mm_V) (vx1 : mm_V) (vx2 : mm_V) (vx3 : mm_V) (vx4 : mm_V) (vx5 : mm_V) (vx6 : mm_V) {hi : mm_Id → Int → Int} {dh : Int → Int} {nx ns : Int} {Q : mm_V → mm_H → Prop} (hy : 5306 ≤ nx) :
    mm_Wp 252 (mm_blk 252 1) [vx0, vx1, vx2, vx3, vx4, vx5, vx6] [] (mm_z hi dh nx ns) Q =
    Q (zI (-1)) (mm_z hi dh nx ns) :=
  mm_kb bq_252_1 ((wp_1).trans (wp_90))
theorem r_252_3 (x1 : Int) (x2 : Int) (x3 : Int) (x4 : Int) (x5 : Int) (x6 : Int) {hi : mm_Id → Int → Int} {dh : Int → Int} {nx ns : Int} {Q : mm_V → mm_H → Prop} (hy : 5306 ≤ nx) :
    mm_Wp 252 (mm_blk 252 3) [zR (40, 0, 0), zI x1, zI x2, zI x3, zI x4, zI x5, zI x6] [] (mm_z hi dh nx ns) Q =
    (if x6 < 13 then (if x5 = 0 then ((0 ≤ x6 ∧ x6 < 26) ∧ (if x2 < (hi (57, 0, 0) x6) then ((0 ≤ x6 ∧ x6 < 26) ∧ (if (hi (58, 0, 0) x6) = x1 then mm_Wp 252 (mm_blk 252 4) [zR (40, 0, 0), zI x1, zI x2, zI x3, zI x4, zI x5, zI x6] [] (mm_z hi dh nx ns) Q else mm_Wp 252 (mm_blk 252 5) [zR (40, 0, 0), zI x1, zI x2, zI x3, zI x4, zI x5, zI x6] [] (mm_z hi dh nx ns) Q)) else mm_Wp 252 (mm_blk 252 5) [zR (40, 0, 0), zI x1, zI x2, zI x3, zI x4, zI x5, zI x6] [] (mm_z hi dh nx ns) Q)) else mm_Wp 252 (mm_blk 252 4) [zR (40, 0, 0), zI x1, zI x2, zI x3, zI x4, zI x5, zI x6] [] (mm_z hi dh nx ns) Q) else ((0 ≤ x4 ∧ x4 < 26) ∧ (if (hi (58, 0, 0) x4) = x1 then (if x5 = 0 then (if (hi (40, 0, 0) 29) = 0 then mm_Cl 179 [zR (40, 0, 0), zI x3, zI 28] (mm_z hi dh nx ns) (fun r h3 => mm_Wp 252 (bk_252_10.drop 4) [zR (40, 0, 0), zI x1, zI x2, zI x3, zI x4, zI x5, zI x6] (mm_push r []) h3 Q) else Q (zI (-5)) (mm_z hi dh nx ns)) else mm_Wp 252 (mm_blk 252 8) [zR (40, 0, 0), zI x1, zI x2, zI x3, zI x4, zI x5, zI x6] [] (mm_z hi dh nx ns) Q) else mm_Wp 252 (mm_blk 252 8) [zR (40, 0, 0), zI x1, zI x2, zI x3, zI x4, zI x5, zI x6] [] (mm_z hi dh nx ns) Q))) :=
  mm_kb bq_252_3 ((wp_3_6).trans ((wp_1).trans ((wp_49).trans (mm_ic ((wp_3_5).trans ((wp_41).trans (mm_ic ((wp_5_0).trans ((wp_62 (by decide) (mm_o40 hy) (mm_r40_19 hy)).trans ((wp_3_6).trans ((wp_70 (mm_q57 hy)).trans (mm_ae ((wp_3_2).trans ((wp_51).trans (mm_ic ((wp_5_0).trans ((wp_62 (by decide) (mm_o40 hy) (mm_r40_20 hy)).trans ((wp_3_6).trans ((wp_70 (mm_q58 hy)).trans (mm_ae ((wp_3_1).trans ((wp_47).trans (mm_ic ((wp_0).trans (rfl)) (rfl))))))))) (rfl))))))))) (rfl)))) (mm_kb bq_252_7 ((wp_5_0).trans ((wp_62 (by decide) (mm_o40 hy) (mm_r40_20 hy)).trans ((wp_3_4).trans ((wp_70 (mm_q58 hy)).trans (mm_ae ((wp_3_1).trans ((wp_47).trans (mm_ic ((wp_3_5).trans ((wp_40).trans (mm_ic (mm_kb bq_252_9 ((wp_5_0).trans ((wp_60 (by decide) (mm_o40 hy)).trans ((wp_40).trans (mm_ic (mm_kb bq_252_10 ((wp_5_0).trans ((wp_3_3).trans ((wp_1).trans ((wp_v3 mm_n_179 (mm_leq mm_m_179 (mm_lb rfl)) (mm_lb rfl) (mm_o40 hy)).trans rfl))))) ((wp_1).trans (wp_90))))))) ((wp_0).trans (rfl))))) (rfl))))))))))))))
theorem r_252_8 (vx0 : mm_V) (vx1 : mm_V) (vx2 : mm_V) (vx3 : mm_V) (vx4 : mm_V) (vx5 : mm_V) (vx6 : mm_V) {hi : mm_Id → Int → Int} {dh : Int → Int} {nx ns : Int} {Q : mm_V → mm_H → Prop} (hy : 5306 ≤ nx) :
    mm_Wp 252 (mm_blk 252 8) [vx0, vx1, vx2, vx3, vx4, vx5, vx6] [] (mm_z hi dh nx ns) Q =
    Q (zI (-3)) (mm_z hi dh nx ns) :=
  mm_kb bq_252_8 ((wp_1).trans (wp_90))
theorem r_252_10_4 (vx1 : mm_V) (vx2 : mm_V) (x3 : Int) (x4 : Int) (vx5 : mm_V) (vx6 : mm_V) {hi : mm_Id → Int → Int} {dh : Int → Int} {nx ns : Int} {Q : mm_V → mm_H → Prop} (hy : 5306 ≤ nx) :
    mm_Wp 252 (bk_252_10.drop 4) [zR (40, 0, 0), vx1, vx2, zI x3, zI x4, vx5, vx6] [] (mm_z hi dh nx ns) Q =
    mm_Cl 179 [zR (40, 0, 0), zI x4, zI x3] (mm_z hi dh nx ns) (fun r h3 => mm_Wp 252 (bk_252_10.drop 8) [zR (40, 0, 0), vx1, vx2, zI x3, zI x4, vx5, vx6] (mm_push r []) h3 Q) :=
  (wp_5_0).trans ((wp_3_4).trans ((wp_3_3).trans ((wp_v3 mm_n_179 (mm_leq mm_m_179 (mm_lb rfl)) (mm_lb rfl) (mm_o40 hy)).trans rfl)))
theorem r_252_4 (x1 : Int) (x2 : Int) (x3 : Int) (x4 : Int) (vx5 : mm_V) (x6 : Int) {hi : mm_Id → Int → Int} {dh : Int → Int} {nx ns : Int} {Q : mm_V → mm_H → Prop} (hy : 5306 ≤ nx) :
    mm_Wp 252 (mm_blk 252 4) [zR (40, 0, 0), zI x1, zI x2, zI x3, zI x4, vx5, zI x6] [] (mm_z hi dh nx ns) Q =
    mm_Wp 252 (mm_blk 252 6) [zR (40, 0, 0), zI x1, zI x2, zI x3, zI x4, vx5, zI x6] [zI 1] (mm_z hi dh nx ns) Q :=
  mm_kb bq_252_4 ((wp_1).trans ((wp_56).trans (rfl)))
theorem r_252_5 (x1 : Int) (x2 : Int) (x3 : Int) (x4 : Int) (vx5 : mm_V) (x6 : Int) {hi : mm_Id → Int → Int} {dh : Int → Int} {nx ns : Int} {Q : mm_V → mm_H → Prop} (hy : 5306 ≤ nx) :
    mm_Wp 252 (mm_blk 252 5) [zR (40, 0, 0), zI x1, zI x2, zI x3, zI x4, vx5, zI x6] [] (mm_z hi dh nx ns) Q =
    mm_Wp 252 (mm_blk 252 6) [zR (40, 0, 0), zI x1, zI x2, zI x3, zI x4, vx5, zI x6] [zI 0] (mm_z hi dh nx ns) Q :=
  mm_kb bq_252_5 ((wp_1).trans ((wp_0).trans (rfl)))
theorem r_252_10_8 (vx1 : mm_V) (vx2 : mm_V) (x3 : Int) (vx4 : mm_V) (vx5 : mm_V) (vx6 : mm_V) {hi : mm_Id → Int → Int} {dh : Int → Int} {nx ns : Int} {Q : mm_V → mm_H → Prop} (hvx5 : mm_wt vx5 = 1) (hy : 5306 ≤ nx) :
    mm_Wp 252 (bk_252_10.drop 8) [zR (40, 0, 0), vx1, vx2, zI x3, vx4, vx5, vx6] [] (mm_z hi dh nx ns) Q =
    mm_Wp 252 (mm_blk 252 11) [zR (40, 0, 0), vx1, vx2, zI x3, vx4, vx5, zI 1] [] (mm_z hi dh nx ns) Q :=
  (wp_1).trans ((wp_6 (l2 := [zR (40, 0, 0), vx1, vx2, zI x3, vx4, vx5, zI 1]) ((if_pos (mm_lb rfl)).trans (congrArg some (mm_stw rfl hvx5)))).trans ((wp_0).trans (rfl)))
theorem r_252_6 (x1 : Int) (x2 : Int) (x3 : Int) (x4 : Int) (vx5 : mm_V) (x6 : Int) (y0 : Int) {hi : mm_Id → Int → Int} {dh : Int → Int} {nx ns : Int} {Q : mm_V → mm_H → Prop} (hy : 5306 ≤ nx) :
    mm_Wp 252 (mm_blk 252 6) [zR (40, 0, 0), zI x1, zI x2, zI x3, zI x4, vx5, zI x6] [zI y0] (mm_z hi dh nx ns) Q =
    mm_Wp 252 (mm_blk 252 3) [zR (40, 0, 0), zI x1, zI x2, zI x3, zI x4, zI y0, zI (mm_w (x6 + 1))] [] (mm_z hi dh nx ns) Q :=
  mm_kb bq_252_6 ((wp_6 (l2 := [zR (40, 0, 0), zI x1, zI x2, zI x3, zI x4, zI y0, zI x6]) rfl).trans ((wp_9 (l2 := [zR (40, 0, 0), zI x1, zI x2, zI x3, zI x4, zI y0, zI (mm_w (x6 + 1))]) rfl rfl).trans ((wp_56).trans (rfl))))
theorem r_252_11 (vx1 : mm_V) (vx2 : mm_V) (x3 : Int) (vx4 : mm_V) (vx5 : mm_V) (x6 : Int) {hi : mm_Id → Int → Int} {dh : Int → Int} {nx ns : Int} {Q : mm_V → mm_H → Prop} (hy : 5306 ≤ nx) :
    mm_Wp 252 (mm_blk 252 11) [zR (40, 0, 0), vx1, vx2, zI x3, vx4, vx5, zI x6] [] (mm_z hi dh nx ns) Q =
    (if 36 < x6 then mm_Cl 201 [zR (40, 0, 0), zI x3] (mm_z hi dh nx ns) (fun r h3 => mm_Wp 252 (bk_252_13.drop 3) [zR (40, 0, 0), vx1, vx2, zI x3, vx4, vx5, zI x6] (mm_push r []) h3 Q) else mm_Cl 177 [zR (40, 0, 0), zI x3, zI x6] (mm_z hi dh nx ns) (fun r h3 => mm_Wp 252 (bk_252_11.drop 7) [zR (40, 0, 0), vx1, vx2, zI x3, vx4, vx5, zI x6] (mm_push r []) h3 Q)) :=
  mm_kb bq_252_11 ((wp_3_6).trans ((wp_1).trans ((wp_50).trans (mm_ic (mm_kb bq_252_13 ((wp_5_0).trans ((wp_3_3).trans ((wp_v2 mm_n_201 (mm_leq mm_m_201 (mm_lb rfl)) (mm_lb rfl) (mm_o40 hy)).trans rfl)))) ((wp_5_0).trans ((wp_3_3).trans ((wp_3_6).trans ((wp_v3 mm_n_177 (mm_leq mm_m_177 (mm_lb rfl)) (mm_lb rfl) (mm_o40 hy)).trans rfl))))))))
theorem r_252_13_3 (vx1 : mm_V) (vx2 : mm_V) (x3 : Int) (vx4 : mm_V) (vx5 : mm_V) (vx6 : mm_V) (y0 : Int) {hi : mm_Id → Int → Int} {dh : Int → Int} {nx ns : Int} {Q : mm_V → mm_H → Prop} (hy : 5306 ≤ nx) :
    mm_Wp 252 (bk_252_13.drop 3) [zR (40, 0, 0), vx1, vx2, zI x3, vx4, vx5, vx6] [zI y0] (mm_z hi dh nx ns) Q =
    (if y0 = 0 then mm_Cl 179 [zR (40, 0, 0), zI 28, zI x3] (mm_z hi dh nx ns) (fun r h3 => mm_Wp 252 (bk_252_13.drop 8) [zR (40, 0, 0), vx1, vx2, zI x3, vx4, vx5, vx6] (mm_push r []) h3 Q) else mm_Cl 194 [zR (40, 0, 0), zI x3] (mm_z hi dh nx ns) (fun r h3 => mm_Wp 252 (bk_252_14.drop 3) [zR (40, 0, 0), vx1, vx2, zI x3, vx4, vx5, vx6] (mm_push r []) h3 Q)) :=
  (wp_41).trans (mm_ic ((wp_5_0).trans ((wp_1).trans ((wp_3_3).trans ((wp_v3 mm_n_179 (mm_leq mm_m_179 (mm_lb rfl)) (mm_lb rfl) (mm_o40 hy)).trans rfl)))) (mm_kb bq_252_14 ((wp_5_0).trans ((wp_3_3).trans ((wp_v2 mm_n_194 (mm_leq mm_m_194 (mm_lb rfl)) (mm_lb rfl) (mm_o40 hy)).trans rfl)))))
theorem r_252_11_7 (vx1 : mm_V) (vx2 : mm_V) (x3 : Int) (vx4 : mm_V) (vx5 : mm_V) (x6 : Int) (y0 : Int) {hi : mm_Id → Int → Int} {dh : Int → Int} {nx ns : Int} {Q : mm_V → mm_H → Prop} (hy : 5306 ≤ nx) :
    mm_Wp 252 (bk_252_11.drop 7) [zR (40, 0, 0), vx1, vx2, zI x3, vx4, vx5, zI x6] [zI y0] (mm_z hi dh nx ns) Q =
    (if y0 = 0 then mm_Wp 252 (mm_blk 252 12) [zR (40, 0, 0), vx1, vx2, zI x3, vx4, vx5, zI x6] [] (mm_z hi dh nx ns) Q else mm_Cl 188 [zR (40, 0, 0), zI x3, zI x6] (mm_z hi dh nx ns) (fun r h3 => mm_Wp 252 (bk_252_11.drop 12) [zR (40, 0, 0), vx1, vx2, zI x3, vx4, vx5, zI x6] (mm_push r []) h3 Q)) :=
  (wp_40).trans (mm_ic (rfl) ((wp_5_0).trans ((wp_3_3).trans ((wp_3_6).trans ((wp_v3 mm_n_188 (mm_leq mm_m_188 (mm_lb rfl)) (mm_lb rfl) (mm_o40 hy)).trans rfl)))))
theorem r_252_14_3 (vx1 : mm_V) (vx2 : mm_V) (vx3 : mm_V) (vx4 : mm_V) (vx5 : mm_V) (vx6 : mm_V) {hi : mm_Id → Int → Int} {dh : Int → Int} {nx ns : Int} {Q : mm_V → mm_H → Prop} (hy : 5306 ≤ nx) :
    mm_Wp 252 (bk_252_14.drop 3) [zR (40, 0, 0), vx1, vx2, vx3, vx4, vx5, vx6] [] (mm_z hi dh nx ns) Q =
    mm_Cl 208 [zR (40, 0, 0)] (mm_z hi dh nx ns) (fun r h3 => mm_Wp 252 (bk_252_14.drop 5) [zR (40, 0, 0), vx1, vx2, vx3, vx4, vx5, vx6] (mm_push r []) h3 Q) :=
  (wp_5_0).trans ((wp_v1 mm_n_208 (mm_leq mm_m_208 (mm_lb rfl)) (mm_lb rfl) (mm_o40 hy)).trans rfl)
theorem r_252_13_8 (vx0 : mm_V) (vx1 : mm_V) (vx2 : mm_V) (vx3 : mm_V) (vx4 : mm_V) (vx5 : mm_V) (vx6 : mm_V) {hi : mm_Id → Int → Int} {dh : Int → Int} {nx ns : Int} {Q : mm_V → mm_H → Prop} (hy : 5306 ≤ nx) :
    mm_Wp 252 (bk_252_13.drop 8) [vx0, vx1, vx2, vx3, vx4, vx5, vx6] [] (mm_z hi dh nx ns) Q =
    Q (zI (-4)) (mm_z hi dh nx ns) :=
  (wp_1).trans (wp_90)
theorem r_252_12 (vx1 : mm_V) (vx2 : mm_V) (x3 : Int) (vx4 : mm_V) (vx5 : mm_V) (x6 : Int) {hi : mm_Id → Int → Int} {dh : Int → Int} {nx ns : Int} {Q : mm_V → mm_H → Prop} (hy : 5306 ≤ nx) :
    mm_Wp 252 (mm_blk 252 12) [zR (40, 0, 0), vx1, vx2, zI x3, vx4, vx5, zI x6] [] (mm_z hi dh nx ns) Q =
    mm_Wp 252 (mm_blk 252 11) [zR (40, 0, 0), vx1, vx2, zI x3, vx4, vx5, zI (mm_w (x6 + 1))] [] (mm_z hi dh nx ns) Q :=
  mm_kb bq_252_12 ((wp_9 (l2 := [zR (40, 0, 0), vx1, vx2, zI x3, vx4, vx5, zI (mm_w (x6 + 1))]) rfl rfl).trans ((wp_56).trans (rfl)))
theorem r_252_11_12 (vx1 : mm_V) (vx2 : mm_V) (x3 : Int) (vx4 : mm_V) (vx5 : mm_V) (x6 : Int) (y0 : Int) {hi : mm_Id → Int → Int} {dh : Int → Int} {nx ns : Int} {Q : mm_V → mm_H → Prop} (hy : 5306 ≤ nx) :
    mm_Wp 252 (bk_252_11.drop 12) [zR (40, 0, 0), vx1, vx2, zI x3, vx4, vx5, zI x6] [zI y0] (mm_z hi dh nx ns) Q =
    (if y0 = 0 then mm_Cl 175 [zI x3, zI x6] (mm_z hi dh nx ns) (fun r h3 => mm_Wp 252 (bk_252_11.drop 17) [zR (40, 0, 0), vx1, vx2, zI x3, vx4, vx5, zI x6] (mm_push r [zR (40, 0, 0)]) h3 Q) else mm_Wp 252 (mm_blk 252 12) [zR (40, 0, 0), vx1, vx2, zI x3, vx4, vx5, zI x6] [] (mm_z hi dh nx ns) Q) :=
  (wp_41).trans (mm_ic ((wp_5_0).trans ((wp_3_3).trans ((wp_3_6).trans ((wp_s2 mm_n_175 (mm_leq mm_m_175 (mm_lb rfl)) (mm_lb rfl)).trans rfl)))) (rfl))
theorem r_252_14_5 (vx0 : mm_V) (vx1 : mm_V) (vx2 : mm_V) (vx3 : mm_V) (vx4 : mm_V) (vx5 : mm_V) (vx6 : mm_V) {hi : mm_Id → Int → Int} {dh : Int → Int} {nx ns : Int} {Q : mm_V → mm_H → Prop} (hy : 5306 ≤ nx) :
    mm_Wp 252 (bk_252_14.drop 5) [vx0, vx1, vx2, vx3, vx4, vx5, vx6] [] (mm_z hi dh nx ns) Q =
    Q (zI 1) (mm_z hi dh nx ns) :=
  (wp_1).trans (wp_90)
theorem r_252_11_17 (vx1 : mm_V) (vx2 : mm_V) (x3 : Int) (vx4 : mm_V) (vx5 : mm_V) (x6 : Int) (y0 : Int) {hi : mm_Id → Int → Int} {dh : Int → Int} {nx ns : Int} {Q : mm_V → mm_H → Prop} (hy : 5306 ≤ nx) :
    mm_Wp 252 (bk_252_11.drop 17) [zR (40, 0, 0), vx1, vx2, zI x3, vx4, vx5, zI x6] [zI y0, zR (40, 0, 0)] (mm_z hi dh nx ns) Q =
    mm_Cl 180 [zR (40, 0, 0), zI y0] (mm_z hi dh nx ns) (fun r h3 => mm_Wp 252 (bk_252_11.drop 18) [zR (40, 0, 0), vx1, vx2, zI x3, vx4, vx5, zI x6] (mm_push r []) h3 Q) :=
  (wp_v2 mm_n_180 (mm_leq mm_m_180 (mm_lb rfl)) (mm_lb rfl) (mm_o40 hy)).trans rfl
theorem r_252_11_18 (vx1 : mm_V) (vx2 : mm_V) (x3 : Int) (vx4 : mm_V) (vx5 : mm_V) (x6 : Int) {hi : mm_Id → Int → Int} {dh : Int → Int} {nx ns : Int} {Q : mm_V → mm_H → Prop} (hy : 5306 ≤ nx) :
    mm_Wp 252 (bk_252_11.drop 18) [zR (40, 0, 0), vx1, vx2, zI x3, vx4, vx5, zI x6] [] (mm_z hi dh nx ns) Q =
    mm_Wp 252 (mm_blk 252 12) [zR (40, 0, 0), vx1, vx2, zI x3, vx4, vx5, zI x6] [] (mm_z hi dh nx ns) Q :=
  (wp_0).trans (rfl)
/-- PoolHouseModel.destroy(I)I -/
theorem bq_253_0 : mm_blk 253 0 = bk_253_0 := by decide +kernel
theorem bq_253_1 : mm_blk 253 1 = bk_253_1 := by decide +kernel
theorem bq_253_2 : mm_blk 253 2 = bk_253_2 := by decide +kernel
theorem bq_253_3 : mm_blk 253 3 = bk_253_3 := by decide +kernel
theorem bq_253_4 : mm_blk 253 4 = bk_253_4 := by decide +kernel
theorem bq_253_5 : mm_blk 253 5 = bk_253_5 := by decide +kernel
theorem bq_253_6 : mm_blk 253 6 = bk_253_6 := by decide +kernel
theorem bq_253_7 : mm_blk 253 7 = bk_253_7 := by decide +kernel
theorem bq_253_8 : mm_blk 253 8 = bk_253_8 := by decide +kernel
theorem bq_253_9 : mm_blk 253 9 = bk_253_9 := by decide +kernel
theorem bq_253_10 : mm_blk 253 10 = bk_253_10 := by decide +kernel
theorem bq_253_11 : mm_blk 253 11 = bk_253_11 := by decide +kernel
theorem bq_253_12 : mm_blk 253 12 = bk_253_12 := by decide +kernel
theorem bq_253_13 : mm_blk 253 13 = bk_253_13 := by decide +kernel
theorem bq_253_14 : mm_blk 253 14 = bk_253_14 := by decide +kernel
theorem bq_253_15 : mm_blk 253 15 = bk_253_15 := by decide +kernel
theorem bq_253_16 : mm_blk 253 16 = bk_253_16 := by decide +kernel
theorem bq_253_17 : mm_blk 253 17 = bk_253_17 := by decide +kernel
theorem bq_253_18 : mm_blk 253 18 = bk_253_18 := by decide +kernel
theorem bq_253_19 : mm_blk 253 19 = bk_253_19 := by decide +kernel
theorem r_253_e (x1 : Int) {hi : mm_Id → Int → Int} {dh : Int → Int} {nx ns : Int} {Q : mm_V → mm_H → Prop} (hy : 5306 ≤ nx) :
    mm_Cl 253 [zR (40, 0, 0), zI x1] (mm_z hi dh nx ns) Q =
    mm_Cl 181 [zR (40, 0, 0), zI x1] (mm_z (mm_up hi (40, 0, 0) 0 0) dh nx ns) (fun r h3 => mm_Wp 253 (bk_253_0.drop 6) [zR (40, 0, 0), zI x1, zU, zU, zU, zU, zU] (mm_push r []) h3 Q) :=
  mm_ce (l2 := [zR (40, 0, 0), zI x1, zU, zU, zU, zU, zU]) rfl (mm_kb bq_253_0 ((wp_5_0).trans ((wp_1).trans ((wp_63 (mm_o40 hy)).trans ((wp_5_0).trans ((wp_3_1).trans ((wp_v2 mm_n_181 (mm_leq mm_m_181 (mm_lb rfl)) (mm_lb rfl) (mm_o40 hy)).trans rfl)))))))
theorem r_253_0_6 (x1 : Int) (vx2 : mm_V) (vx3 : mm_V) (vx4 : mm_V) (vx5 : mm_V) (vx6 : mm_V) (y0 : Int) {hi : mm_Id → Int → Int} {dh : Int → Int} {nx ns : Int} {Q : mm_V → mm_H → Prop} (hy : 5306 ≤ nx) :
    mm_Wp 253 (bk_253_0.drop 6) [zR (40, 0, 0), zI x1, vx2, vx3, vx4, vx5, vx6] [zI y0] (mm_z hi dh nx ns) Q =
    (if y0 < 0 then Q (zI (-1)) (mm_z hi dh nx ns) else mm_Wp 253 (mm_blk 253 2) [zR (40, 0, 0), zI x1, zI y0, zI 0, zI 0, vx5, vx6] [] (mm_z hi dh nx ns) Q) :=
  (wp_6 (l2 := [zR (40, 0, 0), zI x1, zI y0, vx3, vx4, vx5, vx6]) rfl).trans ((wp_3_2).trans ((wp_43).trans (mm_ic ((wp_1).trans (wp_90)) (mm_kb bq_253_1 ((wp_1).trans ((wp_6 (l2 := [zR (40, 0, 0), zI x1, zI y0, zI 0, vx4, vx5, vx6]) rfl).trans ((wp_1).trans ((wp_6 (l2 := [zR (40, 0, 0), zI x1, zI y0, zI 0, zI 0, vx5, vx6]) rfl).trans ((wp_0).trans (rfl))))))))))
theorem r_253_2 (x1 : Int) (x2 : Int) (x3 : Int) (x4 : Int) (vx5 : mm_V) (vx6 : mm_V) {hi : mm_Id → Int → Int} {dh : Int → Int} {nx ns : Int} {Q : mm_V → mm_H → Prop} (hy : 5306 ≤ nx) :
    mm_Wp 253 (mm_blk 253 2) [zR (40, 0, 0), zI x1, zI x2, zI x3, zI x4, vx5, vx6] [] (mm_z hi dh nx ns) Q =
    (if x4 < 5 then ((0 ≤ x4 ∧ x4 < 26) ∧ (if 0 < (hi (57, 0, 0) x4) then mm_Wp 253 (mm_blk 253 4) [zR (40, 0, 0), zI x1, zI x2, zI x3, zI x4, vx5, vx6] [zI 1, zI x3] (mm_z hi dh nx ns) Q else mm_Wp 253 (mm_blk 253 4) [zR (40, 0, 0), zI x1, zI x2, zI x3, zI x4, vx5, vx6] [zI 0, zI x3] (mm_z hi dh nx ns) Q)) else (if x2 < 5 then (if x3 = 1 then mm_Wp 253 (mm_blk 253 8) [zR (40, 0, 0), zI x1, zI x2, zI x3, zI x4, vx5, vx6] [zI 1] (mm_z hi dh nx ns) Q else mm_Wp 253 (mm_blk 253 8) [zR (40, 0, 0), zI x1, zI x2, zI x3, zI x4, vx5, vx6] [zI 0] (mm_z hi dh nx ns) Q) else ((0 ≤ x2 ∧ x2 < 26) ∧ mm_Wp 253 (mm_blk 253 8) [zR (40, 0, 0), zI x1, zI x2, zI x3, zI x4, vx5, vx6] [zI (hi (60, 0, 0) x2)] (mm_z hi dh nx ns) Q))) :=
  mm_kb bq_253_2 ((wp_3_4).trans ((wp_1).trans ((wp_49).trans (mm_ic ((wp_3_3).trans ((wp_5_0).trans ((wp_62 (by decide) (mm_o40 hy) (mm_r40_19 hy)).trans ((wp_3_4).trans ((wp_70 (mm_q57 hy)).trans (mm_ae ((wp_45).trans (mm_ic ((wp_1).trans ((wp_56).trans (rfl))) (mm_kb bq_253_3 ((wp_1).trans ((wp_0).trans (rfl)))))))))))) (mm_kb bq_253_5 ((wp_3_2).trans ((wp_1).trans ((wp_48).trans (mm_ic (mm_kb bq_253_6 ((wp_3_3).trans ((wp_1).trans ((wp_47).trans (mm_ic ((wp_1).trans ((wp_56).trans (rfl))) (mm_kb bq_253_7 ((wp_1).trans ((wp_0).trans (rfl))))))))) ((wp_5_0).trans ((wp_62 (by decide) (mm_o40 hy) (mm_r40_22 hy)).trans ((wp_3_2).trans ((wp_71z (mm_q60 hy)).trans (mm_ae ((wp_56).trans (rfl))))))))))))))))
theorem r_253_8 (x1 : Int) (x2 : Int) (vx3 : mm_V) (vx4 : mm_V) (vx5 : mm_V) (vx6 : mm_V) (y0 : Int) {hi : mm_Id → Int → Int} {dh : Int → Int} {nx ns : Int} {Q : mm_V → mm_H → Prop} (hvx3 : mm_wt vx3 = 1) (hy : 5306 ≤ nx) :
    mm_Wp 253 (mm_blk 253 8) [zR (40, 0, 0), zI x1, zI x2, vx3, vx4, vx5, vx6] [zI y0] (mm_z hi dh nx ns) Q =
    mm_Wp 253 (mm_blk 253 9) [zR (40, 0, 0), zI x1, zI x2, vx3, zI y0, zI 0, vx6] [] (mm_z hi dh nx ns) Q :=
  mm_kb bq_253_8 ((wp_6 (l2 := [zR (40, 0, 0), zI x1, zI x2, vx3, zI y0, vx5, vx6]) ((if_pos (mm_lb rfl)).trans (congrArg some (mm_stw rfl hvx3)))).trans ((wp_1).trans ((wp_6 (l2 := [zR (40, 0, 0), zI x1, zI x2, vx3, zI y0, zI 0, vx6]) rfl).trans ((wp_0).trans (rfl)))))
theorem r_253_4 (x1 : Int) (x2 : Int) (vx3 : mm_V) (x4 : Int) (vx5 : mm_V) (vx6 : mm_V) (y0 : Int) (y1 : Int) {hi : mm_Id → Int → Int} {dh : Int → Int} {nx ns : Int} {Q : mm_V → mm_H → Prop} (hy : 5306 ≤ nx) :
    mm_Wp 253 (mm_blk 253 4) [zR (40, 0, 0), zI x1, zI x2, vx3, zI x4, vx5, vx6] [zI y0, zI y1] (mm_z hi dh nx ns) Q =
    mm_Wp 253 (mm_blk 253 2) [zR (40, 0, 0), zI x1, zI x2, zI (mm_w (y1 + y0)), zI (mm_w (x4 + 1)), vx5, vx6] [] (mm_z hi dh nx ns) Q :=
  mm_kb bq_253_4 ((wp_10).trans ((wp_6 (l2 := [zR (40, 0, 0), zI x1, zI x2, zI (mm_w (y1 + y0)), zI x4, vx5, vx6]) rfl).trans ((wp_9 (l2 := [zR (40, 0, 0), zI x1, zI x2, zI (mm_w (y1 + y0)), zI (mm_w (x4 + 1)), vx5, vx6]) rfl rfl).trans ((wp_56).trans (rfl)))))
theorem r_253_9 (x1 : Int) (x2 : Int) (vx3 : mm_V) (x4 : Int) (x5 : Int) (vx6 : mm_V) {hi : mm_Id → Int → Int} {dh : Int → Int} {nx ns : Int} {Q : mm_V → mm_H → Prop} (hy : 5306 ≤ nx) :
    mm_Wp 253 (mm_blk 253 9) [zR (40, 0, 0), zI x1, zI x2, vx3, zI x4, zI x5, vx6] [] (mm_z hi dh nx ns) Q =
    (if x5 < 13 then ((0 ≤ x5 ∧ x5 < 26) ∧ (if 0 < (hi (57, 0, 0) x5) then (if x2 < 5 then (if x5 < 5 then mm_Wp 253 (mm_blk 253 12) [zR (40, 0, 0), zI x1, zI x2, vx3, zI x4, zI x5, vx6] [] (mm_z hi dh nx ns) Q else ((0 ≤ x5 ∧ x5 < 26) ∧ (if (hi (58, 0, 0) x5) = x1 then mm_Wp 253 (mm_blk 253 11) [zR (40, 0, 0), zI x1, zI x2, vx3, zI x4, zI x5, vx6] [] (mm_z hi dh nx ns) Q else mm_Wp 253 (mm_blk 253 12) [zR (40, 0, 0), zI x1, zI x2, vx3, zI x4, zI x5, vx6] [] (mm_z hi dh nx ns) Q))) else (if x5 < 5 then ((0 ≤ x5 ∧ x5 < 26) ∧ (if (hi (58, 0, 0) x5) = (mm_w (-x1)) then mm_Wp 253 (mm_blk 253 11) [zR (40, 0, 0), zI x1, zI x2, vx3, zI x4, zI x5, vx6] [] (mm_z hi dh nx ns) Q else mm_Wp 253 (mm_blk 253 12) [zR (40, 0, 0), zI x1, zI x2, vx3, zI x4, zI x5, vx6] [] (mm_z hi dh nx ns) Q)) else mm_Wp 253 (mm_blk 253 12) [zR (40, 0, 0), zI x1, zI x2, vx3, zI x4, zI x5, vx6] [] (mm_z hi dh nx ns) Q)) else mm_Wp 253 (mm_blk 253 12) [zR (40, 0, 0), zI x1, zI x2, vx3, zI x4, zI x5, vx6] [] (mm_z hi dh nx ns) Q)) else (if x4 = 0 then (if (hi (40, 0, 0) 29) = 0 then mm_Cl 199 [zR (40, 0, 0), zI (-1)] (mm_z hi dh nx ns) (fun r h3 => mm_Wp 253 (bk_253_19.drop 3) [zR (40, 0, 0), zI x1, zI x2, vx3, zI x4, zI x5, vx6] (mm_push r []) h3 Q) else Q (zI (-5)) (mm_z hi dh nx ns)) else Q (zI (-3)) (mm_z hi dh nx ns))) :=
  mm_kb bq_253_9 ((wp_3_5).trans ((wp_1).trans ((wp_49).trans (mm_ic ((wp_5_0).trans ((wp_62 (by decide) (mm_o40 hy) (mm_r40_19 hy)).trans ((wp_3_5).trans ((wp_70 (mm_q57 hy)).trans (mm_ae ((wp_45).trans (mm_ic ((wp_3_2).trans ((wp_1).trans ((wp_49).trans (mm_ic ((wp_3_5).trans ((wp_1).trans ((wp_48).trans (mm_ic (rfl) ((wp_5_0).trans ((wp_62 (by decide) (mm_o40 hy) (mm_r40_20 hy)).trans ((wp_3_5).trans ((wp_70 (mm_q58 hy)).trans (mm_ae ((wp_3_1).trans ((wp_47).trans (mm_ic ((wp_56).trans (rfl)) (rfl))))))))))))) (mm_kb bq_253_10 ((wp_3_5).trans ((wp_1).trans ((wp_49).trans (mm_ic ((wp_5_0).trans ((wp_62 (by decide) (mm_o40 hy) (mm_r40_20 hy)).trans ((wp_3_5).trans ((wp_70 (mm_q58 hy)).trans (mm_ae ((wp_3_1).trans ((wp_15).trans ((wp_47).trans (mm_ic ((wp_0).trans (rfl)) (rfl)))))))))) (rfl)))))))))) (rfl)))))))) (mm_kb bq_253_17 ((wp_3_4).trans ((wp_40).trans (mm_ic (mm_kb bq_253_18 ((wp_5_0).trans ((wp_60 (by decide) (mm_o40 hy)).trans ((wp_40).trans (mm_ic (mm_kb bq_253_19 ((wp_5_0).trans ((wp_1).trans ((wp_v2 mm_n_199 (mm_leq mm_m_199 (mm_lb rfl)) (mm_lb rfl) (mm_o40 hy)).trans rfl)))) ((wp_1).trans (wp_90))))))) ((wp_1).trans (wp_90))))))))))
theorem r_253_19_3 (vx1 : mm_V) (x2 : Int) (vx3 : mm_V) (vx4 : mm_V) (vx5 : mm_V) (vx6 : mm_V) (y0 : Int) {hi : mm_Id → Int → Int} {dh : Int → Int} {nx ns : Int} {Q : mm_V → mm_H → Prop} (hvx4 : mm_wt vx4 = 1) (hy : 5306 ≤ nx) :
    mm_Wp 253 (bk_253_19.drop 3) [zR (40, 0, 0), vx1, zI x2, vx3, vx4, vx5, vx6] [zI y0] (mm_z hi dh nx ns) Q =
    mm_Cl 193 [zR (40, 0, 0), zI x2] (mm_z hi dh nx ns) (fun r h3 => mm_Wp 253 (bk_253_19.drop 7) [zR (40, 0, 0), vx1, zI x2, vx3, vx4, zI y0, vx6] (mm_push r []) h3 Q) :=
  (wp_6 (l2 := [zR (40, 0, 0), vx1, zI x2, vx3, vx4, zI y0, vx6]) ((if_pos (mm_lb rfl)).trans (congrArg some (mm_stw rfl hvx4)))).trans ((wp_5_0).trans ((wp_3_2).trans ((wp_v2 mm_n_193 (mm_leq mm_m_193 (mm_lb rfl)) (mm_lb rfl) (mm_o40 hy)).trans rfl)))
theorem r_253_12 (x1 : Int) (x2 : Int) (vx3 : mm_V) (x4 : Int) (x5 : Int) (vx6 : mm_V) {hi : mm_Id → Int → Int} {dh : Int → Int} {nx ns : Int} {Q : mm_V → mm_H → Prop} (hy : 5306 ≤ nx) :
    mm_Wp 253 (mm_blk 253 12) [zR (40, 0, 0), zI x1, zI x2, vx3, zI x4, zI x5, vx6] [] (mm_z hi dh nx ns) Q =
    mm_Wp 253 (mm_blk 253 13) [zR (40, 0, 0), zI x1, zI x2, vx3, zI x4, zI x5, vx6] [zI 0] (mm_z hi dh nx ns) Q :=
  mm_kb bq_253_12 ((wp_1).trans ((wp_0).trans (rfl)))
theorem r_253_11 (x1 : Int) (x2 : Int) (vx3 : mm_V) (x4 : Int) (x5 : Int) (vx6 : mm_V) {hi : mm_Id → Int → Int} {dh : Int → Int} {nx ns : Int} {Q : mm_V → mm_H → Prop} (hy : 5306 ≤ nx) :
    mm_Wp 253 (mm_blk 253 11) [zR (40, 0, 0), zI x1, zI x2, vx3, zI x4, zI x5, vx6] [] (mm_z hi dh nx ns) Q =
    mm_Wp 253 (mm_blk 253 13) [zR (40, 0, 0), zI x1, zI x2, vx3, zI x4, zI x5, vx6] [zI 1] (mm_z hi dh nx ns) Q :=
  mm_kb bq_253_11 ((wp_1).trans ((wp_56).trans (rfl)))
theorem r_253_19_7 (vx1 : mm_V) (x2 : Int) (vx3 : mm_V) (vx4 : mm_V) (x5 : Int) (vx6 : mm_V) {hi : mm_Id → Int → Int} {dh : Int → Int} {nx ns : Int} {Q : mm_V → mm_H → Prop} (hy : 5306 ≤ nx) :
    mm_Wp 253 (bk_253_19.drop 7) [zR (40, 0, 0), vx1, zI x2, vx3, vx4, zI x5, vx6] [] (mm_z hi dh nx ns) Q =
    ((0 ≤ x2 ∧ x2 < 26) ∧ mm_Cl 249 [zR (40, 0, 0), zI x2] (mm_z (mm_up hi (57, 0, 0) x2 0) dh nx ns) (fun r h3 => mm_Wp 253 (bk_253_19.drop 15) [zR (40, 0, 0), vx1, zI x2, vx3, vx4, zI x5, vx6] (mm_push r []) h3 Q)) :=
  (wp_5_0).trans ((wp_62 (by decide) (mm_o40 hy) (mm_r40_19 hy)).trans ((wp_3_2).trans ((wp_1).trans ((wp_74 (mm_q57 hy)).trans (mm_ae ((wp_5_0).trans ((wp_3_2).trans ((wp_v2 mm_n_249 (mm_leq mm_m_249 (mm_lb rfl)) (mm_lb rfl) (mm_o40 hy)).trans rfl))))))))
theorem r_253_13 (x1 : Int) (x2 : Int) (vx3 : mm_V) (x4 : Int) (x5 : Int) (vx6 : mm_V) (y0 : Int) {hi : mm_Id → Int → Int} {dh : Int → Int} {nx ns : Int} {Q : mm_V → mm_H → Prop} (hy : 5306 ≤ nx) :
    mm_Wp 253 (mm_blk 253 13) [zR (40, 0, 0), zI x1, zI x2, vx3, zI x4, zI x5, vx6] [zI y0] (mm_z hi dh nx ns) Q =
    (if x4 = 0 then (if y0 = 0 then mm_Wp 253 (mm_blk 253 16) [zR (40, 0, 0), zI x1, zI x2, vx3, zI x4, zI x5, zI y0] [zI 0] (mm_z hi dh nx ns) Q else mm_Wp 253 (mm_blk 253 14) [zR (40, 0, 0), zI x1, zI x2, vx3, zI x4, zI x5, zI y0] [] (mm_z hi dh nx ns) Q) else mm_Wp 253 (mm_blk 253 14) [zR (40, 0, 0), zI x1, zI x2, vx3, zI x4, zI x5, zI y0] [] (mm_z hi dh nx ns) Q) :=
  mm_kb bq_253_13 ((wp_6 (l2 := [zR (40, 0, 0), zI x1, zI x2, vx3, zI x4, zI x5, zI y0]) rfl).trans ((wp_3_4).trans ((wp_41).trans (mm_ic ((wp_3_6).trans ((wp_40).trans (mm_ic (mm_kb bq_253_15 ((wp_1).trans ((wp_0).trans (rfl)))) ((wp_0).trans (rfl))))) (rfl)))))
theorem r_253_19_15 (vx1 : mm_V) (vx2 : mm_V) (vx3 : mm_V) (vx4 : mm_V) (x5 : Int) (vx6 : mm_V) {hi : mm_Id → Int → Int} {dh : Int → Int} {nx ns : Int} {Q : mm_V → mm_H → Prop} (hy : 5306 ≤ nx) :
    mm_Wp 253 (bk_253_19.drop 15) [zR (40, 0, 0), vx1, vx2, vx3, vx4, zI x5, vx6] [] (mm_z hi dh nx ns) Q =
    mm_Cl 199 [zR (40, 0, 0), zI (-1)] (mm_z hi dh nx ns) (fun r h3 => mm_Wp 253 (bk_253_19.drop 18) [zR (40, 0, 0), vx1, vx2, vx3, vx4, zI x5, vx6] (mm_push r []) h3 Q) :=
  (wp_5_0).trans ((wp_1).trans ((wp_v2 mm_n_199 (mm_leq mm_m_199 (mm_lb rfl)) (mm_lb rfl) (mm_o40 hy)).trans rfl))
theorem r_253_14 (x1 : Int) (x2 : Int) (vx3 : mm_V) (vx4 : mm_V) (x5 : Int) (vx6 : mm_V) {hi : mm_Id → Int → Int} {dh : Int → Int} {nx ns : Int} {Q : mm_V → mm_H → Prop} (hy : 5306 ≤ nx) :
    mm_Wp 253 (mm_blk 253 14) [zR (40, 0, 0), zI x1, zI x2, vx3, vx4, zI x5, vx6] [] (mm_z hi dh nx ns) Q =
    mm_Wp 253 (mm_blk 253 16) [zR (40, 0, 0), zI x1, zI x2, vx3, vx4, zI x5, vx6] [zI 1] (mm_z hi dh nx ns) Q :=
  mm_kb bq_253_14 ((wp_1).trans ((wp_56).trans (rfl)))
theorem r_253_16 (x1 : Int) (x2 : Int) (vx3 : mm_V) (vx4 : mm_V) (x5 : Int) (vx6 : mm_V) (y0 : Int) {hi : mm_Id → Int → Int} {dh : Int → Int} {nx ns : Int} {Q : mm_V → mm_H → Prop} (hvx3 : mm_wt vx3 = 1) (hy : 5306 ≤ nx) :
    mm_Wp 253 (mm_blk 253 16) [zR (40, 0, 0), zI x1, zI x2, vx3, vx4, zI x5, vx6] [zI y0] (mm_z hi dh nx ns) Q =
    mm_Wp 253 (mm_blk 253 9) [zR (40, 0, 0), zI x1, zI x2, vx3, zI y0, zI (mm_w (x5 + 1)), vx6] [] (mm_z hi dh nx ns) Q :=
  mm_kb bq_253_16 ((wp_6 (l2 := [zR (40, 0, 0), zI x1, zI x2, vx3, zI y0, zI x5, vx6]) ((if_pos (mm_lb rfl)).trans (congrArg some (mm_stw rfl hvx3)))).trans ((wp_9 (l2 := [zR (40, 0, 0), zI x1, zI x2, vx3, zI y0, zI (mm_w (x5 + 1)), vx6]) rfl rfl).trans ((wp_56).trans (rfl))))
theorem r_253_19_18 (vx1 : mm_V) (vx2 : mm_V) (vx3 : mm_V) (vx4 : mm_V) (x5 : Int) (vx6 : mm_V) (y0 : Int) {hi : mm_Id → Int → Int} {dh : Int → Int} {nx ns : Int} {Q : mm_V → mm_H → Prop} (hy : 5306 ≤ nx) :
    mm_Wp 253 (bk_253_19.drop 18) [zR (40, 0, 0), vx1, vx2, vx3, vx4, zI x5, vx6] [zI y0] (mm_z hi dh nx ns) Q =
    mm_Cl 208 [zR (40, 0, 0)] (mm_z hi dh nx ns) (fun r h3 => mm_Wp 253 (bk_253_19.drop 21) [zR (40, 0, 0), vx1, vx2, vx3, vx4, zI x5, zI y0] (mm_push r []) h3 Q) :=
  (wp_6 (l2 := [zR (40, 0, 0), vx1, vx2, vx3, vx4, zI x5, zI y0]) rfl).trans ((wp_5_0).trans ((wp_v1 mm_n_208 (mm_leq mm_m_208 (mm_lb rfl)) (mm_lb rfl) (mm_o40 hy)).trans rfl))
theorem r_253_19_21 (vx0 : mm_V) (vx1 : mm_V) (vx2 : mm_V) (vx3 : mm_V) (vx4 : mm_V) (x5 : Int) (x6 : Int) {hi : mm_Id → Int → Int} {dh : Int → Int} {nx ns : Int} {Q : mm_V → mm_H → Prop} (hy : 5306 ≤ nx) :
    mm_Wp 253 (bk_253_19.drop 21) [vx0, vx1, vx2, vx3, vx4, zI x5, zI x6] [] (mm_z hi dh nx ns) Q =
    Q (zI (mm_w (x5 - x6))) (mm_z hi dh nx ns) :=
  (wp_3_5).trans ((wp_3_6).trans ((wp_11).trans (wp_90)))
/-- PoolHouseModel.hold(IZ)I -/
theorem bq_254_0 : mm_blk 254 0 = bk_254_0 := by decide +kernel
theorem bq_254_1 : mm_blk 254 1 = bk_254_1 := by decide +kernel
theorem bq_254_2 : mm_blk 254 2 = bk_254_2 := by decide +kernel
theorem bq_254_3 : mm_blk 254 3 = bk_254_3 := by decide +kernel
theorem bq_254_4 : mm_blk 254 4 = bk_254_4 := by decide +kernel
theorem r_254_e (x1 : Int) (x2 : Int) {hi : mm_Id → Int → Int} {dh : Int → Int} {nx ns : Int} {Q : mm_V → mm_H → Prop} (hy : 5306 ≤ nx) :
    mm_Cl 254 [zR (40, 0, 0), zI x1, zI x2] (mm_z hi dh nx ns) Q =
    mm_Cl 183 [zR (40, 0, 0), zI x1] (mm_z (mm_up hi (40, 0, 0) 0 0) dh nx ns) (fun r h3 => mm_Wp 254 (bk_254_0.drop 6) [zR (40, 0, 0), zI x1, zI x2, zU, zU] (mm_push r []) h3 Q) :=
  mm_ce (l2 := [zR (40, 0, 0), zI x1, zI x2, zU, zU]) rfl (mm_kb bq_254_0 ((wp_5_0).trans ((wp_1).trans ((wp_63 (mm_o40 hy)).trans ((wp_5_0).trans ((wp_3_1).trans ((wp_v2 mm_n_183 (mm_leq mm_m_183 (mm_lb rfl)) (mm_lb rfl) (mm_o40 hy)).trans rfl)))))))
theorem r_254_0_6 (vx1 : mm_V) (x2 : Int) (vx3 : mm_V) (vx4 : mm_V) (y0 : Int) {hi : mm_Id → Int → Int} {dh : Int → Int} {nx ns : Int} {Q : mm_V → mm_H → Prop} (hy : 5306 ≤ nx) :
    mm_Wp 254 (bk_254_0.drop 6) [zR (40, 0, 0), vx1, zI x2, vx3, vx4] [zI y0] (mm_z hi dh nx ns) Q =
    (if y0 < 0 then Q (zI (-1)) (mm_z hi dh nx ns) else (if (hi (40, 0, 0) 29) = 0 then ((0 ≤ y0 ∧ y0 < 26) ∧ (if (hi (60, 0, 0) y0) = 0 then mm_Wp 254 (mm_blk 254 4) [zR (40, 0, 0), vx1, zI x2, zI y0, vx4] [zI 0] (mm_z hi dh nx ns) Q else mm_Wp 254 (mm_blk 254 4) [zR (40, 0, 0), vx1, zI x2, zI y0, vx4] [zI 1] (mm_z hi dh nx ns) Q)) else Q (zI (-5)) (mm_z hi dh nx ns))) :=
  (wp_6 (l2 := [zR (40, 0, 0), vx1, zI x2, zI y0, vx4]) rfl).trans ((wp_3_3).trans ((wp_43).trans (mm_ic ((wp_1).trans (wp_90)) (mm_kb bq_254_1 ((wp_5_0).trans ((wp_60 (by decide) (mm_o40 hy)).trans ((wp_40).trans (mm_ic (mm_kb bq_254_2 ((wp_5_0).trans ((wp_62 (by decide) (mm_o40 hy) (mm_r40_22 hy)).trans ((wp_3_3).trans ((wp_71z (mm_q60 hy)).trans (mm_ae ((wp_40).trans (mm_ic (mm_kb bq_254_3 ((wp_1).trans ((wp_0).trans (rfl)))) ((wp_1).trans ((wp_56).trans (rfl))))))))))) ((wp_1).trans (wp_90))))))))))
theorem r_254_4 (vx1 : mm_V) (x2 : Int) (x3 : Int) (vx4 : mm_V) (y0 : Int) {hi : mm_Id → Int → Int} {dh : Int → Int} {nx ns : Int} {Q : mm_V → mm_H → Prop} (hy : 5306 ≤ nx) :
    mm_Wp 254 (mm_blk 254 4) [zR (40, 0, 0), vx1, zI x2, zI x3, vx4] [zI y0] (mm_z hi dh nx ns) Q =
    (((x2 = 0 ∨ x2 = 1) ∧ 0 ≤ x3 ∧ x3 < 26) ∧ mm_Cl 208 [zR (40, 0, 0)] (mm_z (mm_up hi (60, 0, 0) x3 x2) dh nx ns) (fun r h3 => mm_Wp 254 (bk_254_4.drop 8) [zR (40, 0, 0), vx1, zI x2, zI x3, zI y0] (mm_push r []) h3 Q)) :=
  mm_kb bq_254_4 ((wp_6 (l2 := [zR (40, 0, 0), vx1, zI x2, zI x3, zI y0]) rfl).trans ((wp_5_0).trans ((wp_62 (by decide) (mm_o40 hy) (mm_r40_22 hy)).trans ((wp_3_3).trans ((wp_3_2).trans ((wp_75zv (mm_q60 hy)).trans (mm_ae ((wp_5_0).trans ((wp_v1 mm_n_208 (mm_leq mm_m_208 (mm_lb rfl)) (mm_lb rfl) (mm_o40 hy)).trans rfl)))))))))
theorem r_254_4_8 (vx0 : mm_V) (vx1 : mm_V) (vx2 : mm_V) (vx3 : mm_V) (x4 : Int) {hi : mm_Id → Int → Int} {dh : Int → Int} {nx ns : Int} {Q : mm_V → mm_H → Prop} (hy : 5306 ≤ nx) :
    mm_Wp 254 (bk_254_4.drop 8) [vx0, vx1, vx2, vx3, zI x4] [] (mm_z hi dh nx ns) Q =
    Q (zI x4) (mm_z hi dh nx ns) :=
  (wp_3_4).trans (wp_90)
/-- PoolHouseModel.quota(II)I -/
theorem bq_255_0 : mm_blk 255 0 = bk_255_0 := by decide +kernel
theorem bq_255_1 : mm_blk 255 1 = bk_255_1 := by decide +kernel
theorem bq_255_2 : mm_blk 255 2 = bk_255_2 := by decide +kernel
theorem bq_255_3 : mm_blk 255 3 = bk_255_3 := by decide +kernel
theorem bq_255_4 : mm_blk 255 4 = bk_255_4 := by decide +kernel
theorem r_255_e (x1 : Int) (x2 : Int) {hi : mm_Id → Int → Int} {dh : Int → Int} {nx ns : Int} {Q : mm_V → mm_H → Prop} (hy : 5306 ≤ nx) :
    mm_Cl 255 [zR (40, 0, 0), zI x1, zI x2] (mm_z hi dh nx ns) Q =
    mm_Cl 182 [zR (40, 0, 0), zI x1] (mm_z (mm_up hi (40, 0, 0) 0 0) dh nx ns) (fun r h3 => mm_Wp 255 (bk_255_0.drop 6) [zR (40, 0, 0), zI x1, zI x2, zU, zU] (mm_push r []) h3 Q) :=
  mm_ce (l2 := [zR (40, 0, 0), zI x1, zI x2, zU, zU]) rfl (mm_kb bq_255_0 ((wp_5_0).trans ((wp_1).trans ((wp_63 (mm_o40 hy)).trans ((wp_5_0).trans ((wp_3_1).trans ((wp_v2 mm_n_182 (mm_leq mm_m_182 (mm_lb rfl)) (mm_lb rfl) (mm_o40 hy)).trans rfl)))))))
theorem r_255_0_6 (vx1 : mm_V) (x2 : Int) (vx3 : mm_V) (vx4 : mm_V) (y0 : Int) {hi : mm_Id → Int → Int} {dh : Int → Int} {nx ns : Int} {Q : mm_V → mm_H → Prop} (hy : 5306 ≤ nx) :
    mm_Wp 255 (bk_255_0.drop 6) [zR (40, 0, 0), vx1, zI x2, vx3, vx4] [zI y0] (mm_z hi dh nx ns) Q =
    (if y0 < 0 then Q (zI (-1)) (mm_z hi dh nx ns) else mm_Cl 174 [zL x2, zL 0, zL 400] (mm_z hi dh nx ns) (fun r h3 => mm_Wp 255 (bk_255_1.drop 5) [zR (40, 0, 0), vx1, zI x2, zI y0, vx4] (mm_push r []) h3 Q)) :=
  (wp_6 (l2 := [zR (40, 0, 0), vx1, zI x2, zI y0, vx4]) rfl).trans ((wp_3_3).trans ((wp_43).trans (mm_ic ((wp_1).trans (wp_90)) (mm_kb bq_255_1 ((wp_3_2).trans ((wp_31).trans ((wp_2).trans ((wp_2).trans ((wp_s3 mm_n_174 (mm_leq mm_m_174 (mm_lb rfl)) (mm_lb rfl)).trans rfl)))))))))
theorem r_255_1_5 (vx1 : mm_V) (x2 : Int) (x3 : Int) (vx4 : mm_V) (y0 : Int) {hi : mm_Id → Int → Int} {dh : Int → Int} {nx ns : Int} {Q : mm_V → mm_H → Prop} (hy : 5306 ≤ nx) :
    mm_Wp 255 (bk_255_1.drop 5) [zR (40, 0, 0), vx1, zI x2, zI x3, vx4] [zI y0] (mm_z hi dh nx ns) Q =
    (if y0 = 0 then Q (zI (-2)) (mm_z hi dh nx ns) else mm_Cl 200 [zR (40, 0, 0), zI x3] (mm_z hi dh nx ns) (fun r h3 => mm_Wp 255 (bk_255_2.drop 3) [zR (40, 0, 0), vx1, zI x2, zI x3, vx4] (mm_push r []) h3 Q)) :=
  (wp_41).trans (mm_ic ((wp_1).trans (wp_90)) (mm_kb bq_255_2 ((wp_5_0).trans ((wp_3_3).trans ((wp_v2 mm_n_200 (mm_leq mm_m_200 (mm_lb rfl)) (mm_lb rfl) (mm_o40 hy)).trans rfl)))))
theorem r_255_2_3 (vx1 : mm_V) (x2 : Int) (x3 : Int) (vx4 : mm_V) (y0 : Int) {hi : mm_Id → Int → Int} {dh : Int → Int} {nx ns : Int} {Q : mm_V → mm_H → Prop} (hy : 5306 ≤ nx) :
    mm_Wp 255 (bk_255_2.drop 3) [zR (40, 0, 0), vx1, zI x2, zI x3, vx4] [zI y0] (mm_z hi dh nx ns) Q =
    (if x2 < y0 then Q (zI (-3)) (mm_z hi dh nx ns) else (if (hi (40, 0, 0) 29) = 0 then ((0 ≤ x3 ∧ x3 < 26) ∧ ((0 ≤ x3 ∧ x3 < 26) ∧ mm_Cl 208 [zR (40, 0, 0)] (mm_z (mm_up hi (59, 0, 0) x3 x2) dh nx ns) (fun r h3 => mm_Wp 255 (bk_255_4.drop 12) [zR (40, 0, 0), vx1, zI x2, zI x3, zI (hi (59, 0, 0) x3)] (mm_push r []) h3 Q))) else Q (zI (-5)) (mm_z hi dh nx ns))) :=
  (wp_3_2).trans ((wp_51).trans (mm_ic ((wp_1).trans (wp_90)) (mm_kb bq_255_3 ((wp_5_0).trans ((wp_60 (by decide) (mm_o40 hy)).trans ((wp_40).trans (mm_ic (mm_kb bq_255_4 ((wp_5_0).trans ((wp_62 (by decide) (mm_o40 hy) (mm_r40_21 hy)).trans ((wp_3_3).trans ((wp_70 (mm_q59 hy)).trans (mm_ae ((wp_6 (l2 := [zR (40, 0, 0), vx1, zI x2, zI x3, zI (hi (59, 0, 0) x3)]) rfl).trans ((wp_5_0).trans ((wp_62 (by decide) (mm_o40 hy) (mm_r40_21 hy)).trans ((wp_3_3).trans ((wp_3_2).trans ((wp_74 (mm_q59 hy)).trans (mm_ae ((wp_5_0).trans ((wp_v1 mm_n_208 (mm_leq mm_m_208 (mm_lb rfl)) (mm_lb rfl) (mm_o40 hy)).trans rfl))))))))))))))) ((wp_1).trans (wp_90)))))))))
theorem r_255_4_12 (vx0 : mm_V) (vx1 : mm_V) (vx2 : mm_V) (vx3 : mm_V) (x4 : Int) {hi : mm_Id → Int → Int} {dh : Int → Int} {nx ns : Int} {Q : mm_V → mm_H → Prop} (hy : 5306 ≤ nx) :
    mm_Wp 255 (bk_255_4.drop 12) [vx0, vx1, vx2, vx3, zI x4] [] (mm_z hi dh nx ns) Q =
    Q (zI x4) (mm_z hi dh nx ns) :=
  (wp_3_4).trans (wp_90)
/-- PoolHouseModel.held(IZ)I -/
theorem bq_256_0 : mm_blk 256 0 = bk_256_0 := by decide +kernel
theorem bq_256_1 : mm_blk 256 1 = bk_256_1 := by decide +kernel
theorem bq_256_2 : mm_blk 256 2 = bk_256_2 := by decide +kernel
theorem bq_256_3 : mm_blk 256 3 = bk_256_3 := by decide +kernel
theorem bq_256_4 : mm_blk 256 4 = bk_256_4 := by decide +kernel
theorem bq_256_5 : mm_blk 256 5 = bk_256_5 := by decide +kernel
theorem r_256_e (x1 : Int) (x2 : Int) {hi : mm_Id → Int → Int} {dh : Int → Int} {nx ns : Int} {Q : mm_V → mm_H → Prop} (hy : 5306 ≤ nx) :
    mm_Cl 256 [zR (40, 0, 0), zI x1, zI x2] (mm_z hi dh nx ns) Q =
    (if x1 = 0 then (if x2 = 0 then mm_Cl 199 [zR (40, 0, 0), zI (-1)] (mm_z (mm_up hi (40, 0, 0) 0 0) dh nx ns) (fun r h3 => mm_Wp 256 (bk_256_1.drop 3) [zR (40, 0, 0), zI x1, zI x2, zU, zU] (mm_push r []) h3 Q) else mm_Wp 256 (mm_blk 256 2) [zR (40, 0, 0), zI x1, zI x2, zU, zU] [zI (-2)] (mm_z (mm_up hi (40, 0, 0) 0 0) dh nx ns) Q) else mm_Cl 181 [zR (40, 0, 0), zI x1] (mm_z (mm_up hi (40, 0, 0) 0 0) dh nx ns) (fun r h3 => mm_Wp 256 (bk_256_3.drop 3) [zR (40, 0, 0), zI x1, zI x2, zU, zU] (mm_push r []) h3 Q)) :=
  mm_ce (l2 := [zR (40, 0, 0), zI x1, zI x2, zU, zU]) rfl (mm_kb bq_256_0 ((wp_5_0).trans ((wp_1).trans ((wp_63 (mm_o40 hy)).trans ((wp_3_1).trans ((wp_41).trans (mm_ic ((wp_3_2).trans ((wp_40).trans (mm_ic (mm_kb bq_256_1 ((wp_5_0).trans ((wp_1).trans ((wp_v2 mm_n_199 (mm_leq mm_m_199 (mm_lb rfl)) (mm_lb rfl) (mm_o40 hy)).trans rfl)))) ((wp_1).trans ((wp_56).trans (rfl)))))) (mm_kb bq_256_3 ((wp_5_0).trans ((wp_3_1).trans ((wp_v2 mm_n_181 (mm_leq mm_m_181 (mm_lb rfl)) (mm_lb rfl) (mm_o40 hy)).trans rfl)))))))))))
theorem r_256_3_3 (vx1 : mm_V) (x2 : Int) (vx3 : mm_V) (vx4 : mm_V) (y0 : Int) {hi : mm_Id → Int → Int} {dh : Int → Int} {nx ns : Int} {Q : mm_V → mm_H → Prop} (hy : 5306 ≤ nx) :
    mm_Wp 256 (bk_256_3.drop 3) [zR (40, 0, 0), vx1, zI x2, vx3, vx4] [zI y0] (mm_z hi dh nx ns) Q =
    (if y0 < 0 then Q (zI (-1)) (mm_z hi dh nx ns) else (if x2 = 0 then mm_Cl 200 [zR (40, 0, 0), zI y0] (mm_z hi dh nx ns) (fun r h3 => mm_Wp 256 (bk_256_4.drop 5) [zR (40, 0, 0), vx1, zI x2, zI y0, vx4] (mm_push r []) h3 Q) else mm_Cl 199 [zR (40, 0, 0), zI y0] (mm_z hi dh nx ns) (fun r h3 => mm_Wp 256 (bk_256_5.drop 3) [zR (40, 0, 0), vx1, zI x2, zI y0, vx4] (mm_push r []) h3 Q))) :=
  (wp_6 (l2 := [zR (40, 0, 0), vx1, zI x2, zI y0, vx4]) rfl).trans ((wp_3_3).trans ((wp_43).trans (mm_ic ((wp_1).trans (wp_90)) (mm_kb bq_256_4 ((wp_3_2).trans ((wp_41).trans (mm_ic ((wp_5_0).trans ((wp_3_3).trans ((wp_v2 mm_n_200 (mm_leq mm_m_200 (mm_lb rfl)) (mm_lb rfl) (mm_o40 hy)).trans rfl))) (mm_kb bq_256_5 ((wp_5_0).trans ((wp_3_3).trans ((wp_v2 mm_n_199 (mm_leq mm_m_199 (mm_lb rfl)) (mm_lb rfl) (mm_o40 hy)).trans rfl)))))))))))
theorem r_256_1_3 (vx0 : mm_V) (vx1 : mm_V) (vx2 : mm_V) (vx3 : mm_V) (vx4 : mm_V) (y0 : Int) {hi : mm_Id → Int → Int} {dh : Int → Int} {nx ns : Int} {Q : mm_V → mm_H → Prop} (hy : 5306 ≤ nx) :
    mm_Wp 256 (bk_256_1.drop 3) [vx0, vx1, vx2, vx3, vx4] [zI y0] (mm_z hi dh nx ns) Q =
    mm_Wp 256 (mm_blk 256 2) [vx0, vx1, vx2, vx3, vx4] [zI y0] (mm_z hi dh nx ns) Q :=
  (wp_0).trans (rfl)
theorem r_256_2 (vx0 : mm_V) (vx1 : mm_V) (vx2 : mm_V) (vx3 : mm_V) (vx4 : mm_V) (y0 : Int) {hi : mm_Id → Int → Int} {dh : Int → Int} {nx ns : Int} {Q : mm_V → mm_H → Prop} (hy : 5306 ≤ nx) :
    mm_Wp 256 (mm_blk 256 2) [vx0, vx1, vx2, vx3, vx4] [zI y0] (mm_z hi dh nx ns) Q =
    Q (zI y0) (mm_z hi dh nx ns) :=
  mm_kb bq_256_2 (wp_90)
theorem r_256_5_3 (vx1 : mm_V) (vx2 : mm_V) (x3 : Int) (vx4 : mm_V) (y0 : Int) {hi : mm_Id → Int → Int} {dh : Int → Int} {nx ns : Int} {Q : mm_V → mm_H → Prop} (hy : 5306 ≤ nx) :
    mm_Wp 256 (bk_256_5.drop 3) [zR (40, 0, 0), vx1, vx2, zI x3, vx4] [zI y0] (mm_z hi dh nx ns) Q =
    mm_Cl 197 [zR (40, 0, 0), zI x3] (mm_z hi dh nx ns) (fun r h3 => mm_Wp 256 (bk_256_5.drop 7) [zR (40, 0, 0), vx1, vx2, zI x3, zI y0] (mm_push r []) h3 Q) :=
  (wp_6 (l2 := [zR (40, 0, 0), vx1, vx2, zI x3, zI y0]) rfl).trans ((wp_5_0).trans ((wp_3_3).trans ((wp_v2 mm_n_197 (mm_leq mm_m_197 (mm_lb rfl)) (mm_lb rfl) (mm_o40 hy)).trans rfl)))
theorem r_256_4_5 (vx0 : mm_V) (vx1 : mm_V) (vx2 : mm_V) (vx3 : mm_V) (vx4 : mm_V) (y0 : Int) {hi : mm_Id → Int → Int} {dh : Int → Int} {nx ns : Int} {Q : mm_V → mm_H → Prop} (hy : 5306 ≤ nx) :
    mm_Wp 256 (bk_256_4.drop 5) [vx0, vx1, vx2, vx3, vx4] [zI y0] (mm_z hi dh nx ns) Q =
    Q (zI y0) (mm_z hi dh nx ns) :=
  wp_90
theorem r_256_5_7 (vx0 : mm_V) (vx1 : mm_V) (vx2 : mm_V) (vx3 : mm_V) (vx4 : mm_V) (y0 : Int) {hi : mm_Id → Int → Int} {dh : Int → Int} {nx ns : Int} {Q : mm_V → mm_H → Prop} (hy : 5306 ≤ nx) :
    mm_Wp 256 (bk_256_5.drop 7) [vx0, vx1, vx2, vx3, vx4] [zI y0] (mm_z hi dh nx ns) Q =
    Q (zI y0) (mm_z hi dh nx ns) :=
  wp_90
/-- PoolHouseModel.told(II)I -/
theorem bq_257_0 : mm_blk 257 0 = bk_257_0 := by decide +kernel
theorem bq_257_1 : mm_blk 257 1 = bk_257_1 := by decide +kernel
theorem bq_257_2 : mm_blk 257 2 = bk_257_2 := by decide +kernel
theorem bq_257_3 : mm_blk 257 3 = bk_257_3 := by decide +kernel
theorem bq_257_4 : mm_blk 257 4 = bk_257_4 := by decide +kernel
theorem bq_257_5 : mm_blk 257 5 = bk_257_5 := by decide +kernel
theorem bq_257_6 : mm_blk 257 6 = bk_257_6 := by decide +kernel
theorem bq_257_7 : mm_blk 257 7 = bk_257_7 := by decide +kernel
theorem bq_257_8 : mm_blk 257 8 = bk_257_8 := by decide +kernel
theorem bq_257_9 : mm_blk 257 9 = bk_257_9 := by decide +kernel
theorem bq_257_10 : mm_blk 257 10 = bk_257_10 := by decide +kernel
theorem bq_257_11 : mm_blk 257 11 = bk_257_11 := by decide +kernel
theorem bq_257_12 : mm_blk 257 12 = bk_257_12 := by decide +kernel
theorem bq_257_13 : mm_blk 257 13 = bk_257_13 := by decide +kernel
theorem bq_257_14 : mm_blk 257 14 = bk_257_14 := by decide +kernel
theorem bq_257_15 : mm_blk 257 15 = bk_257_15 := by decide +kernel
theorem bq_257_16 : mm_blk 257 16 = bk_257_16 := by decide +kernel
theorem bq_257_17 : mm_blk 257 17 = bk_257_17 := by decide +kernel
theorem r_257_e (x1 : Int) (x2 : Int) {hi : mm_Id → Int → Int} {dh : Int → Int} {nx ns : Int} {Q : mm_V → mm_H → Prop} (hy : 5306 ≤ nx) :
    mm_Cl 257 [zR (40, 0, 0), zI x1, zI x2] (mm_z hi dh nx ns) Q =
    mm_Cl 181 [zR (40, 0, 0), zI x1] (mm_z (mm_up hi (40, 0, 0) 0 0) dh nx ns) (fun r h3 => mm_Wp 257 (bk_257_0.drop 6) [zR (40, 0, 0), zI x1, zI x2, zU, zU, zU] (mm_push r []) h3 Q) :=
  mm_ce (l2 := [zR (40, 0, 0), zI x1, zI x2, zU, zU, zU]) rfl (mm_kb bq_257_0 ((wp_5_0).trans ((wp_1).trans ((wp_63 (mm_o40 hy)).trans ((wp_5_0).trans ((wp_3_1).trans ((wp_v2 mm_n_181 (mm_leq mm_m_181 (mm_lb rfl)) (mm_lb rfl) (mm_o40 hy)).trans rfl)))))))
theorem r_257_0_6 (x1 : Int) (x2 : Int) (vx3 : mm_V) (vx4 : mm_V) (vx5 : mm_V) (y0 : Int) {hi : mm_Id → Int → Int} {dh : Int → Int} {nx ns : Int} {Q : mm_V → mm_H → Prop} (hy : 5306 ≤ nx) :
    mm_Wp 257 (bk_257_0.drop 6) [zR (40, 0, 0), zI x1, zI x2, vx3, vx4, vx5] [zI y0] (mm_z hi dh nx ns) Q =
    (if y0 < 0 then Q (zI (-1)) (mm_z hi dh nx ns) else mm_Wp 257 (mm_blk 257 (mm_sw 4 x2)) [zR (40, 0, 0), zI x1, zI x2, zI y0, zI 0, vx5] [] (mm_z hi dh nx ns) Q) :=
  (wp_6 (l2 := [zR (40, 0, 0), zI x1, zI x2, zI y0, vx4, vx5]) rfl).trans ((wp_3_3).trans ((wp_43).trans (mm_ic ((wp_1).trans (wp_90)) (mm_kb bq_257_1 ((wp_1).trans ((wp_6 (l2 := [zR (40, 0, 0), zI x1, zI x2, zI y0, zI 0, vx5]) rfl).trans ((wp_3_2).trans (wp_57 rfl))))))))
theorem r_257_2 (vx1 : mm_V) (vx2 : mm_V) (x3 : Int) (vx4 : mm_V) (vx5 : mm_V) {hi : mm_Id → Int → Int} {dh : Int → Int} {nx ns : Int} {Q : mm_V → mm_H → Prop} (hy : 5306 ≤ nx) :
    mm_Wp 257 (mm_blk 257 2) [zR (40, 0, 0), vx1, vx2, zI x3, vx4, vx5] [] (mm_z hi dh nx ns) Q =
    ((0 ≤ x3 ∧ x3 < 26) ∧ Q (zI (hi (58, 0, 0) x3)) (mm_z hi dh nx ns)) :=
  mm_kb bq_257_2 ((wp_5_0).trans ((wp_62 (by decide) (mm_o40 hy) (mm_r40_20 hy)).trans ((wp_3_3).trans ((wp_70 (mm_q58 hy)).trans (mm_ae (wp_90))))))
theorem r_257_3 (x1 : Int) (vx2 : mm_V) (x3 : Int) (x4 : Int) (vx5 : mm_V) {hi : mm_Id → Int → Int} {dh : Int → Int} {nx ns : Int} {Q : mm_V → mm_H → Prop} (hy : 5306 ≤ nx) :
    mm_Wp 257 (mm_blk 257 3) [zR (40, 0, 0), zI x1, vx2, zI x3, zI x4, vx5] [] (mm_z hi dh nx ns) Q =
    mm_Wp 257 (mm_blk 257 4) [zR (40, 0, 0), zI x1, vx2, zI x3, zI x4, zI 5] [] (mm_z hi dh nx ns) Q :=
  mm_kb bq_257_3 ((wp_1).trans ((wp_6 (l2 := [zR (40, 0, 0), zI x1, vx2, zI x3, zI x4, zI 5]) rfl).trans ((wp_0).trans (rfl))))
theorem r_257_8 (vx1 : mm_V) (vx2 : mm_V) (x3 : Int) (vx4 : mm_V) (vx5 : mm_V) {hi : mm_Id → Int → Int} {dh : Int → Int} {nx ns : Int} {Q : mm_V → mm_H → Prop} (hy : 5306 ≤ nx) :
    mm_Wp 257 (mm_blk 257 8) [zR (40, 0, 0), vx1, vx2, zI x3, vx4, vx5] [] (mm_z hi dh nx ns) Q =
    (if x3 < 5 then ((0 ≤ x3 ∧ x3 < 26) ∧ mm_Wp 257 (mm_blk 257 11) [zR (40, 0, 0), vx1, vx2, zI x3, vx4, vx5] [zI (hi (59, 0, 0) x3)] (mm_z hi dh nx ns) Q) else ((0 ≤ x3 ∧ x3 < 26) ∧ (if (hi (60, 0, 0) x3) = 0 then mm_Wp 257 (mm_blk 257 11) [zR (40, 0, 0), vx1, vx2, zI x3, vx4, vx5] [zI 0] (mm_z hi dh nx ns) Q else mm_Wp 257 (mm_blk 257 11) [zR (40, 0, 0), vx1, vx2, zI x3, vx4, vx5] [zI 1] (mm_z hi dh nx ns) Q))) :=
  mm_kb bq_257_8 ((wp_3_3).trans ((wp_1).trans ((wp_49).trans (mm_ic ((wp_5_0).trans ((wp_62 (by decide) (mm_o40 hy) (mm_r40_21 hy)).trans ((wp_3_3).trans ((wp_70 (mm_q59 hy)).trans (mm_ae ((wp_56).trans (rfl))))))) (mm_kb bq_257_9 ((wp_5_0).trans ((wp_62 (by decide) (mm_o40 hy) (mm_r40_22 hy)).trans ((wp_3_3).trans ((wp_71z (mm_q60 hy)).trans (mm_ae ((wp_40).trans (mm_ic (mm_kb bq_257_10 ((wp_1).trans ((wp_0).trans (rfl)))) ((wp_1).trans ((wp_56).trans (rfl)))))))))))))))
theorem r_257_12 (vx1 : mm_V) (vx2 : mm_V) (x3 : Int) (x4 : Int) (vx5 : mm_V) {hi : mm_Id → Int → Int} {dh : Int → Int} {nx ns : Int} {Q : mm_V → mm_H → Prop} (hy : 5306 ≤ nx) :
    mm_Wp 257 (mm_blk 257 12) [zR (40, 0, 0), vx1, vx2, zI x3, zI x4, vx5] [] (mm_z hi dh nx ns) Q =
    mm_Cl 175 [zI x3, zI 1] (mm_z hi dh nx ns) (fun r h3 => mm_Wp 257 (bk_257_12.drop 3) [zR (40, 0, 0), vx1, vx2, zI x3, zI x4, vx5] (mm_push r []) h3 Q) :=
  mm_kb bq_257_12 ((wp_3_3).trans ((wp_1).trans ((wp_s2 mm_n_175 (mm_leq mm_m_175 (mm_lb rfl)) (mm_lb rfl)).trans rfl)))
theorem r_257_17 (vx0 : mm_V) (vx1 : mm_V) (vx2 : mm_V) (vx3 : mm_V) (vx4 : mm_V) (vx5 : mm_V) {hi : mm_Id → Int → Int} {dh : Int → Int} {nx ns : Int} {Q : mm_V → mm_H → Prop} (hy : 5306 ≤ nx) :
    mm_Wp 257 (mm_blk 257 17) [vx0, vx1, vx2, vx3, vx4, vx5] [] (mm_z hi dh nx ns) Q =
    Q (zI (-2)) (mm_z hi dh nx ns) :=
  mm_kb bq_257_17 ((wp_1).trans (wp_90))
theorem r_257_4 (x1 : Int) (vx2 : mm_V) (x3 : Int) (x4 : Int) (x5 : Int) {hi : mm_Id → Int → Int} {dh : Int → Int} {nx ns : Int} {Q : mm_V → mm_H → Prop} (hy : 5306 ≤ nx) :
    mm_Wp 257 (mm_blk 257 4) [zR (40, 0, 0), zI x1, vx2, zI x3, zI x4, zI x5] [] (mm_z hi dh nx ns) Q =
    (if x5 < 13 then (if x3 < 5 then ((0 ≤ x5 ∧ x5 < 26) ∧ (if 0 < (hi (57, 0, 0) x5) then ((0 ≤ x5 ∧ x5 < 26) ∧ (if (hi (58, 0, 0) x5) = x1 then mm_Wp 257 (mm_blk 257 6) [zR (40, 0, 0), zI x1, vx2, zI x3, zI x4, zI x5] [zI 1, zI x4] (mm_z hi dh nx ns) Q else mm_Wp 257 (mm_blk 257 5) [zR (40, 0, 0), zI x1, vx2, zI x3, zI x4, zI x5] [zI x4] (mm_z hi dh nx ns) Q)) else mm_Wp 257 (mm_blk 257 5) [zR (40, 0, 0), zI x1, vx2, zI x3, zI x4, zI x5] [zI x4] (mm_z hi dh nx ns) Q)) else mm_Wp 257 (mm_blk 257 5) [zR (40, 0, 0), zI x1, vx2, zI x3, zI x4, zI x5] [zI x4] (mm_z hi dh nx ns) Q) else Q (zI x4) (mm_z hi dh nx ns)) :=
  mm_kb bq_257_4 ((wp_3_5).trans ((wp_1).trans ((wp_49).trans (mm_ic ((wp_3_4).trans ((wp_3_3).trans ((wp_1).trans ((wp_49).trans (mm_ic ((wp_5_0).trans ((wp_62 (by decide) (mm_o40 hy) (mm_r40_19 hy)).trans ((wp_3_5).trans ((wp_70 (mm_q57 hy)).trans (mm_ae ((wp_45).trans (mm_ic ((wp_5_0).trans ((wp_62 (by decide) (mm_o40 hy) (mm_r40_20 hy)).trans ((wp_3_5).trans ((wp_70 (mm_q58 hy)).trans (mm_ae ((wp_3_1).trans ((wp_47).trans (mm_ic ((wp_1).trans ((wp_56).trans (rfl))) (rfl))))))))) (rfl)))))))) (rfl)))))) (mm_kb bq_257_7 ((wp_3_4).trans (wp_90)))))))
theorem r_257_11 (vx0 : mm_V) (vx1 : mm_V) (vx2 : mm_V) (vx3 : mm_V) (vx4 : mm_V) (vx5 : mm_V) (y0 : Int) {hi : mm_Id → Int → Int} {dh : Int → Int} {nx ns : Int} {Q : mm_V → mm_H → Prop} (hy : 5306 ≤ nx) :
    mm_Wp 257 (mm_blk 257 11) [vx0, vx1, vx2, vx3, vx4, vx5] [zI y0] (mm_z hi dh nx ns) Q =
    Q (zI y0) (mm_z hi dh nx ns) :=
  mm_kb bq_257_11 (wp_90)
theorem r_257_12_3 (vx1 : mm_V) (vx2 : mm_V) (x3 : Int) (x4 : Int) (vx5 : mm_V) (y0 : Int) {hi : mm_Id → Int → Int} {dh : Int → Int} {nx ns : Int} {Q : mm_V → mm_H → Prop} (hy : 5306 ≤ nx) :
    mm_Wp 257 (bk_257_12.drop 3) [zR (40, 0, 0), vx1, vx2, zI x3, zI x4, vx5] [zI y0] (mm_z hi dh nx ns) Q =
    mm_Wp 257 (mm_blk 257 13) [zR (40, 0, 0), vx1, vx2, zI x3, zI x4, zI y0] [] (mm_z hi dh nx ns) Q :=
  (wp_6 (l2 := [zR (40, 0, 0), vx1, vx2, zI x3, zI x4, zI y0]) rfl).trans ((wp_0).trans (rfl))
theorem r_257_5 (x1 : Int) (vx2 : mm_V) (x3 : Int) (vx4 : mm_V) (x5 : Int) (y0 : Int) {hi : mm_Id → Int → Int} {dh : Int → Int} {nx ns : Int} {Q : mm_V → mm_H → Prop} (hy : 5306 ≤ nx) :
    mm_Wp 257 (mm_blk 257 5) [zR (40, 0, 0), zI x1, vx2, zI x3, vx4, zI x5] [zI y0] (mm_z hi dh nx ns) Q =
    mm_Wp 257 (mm_blk 257 6) [zR (40, 0, 0), zI x1, vx2, zI x3, vx4, zI x5] [zI 0, zI y0] (mm_z hi dh nx ns) Q :=
  mm_kb bq_257_5 ((wp_1).trans ((wp_0).trans (rfl)))
theorem r_257_6 (x1 : Int) (vx2 : mm_V) (x3 : Int) (vx4 : mm_V) (x5 : Int) (y0 : Int) (y1 : Int) {hi : mm_Id → Int → Int} {dh : Int → Int} {nx ns : Int} {Q : mm_V → mm_H → Prop} (hy : 5306 ≤ nx) :
    mm_Wp 257 (mm_blk 257 6) [zR (40, 0, 0), zI x1, vx2, zI x3, vx4, zI x5] [zI y0, zI y1] (mm_z hi dh nx ns) Q =
    mm_Wp 257 (mm_blk 257 4) [zR (40, 0, 0), zI x1, vx2, zI x3, zI (mm_w (y1 + y0)), zI (mm_w (x5 + 1))] [] (mm_z hi dh nx ns) Q :=
  mm_kb bq_257_6 ((wp_10).trans ((wp_6 (l2 := [zR (40, 0, 0), zI x1, vx2, zI x3, zI (mm_w (y1 + y0)), zI x5]) rfl).trans ((wp_9 (l2 := [zR (40, 0, 0), zI x1, vx2, zI x3, zI (mm_w (y1 + y0)), zI (mm_w (x5 + 1))]) rfl rfl).trans ((wp_56).trans (rfl)))))
theorem r_257_13 (vx1 : mm_V) (vx2 : mm_V) (x3 : Int) (x4 : Int) (x5 : Int) {hi : mm_Id → Int → Int} {dh : Int → Int} {nx ns : Int} {Q : mm_V → mm_H → Prop} (hy : 5306 ≤ nx) :
    mm_Wp 257 (mm_blk 257 13) [zR (40, 0, 0), vx1, vx2, zI x3, zI x4, zI x5] [] (mm_z hi dh nx ns) Q =
    mm_Cl 175 [zI x3, zI 36] (mm_z hi dh nx ns) (fun r h3 => mm_Wp 257 (bk_257_13.drop 4) [zR (40, 0, 0), vx1, vx2, zI x3, zI x4, zI x5] (mm_push r [zI x5]) h3 Q) :=
  mm_kb bq_257_13 ((wp_3_5).trans ((wp_3_3).trans ((wp_1).trans ((wp_s2 mm_n_175 (mm_leq mm_m_175 (mm_lb rfl)) (mm_lb rfl)).trans rfl))))
theorem r_257_13_4 (vx1 : mm_V) (vx2 : mm_V) (x3 : Int) (x4 : Int) (x5 : Int) (y0 : Int) (y1 : Int) {hi : mm_Id → Int → Int} {dh : Int → Int} {nx ns : Int} {Q : mm_V → mm_H → Prop} (hy : 5306 ≤ nx) :
    mm_Wp 257 (bk_257_13.drop 4) [zR (40, 0, 0), vx1, vx2, zI x3, zI x4, zI x5] [zI y0, zI y1] (mm_z hi dh nx ns) Q =
    (if y0 < y1 then Q (zI x4) (mm_z hi dh nx ns) else ((0 ≤ x5 ∧ x5 < 1044) ∧ (if 0 < (hi (41, 0, 0) x5) then mm_Wp 257 (mm_blk 257 15) [zR (40, 0, 0), vx1, vx2, zI x3, zI x4, zI x5] [zI 1, zI x4] (mm_z hi dh nx ns) Q else mm_Wp 257 (mm_blk 257 15) [zR (40, 0, 0), vx1, vx2, zI x3, zI x4, zI x5] [zI 0, zI x4] (mm_z hi dh nx ns) Q))) :=
  (wp_50).trans (mm_ic (mm_kb bq_257_16 ((wp_3_4).trans (wp_90))) ((wp_3_4).trans ((wp_5_0).trans ((wp_62 (by decide) (mm_o40 hy) (mm_r40_2 hy)).trans ((wp_3_5).trans ((wp_70 (mm_q41 hy)).trans (mm_ae ((wp_45).trans (mm_ic ((wp_1).trans ((wp_56).trans (rfl))) (mm_kb bq_257_14 ((wp_1).trans ((wp_0).trans (rfl)))))))))))))
theorem r_257_15 (vx1 : mm_V) (vx2 : mm_V) (x3 : Int) (vx4 : mm_V) (x5 : Int) (y0 : Int) (y1 : Int) {hi : mm_Id → Int → Int} {dh : Int → Int} {nx ns : Int} {Q : mm_V → mm_H → Prop} (hy : 5306 ≤ nx) :
    mm_Wp 257 (mm_blk 257 15) [zR (40, 0, 0), vx1, vx2, zI x3, vx4, zI x5] [zI y0, zI y1] (mm_z hi dh nx ns) Q =
    mm_Wp 257 (mm_blk 257 13) [zR (40, 0, 0), vx1, vx2, zI x3, zI (mm_w (y1 + y0)), zI (mm_w (x5 + 1))] [] (mm_z hi dh nx ns) Q :=
  mm_kb bq_257_15 ((wp_10).trans ((wp_6 (l2 := [zR (40, 0, 0), vx1, vx2, zI x3, zI (mm_w (y1 + y0)), zI x5]) rfl).trans ((wp_9 (l2 := [zR (40, 0, 0), vx1, vx2, zI x3, zI (mm_w (y1 + y0)), zI (mm_w (x5 + 1))]) rfl rfl).trans ((wp_56).trans (rfl)))))
/-- PoolHouseModel.isAlike(III)Z -/
theorem bq_258_0 : mm_blk 258 0 = bk_258_0 := by decide +kernel
theorem bq_258_1 : mm_blk 258 1 = bk_258_1 := by decide +kernel
theorem bq_258_2 : mm_blk 258 2 = bk_258_2 := by decide +kernel
theorem bq_258_3 : mm_blk 258 3 = bk_258_3 := by decide +kernel
theorem bq_258_4 : mm_blk 258 4 = bk_258_4 := by decide +kernel
theorem bq_258_5 : mm_blk 258 5 = bk_258_5 := by decide +kernel
theorem bq_258_6 : mm_blk 258 6 = bk_258_6 := by decide +kernel
theorem bq_258_7 : mm_blk 258 7 = bk_258_7 := by decide +kernel
theorem bq_258_8 : mm_blk 258 8 = bk_258_8 := by decide +kernel
theorem bq_258_9 : mm_blk 258 9 = bk_258_9 := by decide +kernel
theorem bq_258_10 : mm_blk 258 10 = bk_258_10 := by decide +kernel
theorem bq_258_11 : mm_blk 258 11 = bk_258_11 := by decide +kernel
theorem bq_258_12 : mm_blk 258 12 = bk_258_12 := by decide +kernel
theorem bq_258_13 : mm_blk 258 13 = bk_258_13 := by decide +kernel
theorem bq_258_14 : mm_blk 258 14 = bk_258_14 := by decide +kernel
theorem bq_258_15 : mm_blk 258 15 = bk_258_15 := by decide +kernel
theorem bq_258_16 : mm_blk 258 16 = bk_258_16 := by decide +kernel
theorem bq_258_17 : mm_blk 258 17 = bk_258_17 := by decide +kernel
theorem bq_258_18 : mm_blk 258 18 = bk_258_18 := by decide +kernel
theorem bq_258_19 : mm_blk 258 19 = bk_258_19 := by decide +kernel
theorem bq_258_20 : mm_blk 258 20 = bk_258_20 := by decide +kernel
theorem bq_258_21 : mm_blk 258 21 = bk_258_21 := by decide +kernel
theorem bq_258_22 : mm_blk 258 22 = bk_258_22 := by decide +kernel
theorem bq_258_23 : mm_blk 258 23 = bk_258_23 := by decide +kernel
theorem bq_258_24 : mm_blk 258 24 = bk_258_24 := by decide +kernel
theorem bq_258_25 : mm_blk 258 25 = bk_258_25 := by decide +kernel
theorem bq_258_26 : mm_blk 258 26 = bk_258_26 := by decide +kernel
theorem bq_258_27 : mm_blk 258 27 = bk_258_27 := by decide +kernel
theorem bq_258_28 : mm_blk 258 28 = bk_258_28 := by decide +kernel
theorem bq_258_29 : mm_blk 258 29 = bk_258_29 := by decide +kernel
theorem bq_258_30 : mm_blk 258 30 = bk_258_30 := by decide +kernel
theorem bq_258_31 : mm_blk 258 31 = bk_258_31 := by decide +kernel
theorem r_258_e (x1 : Int) (x2 : Int) (x3 : Int) {hi : mm_Id → Int → Int} {dh : Int → Int} {nx ns : Int} {Q : mm_V → mm_H → Prop} (hy : 5306 ≤ nx) :
    mm_Cl 258 [zR (40, 0, 0), zI x1, zI x2, zI x3] (mm_z hi dh nx ns) Q =
    mm_Cl 175 [zI x1, zI x3] (mm_z hi dh nx ns) (fun r h3 => mm_Wp 258 (bk_258_0.drop 3) [zR (40, 0, 0), zI x1, zI x2, zI x3, zU, zU, zU, zU] (mm_push r []) h3 Q) :=
  mm_ce (l2 := [zR (40, 0, 0), zI x1, zI x2, zI x3, zU, zU, zU, zU]) rfl (mm_kb bq_258_0 ((wp_3_1).trans ((wp_3_3).trans ((wp_s2 mm_n_175 (mm_leq mm_m_175 (mm_lb rfl)) (mm_lb rfl)).trans rfl))))
theorem r_258_0_3 (x1 : Int) (x2 : Int) (x3 : Int) (vx4 : mm_V) (vx5 : mm_V) (vx6 : mm_V) (vx7 : mm_V) (y0 : Int) {hi : mm_Id → Int → Int} {dh : Int → Int} {nx ns : Int} {Q : mm_V → mm_H → Prop} (hy : 5306 ≤ nx) :
    mm_Wp 258 (bk_258_0.drop 3) [zR (40, 0, 0), zI x1, zI x2, zI x3, vx4, vx5, vx6, vx7] [zI y0] (mm_z hi dh nx ns) Q =
    mm_Cl 175 [zI x2, zI x3] (mm_z hi dh nx ns) (fun r h3 => mm_Wp 258 (bk_258_0.drop 7) [zR (40, 0, 0), zI x1, zI x2, zI x3, zI y0, vx5, vx6, vx7] (mm_push r []) h3 Q) :=
  (wp_6 (l2 := [zR (40, 0, 0), zI x1, zI x2, zI x3, zI y0, vx5, vx6, vx7]) rfl).trans ((wp_3_2).trans ((wp_3_3).trans ((wp_s2 mm_n_175 (mm_leq mm_m_175 (mm_lb rfl)) (mm_lb rfl)).trans rfl)))
theorem r_258_0_7 (x1 : Int) (x2 : Int) (x3 : Int) (x4 : Int) (vx5 : mm_V) (vx6 : mm_V) (vx7 : mm_V) (y0 : Int) {hi : mm_Id → Int → Int} {dh : Int → Int} {nx ns : Int} {Q : mm_V → mm_H → Prop} (hy : 5306 ≤ nx) :
    mm_Wp 258 (bk_258_0.drop 7) [zR (40, 0, 0), zI x1, zI x2, zI x3, zI x4, vx5, vx6, vx7] [zI y0] (mm_z hi dh nx ns) Q =
    ((0 ≤ x4 ∧ x4 < 1044) ∧ ((0 ≤ y0 ∧ y0 < 1044) ∧ (if (hi (41, 0, 0) x4) = (hi (41, 0, 0) y0) then mm_Wp 258 (mm_blk 258 2) [zR (40, 0, 0), zI x1, zI x2, zI x3, zI x4, zI y0, vx6, vx7] [zI 1] (mm_z hi dh nx ns) Q else mm_Wp 258 (mm_blk 258 2) [zR (40, 0, 0), zI x1, zI x2, zI x3, zI x4, zI y0, vx6, vx7] [zI 0] (mm_z hi dh nx ns) Q))) :=
  (wp_6 (l2 := [zR (40, 0, 0), zI x1, zI x2, zI x3, zI x4, zI y0, vx6, vx7]) rfl).trans ((wp_5_0).trans ((wp_62 (by decide) (mm_o40 hy) (mm_r40_2 hy)).trans ((wp_3_4).trans ((wp_70 (mm_q41 hy)).trans (mm_ae ((wp_5_0).trans ((wp_62 (by decide) (mm_o40 hy) (mm_r40_2 hy)).trans ((wp_3_5).trans ((wp_70 (mm_q41 hy)).trans (mm_ae ((wp_47).trans (mm_ic ((wp_1).trans ((wp_56).trans (rfl))) (mm_kb bq_258_1 ((wp_1).trans ((wp_0).trans (rfl))))))))))))))))
theorem r_258_2 (x1 : Int) (x2 : Int) (x3 : Int) (x4 : Int) (x5 : Int) (vx6 : mm_V) (vx7 : mm_V) (y0 : Int) {hi : mm_Id → Int → Int} {dh : Int → Int} {nx ns : Int} {Q : mm_V → mm_H → Prop} (hy : 5306 ≤ nx) :
    mm_Wp 258 (mm_blk 258 2) [zR (40, 0, 0), zI x1, zI x2, zI x3, zI x4, zI x5, vx6, vx7] [zI y0] (mm_z hi dh nx ns) Q =
    (if y0 = 0 then mm_Wp 258 (mm_blk 258 3) [zR (40, 0, 0), zI x1, zI x2, zI x3, zI x4, zI x5, zI y0, vx7] [] (mm_z hi dh nx ns) Q else ((0 ≤ x4 ∧ x4 < 1044) ∧ (if (hi (41, 0, 0) x4) = 0 then mm_Wp 258 (mm_blk 258 3) [zR (40, 0, 0), zI x1, zI x2, zI x3, zI x4, zI x5, zI y0, vx7] [] (mm_z hi dh nx ns) Q else ((0 ≤ x4 ∧ x4 < 1044) ∧ ((0 ≤ x5 ∧ x5 < 1044) ∧ (if (hi (47, 0, 0) x4) = (hi (47, 0, 0) x5) then ((0 ≤ x4 ∧ x4 < 1044) ∧ ((0 ≤ x5 ∧ x5 < 1044) ∧ (if (hi (48, 0, 0) x4) = (hi (48, 0, 0) x5) then ((0 ≤ x4 ∧ x4 < 1044) ∧ ((0 ≤ x5 ∧ x5 < 1044) ∧ (if (hi (49, 0, 0) x4) = (hi (49, 0, 0) x5) then mm_Wp 258 (mm_blk 258 6) [zR (40, 0, 0), zI x1, zI x2, zI x3, zI x4, zI x5, zI y0, vx7] [zI 1] (mm_z hi dh nx ns) Q else mm_Wp 258 (mm_blk 258 5) [zR (40, 0, 0), zI x1, zI x2, zI x3, zI x4, zI x5, zI y0, vx7] [] (mm_z hi dh nx ns) Q))) else mm_Wp 258 (mm_blk 258 5) [zR (40, 0, 0), zI x1, zI x2, zI x3, zI x4, zI x5, zI y0, vx7] [] (mm_z hi dh nx ns) Q))) else mm_Wp 258 (mm_blk 258 5) [zR (40, 0, 0), zI x1, zI x2, zI x3, zI x4, zI x5, zI y0, vx7] [] (mm_z hi dh nx ns) Q)))))) :=
  mm_kb bq_258_2 ((wp_6 (l2 := [zR (40, 0, 0), zI x1, zI x2, zI x3, zI x4, zI x5, zI y0, vx7]) rfl).trans ((wp_3_6).trans ((wp_40).trans (mm_ic (rfl) ((wp_5_0).trans ((wp_62 (by decide) (mm_o40 hy) (mm_r40_2 hy)).trans ((wp_3_4).trans ((wp_70 (mm_q41 hy)).trans (mm_ae ((wp_41).trans (mm_ic ((wp_0).trans (rfl)) (mm_kb bq_258_4 ((wp_5_0).trans ((wp_62 (by decide) (mm_o40 hy) (mm_r40_8 hy)).trans ((wp_3_4).trans ((wp_70 (mm_q47 hy)).trans (mm_ae ((wp_5_0).trans ((wp_62 (by decide) (mm_o40 hy) (mm_r40_8 hy)).trans ((wp_3_5).trans ((wp_70 (mm_q47 hy)).trans (mm_ae ((wp_47).trans (mm_ic ((wp_5_0).trans ((wp_62 (by decide) (mm_o40 hy) (mm_r40_9 hy)).trans ((wp_3_4).trans ((wp_70 (mm_q48 hy)).trans (mm_ae ((wp_5_0).trans ((wp_62 (by decide) (mm_o40 hy) (mm_r40_9 hy)).trans ((wp_3_5).trans ((wp_70 (mm_q48 hy)).trans (mm_ae ((wp_47).trans (mm_ic ((wp_5_0).trans ((wp_62 (by decide) (mm_o40 hy) (mm_r40_10 hy)).trans ((wp_3_4).trans ((wp_70 (mm_q49 hy)).trans (mm_ae ((wp_5_0).trans ((wp_62 (by decide) (mm_o40 hy) (mm_r40_10 hy)).trans ((wp_3_5).trans ((wp_70 (mm_q49 hy)).trans (mm_ae ((wp_47).trans (mm_ic ((wp_1).trans ((wp_56).trans (rfl))) (rfl))))))))))))) (rfl))))))))))))) (rfl)))))))))))))))))))))))))
theorem r_258_3 (vx0 : mm_V) (vx1 : mm_V) (vx2 : mm_V) (vx3 : mm_V) (vx4 : mm_V) (vx5 : mm_V) (x6 : Int) (vx7 : mm_V) {hi : mm_Id → Int → Int} {dh : Int → Int} {nx ns : Int} {Q : mm_V → mm_H → Prop} (hy : 5306 ≤ nx) :
    mm_Wp 258 (mm_blk 258 3) [vx0, vx1, vx2, vx3, vx4, vx5, zI x6, vx7] [] (mm_z hi dh nx ns) Q =
    ((x6 = 0 ∨ x6 = 1) ∧ Q (zI x6) (mm_z hi dh nx ns)) :=
  mm_kb bq_258_3 ((wp_3_6).trans (wp_94z))
theorem r_258_5 (x1 : Int) (x2 : Int) (x3 : Int) (x4 : Int) (x5 : Int) (vx6 : mm_V) (vx7 : mm_V) {hi : mm_Id → Int → Int} {dh : Int → Int} {nx ns : Int} {Q : mm_V → mm_H → Prop} (hy : 5306 ≤ nx) :
    mm_Wp 258 (mm_blk 258 5) [zR (40, 0, 0), zI x1, zI x2, zI x3, zI x4, zI x5, vx6, vx7] [] (mm_z hi dh nx ns) Q =
    mm_Wp 258 (mm_blk 258 6) [zR (40, 0, 0), zI x1, zI x2, zI x3, zI x4, zI x5, vx6, vx7] [zI 0] (mm_z hi dh nx ns) Q :=
  mm_kb bq_258_5 ((wp_1).trans ((wp_0).trans (rfl)))
theorem r_258_6 (x1 : Int) (x2 : Int) (x3 : Int) (x4 : Int) (x5 : Int) (vx6 : mm_V) (vx7 : mm_V) (y0 : Int) {hi : mm_Id → Int → Int} {dh : Int → Int} {nx ns : Int} {Q : mm_V → mm_H → Prop} (hy : 5306 ≤ nx) :
    mm_Wp 258 (mm_blk 258 6) [zR (40, 0, 0), zI x1, zI x2, zI x3, zI x4, zI x5, vx6, vx7] [zI y0] (mm_z hi dh nx ns) Q =
    mm_Wp 258 (mm_blk 258 7) [zR (40, 0, 0), zI x1, zI x2, zI x3, zI x4, zI x5, zI y0, zI 0] [] (mm_z hi dh nx ns) Q :=
  mm_kb bq_258_6 ((wp_6 (l2 := [zR (40, 0, 0), zI x1, zI x2, zI x3, zI x4, zI x5, zI y0, vx7]) rfl).trans ((wp_1).trans ((wp_6 (l2 := [zR (40, 0, 0), zI x1, zI x2, zI x3, zI x4, zI x5, zI y0, zI 0]) rfl).trans ((wp_0).trans (rfl)))))
theorem r_258_7 (x1 : Int) (x2 : Int) (x3 : Int) (x4 : Int) (x5 : Int) (x6 : Int) (x7 : Int) {hi : mm_Id → Int → Int} {dh : Int → Int} {nx ns : Int} {Q : mm_V → mm_H → Prop} (hy : 5306 ≤ nx) :
    mm_Wp 258 (mm_blk 258 7) [zR (40, 0, 0), zI x1, zI x2, zI x3, zI x4, zI x5, zI x6, zI x7] [] (mm_z hi dh nx ns) Q =
    ((0 ≤ x4 ∧ x4 < 1044) ∧ (if x7 < (hi (49, 0, 0) x4) then (if x6 = 0 then mm_Wp 258 (mm_blk 258 10) [zR (40, 0, 0), zI x1, zI x2, zI x3, zI x4, zI x5, zI x6, zI x7] [] (mm_z hi dh nx ns) Q else ((0 ≤ (mm_w ((mm_w (4 * x4)) + x7)) ∧ (mm_w ((mm_w (4 * x4)) + x7)) < 4176) ∧ ((0 ≤ (mm_w ((mm_w (4 * x5)) + x7)) ∧ (mm_w ((mm_w (4 * x5)) + x7)) < 4176) ∧ (if (hi (50, 0, 0) (mm_w ((mm_w (4 * x4)) + x7))) = (hi (50, 0, 0) (mm_w ((mm_w (4 * x5)) + x7))) then ((0 ≤ (mm_w ((mm_w (4 * x4)) + x7)) ∧ (mm_w ((mm_w (4 * x4)) + x7)) < 4176) ∧ ((0 ≤ (mm_w ((mm_w (4 * x5)) + x7)) ∧ (mm_w ((mm_w (4 * x5)) + x7)) < 4176) ∧ (if (mm_cmp (hi (51, 0, 0) (mm_w ((mm_w (4 * x4)) + x7))) (hi (51, 0, 0) (mm_w ((mm_w (4 * x5)) + x7)))) = 0 then mm_Wp 258 (mm_blk 258 9) [zR (40, 0, 0), zI x1, zI x2, zI x3, zI x4, zI x5, zI x6, zI x7] [zI 1] (mm_z hi dh nx ns) Q else mm_Wp 258 (mm_blk 258 8) [zR (40, 0, 0), zI x1, zI x2, zI x3, zI x4, zI x5, zI x6, zI x7] [] (mm_z hi dh nx ns) Q))) else mm_Wp 258 (mm_blk 258 8) [zR (40, 0, 0), zI x1, zI x2, zI x3, zI x4, zI x5, zI x6, zI x7] [] (mm_z hi dh nx ns) Q)))) else mm_Wp 258 (mm_blk 258 10) [zR (40, 0, 0), zI x1, zI x2, zI x3, zI x4, zI x5, zI x6, zI x7] [] (mm_z hi dh nx ns) Q)) :=
  mm_kb bq_258_7 ((wp_3_7).trans ((wp_5_0).trans ((wp_62 (by decide) (mm_o40 hy) (mm_r40_10 hy)).trans ((wp_3_4).trans ((wp_70 (mm_q49 hy)).trans (mm_ae ((wp_49).trans (mm_ic ((wp_3_6).trans ((wp_40).trans (mm_ic (rfl) ((wp_5_0).trans ((wp_62 (by decide) (mm_o40 hy) (mm_r40_11 hy)).trans ((wp_1).trans ((wp_3_4).trans ((wp_12).trans ((wp_3_7).trans ((wp_10).trans ((wp_70 (mm_q50 hy)).trans (mm_ae ((wp_5_0).trans ((wp_62 (by decide) (mm_o40 hy) (mm_r40_11 hy)).trans ((wp_1).trans ((wp_3_5).trans ((wp_12).trans ((wp_3_7).trans ((wp_10).trans ((wp_70 (mm_q50 hy)).trans (mm_ae ((wp_47).trans (mm_ic ((wp_5_0).trans ((wp_62 (by decide) (mm_o40 hy) (mm_r40_12 hy)).trans ((wp_1).trans ((wp_3_4).trans ((wp_12).trans ((wp_3_7).trans ((wp_10).trans ((wp_72 (mm_q51 hy)).trans (mm_ae ((wp_5_0).trans ((wp_62 (by decide) (mm_o40 hy) (mm_r40_12 hy)).trans ((wp_1).trans ((wp_3_5).trans ((wp_12).trans ((wp_3_7).trans ((wp_10).trans ((wp_72 (mm_q51 hy)).trans (mm_ae ((wp_34).trans ((wp_41).trans (mm_ic ((wp_1).trans ((wp_56).trans (rfl))) (rfl)))))))))))))))))))))) (rfl)))))))))))))))))))))))) (rfl)))))))))
theorem r_258_10 (x1 : Int) (x2 : Int) (x3 : Int) (x4 : Int) (x5 : Int) (x6 : Int) (vx7 : mm_V) {hi : mm_Id → Int → Int} {dh : Int → Int} {nx ns : Int} {Q : mm_V → mm_H → Prop} (hy : 5306 ≤ nx) :
    mm_Wp 258 (mm_blk 258 10) [zR (40, 0, 0), zI x1, zI x2, zI x3, zI x4, zI x5, zI x6, vx7] [] (mm_z hi dh nx ns) Q =
    (if x6 = 0 then Q (zI 0) (mm_z hi dh nx ns) else ((0 ≤ x4 ∧ x4 < 1044) ∧ (if (hi (41, 0, 0) x4) = 3 then ((0 ≤ x4 ∧ x4 < 1044) ∧ ((0 ≤ x5 ∧ x5 < 1044) ∧ (if (hi (42, 0, 0) x4) = (hi (42, 0, 0) x5) then ((0 ≤ x4 ∧ x4 < 1044) ∧ ((0 ≤ x5 ∧ x5 < 1044) ∧ (if (hi (53, 0, 0) x4) = (hi (53, 0, 0) x5) then mm_Wp 258 (mm_blk 258 13) [zR (40, 0, 0), zI x1, zI x2, zI x3, zI x4, zI x5, zI x6, vx7] [zI 1] (mm_z hi dh nx ns) Q else mm_Wp 258 (mm_blk 258 12) [zR (40, 0, 0), zI x1, zI x2, zI x3, zI x4, zI x5, zI x6, vx7] [] (mm_z hi dh nx ns) Q))) else mm_Wp 258 (mm_blk 258 12) [zR (40, 0, 0), zI x1, zI x2, zI x3, zI x4, zI x5, zI x6, vx7] [] (mm_z hi dh nx ns) Q))) else ((0 ≤ x4 ∧ x4 < 1044) ∧ (if (hi (41, 0, 0) x4) = 2 then ((0 ≤ x4 ∧ x4 < 1044) ∧ ((0 ≤ x5 ∧ x5 < 1044) ∧ (if (hi (44, 0, 0) x4) = (hi (44, 0, 0) x5) then mm_Wp 258 (mm_blk 258 20) [zR (40, 0, 0), zI x1, zI x2, zI x3, zI x4, zI x5, zI x6, vx7] [zI 1] (mm_z hi dh nx ns) Q else mm_Wp 258 (mm_blk 258 20) [zR (40, 0, 0), zI x1, zI x2, zI x3, zI x4, zI x5, zI x6, vx7] [zI 0] (mm_z hi dh nx ns) Q))) else ((0 ≤ x4 ∧ x4 < 1044) ∧ ((0 ≤ x5 ∧ x5 < 1044) ∧ (if (hi (42, 0, 0) x4) = (hi (42, 0, 0) x5) then mm_Wp 258 (mm_blk 258 27) [zR (40, 0, 0), zI x1, zI x2, zI x3, zI x4, zI x5, zI x6, vx7] [zI 1] (mm_z hi dh nx ns) Q else mm_Wp 258 (mm_blk 258 27) [zR (40, 0, 0), zI x1, zI x2, zI x3, zI x4, zI x5, zI x6, vx7] [zI 0] (mm_z hi dh nx ns) Q)))))))) :=
  mm_kb bq_258_10 ((wp_3_6).trans ((wp_41).trans (mm_ic ((wp_1).trans (wp_94k (by decide))) (mm_kb bq_258_11 ((wp_5_0).trans ((wp_62 (by decide) (mm_o40 hy) (mm_r40_2 hy)).trans ((wp_3_4).trans ((wp_70 (mm_q41 hy)).trans (mm_ae ((wp_1).trans ((wp_47).trans (mm_ic ((wp_5_0).trans ((wp_62 (by decide) (mm_o40 hy) (mm_r40_3 hy)).trans ((wp_3_4).trans ((wp_70 (mm_q42 hy)).trans (mm_ae ((wp_5_0).trans ((wp_62 (by decide) (mm_o40 hy) (mm_r40_3 hy)).trans ((wp_3_5).trans ((wp_70 (mm_q42 hy)).trans (mm_ae ((wp_47).trans (mm_ic ((wp_5_0).trans ((wp_62 (by decide) (mm_o40 hy) (mm_r40_14 hy)).trans ((wp_3_4).trans ((wp_71z (mm_q53 hy)).trans (mm_ae ((wp_5_0).trans ((wp_62 (by decide) (mm_o40 hy) (mm_r40_14 hy)).trans ((wp_3_5).trans ((wp_71z (mm_q53 hy)).trans (mm_ae ((wp_47).trans (mm_ic ((wp_1).trans ((wp_56).trans (rfl))) (rfl))))))))))))) (rfl))))))))))))) (mm_kb bq_258_18 ((wp_5_0).trans ((wp_62 (by decide) (mm_o40 hy) (mm_r40_2 hy)).trans ((wp_3_4).trans ((wp_70 (mm_q41 hy)).trans (mm_ae ((wp_1).trans ((wp_47).trans (mm_ic ((wp_5_0).trans ((wp_62 (by decide) (mm_o40 hy) (mm_r40_5 hy)).trans ((wp_3_4).trans ((wp_70 (mm_q44 hy)).trans (mm_ae ((wp_5_0).trans ((wp_62 (by decide) (mm_o40 hy) (mm_r40_5 hy)).trans ((wp_3_5).trans ((wp_70 (mm_q44 hy)).trans (mm_ae ((wp_47).trans (mm_ic ((wp_1).trans ((wp_56).trans (rfl))) (mm_kb bq_258_19 ((wp_1).trans ((wp_0).trans (rfl)))))))))))))))) (mm_kb bq_258_25 ((wp_5_0).trans ((wp_62 (by decide) (mm_o40 hy) (mm_r40_3 hy)).trans ((wp_3_4).trans ((wp_70 (mm_q42 hy)).trans (mm_ae ((wp_5_0).trans ((wp_62 (by decide) (mm_o40 hy) (mm_r40_3 hy)).trans ((wp_3_5).trans ((wp_70 (mm_q42 hy)).trans (mm_ae ((wp_47).trans (mm_ic ((wp_1).trans ((wp_56).trans (rfl))) (mm_kb bq_258_26 ((wp_1).trans ((wp_0).trans (rfl))))))))))))))))))))))))))))))))))))))
theorem r_258_8 (x1 : Int) (x2 : Int) (x3 : Int) (x4 : Int) (x5 : Int) (vx6 : mm_V) (x7 : Int) {hi : mm_Id → Int → Int} {dh : Int → Int} {nx ns : Int} {Q : mm_V → mm_H → Prop} (hy : 5306 ≤ nx) :
    mm_Wp 258 (mm_blk 258 8) [zR (40, 0, 0), zI x1, zI x2, zI x3, zI x4, zI x5, vx6, zI x7] [] (mm_z hi dh nx ns) Q =
    mm_Wp 258 (mm_blk 258 9) [zR (40, 0, 0), zI x1, zI x2, zI x3, zI x4, zI x5, vx6, zI x7] [zI 0] (mm_z hi dh nx ns) Q :=
  mm_kb bq_258_8 ((wp_1).trans ((wp_0).trans (rfl)))
theorem r_258_9 (x1 : Int) (x2 : Int) (x3 : Int) (x4 : Int) (x5 : Int) (vx6 : mm_V) (x7 : Int) (y0 : Int) {hi : mm_Id → Int → Int} {dh : Int → Int} {nx ns : Int} {Q : mm_V → mm_H → Prop} (hy : 5306 ≤ nx) :
    mm_Wp 258 (mm_blk 258 9) [zR (40, 0, 0), zI x1, zI x2, zI x3, zI x4, zI x5, vx6, zI x7] [zI y0] (mm_z hi dh nx ns) Q =
    mm_Wp 258 (mm_blk 258 7) [zR (40, 0, 0), zI x1, zI x2, zI x3, zI x4, zI x5, zI y0, zI (mm_w (x7 + 1))] [] (mm_z hi dh nx ns) Q :=
  mm_kb bq_258_9 ((wp_6 (l2 := [zR (40, 0, 0), zI x1, zI x2, zI x3, zI x4, zI x5, zI y0, zI x7]) rfl).trans ((wp_9 (l2 := [zR (40, 0, 0), zI x1, zI x2, zI x3, zI x4, zI x5, zI y0, zI (mm_w (x7 + 1))]) rfl rfl).trans ((wp_56).trans (rfl))))
theorem r_258_27 (x1 : Int) (x2 : Int) (x3 : Int) (x4 : Int) (vx5 : mm_V) (vx6 : mm_V) (vx7 : mm_V) (y0 : Int) {hi : mm_Id → Int → Int} {dh : Int → Int} {nx ns : Int} {Q : mm_V → mm_H → Prop} (hvx5 : mm_wt vx5 = 1) (hy : 5306 ≤ nx) :
    mm_Wp 258 (mm_blk 258 27) [zR (40, 0, 0), zI x1, zI x2, zI x3, zI x4, vx5, vx6, vx7] [zI y0] (mm_z hi dh nx ns) Q =
    mm_Wp 258 (mm_blk 258 28) [zR (40, 0, 0), zI x1, zI x2, zI x3, zI x4, vx5, zI y0, zI 0] [] (mm_z hi dh nx ns) Q :=
  mm_kb bq_258_27 ((wp_6 (l2 := [zR (40, 0, 0), zI x1, zI x2, zI x3, zI x4, vx5, zI y0, vx7]) ((if_pos (mm_lb rfl)).trans (congrArg some (mm_stw rfl hvx5)))).trans ((wp_1).trans ((wp_6 (l2 := [zR (40, 0, 0), zI x1, zI x2, zI x3, zI x4, vx5, zI y0, zI 0]) rfl).trans ((wp_0).trans (rfl)))))
theorem r_258_20 (vx1 : mm_V) (vx2 : mm_V) (vx3 : mm_V) (x4 : Int) (x5 : Int) (vx6 : mm_V) (vx7 : mm_V) (y0 : Int) {hi : mm_Id → Int → Int} {dh : Int → Int} {nx ns : Int} {Q : mm_V → mm_H → Prop} (hy : 5306 ≤ nx) :
    mm_Wp 258 (mm_blk 258 20) [zR (40, 0, 0), vx1, vx2, vx3, zI x4, zI x5, vx6, vx7] [zI y0] (mm_z hi dh nx ns) Q =
    mm_Wp 258 (mm_blk 258 21) [zR (40, 0, 0), vx1, vx2, vx3, zI x4, zI x5, zI y0, zI 0] [] (mm_z hi dh nx ns) Q :=
  mm_kb bq_258_20 ((wp_6 (l2 := [zR (40, 0, 0), vx1, vx2, vx3, zI x4, zI x5, zI y0, vx7]) rfl).trans ((wp_1).trans ((wp_6 (l2 := [zR (40, 0, 0), vx1, vx2, vx3, zI x4, zI x5, zI y0, zI 0]) rfl).trans ((wp_0).trans (rfl)))))
theorem r_258_12 (vx1 : mm_V) (vx2 : mm_V) (vx3 : mm_V) (x4 : Int) (x5 : Int) (vx6 : mm_V) (vx7 : mm_V) {hi : mm_Id → Int → Int} {dh : Int → Int} {nx ns : Int} {Q : mm_V → mm_H → Prop} (hy : 5306 ≤ nx) :
    mm_Wp 258 (mm_blk 258 12) [zR (40, 0, 0), vx1, vx2, vx3, zI x4, zI x5, vx6, vx7] [] (mm_z hi dh nx ns) Q =
    mm_Wp 258 (mm_blk 258 13) [zR (40, 0, 0), vx1, vx2, vx3, zI x4, zI x5, vx6, vx7] [zI 0] (mm_z hi dh nx ns) Q :=
  mm_kb bq_258_12 ((wp_1).trans ((wp_0).trans (rfl)))
theorem r_258_13 (vx1 : mm_V) (vx2 : mm_V) (vx3 : mm_V) (x4 : Int) (x5 : Int) (vx6 : mm_V) (vx7 : mm_V) (y0 : Int) {hi : mm_Id → Int → Int} {dh : Int → Int} {nx ns : Int} {Q : mm_V → mm_H → Prop} (hy : 5306 ≤ nx) :
    mm_Wp 258 (mm_blk 258 13) [zR (40, 0, 0), vx1, vx2, vx3, zI x4, zI x5, vx6, vx7] [zI y0] (mm_z hi dh nx ns) Q =
    mm_Wp 258 (mm_blk 258 14) [zR (40, 0, 0), vx1, vx2, vx3, zI x4, zI x5, zI y0, zI 0] [] (mm_z hi dh nx ns) Q :=
  mm_kb bq_258_13 ((wp_6 (l2 := [zR (40, 0, 0), vx1, vx2, vx3, zI x4, zI x5, zI y0, vx7]) rfl).trans ((wp_1).trans ((wp_6 (l2 := [zR (40, 0, 0), vx1, vx2, vx3, zI x4, zI x5, zI y0, zI 0]) rfl).trans ((wp_0).trans (rfl)))))
theorem r_258_28 (x1 : Int) (x2 : Int) (x3 : Int) (x4 : Int) (vx5 : mm_V) (x6 : Int) (x7 : Int) {hi : mm_Id → Int → Int} {dh : Int → Int} {nx ns : Int} {Q : mm_V → mm_H → Prop} (hy : 5306 ≤ nx) :
    mm_Wp 258 (mm_blk 258 28) [zR (40, 0, 0), zI x1, zI x2, zI x3, zI x4, vx5, zI x6, zI x7] [] (mm_z hi dh nx ns) Q =
    ((0 ≤ x4 ∧ x4 < 1044) ∧ (if x7 < (hi (42, 0, 0) x4) then (if x6 = 0 then mm_Wp 258 (mm_blk 258 31) [zR (40, 0, 0), zI x1, zI x2, zI x3, zI x4, vx5, zI x6, zI x7] [] (mm_z hi dh nx ns) Q else mm_Cl 207 [zR (40, 0, 0), zI x1, zI x3, zI x7] (mm_z hi dh nx ns) (fun r h3 => mm_Wp 258 (bk_258_28.drop 13) [zR (40, 0, 0), zI x1, zI x2, zI x3, zI x4, vx5, zI x6, zI x7] (mm_push r []) h3 Q)) else mm_Wp 258 (mm_blk 258 31) [zR (40, 0, 0), zI x1, zI x2, zI x3, zI x4, vx5, zI x6, zI x7] [] (mm_z hi dh nx ns) Q)) :=
  mm_kb bq_258_28 ((wp_3_7).trans ((wp_5_0).trans ((wp_62 (by decide) (mm_o40 hy) (mm_r40_3 hy)).trans ((wp_3_4).trans ((wp_70 (mm_q42 hy)).trans (mm_ae ((wp_49).trans (mm_ic ((wp_3_6).trans ((wp_40).trans (mm_ic (rfl) ((wp_5_0).trans ((wp_3_1).trans ((wp_3_3).trans ((wp_3_7).trans ((wp_v4 mm_n_207 (mm_leq mm_m_207 (mm_lb rfl)) (mm_lb rfl) (mm_o40 hy)).trans rfl)))))))) (rfl)))))))))
theorem r_258_21 (vx1 : mm_V) (vx2 : mm_V) (vx3 : mm_V) (x4 : Int) (x5 : Int) (x6 : Int) (x7 : Int) {hi : mm_Id → Int → Int} {dh : Int → Int} {nx ns : Int} {Q : mm_V → mm_H → Prop} (hy : 5306 ≤ nx) :
    mm_Wp 258 (mm_blk 258 21) [zR (40, 0, 0), vx1, vx2, vx3, zI x4, zI x5, zI x6, zI x7] [] (mm_z hi dh nx ns) Q =
    ((0 ≤ x4 ∧ x4 < 1044) ∧ (if x7 < (hi (44, 0, 0) x4) then (if x6 = 0 then mm_Wp 258 (mm_blk 258 24) [zR (40, 0, 0), vx1, vx2, vx3, zI x4, zI x5, zI x6, zI x7] [] (mm_z hi dh nx ns) Q else ((0 ≤ (mm_w ((mm_w (24 * x4)) + x7)) ∧ (mm_w ((mm_w (24 * x4)) + x7)) < 25056) ∧ ((0 ≤ (mm_w ((mm_w (24 * x5)) + x7)) ∧ (mm_w ((mm_w (24 * x5)) + x7)) < 25056) ∧ (if (hi (45, 0, 0) (mm_w ((mm_w (24 * x4)) + x7))) = (hi (45, 0, 0) (mm_w ((mm_w (24 * x5)) + x7))) then ((0 ≤ (mm_w ((mm_w (24 * x4)) + x7)) ∧ (mm_w ((mm_w (24 * x4)) + x7)) < 25056) ∧ ((0 ≤ (mm_w ((mm_w (24 * x5)) + x7)) ∧ (mm_w ((mm_w (24 * x5)) + x7)) < 25056) ∧ (if (hi (46, 0, 0) (mm_w ((mm_w (24 * x4)) + x7))) = (hi (46, 0, 0) (mm_w ((mm_w (24 * x5)) + x7))) then mm_Wp 258 (mm_blk 258 23) [zR (40, 0, 0), vx1, vx2, vx3, zI x4, zI x5, zI x6, zI x7] [zI 1] (mm_z hi dh nx ns) Q else mm_Wp 258 (mm_blk 258 22) [zR (40, 0, 0), vx1, vx2, vx3, zI x4, zI x5, zI x6, zI x7] [] (mm_z hi dh nx ns) Q))) else mm_Wp 258 (mm_blk 258 22) [zR (40, 0, 0), vx1, vx2, vx3, zI x4, zI x5, zI x6, zI x7] [] (mm_z hi dh nx ns) Q)))) else mm_Wp 258 (mm_blk 258 24) [zR (40, 0, 0), vx1, vx2, vx3, zI x4, zI x5, zI x6, zI x7] [] (mm_z hi dh nx ns) Q)) :=
  mm_kb bq_258_21 ((wp_3_7).trans ((wp_5_0).trans ((wp_62 (by decide) (mm_o40 hy) (mm_r40_5 hy)).trans ((wp_3_4).trans ((wp_70 (mm_q44 hy)).trans (mm_ae ((wp_49).trans (mm_ic ((wp_3_6).trans ((wp_40).trans (mm_ic (rfl) ((wp_5_0).trans ((wp_62 (by decide) (mm_o40 hy) (mm_r40_6 hy)).trans ((wp_1).trans ((wp_3_4).trans ((wp_12).trans ((wp_3_7).trans ((wp_10).trans ((wp_70 (mm_q45 hy)).trans (mm_ae ((wp_5_0).trans ((wp_62 (by decide) (mm_o40 hy) (mm_r40_6 hy)).trans ((wp_1).trans ((wp_3_5).trans ((wp_12).trans ((wp_3_7).trans ((wp_10).trans ((wp_70 (mm_q45 hy)).trans (mm_ae ((wp_47).trans (mm_ic ((wp_5_0).trans ((wp_62 (by decide) (mm_o40 hy) (mm_r40_7 hy)).trans ((wp_1).trans ((wp_3_4).trans ((wp_12).trans ((wp_3_7).trans ((wp_10).trans ((wp_70 (mm_q46 hy)).trans (mm_ae ((wp_5_0).trans ((wp_62 (by decide) (mm_o40 hy) (mm_r40_7 hy)).trans ((wp_1).trans ((wp_3_5).trans ((wp_12).trans ((wp_3_7).trans ((wp_10).trans ((wp_70 (mm_q46 hy)).trans (mm_ae ((wp_47).trans (mm_ic ((wp_1).trans ((wp_56).trans (rfl))) (rfl))))))))))))))))))))) (rfl)))))))))))))))))))))))) (rfl)))))))))
theorem r_258_14 (vx1 : mm_V) (vx2 : mm_V) (vx3 : mm_V) (x4 : Int) (x5 : Int) (x6 : Int) (x7 : Int) {hi : mm_Id → Int → Int} {dh : Int → Int} {nx ns : Int} {Q : mm_V → mm_H → Prop} (hy : 5306 ≤ nx) :
    mm_Wp 258 (mm_blk 258 14) [zR (40, 0, 0), vx1, vx2, vx3, zI x4, zI x5, zI x6, zI x7] [] (mm_z hi dh nx ns) Q =
    ((0 ≤ x4 ∧ x4 < 1044) ∧ (if x7 < (hi (42, 0, 0) x4) then (if x6 = 0 then mm_Wp 258 (mm_blk 258 17) [zR (40, 0, 0), vx1, vx2, vx3, zI x4, zI x5, zI x6, zI x7] [] (mm_z hi dh nx ns) Q else ((0 ≤ (mm_w ((mm_w (8 * x4)) + x7)) ∧ (mm_w ((mm_w (8 * x4)) + x7)) < 8352) ∧ ((0 ≤ (mm_w ((mm_w (8 * x5)) + x7)) ∧ (mm_w ((mm_w (8 * x5)) + x7)) < 8352) ∧ (if (hi (52, 0, 0) (mm_w ((mm_w (8 * x4)) + x7))) = (hi (52, 0, 0) (mm_w ((mm_w (8 * x5)) + x7))) then mm_Wp 258 (mm_blk 258 16) [zR (40, 0, 0), vx1, vx2, vx3, zI x4, zI x5, zI x6, zI x7] [zI 1] (mm_z hi dh nx ns) Q else mm_Wp 258 (mm_blk 258 16) [zR (40, 0, 0), vx1, vx2, vx3, zI x4, zI x5, zI x6, zI x7] [zI 0] (mm_z hi dh nx ns) Q)))) else mm_Wp 258 (mm_blk 258 17) [zR (40, 0, 0), vx1, vx2, vx3, zI x4, zI x5, zI x6, zI x7] [] (mm_z hi dh nx ns) Q)) :=
  mm_kb bq_258_14 ((wp_3_7).trans ((wp_5_0).trans ((wp_62 (by decide) (mm_o40 hy) (mm_r40_3 hy)).trans ((wp_3_4).trans ((wp_70 (mm_q42 hy)).trans (mm_ae ((wp_49).trans (mm_ic ((wp_3_6).trans ((wp_40).trans (mm_ic (rfl) ((wp_5_0).trans ((wp_62 (by decide) (mm_o40 hy) (mm_r40_13 hy)).trans ((wp_1).trans ((wp_3_4).trans ((wp_12).trans ((wp_3_7).trans ((wp_10).trans ((wp_70 (mm_q52 hy)).trans (mm_ae ((wp_5_0).trans ((wp_62 (by decide) (mm_o40 hy) (mm_r40_13 hy)).trans ((wp_1).trans ((wp_3_5).trans ((wp_12).trans ((wp_3_7).trans ((wp_10).trans ((wp_70 (mm_q52 hy)).trans (mm_ae ((wp_47).trans (mm_ic ((wp_1).trans ((wp_56).trans (rfl))) (mm_kb bq_258_15 ((wp_1).trans ((wp_0).trans (rfl))))))))))))))))))))))))))) (rfl)))))))))
theorem r_258_31 (vx0 : mm_V) (vx1 : mm_V) (vx2 : mm_V) (vx3 : mm_V) (vx4 : mm_V) (vx5 : mm_V) (x6 : Int) (vx7 : mm_V) {hi : mm_Id → Int → Int} {dh : Int → Int} {nx ns : Int} {Q : mm_V → mm_H → Prop} (hy : 5306 ≤ nx) :
    mm_Wp 258 (mm_blk 258 31) [vx0, vx1, vx2, vx3, vx4, vx5, zI x6, vx7] [] (mm_z hi dh nx ns) Q =
    ((x6 = 0 ∨ x6 = 1) ∧ Q (zI x6) (mm_z hi dh nx ns)) :=
  mm_kb bq_258_31 ((wp_3_6).trans (wp_94z))
theorem r_258_28_13 (x1 : Int) (x2 : Int) (x3 : Int) (x4 : Int) (vx5 : mm_V) (vx6 : mm_V) (x7 : Int) (y0 : Int) {hi : mm_Id → Int → Int} {dh : Int → Int} {nx ns : Int} {Q : mm_V → mm_H → Prop} (hy : 5306 ≤ nx) :
    mm_Wp 258 (bk_258_28.drop 13) [zR (40, 0, 0), zI x1, zI x2, zI x3, zI x4, vx5, vx6, zI x7] [zI y0] (mm_z hi dh nx ns) Q =
    mm_Cl 207 [zR (40, 0, 0), zI x2, zI x3, zI x7] (mm_z hi dh nx ns) (fun r h3 => mm_Wp 258 (bk_258_28.drop 18) [zR (40, 0, 0), zI x1, zI x2, zI x3, zI x4, vx5, vx6, zI x7] (mm_push r [zI y0]) h3 Q) :=
  (wp_5_0).trans ((wp_3_2).trans ((wp_3_3).trans ((wp_3_7).trans ((wp_v4 mm_n_207 (mm_leq mm_m_207 (mm_lb rfl)) (mm_lb rfl) (mm_o40 hy)).trans rfl))))
theorem r_258_24 (vx0 : mm_V) (vx1 : mm_V) (vx2 : mm_V) (vx3 : mm_V) (vx4 : mm_V) (vx5 : mm_V) (x6 : Int) (vx7 : mm_V) {hi : mm_Id → Int → Int} {dh : Int → Int} {nx ns : Int} {Q : mm_V → mm_H → Prop} (hy : 5306 ≤ nx) :
    mm_Wp 258 (mm_blk 258 24) [vx0, vx1, vx2, vx3, vx4, vx5, zI x6, vx7] [] (mm_z hi dh nx ns) Q =
    ((x6 = 0 ∨ x6 = 1) ∧ Q (zI x6) (mm_z hi dh nx ns)) :=
  mm_kb bq_258_24 ((wp_3_6).trans (wp_94z))
theorem r_258_22 (vx1 : mm_V) (vx2 : mm_V) (vx3 : mm_V) (x4 : Int) (x5 : Int) (vx6 : mm_V) (x7 : Int) {hi : mm_Id → Int → Int} {dh : Int → Int} {nx ns : Int} {Q : mm_V → mm_H → Prop} (hy : 5306 ≤ nx) :
    mm_Wp 258 (mm_blk 258 22) [zR (40, 0, 0), vx1, vx2, vx3, zI x4, zI x5, vx6, zI x7] [] (mm_z hi dh nx ns) Q =
    mm_Wp 258 (mm_blk 258 23) [zR (40, 0, 0), vx1, vx2, vx3, zI x4, zI x5, vx6, zI x7] [zI 0] (mm_z hi dh nx ns) Q :=
  mm_kb bq_258_22 ((wp_1).trans ((wp_0).trans (rfl)))
theorem r_258_23 (vx1 : mm_V) (vx2 : mm_V) (vx3 : mm_V) (x4 : Int) (x5 : Int) (vx6 : mm_V) (x7 : Int) (y0 : Int) {hi : mm_Id → Int → Int} {dh : Int → Int} {nx ns : Int} {Q : mm_V → mm_H → Prop} (hy : 5306 ≤ nx) :
    mm_Wp 258 (mm_blk 258 23) [zR (40, 0, 0), vx1, vx2, vx3, zI x4, zI x5, vx6, zI x7] [zI y0] (mm_z hi dh nx ns) Q =
    mm_Wp 258 (mm_blk 258 21) [zR (40, 0, 0), vx1, vx2, vx3, zI x4, zI x5, zI y0, zI (mm_w (x7 + 1))] [] (mm_z hi dh nx ns) Q :=
  mm_kb bq_258_23 ((wp_6 (l2 := [zR (40, 0, 0), vx1, vx2, vx3, zI x4, zI x5, zI y0, zI x7]) rfl).trans ((wp_9 (l2 := [zR (40, 0, 0), vx1, vx2, vx3, zI x4, zI x5, zI y0, zI (mm_w (x7 + 1))]) rfl rfl).trans ((wp_56).trans (rfl))))
theorem r_258_17 (vx0 : mm_V) (vx1 : mm_V) (vx2 : mm_V) (vx3 : mm_V) (vx4 : mm_V) (vx5 : mm_V) (x6 : Int) (vx7 : mm_V) {hi : mm_Id → Int → Int} {dh : Int → Int} {nx ns : Int} {Q : mm_V → mm_H → Prop} (hy : 5306 ≤ nx) :
    mm_Wp 258 (mm_blk 258 17) [vx0, vx1, vx2, vx3, vx4, vx5, zI x6, vx7] [] (mm_z hi dh nx ns) Q =
    ((x6 = 0 ∨ x6 = 1) ∧ Q (zI x6) (mm_z hi dh nx ns)) :=
  mm_kb bq_258_17 ((wp_3_6).trans (wp_94z))
theorem r_258_16 (vx1 : mm_V) (vx2 : mm_V) (vx3 : mm_V) (x4 : Int) (x5 : Int) (vx6 : mm_V) (x7 : Int) (y0 : Int) {hi : mm_Id → Int → Int} {dh : Int → Int} {nx ns : Int} {Q : mm_V → mm_H → Prop} (hy : 5306 ≤ nx) :
    mm_Wp 258 (mm_blk 258 16) [zR (40, 0, 0), vx1, vx2, vx3, zI x4, zI x5, vx6, zI x7] [zI y0] (mm_z hi dh nx ns) Q =
    mm_Wp 258 (mm_blk 258 14) [zR (40, 0, 0), vx1, vx2, vx3, zI x4, zI x5, zI y0, zI (mm_w (x7 + 1))] [] (mm_z hi dh nx ns) Q :=
  mm_kb bq_258_16 ((wp_6 (l2 := [zR (40, 0, 0), vx1, vx2, vx3, zI x4, zI x5, zI y0, zI x7]) rfl).trans ((wp_9 (l2 := [zR (40, 0, 0), vx1, vx2, vx3, zI x4, zI x5, zI y0, zI (mm_w (x7 + 1))]) rfl rfl).trans ((wp_56).trans (rfl))))
theorem r_258_28_18 (x1 : Int) (x2 : Int) (x3 : Int) (x4 : Int) (vx5 : mm_V) (vx6 : mm_V) (x7 : Int) (y0 : Int) (y1 : Int) {hi : mm_Id → Int → Int} {dh : Int → Int} {nx ns : Int} {Q : mm_V → mm_H → Prop} (hy : 5306 ≤ nx) :
    mm_Wp 258 (bk_258_28.drop 18) [zR (40, 0, 0), zI x1, zI x2, zI x3, zI x4, vx5, vx6, zI x7] [zI y0, zI y1] (mm_z hi dh nx ns) Q =
    (if y1 = y0 then mm_Wp 258 (mm_blk 258 30) [zR (40, 0, 0), zI x1, zI x2, zI x3, zI x4, vx5, vx6, zI x7] [zI 1] (mm_z hi dh nx ns) Q else mm_Wp 258 (mm_blk 258 30) [zR (40, 0, 0), zI x1, zI x2, zI x3, zI x4, vx5, vx6, zI x7] [zI 0] (mm_z hi dh nx ns) Q) :=
  (wp_47).trans (mm_ic ((wp_1).trans ((wp_56).trans (rfl))) (mm_kb bq_258_29 ((wp_1).trans ((wp_0).trans (rfl)))))
theorem r_258_30 (x1 : Int) (x2 : Int) (x3 : Int) (x4 : Int) (vx5 : mm_V) (vx6 : mm_V) (x7 : Int) (y0 : Int) {hi : mm_Id → Int → Int} {dh : Int → Int} {nx ns : Int} {Q : mm_V → mm_H → Prop} (hvx5 : mm_wt vx5 = 1) (hy : 5306 ≤ nx) :
    mm_Wp 258 (mm_blk 258 30) [zR (40, 0, 0), zI x1, zI x2, zI x3, zI x4, vx5, vx6, zI x7] [zI y0] (mm_z hi dh nx ns) Q =
    mm_Wp 258 (mm_blk 258 28) [zR (40, 0, 0), zI x1, zI x2, zI x3, zI x4, vx5, zI y0, zI (mm_w (x7 + 1))] [] (mm_z hi dh nx ns) Q :=
  mm_kb bq_258_30 ((wp_6 (l2 := [zR (40, 0, 0), zI x1, zI x2, zI x3, zI x4, vx5, zI y0, zI x7]) ((if_pos (mm_lb rfl)).trans (congrArg some (mm_stw rfl hvx5)))).trans ((wp_9 (l2 := [zR (40, 0, 0), zI x1, zI x2, zI x3, zI x4, vx5, zI y0, zI (mm_w (x7 + 1))]) rfl rfl).trans ((wp_56).trans (rfl))))
/-- PoolHouseModel.differs(III)I -/
theorem bq_259_0 : mm_blk 259 0 = bk_259_0 := by decide +kernel
theorem bq_259_1 : mm_blk 259 1 = bk_259_1 := by decide +kernel
theorem bq_259_2 : mm_blk 259 2 = bk_259_2 := by decide +kernel
theorem bq_259_3 : mm_blk 259 3 = bk_259_3 := by decide +kernel
theorem bq_259_4 : mm_blk 259 4 = bk_259_4 := by decide +kernel
theorem bq_259_5 : mm_blk 259 5 = bk_259_5 := by decide +kernel
theorem bq_259_6 : mm_blk 259 6 = bk_259_6 := by decide +kernel
theorem bq_259_7 : mm_blk 259 7 = bk_259_7 := by decide +kernel
theorem r_259_e (x1 : Int) (x2 : Int) (x3 : Int) {hi : mm_Id → Int → Int} {dh : Int → Int} {nx ns : Int} {Q : mm_V → mm_H → Prop} (hy : 5306 ≤ nx) :
    mm_Cl 259 [zR (40, 0, 0), zI x1, zI x2, zI x3] (mm_z hi dh nx ns) Q =
    mm_Cl 181 [zR (40, 0, 0), zI x1] (mm_z (mm_up hi (40, 0, 0) 0 0) dh nx ns) (fun r h3 => mm_Wp 259 (bk_259_0.drop 6) [zR (40, 0, 0), zI x1, zI x2, zI x3, zU, zU, zU, zU] (mm_push r []) h3 Q) :=
  mm_ce (l2 := [zR (40, 0, 0), zI x1, zI x2, zI x3, zU, zU, zU, zU]) rfl (mm_kb bq_259_0 ((wp_5_0).trans ((wp_1).trans ((wp_63 (mm_o40 hy)).trans ((wp_5_0).trans ((wp_3_1).trans ((wp_v2 mm_n_181 (mm_leq mm_m_181 (mm_lb rfl)) (mm_lb rfl) (mm_o40 hy)).trans rfl)))))))
theorem r_259_0_6 (vx1 : mm_V) (x2 : Int) (x3 : Int) (vx4 : mm_V) (vx5 : mm_V) (vx6 : mm_V) (vx7 : mm_V) (y0 : Int) {hi : mm_Id → Int → Int} {dh : Int → Int} {nx ns : Int} {Q : mm_V → mm_H → Prop} (hy : 5306 ≤ nx) :
    mm_Wp 259 (bk_259_0.drop 6) [zR (40, 0, 0), vx1, zI x2, zI x3, vx4, vx5, vx6, vx7] [zI y0] (mm_z hi dh nx ns) Q =
    mm_Cl 181 [zR (40, 0, 0), zI x2] (mm_z hi dh nx ns) (fun r h3 => mm_Wp 259 (bk_259_0.drop 10) [zR (40, 0, 0), vx1, zI x2, zI x3, zI y0, vx5, vx6, vx7] (mm_push r []) h3 Q) :=
  (wp_6 (l2 := [zR (40, 0, 0), vx1, zI x2, zI x3, zI y0, vx5, vx6, vx7]) rfl).trans ((wp_5_0).trans ((wp_3_2).trans ((wp_v2 mm_n_181 (mm_leq mm_m_181 (mm_lb rfl)) (mm_lb rfl) (mm_o40 hy)).trans rfl)))
theorem r_259_0_10 (vx1 : mm_V) (vx2 : mm_V) (x3 : Int) (x4 : Int) (vx5 : mm_V) (vx6 : mm_V) (vx7 : mm_V) (y0 : Int) {hi : mm_Id → Int → Int} {dh : Int → Int} {nx ns : Int} {Q : mm_V → mm_H → Prop} (hy : 5306 ≤ nx) :
    mm_Wp 259 (bk_259_0.drop 10) [zR (40, 0, 0), vx1, vx2, zI x3, zI x4, vx5, vx6, vx7] [zI y0] (mm_z hi dh nx ns) Q =
    (if x4 < 0 then mm_Wp 259 (mm_blk 259 1) [zR (40, 0, 0), vx1, vx2, zI x3, zI x4, zI y0, vx6, vx7] [] (mm_z hi dh nx ns) Q else (if y0 < 0 then mm_Wp 259 (mm_blk 259 1) [zR (40, 0, 0), vx1, vx2, zI x3, zI x4, zI y0, vx6, vx7] [] (mm_z hi dh nx ns) Q else mm_Wp 259 (mm_blk 259 3) [zR (40, 0, 0), vx1, vx2, zI x3, zI x4, zI y0, zI x3, zI 1] [] (mm_z hi dh nx ns) Q)) :=
  (wp_6 (l2 := [zR (40, 0, 0), vx1, vx2, zI x3, zI x4, zI y0, vx6, vx7]) rfl).trans ((wp_3_4).trans ((wp_42).trans (mm_ic (rfl) ((wp_3_5).trans ((wp_43).trans (mm_ic ((wp_0).trans (rfl)) (mm_kb bq_259_2 ((wp_3_3).trans ((wp_6 (l2 := [zR (40, 0, 0), vx1, vx2, zI x3, zI x4, zI y0, zI x3, vx7]) rfl).trans ((wp_1).trans ((wp_6 (l2 := [zR (40, 0, 0), vx1, vx2, zI x3, zI x4, zI y0, zI x3, zI 1]) rfl).trans ((wp_0).trans (rfl)))))))))))))
theorem r_259_1 (vx0 : mm_V) (vx1 : mm_V) (vx2 : mm_V) (vx3 : mm_V) (vx4 : mm_V) (vx5 : mm_V) (vx6 : mm_V) (vx7 : mm_V) {hi : mm_Id → Int → Int} {dh : Int → Int} {nx ns : Int} {Q : mm_V → mm_H → Prop} (hy : 5306 ≤ nx) :
    mm_Wp 259 (mm_blk 259 1) [vx0, vx1, vx2, vx3, vx4, vx5, vx6, vx7] [] (mm_z hi dh nx ns) Q =
    Q (zI (-1)) (mm_z hi dh nx ns) :=
  mm_kb bq_259_1 ((wp_1).trans (wp_90))
theorem r_259_3 (vx1 : mm_V) (vx2 : mm_V) (x3 : Int) (x4 : Int) (x5 : Int) (x6 : Int) (x7 : Int) {hi : mm_Id → Int → Int} {dh : Int → Int} {nx ns : Int} {Q : mm_V → mm_H → Prop} (hy : 5306 ≤ nx) :
    mm_Wp 259 (mm_blk 259 3) [zR (40, 0, 0), vx1, vx2, zI x3, zI x4, zI x5, zI x6, zI x7] [] (mm_z hi dh nx ns) Q =
    (if 36 < x7 then mm_Wp 259 (mm_blk 259 7) [zR (40, 0, 0), vx1, vx2, zI x3, zI x4, zI x5, zI x6, zI x7] [] (mm_z hi dh nx ns) Q else (if x3 < 0 then mm_Wp 259 (mm_blk 259 7) [zR (40, 0, 0), vx1, vx2, zI x3, zI x4, zI x5, zI x6, zI x7] [] (mm_z hi dh nx ns) Q else mm_Cl 258 [zR (40, 0, 0), zI x4, zI x5, zI x7] (mm_z hi dh nx ns) (fun r h3 => mm_Wp 259 (bk_259_3.drop 10) [zR (40, 0, 0), vx1, vx2, zI x3, zI x4, zI x5, zI x6, zI x7] (mm_push r []) h3 Q))) :=
  mm_kb bq_259_3 ((wp_3_7).trans ((wp_1).trans ((wp_50).trans (mm_ic (rfl) ((wp_3_3).trans ((wp_42).trans (mm_ic (rfl) ((wp_5_0).trans ((wp_3_4).trans ((wp_3_5).trans ((wp_3_7).trans ((wp_v4 mm_n_258 (mm_leq mm_m_258 (mm_lb rfl)) (mm_lb rfl) (mm_o40 hy)).trans rfl))))))))))))
theorem r_259_7 (vx0 : mm_V) (vx1 : mm_V) (vx2 : mm_V) (vx3 : mm_V) (vx4 : mm_V) (vx5 : mm_V) (vx6 : mm_V) (vx7 : mm_V) {hi : mm_Id → Int → Int} {dh : Int → Int} {nx ns : Int} {Q : mm_V → mm_H → Prop} (hy : 5306 ≤ nx) :
    mm_Wp 259 (mm_blk 259 7) [vx0, vx1, vx2, vx3, vx4, vx5, vx6, vx7] [] (mm_z hi dh nx ns) Q =
    Q (zI (-2)) (mm_z hi dh nx ns) :=
  mm_kb bq_259_7 ((wp_1).trans (wp_90))
theorem r_259_3_10 (vx1 : mm_V) (vx2 : mm_V) (x3 : Int) (x4 : Int) (x5 : Int) (x6 : Int) (x7 : Int) (y0 : Int) {hi : mm_Id → Int → Int} {dh : Int → Int} {nx ns : Int} {Q : mm_V → mm_H → Prop} (hy : 5306 ≤ nx) :
    mm_Wp 259 (bk_259_3.drop 10) [zR (40, 0, 0), vx1, vx2, zI x3, zI x4, zI x5, zI x6, zI x7] [zI y0] (mm_z hi dh nx ns) Q =
    (if y0 = 0 then (if x6 = 0 then Q (zI x7) (mm_z hi dh nx ns) else mm_Wp 259 (mm_blk 259 6) [zR (40, 0, 0), vx1, vx2, zI x3, zI x4, zI x5, zI (mm_w (x6 + (-1))), zI x7] [] (mm_z hi dh nx ns) Q) else mm_Wp 259 (mm_blk 259 6) [zR (40, 0, 0), vx1, vx2, zI x3, zI x4, zI x5, zI x6, zI x7] [] (mm_z hi dh nx ns) Q) :=
  (wp_40).trans (mm_ic (mm_kb bq_259_4 ((wp_3_6).trans ((wp_41).trans (mm_ic ((wp_3_7).trans (wp_90)) (mm_kb bq_259_5 ((wp_9 (l2 := [zR (40, 0, 0), vx1, vx2, zI x3, zI x4, zI x5, zI (mm_w (x6 + (-1))), zI x7]) rfl rfl).trans ((wp_0).trans (rfl)))))))) ((wp_56).trans (rfl)))
theorem r_259_6 (vx1 : mm_V) (vx2 : mm_V) (x3 : Int) (x4 : Int) (x5 : Int) (x6 : Int) (x7 : Int) {hi : mm_Id → Int → Int} {dh : Int → Int} {nx ns : Int} {Q : mm_V → mm_H → Prop} (hy : 5306 ≤ nx) :
    mm_Wp 259 (mm_blk 259 6) [zR (40, 0, 0), vx1, vx2, zI x3, zI x4, zI x5, zI x6, zI x7] [] (mm_z hi dh nx ns) Q =
    mm_Wp 259 (mm_blk 259 3) [zR (40, 0, 0), vx1, vx2, zI x3, zI x4, zI x5, zI x6, zI (mm_w (x7 + 1))] [] (mm_z hi dh nx ns) Q :=
  mm_kb bq_259_6 ((wp_9 (l2 := [zR (40, 0, 0), vx1, vx2, zI x3, zI x4, zI x5, zI x6, zI (mm_w (x7 + 1))]) rfl rfl).trans ((wp_56).trans (rfl)))
/-- PoolHouseModel.send(II)I -/
theorem bq_260_0 : mm_blk 260 0 = bk_260_0 := by decide +kernel
theorem bq_260_1 : mm_blk 260 1 = bk_260_1 := by decide +kernel
theorem bq_260_2 : mm_blk 260 2 = bk_260_2 := by decide +kernel
theorem bq_260_3 : mm_blk 260 3 = bk_260_3 := by decide +kernel
theorem bq_260_4 : mm_blk 260 4 = bk_260_4 := by decide +kernel
theorem r_260_e (x1 : Int) (x2 : Int) {hi : mm_Id → Int → Int} {dh : Int → Int} {nx ns : Int} {Q : mm_V → mm_H → Prop} (hy : 5306 ≤ nx) :
    mm_Cl 260 [zR (40, 0, 0), zI x1, zI x2] (mm_z hi dh nx ns) Q =
    mm_Cl 183 [zR (40, 0, 0), zI x1] (mm_z (mm_up hi (40, 0, 0) 0 0) dh nx ns) (fun r h3 => mm_Wp 260 (bk_260_0.drop 6) [zR (40, 0, 0), zI x1, zI x2, zU, zU] (mm_push r []) h3 Q) :=
  mm_ce (l2 := [zR (40, 0, 0), zI x1, zI x2, zU, zU]) rfl (mm_kb bq_260_0 ((wp_5_0).trans ((wp_1).trans ((wp_63 (mm_o40 hy)).trans ((wp_5_0).trans ((wp_3_1).trans ((wp_v2 mm_n_183 (mm_leq mm_m_183 (mm_lb rfl)) (mm_lb rfl) (mm_o40 hy)).trans rfl)))))))
theorem r_260_0_6 (vx1 : mm_V) (x2 : Int) (vx3 : mm_V) (vx4 : mm_V) (y0 : Int) {hi : mm_Id → Int → Int} {dh : Int → Int} {nx ns : Int} {Q : mm_V → mm_H → Prop} (hy : 5306 ≤ nx) :
    mm_Wp 260 (bk_260_0.drop 6) [zR (40, 0, 0), vx1, zI x2, vx3, vx4] [zI y0] (mm_z hi dh nx ns) Q =
    mm_Cl 183 [zR (40, 0, 0), zI x2] (mm_z hi dh nx ns) (fun r h3 => mm_Wp 260 (bk_260_0.drop 10) [zR (40, 0, 0), vx1, zI x2, zI y0, vx4] (mm_push r []) h3 Q) :=
  (wp_6 (l2 := [zR (40, 0, 0), vx1, zI x2, zI y0, vx4]) rfl).trans ((wp_5_0).trans ((wp_3_2).trans ((wp_v2 mm_n_183 (mm_leq mm_m_183 (mm_lb rfl)) (mm_lb rfl) (mm_o40 hy)).trans rfl)))
theorem r_260_0_10 (vx1 : mm_V) (vx2 : mm_V) (x3 : Int) (vx4 : mm_V) (y0 : Int) {hi : mm_Id → Int → Int} {dh : Int → Int} {nx ns : Int} {Q : mm_V → mm_H → Prop} (hy : 5306 ≤ nx) :
    mm_Wp 260 (bk_260_0.drop 10) [zR (40, 0, 0), vx1, vx2, zI x3, vx4] [zI y0] (mm_z hi dh nx ns) Q =
    (if x3 < 0 then mm_Wp 260 (mm_blk 260 1) [zR (40, 0, 0), vx1, vx2, zI x3, zI y0] [] (mm_z hi dh nx ns) Q else (if y0 < 0 then mm_Wp 260 (mm_blk 260 1) [zR (40, 0, 0), vx1, vx2, zI x3, zI y0] [] (mm_z hi dh nx ns) Q else ((0 ≤ x3 ∧ x3 < 26) ∧ ((0 ≤ y0 ∧ y0 < 26) ∧ (if (hi (58, 0, 0) x3) = (hi (58, 0, 0) y0) then (if (hi (40, 0, 0) 29) = 0 then mm_Cl 179 [zR (40, 0, 0), zI x3, zI 26] (mm_z hi dh nx ns) (fun r h3 => mm_Wp 260 (bk_260_4.drop 4) [zR (40, 0, 0), vx1, vx2, zI x3, zI y0] (mm_push r []) h3 Q) else Q (zI (-5)) (mm_z hi dh nx ns)) else Q (zI (-3)) (mm_z hi dh nx ns)))))) :=
  (wp_6 (l2 := [zR (40, 0, 0), vx1, vx2, zI x3, zI y0]) rfl).trans ((wp_3_3).trans ((wp_42).trans (mm_ic (rfl) ((wp_3_4).trans ((wp_43).trans (mm_ic ((wp_0).trans (rfl)) (mm_kb bq_260_2 ((wp_5_0).trans ((wp_62 (by decide) (mm_o40 hy) (mm_r40_20 hy)).trans ((wp_3_3).trans ((wp_70 (mm_q58 hy)).trans (mm_ae ((wp_5_0).trans ((wp_62 (by decide) (mm_o40 hy) (mm_r40_20 hy)).trans ((wp_3_4).trans ((wp_70 (mm_q58 hy)).trans (mm_ae ((wp_46).trans (mm_ic (mm_kb bq_260_3 ((wp_5_0).trans ((wp_60 (by decide) (mm_o40 hy)).trans ((wp_40).trans (mm_ic (mm_kb bq_260_4 ((wp_5_0).trans ((wp_3_3).trans ((wp_1).trans ((wp_v3 mm_n_179 (mm_leq mm_m_179 (mm_lb rfl)) (mm_lb rfl) (mm_o40 hy)).trans rfl))))) ((wp_1).trans (wp_90))))))) ((wp_1).trans (wp_90)))))))))))))))))))))
theorem r_260_1 (vx0 : mm_V) (vx1 : mm_V) (vx2 : mm_V) (vx3 : mm_V) (vx4 : mm_V) {hi : mm_Id → Int → Int} {dh : Int → Int} {nx ns : Int} {Q : mm_V → mm_H → Prop} (hy : 5306 ≤ nx) :
    mm_Wp 260 (mm_blk 260 1) [vx0, vx1, vx2, vx3, vx4] [] (mm_z hi dh nx ns) Q =
    Q (zI (-1)) (mm_z hi dh nx ns) :=
  mm_kb bq_260_1 ((wp_1).trans (wp_90))
theorem r_260_4_4 (vx1 : mm_V) (vx2 : mm_V) (vx3 : mm_V) (x4 : Int) {hi : mm_Id → Int → Int} {dh : Int → Int} {nx ns : Int} {Q : mm_V → mm_H → Prop} (hy : 5306 ≤ nx) :
    mm_Wp 260 (bk_260_4.drop 4) [zR (40, 0, 0), vx1, vx2, vx3, zI x4] [] (mm_z hi dh nx ns) Q =
    mm_Cl 179 [zR (40, 0, 0), zI x4, zI 27] (mm_z hi dh nx ns) (fun r h3 => mm_Wp 260 (bk_260_4.drop 8) [zR (40, 0, 0), vx1, vx2, vx3, zI x4] (mm_push r []) h3 Q) :=
  (wp_5_0).trans ((wp_3_4).trans ((wp_1).trans ((wp_v3 mm_n_179 (mm_leq mm_m_179 (mm_lb rfl)) (mm_lb rfl) (mm_o40 hy)).trans rfl)))
theorem r_260_4_8 (vx1 : mm_V) (vx2 : mm_V) (vx3 : mm_V) (vx4 : mm_V) {hi : mm_Id → Int → Int} {dh : Int → Int} {nx ns : Int} {Q : mm_V → mm_H → Prop} (hy : 5306 ≤ nx) :
    mm_Wp 260 (bk_260_4.drop 8) [zR (40, 0, 0), vx1, vx2, vx3, vx4] [] (mm_z hi dh nx ns) Q =
    Q (zI 1) (mm_z (mm_up hi (40, 0, 0) 34 1) dh nx ns) :=
  (wp_5_0).trans ((wp_1).trans ((wp_64k (mm_o40 hy) (by decide)).trans ((wp_1).trans (wp_90))))
/-- PoolHouseModel.counts(II)Z -/
theorem bq_261_0 : mm_blk 261 0 = bk_261_0 := by decide +kernel
theorem bq_261_1 : mm_blk 261 1 = bk_261_1 := by decide +kernel
theorem bq_261_2 : mm_blk 261 2 = bk_261_2 := by decide +kernel
theorem bq_261_3 : mm_blk 261 3 = bk_261_3 := by decide +kernel
theorem r_261_e (x1 : Int) (x2 : Int) {hi : mm_Id → Int → Int} {dh : Int → Int} {nx ns : Int} {Q : mm_V → mm_H → Prop} (hy : 5306 ≤ nx) :
    mm_Cl 261 [zR (40, 0, 0), zI x1, zI x2] (mm_z hi dh nx ns) Q =
    mm_Cl 175 [zI x1, zI x2] (mm_z hi dh nx ns) (fun r h3 => mm_Wp 261 (bk_261_0.drop 5) [zR (40, 0, 0), zI x1, zI x2] (mm_push r [zR (41, 0, 0)]) h3 Q) :=
  mm_ce (l2 := [zR (40, 0, 0), zI x1, zI x2]) rfl (mm_kb bq_261_0 ((wp_5_0).trans ((wp_62 (by decide) (mm_o40 hy) (mm_r40_2 hy)).trans ((wp_3_1).trans ((wp_3_2).trans ((wp_s2 mm_n_175 (mm_leq mm_m_175 (mm_lb rfl)) (mm_lb rfl)).trans rfl))))))
theorem r_261_0_5 (x1 : Int) (x2 : Int) (y0 : Int) {hi : mm_Id → Int → Int} {dh : Int → Int} {nx ns : Int} {Q : mm_V → mm_H → Prop} (hy : 5306 ≤ nx) :
    mm_Wp 261 (bk_261_0.drop 5) [zR (40, 0, 0), zI x1, zI x2] [zI y0, zR (41, 0, 0)] (mm_z hi dh nx ns) Q =
    ((0 ≤ y0 ∧ y0 < 1044) ∧ (if 0 < (hi (41, 0, 0) y0) then mm_Cl 175 [zI x1, zI x2] (mm_z hi dh nx ns) (fun r h3 => mm_Wp 261 (bk_261_0.drop 12) [zR (40, 0, 0), zI x1, zI x2] (mm_push r [zR (41, 0, 0)]) h3 Q) else mm_Wp 261 (mm_blk 261 2) [zR (40, 0, 0), zI x1, zI x2] [] (mm_z hi dh nx ns) Q)) :=
  (wp_70 (mm_q41 hy)).trans (mm_ae ((wp_45).trans (mm_ic ((wp_5_0).trans ((wp_62 (by decide) (mm_o40 hy) (mm_r40_2 hy)).trans ((wp_3_1).trans ((wp_3_2).trans ((wp_s2 mm_n_175 (mm_leq mm_m_175 (mm_lb rfl)) (mm_lb rfl)).trans rfl))))) (rfl))))
theorem r_261_2 (vx0 : mm_V) (vx1 : mm_V) (vx2 : mm_V) {hi : mm_Id → Int → Int} {dh : Int → Int} {nx ns : Int} {Q : mm_V → mm_H → Prop} (hy : 5306 ≤ nx) :
    mm_Wp 261 (mm_blk 261 2) [vx0, vx1, vx2] [] (mm_z hi dh nx ns) Q =
    mm_Wp 261 (mm_blk 261 3) [vx0, vx1, vx2] [zI 0] (mm_z hi dh nx ns) Q :=
  mm_kb bq_261_2 ((wp_1).trans ((wp_0).trans (rfl)))
theorem r_261_0_12 (x1 : Int) (x2 : Int) (y0 : Int) {hi : mm_Id → Int → Int} {dh : Int → Int} {nx ns : Int} {Q : mm_V → mm_H → Prop} (hy : 5306 ≤ nx) :
    mm_Wp 261 (bk_261_0.drop 12) [zR (40, 0, 0), zI x1, zI x2] [zI y0, zR (41, 0, 0)] (mm_z hi dh nx ns) Q =
    ((0 ≤ y0 ∧ y0 < 1044) ∧ (if (hi (41, 0, 0) y0) = 1 then mm_Cl 188 [zR (40, 0, 0), zI x1, zI x2] (mm_z hi dh nx ns) (fun r h3 => mm_Wp 261 (bk_261_0.drop 19) [zR (40, 0, 0), zI x1, zI x2] (mm_push r []) h3 Q) else mm_Wp 261 (mm_blk 261 1) [zR (40, 0, 0), zI x1, zI x2] [] (mm_z hi dh nx ns) Q)) :=
  (wp_70 (mm_q41 hy)).trans (mm_ae ((wp_1).trans ((wp_47).trans (mm_ic ((wp_5_0).trans ((wp_3_1).trans ((wp_3_2).trans ((wp_v3 mm_n_188 (mm_leq mm_m_188 (mm_lb rfl)) (mm_lb rfl) (mm_o40 hy)).trans rfl)))) (rfl)))))
theorem r_261_3 (vx0 : mm_V) (vx1 : mm_V) (vx2 : mm_V) (y0 : Int) {hi : mm_Id → Int → Int} {dh : Int → Int} {nx ns : Int} {Q : mm_V → mm_H → Prop} (hy : 5306 ≤ nx) :
    mm_Wp 261 (mm_blk 261 3) [vx0, vx1, vx2] [zI y0] (mm_z hi dh nx ns) Q =
    ((y0 = 0 ∨ y0 = 1) ∧ Q (zI y0) (mm_z hi dh nx ns)) :=
  mm_kb bq_261_3 (wp_94z)
theorem r_261_1 (vx0 : mm_V) (vx1 : mm_V) (vx2 : mm_V) {hi : mm_Id → Int → Int} {dh : Int → Int} {nx ns : Int} {Q : mm_V → mm_H → Prop} (hy : 5306 ≤ nx) :
    mm_Wp 261 (mm_blk 261 1) [vx0, vx1, vx2] [] (mm_z hi dh nx ns) Q =
    mm_Wp 261 (mm_blk 261 3) [vx0, vx1, vx2] [zI 1] (mm_z hi dh nx ns) Q :=
  mm_kb bq_261_1 ((wp_1).trans ((wp_56).trans (rfl)))
theorem r_261_0_19 (vx0 : mm_V) (vx1 : mm_V) (vx2 : mm_V) (y0 : Int) {hi : mm_Id → Int → Int} {dh : Int → Int} {nx ns : Int} {Q : mm_V → mm_H → Prop} (hy : 5306 ≤ nx) :
    mm_Wp 261 (bk_261_0.drop 19) [vx0, vx1, vx2] [zI y0] (mm_z hi dh nx ns) Q =
    (if 0 < y0 then mm_Wp 261 (mm_blk 261 1) [vx0, vx1, vx2] [] (mm_z hi dh nx ns) Q else mm_Wp 261 (mm_blk 261 2) [vx0, vx1, vx2] [] (mm_z hi dh nx ns) Q) :=
  (wp_45).trans (mm_ic ((wp_0).trans (rfl)) (rfl))
/-- PoolHouseModel.isFrom(I)Z -/
theorem bq_262_0 : mm_blk 262 0 = bk_262_0 := by decide +kernel
theorem bq_262_1 : mm_blk 262 1 = bk_262_1 := by decide +kernel
theorem bq_262_2 : mm_blk 262 2 = bk_262_2 := by decide +kernel
theorem bq_262_3 : mm_blk 262 3 = bk_262_3 := by decide +kernel
theorem bq_262_4 : mm_blk 262 4 = bk_262_4 := by decide +kernel
theorem bq_262_5 : mm_blk 262 5 = bk_262_5 := by decide +kernel
theorem r_262_e (x1 : Int) {hi : mm_Id → Int → Int} {dh : Int → Int} {nx ns : Int} {Q : mm_V → mm_H → Prop} (hy : 5306 ≤ nx) :
    mm_Cl 262 [zR (40, 0, 0), zI x1] (mm_z hi dh nx ns) Q =
    mm_Wp 262 (mm_blk 262 1) [zR (40, 0, 0), zI x1, zI (hi (40, 0, 0) 34), zI 1, zU] [] (mm_z hi dh nx ns) Q :=
  mm_ce (l2 := [zR (40, 0, 0), zI x1, zU, zU, zU]) rfl (mm_kb bq_262_0 ((wp_5_0).trans ((wp_60 (by decide) (mm_o40 hy)).trans ((wp_6 (l2 := [zR (40, 0, 0), zI x1, zI (hi (40, 0, 0) 34), zU, zU]) rfl).trans ((wp_1).trans ((wp_6 (l2 := [zR (40, 0, 0), zI x1, zI (hi (40, 0, 0) 34), zI 1, zU]) rfl).trans ((wp_0).trans (rfl))))))))
theorem r_262_1 (x1 : Int) (x2 : Int) (x3 : Int) (vx4 : mm_V) {hi : mm_Id → Int → Int} {dh : Int → Int} {nx ns : Int} {Q : mm_V → mm_H → Prop} (hy : 5306 ≤ nx) :
    mm_Wp 262 (mm_blk 262 1) [zR (40, 0, 0), zI x1, zI x2, zI x3, vx4] [] (mm_z hi dh nx ns) Q =
    (if 36 < x3 then mm_Wp 262 (mm_blk 262 5) [zR (40, 0, 0), zI x1, zI x2, zI x3, vx4] [] (mm_z hi dh nx ns) Q else (if x2 = 0 then mm_Wp 262 (mm_blk 262 5) [zR (40, 0, 0), zI x1, zI x2, zI x3, vx4] [] (mm_z hi dh nx ns) Q else mm_Cl 261 [zR (40, 0, 0), zI x1, zI x3] (mm_z hi dh nx ns) (fun r h3 => mm_Wp 262 (bk_262_1.drop 9) [zR (40, 0, 0), zI x1, zI x2, zI x3, vx4] (mm_push r []) h3 Q))) :=
  mm_kb bq_262_1 ((wp_3_3).trans ((wp_1).trans ((wp_50).trans (mm_ic (rfl) ((wp_3_2).trans ((wp_40).trans (mm_ic (rfl) ((wp_5_0).trans ((wp_3_1).trans ((wp_3_3).trans ((wp_v3 mm_n_261 (mm_leq mm_m_261 (mm_lb rfl)) (mm_lb rfl) (mm_o40 hy)).trans rfl)))))))))))
theorem r_262_5 (vx0 : mm_V) (vx1 : mm_V) (x2 : Int) (vx3 : mm_V) (vx4 : mm_V) {hi : mm_Id → Int → Int} {dh : Int → Int} {nx ns : Int} {Q : mm_V → mm_H → Prop} (hy : 5306 ≤ nx) :
    mm_Wp 262 (mm_blk 262 5) [vx0, vx1, zI x2, vx3, vx4] [] (mm_z hi dh nx ns) Q =
    ((x2 = 0 ∨ x2 = 1) ∧ Q (zI x2) (mm_z hi dh nx ns)) :=
  mm_kb bq_262_5 ((wp_3_2).trans (wp_94z))
theorem r_262_1_9 (x1 : Int) (vx2 : mm_V) (x3 : Int) (vx4 : mm_V) (y0 : Int) {hi : mm_Id → Int → Int} {dh : Int → Int} {nx ns : Int} {Q : mm_V → mm_H → Prop} (hy : 5306 ≤ nx) :
    mm_Wp 262 (bk_262_1.drop 9) [zR (40, 0, 0), zI x1, vx2, zI x3, vx4] [zI y0] (mm_z hi dh nx ns) Q =
    mm_Cl 261 [zR (40, 0, 0), zI 26, zI x3] (mm_z hi dh nx ns) (fun r h3 => mm_Wp 262 (bk_262_1.drop 15) [zR (40, 0, 0), zI x1, vx2, zI x3, zI y0] (mm_push r [zI y0]) h3 Q) :=
  (wp_6 (l2 := [zR (40, 0, 0), zI x1, vx2, zI x3, zI y0]) rfl).trans ((wp_3_4).trans ((wp_5_0).trans ((wp_1).trans ((wp_3_3).trans ((wp_v3 mm_n_261 (mm_leq mm_m_261 (mm_lb rfl)) (mm_lb rfl) (mm_o40 hy)).trans rfl)))))
theorem r_262_1_15 (x1 : Int) (vx2 : mm_V) (x3 : Int) (x4 : Int) (y0 : Int) (y1 : Int) {hi : mm_Id → Int → Int} {dh : Int → Int} {nx ns : Int} {Q : mm_V → mm_H → Prop} (hy : 5306 ≤ nx) :
    mm_Wp 262 (bk_262_1.drop 15) [zR (40, 0, 0), zI x1, vx2, zI x3, zI x4] [zI y0, zI y1] (mm_z hi dh nx ns) Q =
    (if y1 = y0 then (if x4 = 0 then mm_Wp 262 (mm_blk 262 2) [zR (40, 0, 0), zI x1, vx2, zI x3, zI x4] [] (mm_z hi dh nx ns) Q else mm_Cl 258 [zR (40, 0, 0), zI x1, zI 26, zI x3] (mm_z hi dh nx ns) (fun r h3 => mm_Wp 262 (bk_262_1.drop 23) [zR (40, 0, 0), zI x1, vx2, zI x3, zI x4] (mm_push r []) h3 Q)) else mm_Wp 262 (mm_blk 262 3) [zR (40, 0, 0), zI x1, vx2, zI x3, zI x4] [] (mm_z hi dh nx ns) Q) :=
  (wp_47).trans (mm_ic ((wp_3_4).trans ((wp_40).trans (mm_ic (rfl) ((wp_5_0).trans ((wp_3_1).trans ((wp_1).trans ((wp_3_3).trans ((wp_v4 mm_n_258 (mm_leq mm_m_258 (mm_lb rfl)) (mm_lb rfl) (mm_o40 hy)).trans rfl)))))))) (rfl))
theorem r_262_3 (x1 : Int) (vx2 : mm_V) (x3 : Int) (vx4 : mm_V) {hi : mm_Id → Int → Int} {dh : Int → Int} {nx ns : Int} {Q : mm_V → mm_H → Prop} (hy : 5306 ≤ nx) :
    mm_Wp 262 (mm_blk 262 3) [zR (40, 0, 0), zI x1, vx2, zI x3, vx4] [] (mm_z hi dh nx ns) Q =
    mm_Wp 262 (mm_blk 262 4) [zR (40, 0, 0), zI x1, vx2, zI x3, vx4] [zI 0] (mm_z hi dh nx ns) Q :=
  mm_kb bq_262_3 ((wp_1).trans ((wp_0).trans (rfl)))
theorem r_262_2 (x1 : Int) (vx2 : mm_V) (x3 : Int) (vx4 : mm_V) {hi : mm_Id → Int → Int} {dh : Int → Int} {nx ns : Int} {Q : mm_V → mm_H → Prop} (hy : 5306 ≤ nx) :
    mm_Wp 262 (mm_blk 262 2) [zR (40, 0, 0), zI x1, vx2, zI x3, vx4] [] (mm_z hi dh nx ns) Q =
    mm_Wp 262 (mm_blk 262 4) [zR (40, 0, 0), zI x1, vx2, zI x3, vx4] [zI 1] (mm_z hi dh nx ns) Q :=
  mm_kb bq_262_2 ((wp_1).trans ((wp_56).trans (rfl)))
theorem r_262_1_23 (x1 : Int) (vx2 : mm_V) (x3 : Int) (vx4 : mm_V) (y0 : Int) {hi : mm_Id → Int → Int} {dh : Int → Int} {nx ns : Int} {Q : mm_V → mm_H → Prop} (hy : 5306 ≤ nx) :
    mm_Wp 262 (bk_262_1.drop 23) [zR (40, 0, 0), zI x1, vx2, zI x3, vx4] [zI y0] (mm_z hi dh nx ns) Q =
    (if y0 = 0 then mm_Wp 262 (mm_blk 262 3) [zR (40, 0, 0), zI x1, vx2, zI x3, vx4] [] (mm_z hi dh nx ns) Q else mm_Wp 262 (mm_blk 262 2) [zR (40, 0, 0), zI x1, vx2, zI x3, vx4] [] (mm_z hi dh nx ns) Q) :=
  (wp_40).trans (mm_ic (rfl) ((wp_0).trans (rfl)))
theorem r_262_4 (x1 : Int) (vx2 : mm_V) (x3 : Int) (vx4 : mm_V) (y0 : Int) {hi : mm_Id → Int → Int} {dh : Int → Int} {nx ns : Int} {Q : mm_V → mm_H → Prop} (hy : 5306 ≤ nx) :
    mm_Wp 262 (mm_blk 262 4) [zR (40, 0, 0), zI x1, vx2, zI x3, vx4] [zI y0] (mm_z hi dh nx ns) Q =
    mm_Wp 262 (mm_blk 262 1) [zR (40, 0, 0), zI x1, zI y0, zI (mm_w (x3 + 1)), vx4] [] (mm_z hi dh nx ns) Q :=
  mm_kb bq_262_4 ((wp_6 (l2 := [zR (40, 0, 0), zI x1, zI y0, zI x3, vx4]) rfl).trans ((wp_9 (l2 := [zR (40, 0, 0), zI x1, zI y0, zI (mm_w (x3 + 1)), vx4]) rfl rfl).trans ((wp_56).trans (rfl))))
/-- PoolHouseModel.isPieceLike(II)Z -/
theorem bq_263_0 : mm_blk 263 0 = bk_263_0 := by decide +kernel
theorem bq_263_1 : mm_blk 263 1 = bk_263_1 := by decide +kernel
theorem bq_263_2 : mm_blk 263 2 = bk_263_2 := by decide +kernel
theorem bq_263_3 : mm_blk 263 3 = bk_263_3 := by decide +kernel
theorem bq_263_4 : mm_blk 263 4 = bk_263_4 := by decide +kernel
theorem r_263_e (x1 : Int) (x2 : Int) {hi : mm_Id → Int → Int} {dh : Int → Int} {nx ns : Int} {Q : mm_V → mm_H → Prop} (hy : 5306 ≤ nx) :
    mm_Cl 263 [zR (40, 0, 0), zI x1, zI x2] (mm_z hi dh nx ns) Q =
    mm_Wp 263 (mm_blk 263 1) [zR (40, 0, 0), zI x1, zI x2, zI 1, zI 0] [] (mm_z hi dh nx ns) Q :=
  mm_ce (l2 := [zR (40, 0, 0), zI x1, zI x2, zU, zU]) rfl (mm_kb bq_263_0 ((wp_1).trans ((wp_6 (l2 := [zR (40, 0, 0), zI x1, zI x2, zI 1, zU]) rfl).trans ((wp_1).trans ((wp_6 (l2 := [zR (40, 0, 0), zI x1, zI x2, zI 1, zI 0]) rfl).trans ((wp_0).trans (rfl)))))))
theorem r_263_1 (x1 : Int) (x2 : Int) (x3 : Int) (x4 : Int) {hi : mm_Id → Int → Int} {dh : Int → Int} {nx ns : Int} {Q : mm_V → mm_H → Prop} (hy : 5306 ≤ nx) :
    mm_Wp 263 (mm_blk 263 1) [zR (40, 0, 0), zI x1, zI x2, zI x3, zI x4] [] (mm_z hi dh nx ns) Q =
    (if x4 < 60 then (if x3 = 0 then mm_Wp 263 (mm_blk 263 4) [zR (40, 0, 0), zI x1, zI x2, zI x3, zI x4] [] (mm_z hi dh nx ns) Q else ((0 ≤ (mm_w ((mm_w (60 * x1)) + x4)) ∧ (mm_w ((mm_w (60 * x1)) + x4)) < 180060) ∧ ((0 ≤ (mm_w ((mm_w (60 * x2)) + x4)) ∧ (mm_w ((mm_w (60 * x2)) + x4)) < 180060) ∧ (if (hi (54, 0, 0) (mm_w ((mm_w (60 * x1)) + x4))) = (hi (54, 0, 0) (mm_w ((mm_w (60 * x2)) + x4))) then mm_Wp 263 (mm_blk 263 3) [zR (40, 0, 0), zI x1, zI x2, zI x3, zI x4] [zI 1] (mm_z hi dh nx ns) Q else mm_Wp 263 (mm_blk 263 3) [zR (40, 0, 0), zI x1, zI x2, zI x3, zI x4] [zI 0] (mm_z hi dh nx ns) Q)))) else mm_Wp 263 (mm_blk 263 4) [zR (40, 0, 0), zI x1, zI x2, zI x3, zI x4] [] (mm_z hi dh nx ns) Q) :=
  mm_kb bq_263_1 ((wp_3_4).trans ((wp_1).trans ((wp_49).trans (mm_ic ((wp_3_3).trans ((wp_40).trans (mm_ic (rfl) ((wp_5_0).trans ((wp_62 (by decide) (mm_o40 hy) (mm_r40_15 hy)).trans ((wp_1).trans ((wp_3_1).trans ((wp_12).trans ((wp_3_4).trans ((wp_10).trans ((wp_71 (mm_q54 hy)).trans (mm_ae ((wp_5_0).trans ((wp_62 (by decide) (mm_o40 hy) (mm_r40_15 hy)).trans ((wp_1).trans ((wp_3_2).trans ((wp_12).trans ((wp_3_4).trans ((wp_10).trans ((wp_71 (mm_q54 hy)).trans (mm_ae ((wp_47).trans (mm_ic ((wp_1).trans ((wp_56).trans (rfl))) (mm_kb bq_263_2 ((wp_1).trans ((wp_0).trans (rfl))))))))))))))))))))))))))) (rfl)))))
theorem r_263_4 (vx0 : mm_V) (vx1 : mm_V) (vx2 : mm_V) (x3 : Int) (vx4 : mm_V) {hi : mm_Id → Int → Int} {dh : Int → Int} {nx ns : Int} {Q : mm_V → mm_H → Prop} (hy : 5306 ≤ nx) :
    mm_Wp 263 (mm_blk 263 4) [vx0, vx1, vx2, zI x3, vx4] [] (mm_z hi dh nx ns) Q =
    ((x3 = 0 ∨ x3 = 1) ∧ Q (zI x3) (mm_z hi dh nx ns)) :=
  mm_kb bq_263_4 ((wp_3_3).trans (wp_94z))
theorem r_263_3 (x1 : Int) (x2 : Int) (vx3 : mm_V) (x4 : Int) (y0 : Int) {hi : mm_Id → Int → Int} {dh : Int → Int} {nx ns : Int} {Q : mm_V → mm_H → Prop} (hy : 5306 ≤ nx) :
    mm_Wp 263 (mm_blk 263 3) [zR (40, 0, 0), zI x1, zI x2, vx3, zI x4] [zI y0] (mm_z hi dh nx ns) Q =
    mm_Wp 263 (mm_blk 263 1) [zR (40, 0, 0), zI x1, zI x2, zI y0, zI (mm_w (x4 + 1))] [] (mm_z hi dh nx ns) Q :=
  mm_kb bq_263_3 ((wp_6 (l2 := [zR (40, 0, 0), zI x1, zI x2, zI y0, zI x4]) rfl).trans ((wp_9 (l2 := [zR (40, 0, 0), zI x1, zI x2, zI y0, zI (mm_w (x4 + 1))]) rfl rfl).trans ((wp_56).trans (rfl))))
/-- PoolHouseModel.receive(I)I -/
theorem bq_264_0 : mm_blk 264 0 = bk_264_0 := by decide +kernel
theorem bq_264_1 : mm_blk 264 1 = bk_264_1 := by decide +kernel
theorem bq_264_2 : mm_blk 264 2 = bk_264_2 := by decide +kernel
theorem bq_264_3 : mm_blk 264 3 = bk_264_3 := by decide +kernel
theorem bq_264_4 : mm_blk 264 4 = bk_264_4 := by decide +kernel
theorem bq_264_5 : mm_blk 264 5 = bk_264_5 := by decide +kernel
theorem bq_264_6 : mm_blk 264 6 = bk_264_6 := by decide +kernel
theorem bq_264_7 : mm_blk 264 7 = bk_264_7 := by decide +kernel
theorem bq_264_8 : mm_blk 264 8 = bk_264_8 := by decide +kernel
theorem bq_264_9 : mm_blk 264 9 = bk_264_9 := by decide +kernel
theorem bq_264_10 : mm_blk 264 10 = bk_264_10 := by decide +kernel
theorem bq_264_11 : mm_blk 264 11 = bk_264_11 := by decide +kernel
theorem bq_264_12 : mm_blk 264 12 = bk_264_12 := by decide +kernel
theorem bq_264_13 : mm_blk 264 13 = bk_264_13 := by decide +kernel
theorem bq_264_14 : mm_blk 264 14 = bk_264_14 := by decide +kernel
theorem bq_264_15 : mm_blk 264 15 = bk_264_15 := by decide +kernel
theorem bq_264_16 : mm_blk 264 16 = bk_264_16 := by decide +kernel
theorem bq_264_17 : mm_blk 264 17 = bk_264_17 := by decide +kernel
theorem bq_264_18 : mm_blk 264 18 = bk_264_18 := by decide +kernel
theorem bq_264_19 : mm_blk 264 19 = bk_264_19 := by decide +kernel
theorem r_264_e (x1 : Int) {hi : mm_Id → Int → Int} {dh : Int → Int} {nx ns : Int} {Q : mm_V → mm_H → Prop} (hy : 5306 ≤ nx) :
    mm_Cl 264 [zR (40, 0, 0), zI x1] (mm_z hi dh nx ns) Q =
    mm_Cl 182 [zR (40, 0, 0), zI x1] (mm_z (mm_up hi (40, 0, 0) 0 0) dh nx ns) (fun r h3 => mm_Wp 264 (bk_264_0.drop 6) [zR (40, 0, 0), zI x1, zU, zU, zU, zU, zU, zU, zU, zU, zU, zU] (mm_push r []) h3 Q) :=
  mm_ce (l2 := [zR (40, 0, 0), zI x1, zU, zU, zU, zU, zU, zU, zU, zU, zU, zU]) rfl (mm_kb bq_264_0 ((wp_5_0).trans ((wp_1).trans ((wp_63 (mm_o40 hy)).trans ((wp_5_0).trans ((wp_3_1).trans ((wp_v2 mm_n_182 (mm_leq mm_m_182 (mm_lb rfl)) (mm_lb rfl) (mm_o40 hy)).trans rfl)))))))
theorem r_264_0_6 (vx1 : mm_V) (vx2 : mm_V) (vx3 : mm_V) (vx4 : mm_V) (vx5 : mm_V) (vx6 : mm_V) (vx7 : mm_V) (vx8 : mm_V) (vx9 : mm_V) (vx10 : mm_V) (vx11 : mm_V) (y0 : Int) {hi : mm_Id → Int → Int} {dh : Int → Int} {nx ns : Int} {Q : mm_V → mm_H → Prop} (hvx1 : mm_wt vx1 = 1) (hy : 5306 ≤ nx) :
    mm_Wp 264 (bk_264_0.drop 6) [zR (40, 0, 0), vx1, vx2, vx3, vx4, vx5, vx6, vx7, vx8, vx9, vx10, vx11] [zI y0] (mm_z hi dh nx ns) Q =
    (if y0 < 0 then Q (zI (-1)) (mm_z hi dh nx ns) else mm_Cl 262 [zR (40, 0, 0), zI y0] (mm_z hi dh nx ns) (fun r h3 => mm_Wp 264 (bk_264_1.drop 3) [zR (40, 0, 0), vx1, zI y0, vx3, vx4, vx5, vx6, vx7, vx8, vx9, vx10, vx11] (mm_push r []) h3 Q)) :=
  (wp_6 (l2 := [zR (40, 0, 0), vx1, zI y0, vx3, vx4, vx5, vx6, vx7, vx8, vx9, vx10, vx11]) ((if_pos (mm_lb rfl)).trans (congrArg some (mm_stw rfl hvx1)))).trans ((wp_3_2).trans ((wp_43).trans (mm_ic ((wp_1).trans (wp_90)) (mm_kb bq_264_1 ((wp_5_0).trans ((wp_3_2).trans ((wp_v2 mm_n_262 (mm_leq mm_m_262 (mm_lb rfl)) (mm_lb rfl) (mm_o40 hy)).trans rfl)))))))
theorem r_264_1_3 (vx1 : mm_V) (x2 : Int) (vx3 : mm_V) (vx4 : mm_V) (vx5 : mm_V) (vx6 : mm_V) (vx7 : mm_V) (vx8 : mm_V) (vx9 : mm_V) (vx10 : mm_V) (vx11 : mm_V) (y0 : Int) {hi : mm_Id → Int → Int} {dh : Int → Int} {nx ns : Int} {Q : mm_V → mm_H → Prop} (hy : 5306 ≤ nx) :
    mm_Wp 264 (bk_264_1.drop 3) [zR (40, 0, 0), vx1, zI x2, vx3, vx4, vx5, vx6, vx7, vx8, vx9, vx10, vx11] [zI y0] (mm_z hi dh nx ns) Q =
    (if y0 = 0 then Q (zI (-3)) (mm_z hi dh nx ns) else (if (hi (40, 0, 0) 29) = 0 then mm_Cl 179 [zR (40, 0, 0), zI x2, zI 28] (mm_z hi dh nx ns) (fun r h3 => mm_Wp 264 (bk_264_3.drop 4) [zR (40, 0, 0), vx1, zI x2, vx3, vx4, vx5, vx6, vx7, vx8, vx9, vx10, vx11] (mm_push r []) h3 Q) else Q (zI (-5)) (mm_z hi dh nx ns))) :=
  (wp_41).trans (mm_ic ((wp_1).trans (wp_90)) (mm_kb bq_264_2 ((wp_5_0).trans ((wp_60 (by decide) (mm_o40 hy)).trans ((wp_40).trans (mm_ic (mm_kb bq_264_3 ((wp_5_0).trans ((wp_3_2).trans ((wp_1).trans ((wp_v3 mm_n_179 (mm_leq mm_m_179 (mm_lb rfl)) (mm_lb rfl) (mm_o40 hy)).trans rfl))))) ((wp_1).trans (wp_90))))))))
theorem r_264_3_4 (vx1 : mm_V) (x2 : Int) (vx3 : mm_V) (vx4 : mm_V) (vx5 : mm_V) (vx6 : mm_V) (vx7 : mm_V) (vx8 : mm_V) (vx9 : mm_V) (vx10 : mm_V) (vx11 : mm_V) {hi : mm_Id → Int → Int} {dh : Int → Int} {nx ns : Int} {Q : mm_V → mm_H → Prop} (hy : 5306 ≤ nx) :
    mm_Wp 264 (bk_264_3.drop 4) [zR (40, 0, 0), vx1, zI x2, vx3, vx4, vx5, vx6, vx7, vx8, vx9, vx10, vx11] [] (mm_z hi dh nx ns) Q =
    mm_Wp 264 (mm_blk 264 4) [zR (40, 0, 0), vx1, zI x2, zI 0, zI 1, vx5, vx6, vx7, vx8, vx9, vx10, vx11] [] (mm_z hi dh nx ns) Q :=
  (wp_1).trans ((wp_6 (l2 := [zR (40, 0, 0), vx1, zI x2, zI 0, vx4, vx5, vx6, vx7, vx8, vx9, vx10, vx11]) rfl).trans ((wp_1).trans ((wp_6 (l2 := [zR (40, 0, 0), vx1, zI x2, zI 0, zI 1, vx5, vx6, vx7, vx8, vx9, vx10, vx11]) rfl).trans ((wp_0).trans (rfl)))))
theorem r_264_4 (vx1 : mm_V) (x2 : Int) (x3 : Int) (x4 : Int) (vx5 : mm_V) (vx6 : mm_V) (vx7 : mm_V) (vx8 : mm_V) (vx9 : mm_V) (vx10 : mm_V) (vx11 : mm_V) {hi : mm_Id → Int → Int} {dh : Int → Int} {nx ns : Int} {Q : mm_V → mm_H → Prop} (hy : 5306 ≤ nx) :
    mm_Wp 264 (mm_blk 264 4) [zR (40, 0, 0), vx1, zI x2, zI x3, zI x4, vx5, vx6, vx7, vx8, vx9, vx10, vx11] [] (mm_z hi dh nx ns) Q =
    (if 36 < x4 then mm_Cl 201 [zR (40, 0, 0), zI x2] (mm_z hi dh nx ns) (fun r h3 => mm_Wp 264 (bk_264_18.drop 3) [zR (40, 0, 0), vx1, zI x2, zI x3, zI x4, vx5, vx6, vx7, vx8, vx9, vx10, vx11] (mm_push r []) h3 Q) else mm_Cl 175 [zI x2, zI x4] (mm_z hi dh nx ns) (fun r h3 => mm_Wp 264 (bk_264_4.drop 6) [zR (40, 0, 0), vx1, zI x2, zI x3, zI x4, vx5, vx6, vx7, vx8, vx9, vx10, vx11] (mm_push r []) h3 Q)) :=
  mm_kb bq_264_4 ((wp_3_4).trans ((wp_1).trans ((wp_50).trans (mm_ic (mm_kb bq_264_18 ((wp_5_0).trans ((wp_3_2).trans ((wp_v2 mm_n_201 (mm_leq mm_m_201 (mm_lb rfl)) (mm_lb rfl) (mm_o40 hy)).trans rfl)))) ((wp_3_2).trans ((wp_3_4).trans ((wp_s2 mm_n_175 (mm_leq mm_m_175 (mm_lb rfl)) (mm_lb rfl)).trans rfl)))))))
theorem r_264_18_3 (vx1 : mm_V) (x2 : Int) (x3 : Int) (vx4 : mm_V) (vx5 : mm_V) (vx6 : mm_V) (vx7 : mm_V) (vx8 : mm_V) (vx9 : mm_V) (vx10 : mm_V) (vx11 : mm_V) (y0 : Int) {hi : mm_Id → Int → Int} {dh : Int → Int} {nx ns : Int} {Q : mm_V → mm_H → Prop} (hy : 5306 ≤ nx) :
    mm_Wp 264 (bk_264_18.drop 3) [zR (40, 0, 0), vx1, zI x2, zI x3, vx4, vx5, vx6, vx7, vx8, vx9, vx10, vx11] [zI y0] (mm_z hi dh nx ns) Q =
    (if y0 = 0 then mm_Cl 179 [zR (40, 0, 0), zI 28, zI x2] (mm_z hi dh nx ns) (fun r h3 => mm_Wp 264 (bk_264_18.drop 8) [zR (40, 0, 0), vx1, zI x2, zI x3, vx4, vx5, vx6, vx7, vx8, vx9, vx10, vx11] (mm_push r []) h3 Q) else mm_Cl 194 [zR (40, 0, 0), zI x2] (mm_z hi dh nx ns) (fun r h3 => mm_Wp 264 (bk_264_19.drop 3) [zR (40, 0, 0), vx1, zI x2, zI x3, vx4, vx5, vx6, vx7, vx8, vx9, vx10, vx11] (mm_push r []) h3 Q)) :=
  (wp_41).trans (mm_ic ((wp_5_0).trans ((wp_1).trans ((wp_3_2).trans ((wp_v3 mm_n_179 (mm_leq mm_m_179 (mm_lb rfl)) (mm_lb rfl) (mm_o40 hy)).trans rfl)))) (mm_kb bq_264_19 ((wp_5_0).trans ((wp_3_2).trans ((wp_v2 mm_n_194 (mm_leq mm_m_194 (mm_lb rfl)) (mm_lb rfl) (mm_o40 hy)).trans rfl)))))
theorem r_264_4_6 (vx1 : mm_V) (x2 : Int) (x3 : Int) (x4 : Int) (vx5 : mm_V) (vx6 : mm_V) (vx7 : mm_V) (vx8 : mm_V) (vx9 : mm_V) (vx10 : mm_V) (vx11 : mm_V) (y0 : Int) {hi : mm_Id → Int → Int} {dh : Int → Int} {nx ns : Int} {Q : mm_V → mm_H → Prop} (hy : 5306 ≤ nx) :
    mm_Wp 264 (bk_264_4.drop 6) [zR (40, 0, 0), vx1, zI x2, zI x3, zI x4, vx5, vx6, vx7, vx8, vx9, vx10, vx11] [zI y0] (mm_z hi dh nx ns) Q =
    mm_Cl 261 [zR (40, 0, 0), zI 27, zI x4] (mm_z hi dh nx ns) (fun r h3 => mm_Wp 264 (bk_264_4.drop 11) [zR (40, 0, 0), vx1, zI x2, zI x3, zI x4, zI y0, vx6, vx7, vx8, vx9, vx10, vx11] (mm_push r []) h3 Q) :=
  (wp_6 (l2 := [zR (40, 0, 0), vx1, zI x2, zI x3, zI x4, zI y0, vx6, vx7, vx8, vx9, vx10, vx11]) rfl).trans ((wp_5_0).trans ((wp_1).trans ((wp_3_4).trans ((wp_v3 mm_n_261 (mm_leq mm_m_261 (mm_lb rfl)) (mm_lb rfl) (mm_o40 hy)).trans rfl))))
theorem r_264_19_3 (vx1 : mm_V) (vx2 : mm_V) (x3 : Int) (vx4 : mm_V) (vx5 : mm_V) (vx6 : mm_V) (vx7 : mm_V) (vx8 : mm_V) (vx9 : mm_V) (vx10 : mm_V) (vx11 : mm_V) {hi : mm_Id → Int → Int} {dh : Int → Int} {nx ns : Int} {Q : mm_V → mm_H → Prop} (hy : 5306 ≤ nx) :
    mm_Wp 264 (bk_264_19.drop 3) [zR (40, 0, 0), vx1, vx2, zI x3, vx4, vx5, vx6, vx7, vx8, vx9, vx10, vx11] [] (mm_z hi dh nx ns) Q =
    mm_Cl 208 [zR (40, 0, 0)] (mm_z hi dh nx ns) (fun r h3 => mm_Wp 264 (bk_264_19.drop 5) [zR (40, 0, 0), vx1, vx2, zI x3, vx4, vx5, vx6, vx7, vx8, vx9, vx10, vx11] (mm_push r []) h3 Q) :=
  (wp_5_0).trans ((wp_v1 mm_n_208 (mm_leq mm_m_208 (mm_lb rfl)) (mm_lb rfl) (mm_o40 hy)).trans rfl)
theorem r_264_18_8 (vx0 : mm_V) (vx1 : mm_V) (vx2 : mm_V) (vx3 : mm_V) (vx4 : mm_V) (vx5 : mm_V) (vx6 : mm_V) (vx7 : mm_V) (vx8 : mm_V) (vx9 : mm_V) (vx10 : mm_V) (vx11 : mm_V) {hi : mm_Id → Int → Int} {dh : Int → Int} {nx ns : Int} {Q : mm_V → mm_H → Prop} (hy : 5306 ≤ nx) :
    mm_Wp 264 (bk_264_18.drop 8) [vx0, vx1, vx2, vx3, vx4, vx5, vx6, vx7, vx8, vx9, vx10, vx11] [] (mm_z hi dh nx ns) Q =
    Q (zI (-4)) (mm_z hi dh nx ns) :=
  (wp_1).trans (wp_90)
theorem r_264_4_11 (vx1 : mm_V) (x2 : Int) (x3 : Int) (x4 : Int) (x5 : Int) (vx6 : mm_V) (vx7 : mm_V) (vx8 : mm_V) (vx9 : mm_V) (vx10 : mm_V) (vx11 : mm_V) (y0 : Int) {hi : mm_Id → Int → Int} {dh : Int → Int} {nx ns : Int} {Q : mm_V → mm_H → Prop} (hy : 5306 ≤ nx) :
    mm_Wp 264 (bk_264_4.drop 11) [zR (40, 0, 0), vx1, zI x2, zI x3, zI x4, zI x5, vx6, vx7, vx8, vx9, vx10, vx11] [zI y0] (mm_z hi dh nx ns) Q =
    (if y0 = 0 then mm_Cl 180 [zR (40, 0, 0), zI x5] (mm_z hi dh nx ns) (fun r h3 => mm_Wp 264 (bk_264_4.drop 15) [zR (40, 0, 0), vx1, zI x2, zI x3, zI x4, zI x5, vx6, vx7, vx8, vx9, vx10, vx11] (mm_push r []) h3 Q) else mm_Cl 175 [zI 27, zI x4] (mm_z hi dh nx ns) (fun r h3 => mm_Wp 264 (bk_264_5.drop 4) [zR (40, 0, 0), vx1, zI x2, zI x3, zI x4, zI x5, vx6, vx7, vx8, vx9, vx10, vx11] (mm_push r [zR (40, 0, 0)]) h3 Q)) :=
  (wp_41).trans (mm_ic ((wp_5_0).trans ((wp_3_5).trans ((wp_v2 mm_n_180 (mm_leq mm_m_180 (mm_lb rfl)) (mm_lb rfl) (mm_o40 hy)).trans rfl))) (mm_kb bq_264_5 ((wp_5_0).trans ((wp_1).trans ((wp_3_4).trans ((wp_s2 mm_n_175 (mm_leq mm_m_175 (mm_lb rfl)) (mm_lb rfl)).trans rfl))))))
theorem r_264_19_5 (vx0 : mm_V) (vx1 : mm_V) (vx2 : mm_V) (x3 : Int) (vx4 : mm_V) (vx5 : mm_V) (vx6 : mm_V) (vx7 : mm_V) (vx8 : mm_V) (vx9 : mm_V) (vx10 : mm_V) (vx11 : mm_V) {hi : mm_Id → Int → Int} {dh : Int → Int} {nx ns : Int} {Q : mm_V → mm_H → Prop} (hy : 5306 ≤ nx) :
    mm_Wp 264 (bk_264_19.drop 5) [vx0, vx1, vx2, zI x3, vx4, vx5, vx6, vx7, vx8, vx9, vx10, vx11] [] (mm_z hi dh nx ns) Q =
    Q (zI x3) (mm_z hi dh nx ns) :=
  (wp_3_3).trans (wp_90)
theorem r_264_5_4 (vx1 : mm_V) (x2 : Int) (x3 : Int) (x4 : Int) (x5 : Int) (vx6 : mm_V) (vx7 : mm_V) (vx8 : mm_V) (vx9 : mm_V) (vx10 : mm_V) (vx11 : mm_V) (y0 : Int) {hi : mm_Id → Int → Int} {dh : Int → Int} {nx ns : Int} {Q : mm_V → mm_H → Prop} (hy : 5306 ≤ nx) :
    mm_Wp 264 (bk_264_5.drop 4) [zR (40, 0, 0), vx1, zI x2, zI x3, zI x4, zI x5, vx6, vx7, vx8, vx9, vx10, vx11] [zI y0, zR (40, 0, 0)] (mm_z hi dh nx ns) Q =
    mm_Cl 178 [zR (40, 0, 0), zI y0, zI x5] (mm_z hi dh nx ns) (fun r h3 => mm_Wp 264 (bk_264_5.drop 6) [zR (40, 0, 0), vx1, zI x2, zI x3, zI x4, zI x5, vx6, vx7, vx8, vx9, vx10, vx11] (mm_push r []) h3 Q) :=
  (wp_3_5).trans ((wp_v3 mm_n_178 (mm_leq mm_m_178 (mm_lb rfl)) (mm_lb rfl) (mm_o40 hy)).trans rfl)
theorem r_264_4_15 (vx1 : mm_V) (x2 : Int) (x3 : Int) (x4 : Int) (vx5 : mm_V) (vx6 : mm_V) (vx7 : mm_V) (vx8 : mm_V) (vx9 : mm_V) (vx10 : mm_V) (vx11 : mm_V) {hi : mm_Id → Int → Int} {dh : Int → Int} {nx ns : Int} {Q : mm_V → mm_H → Prop} (hy : 5306 ≤ nx) :
    mm_Wp 264 (bk_264_4.drop 15) [zR (40, 0, 0), vx1, zI x2, zI x3, zI x4, vx5, vx6, vx7, vx8, vx9, vx10, vx11] [] (mm_z hi dh nx ns) Q =
    mm_Wp 264 (mm_blk 264 17) [zR (40, 0, 0), vx1, zI x2, zI x3, zI x4, vx5, vx6, vx7, vx8, vx9, vx10, vx11] [] (mm_z hi dh nx ns) Q :=
  (wp_56).trans (rfl)
theorem r_264_5_6 (vx1 : mm_V) (x2 : Int) (x3 : Int) (x4 : Int) (x5 : Int) (vx6 : mm_V) (vx7 : mm_V) (vx8 : mm_V) (vx9 : mm_V) (vx10 : mm_V) (vx11 : mm_V) {hi : mm_Id → Int → Int} {dh : Int → Int} {nx ns : Int} {Q : mm_V → mm_H → Prop} (hy : 5306 ≤ nx) :
    mm_Wp 264 (bk_264_5.drop 6) [zR (40, 0, 0), vx1, zI x2, zI x3, zI x4, zI x5, vx6, vx7, vx8, vx9, vx10, vx11] [] (mm_z hi dh nx ns) Q =
    ((0 ≤ x5 ∧ x5 < 1044) ∧ (if (hi (41, 0, 0) x5) = 1 then mm_Cl 175 [zI 28, zI x4] (mm_z hi dh nx ns) (fun r h3 => mm_Wp 264 (bk_264_6.drop 5) [zR (40, 0, 0), vx1, zI x2, zI x3, zI x4, zI x5, vx6, vx7, vx8, vx9, vx10, vx11] (mm_push r [zR (41, 0, 0)]) h3 Q) else mm_Wp 264 (mm_blk 264 17) [zR (40, 0, 0), vx1, zI x2, zI x3, zI x4, zI x5, vx6, vx7, vx8, vx9, vx10, vx11] [] (mm_z hi dh nx ns) Q)) :=
  (wp_5_0).trans ((wp_62 (by decide) (mm_o40 hy) (mm_r40_2 hy)).trans ((wp_3_5).trans ((wp_70 (mm_q41 hy)).trans (mm_ae ((wp_1).trans ((wp_46).trans (mm_ic (mm_kb bq_264_6 ((wp_5_0).trans ((wp_62 (by decide) (mm_o40 hy) (mm_r40_2 hy)).trans ((wp_1).trans ((wp_3_4).trans ((wp_s2 mm_n_175 (mm_leq mm_m_175 (mm_lb rfl)) (mm_lb rfl)).trans rfl)))))) ((wp_56).trans (rfl)))))))))
theorem r_264_17 (vx1 : mm_V) (x2 : Int) (x3 : Int) (x4 : Int) (vx5 : mm_V) (vx6 : mm_V) (vx7 : mm_V) (vx8 : mm_V) (vx9 : mm_V) (vx10 : mm_V) (vx11 : mm_V) {hi : mm_Id → Int → Int} {dh : Int → Int} {nx ns : Int} {Q : mm_V → mm_H → Prop} (hy : 5306 ≤ nx) :
    mm_Wp 264 (mm_blk 264 17) [zR (40, 0, 0), vx1, zI x2, zI x3, zI x4, vx5, vx6, vx7, vx8, vx9, vx10, vx11] [] (mm_z hi dh nx ns) Q =
    mm_Wp 264 (mm_blk 264 4) [zR (40, 0, 0), vx1, zI x2, zI x3, zI (mm_w (x4 + 1)), vx5, vx6, vx7, vx8, vx9, vx10, vx11] [] (mm_z hi dh nx ns) Q :=
  mm_kb bq_264_17 ((wp_9 (l2 := [zR (40, 0, 0), vx1, zI x2, zI x3, zI (mm_w (x4 + 1)), vx5, vx6, vx7, vx8, vx9, vx10, vx11]) rfl rfl).trans ((wp_56).trans (rfl)))
theorem r_264_6_5 (vx1 : mm_V) (x2 : Int) (x3 : Int) (x4 : Int) (x5 : Int) (vx6 : mm_V) (vx7 : mm_V) (vx8 : mm_V) (vx9 : mm_V) (vx10 : mm_V) (vx11 : mm_V) (y0 : Int) {hi : mm_Id → Int → Int} {dh : Int → Int} {nx ns : Int} {Q : mm_V → mm_H → Prop} (hy : 5306 ≤ nx) :
    mm_Wp 264 (bk_264_6.drop 5) [zR (40, 0, 0), vx1, zI x2, zI x3, zI x4, zI x5, vx6, vx7, vx8, vx9, vx10, vx11] [zI y0, zR (41, 0, 0)] (mm_z hi dh nx ns) Q =
    ((0 ≤ y0 ∧ y0 < 1044) ∧ (if (hi (41, 0, 0) y0) = 1 then mm_Cl 261 [zR (40, 0, 0), zI 28, zI x4] (mm_z hi dh nx ns) (fun r h3 => mm_Wp 264 (bk_264_6.drop 12) [zR (40, 0, 0), vx1, zI x2, zI x3, zI x4, zI x5, vx6, vx7, vx8, vx9, vx10, vx11] (mm_push r []) h3 Q) else mm_Wp 264 (mm_blk 264 7) [zR (40, 0, 0), vx1, zI x2, zI x3, zI x4, zI x5, vx6, vx7, vx8, vx9, vx10, vx11] [] (mm_z hi dh nx ns) Q)) :=
  (wp_70 (mm_q41 hy)).trans (mm_ae ((wp_1).trans ((wp_47).trans (mm_ic ((wp_5_0).trans ((wp_1).trans ((wp_3_4).trans ((wp_v3 mm_n_261 (mm_leq mm_m_261 (mm_lb rfl)) (mm_lb rfl) (mm_o40 hy)).trans rfl)))) (rfl)))))
theorem r_264_7 (vx1 : mm_V) (x2 : Int) (x3 : Int) (x4 : Int) (x5 : Int) (vx6 : mm_V) (vx7 : mm_V) (vx8 : mm_V) (vx9 : mm_V) (vx10 : mm_V) (vx11 : mm_V) {hi : mm_Id → Int → Int} {dh : Int → Int} {nx ns : Int} {Q : mm_V → mm_H → Prop} (hy : 5306 ≤ nx) :
    mm_Wp 264 (mm_blk 264 7) [zR (40, 0, 0), vx1, zI x2, zI x3, zI x4, zI x5, vx6, vx7, vx8, vx9, vx10, vx11] [] (mm_z hi dh nx ns) Q =
    mm_Wp 264 (mm_blk 264 8) [zR (40, 0, 0), vx1, zI x2, zI x3, zI x4, zI x5, vx6, vx7, vx8, vx9, vx10, vx11] [zI 0] (mm_z hi dh nx ns) Q :=
  mm_kb bq_264_7 ((wp_1).trans ((wp_0).trans (rfl)))
theorem r_264_6_12 (vx1 : mm_V) (x2 : Int) (x3 : Int) (x4 : Int) (x5 : Int) (vx6 : mm_V) (vx7 : mm_V) (vx8 : mm_V) (vx9 : mm_V) (vx10 : mm_V) (vx11 : mm_V) (y0 : Int) {hi : mm_Id → Int → Int} {dh : Int → Int} {nx ns : Int} {Q : mm_V → mm_H → Prop} (hy : 5306 ≤ nx) :
    mm_Wp 264 (bk_264_6.drop 12) [zR (40, 0, 0), vx1, zI x2, zI x3, zI x4, zI x5, vx6, vx7, vx8, vx9, vx10, vx11] [zI y0] (mm_z hi dh nx ns) Q =
    (if y0 = 0 then mm_Wp 264 (mm_blk 264 7) [zR (40, 0, 0), vx1, zI x2, zI x3, zI x4, zI x5, vx6, vx7, vx8, vx9, vx10, vx11] [] (mm_z hi dh nx ns) Q else mm_Wp 264 (mm_blk 264 8) [zR (40, 0, 0), vx1, zI x2, zI x3, zI x4, zI x5, vx6, vx7, vx8, vx9, vx10, vx11] [zI 1] (mm_z hi dh nx ns) Q) :=
  (wp_40).trans (mm_ic (rfl) ((wp_1).trans ((wp_56).trans (rfl))))
theorem r_264_8 (vx1 : mm_V) (x2 : Int) (x3 : Int) (x4 : Int) (x5 : Int) (vx6 : mm_V) (vx7 : mm_V) (vx8 : mm_V) (vx9 : mm_V) (vx10 : mm_V) (vx11 : mm_V) (y0 : Int) {hi : mm_Id → Int → Int} {dh : Int → Int} {nx ns : Int} {Q : mm_V → mm_H → Prop} (hy : 5306 ≤ nx) :
    mm_Wp 264 (mm_blk 264 8) [zR (40, 0, 0), vx1, zI x2, zI x3, zI x4, zI x5, vx6, vx7, vx8, vx9, vx10, vx11] [zI y0] (mm_z hi dh nx ns) Q =
    mm_Wp 264 (mm_blk 264 9) [zR (40, 0, 0), vx1, zI x2, zI x3, zI x4, zI x5, zI y0, zI 0, vx8, vx9, vx10, vx11] [] (mm_z hi dh nx ns) Q :=
  mm_kb bq_264_8 ((wp_6 (l2 := [zR (40, 0, 0), vx1, zI x2, zI x3, zI x4, zI x5, zI y0, vx7, vx8, vx9, vx10, vx11]) rfl).trans ((wp_1).trans ((wp_6 (l2 := [zR (40, 0, 0), vx1, zI x2, zI x3, zI x4, zI x5, zI y0, zI 0, vx8, vx9, vx10, vx11]) rfl).trans ((wp_0).trans (rfl)))))
theorem r_264_9 (vx1 : mm_V) (x2 : Int) (x3 : Int) (x4 : Int) (x5 : Int) (x6 : Int) (x7 : Int) (vx8 : mm_V) (vx9 : mm_V) (vx10 : mm_V) (vx11 : mm_V) {hi : mm_Id → Int → Int} {dh : Int → Int} {nx ns : Int} {Q : mm_V → mm_H → Prop} (hy : 5306 ≤ nx) :
    mm_Wp 264 (mm_blk 264 9) [zR (40, 0, 0), vx1, zI x2, zI x3, zI x4, zI x5, zI x6, zI x7, vx8, vx9, vx10, vx11] [] (mm_z hi dh nx ns) Q =
    (if x7 < 36 then (if x6 = 0 then mm_Wp 264 (mm_blk 264 11) [zR (40, 0, 0), vx1, zI x2, zI x3, zI x4, zI x5, zI x6, zI x7, vx8, vx9, vx10, vx11] [zI 0] (mm_z hi dh nx ns) Q else mm_Cl 175 [zI 28, zI x4] (mm_z hi dh nx ns) (fun r h3 => mm_Wp 264 (bk_264_9.drop 11) [zR (40, 0, 0), vx1, zI x2, zI x3, zI x4, zI x5, zI x6, zI x7, vx8, vx9, vx10, vx11] (mm_push r [zI 36, zR (43, 0, 0)]) h3 Q)) else mm_Wp 264 (mm_blk 264 17) [zR (40, 0, 0), vx1, zI x2, zI x3, zI x4, zI x5, zI x6, zI x7, vx8, vx9, vx10, vx11] [] (mm_z hi dh nx ns) Q) :=
  mm_kb bq_264_9 ((wp_3_7).trans ((wp_1).trans ((wp_49).trans (mm_ic ((wp_3_6).trans ((wp_40).trans (mm_ic (mm_kb bq_264_10 ((wp_1).trans ((wp_0).trans (rfl)))) ((wp_5_0).trans ((wp_62 (by decide) (mm_o40 hy) (mm_r40_4 hy)).trans ((wp_1).trans ((wp_1).trans ((wp_3_4).trans ((wp_s2 mm_n_175 (mm_leq mm_m_175 (mm_lb rfl)) (mm_lb rfl)).trans rfl))))))))) (rfl)))))
theorem r_264_11 (vx1 : mm_V) (x2 : Int) (x3 : Int) (x4 : Int) (x5 : Int) (x6 : Int) (x7 : Int) (vx8 : mm_V) (vx9 : mm_V) (vx10 : mm_V) (vx11 : mm_V) (y0 : Int) {hi : mm_Id → Int → Int} {dh : Int → Int} {nx ns : Int} {Q : mm_V → mm_H → Prop} (hy : 5306 ≤ nx) :
    mm_Wp 264 (mm_blk 264 11) [zR (40, 0, 0), vx1, zI x2, zI x3, zI x4, zI x5, zI x6, zI x7, vx8, vx9, vx10, vx11] [zI y0] (mm_z hi dh nx ns) Q =
    ((0 ≤ (mm_w ((mm_w (36 * x5)) + x7)) ∧ (mm_w ((mm_w (36 * x5)) + x7)) < 37584) ∧ (if (hi (43, 0, 0) (mm_w ((mm_w (36 * x5)) + x7))) = 0 then mm_Wp 264 (mm_blk 264 16) [zR (40, 0, 0), vx1, zI x2, zI x3, zI x4, zI x5, zI x6, zI x7, zI y0, zI (hi (43, 0, 0) (mm_w ((mm_w (36 * x5)) + x7))), vx10, vx11] [] (mm_z hi dh nx ns) Q else (if 0 < y0 then mm_Cl 263 [zR (40, 0, 0), zI y0, zI (hi (43, 0, 0) (mm_w ((mm_w (36 * x5)) + x7)))] (mm_z hi dh nx ns) (fun r h3 => mm_Wp 264 (bk_264_12.drop 6) [zR (40, 0, 0), vx1, zI x2, zI x3, zI x4, zI x5, zI x6, zI x7, zI y0, zI (hi (43, 0, 0) (mm_w ((mm_w (36 * x5)) + x7))), vx10, vx11] (mm_push r []) h3 Q) else mm_Wp 264 (mm_blk 264 13) [zR (40, 0, 0), vx1, zI x2, zI x3, zI x4, zI x5, zI x6, zI x7, zI y0, zI (hi (43, 0, 0) (mm_w ((mm_w (36 * x5)) + x7))), vx10, vx11] [] (mm_z hi dh nx ns) Q))) :=
  mm_kb bq_264_11 ((wp_6 (l2 := [zR (40, 0, 0), vx1, zI x2, zI x3, zI x4, zI x5, zI x6, zI x7, zI y0, vx9, vx10, vx11]) rfl).trans ((wp_5_0).trans ((wp_62 (by decide) (mm_o40 hy) (mm_r40_4 hy)).trans ((wp_1).trans ((wp_3_5).trans ((wp_12).trans ((wp_3_7).trans ((wp_10).trans ((wp_70 (mm_q43 hy)).trans (mm_ae ((wp_6 (l2 := [zR (40, 0, 0), vx1, zI x2, zI x3, zI x4, zI x5, zI x6, zI x7, zI y0, zI (hi (43, 0, 0) (mm_w ((mm_w (36 * x5)) + x7))), vx10, vx11]) rfl).trans ((wp_3_9).trans ((wp_41).trans (mm_ic ((wp_56).trans (rfl)) (mm_kb bq_264_12 ((wp_3_8).trans ((wp_45).trans (mm_ic ((wp_5_0).trans ((wp_3_8).trans ((wp_3_9).trans ((wp_v3 mm_n_263 (mm_leq mm_m_263 (mm_lb rfl)) (mm_lb rfl) (mm_o40 hy)).trans rfl)))) (rfl)))))))))))))))))))
theorem r_264_9_11 (vx1 : mm_V) (x2 : Int) (x3 : Int) (x4 : Int) (x5 : Int) (x6 : Int) (x7 : Int) (vx8 : mm_V) (vx9 : mm_V) (vx10 : mm_V) (vx11 : mm_V) (y0 : Int) (y1 : Int) {hi : mm_Id → Int → Int} {dh : Int → Int} {nx ns : Int} {Q : mm_V → mm_H → Prop} (hy : 5306 ≤ nx) :
    mm_Wp 264 (bk_264_9.drop 11) [zR (40, 0, 0), vx1, zI x2, zI x3, zI x4, zI x5, zI x6, zI x7, vx8, vx9, vx10, vx11] [zI y0, zI y1, zR (43, 0, 0)] (mm_z hi dh nx ns) Q =
    ((0 ≤ (mm_w ((mm_w (y1 * y0)) + x7)) ∧ (mm_w ((mm_w (y1 * y0)) + x7)) < 37584) ∧ mm_Wp 264 (mm_blk 264 11) [zR (40, 0, 0), vx1, zI x2, zI x3, zI x4, zI x5, zI x6, zI x7, vx8, vx9, vx10, vx11] [zI (hi (43, 0, 0) (mm_w ((mm_w (y1 * y0)) + x7)))] (mm_z hi dh nx ns) Q) :=
  (wp_12).trans ((wp_3_7).trans ((wp_10).trans ((wp_70 (mm_q43 hy)).trans (mm_ae ((wp_56).trans (rfl))))))
theorem r_264_13 (vx1 : mm_V) (x2 : Int) (x3 : Int) (x4 : Int) (x5 : Int) (x6 : Int) (x7 : Int) (vx8 : mm_V) (x9 : Int) (vx10 : mm_V) (vx11 : mm_V) {hi : mm_Id → Int → Int} {dh : Int → Int} {nx ns : Int} {Q : mm_V → mm_H → Prop} (hy : 5306 ≤ nx) :
    mm_Wp 264 (mm_blk 264 13) [zR (40, 0, 0), vx1, zI x2, zI x3, zI x4, zI x5, zI x6, zI x7, vx8, zI x9, vx10, vx11] [] (mm_z hi dh nx ns) Q =
    mm_Cl 196 [zR (40, 0, 0)] (mm_z hi dh nx ns) (fun r h3 => mm_Wp 264 (bk_264_13.drop 2) [zR (40, 0, 0), vx1, zI x2, zI x3, zI x4, zI x5, zI x6, zI x7, vx8, zI x9, vx10, vx11] (mm_push r []) h3 Q) :=
  mm_kb bq_264_13 ((wp_5_0).trans ((wp_v1 mm_n_196 (mm_leq mm_m_196 (mm_lb rfl)) (mm_lb rfl) (mm_o40 hy)).trans rfl))
theorem r_264_12_6 (vx1 : mm_V) (x2 : Int) (x3 : Int) (x4 : Int) (x5 : Int) (x6 : Int) (x7 : Int) (x8 : Int) (x9 : Int) (vx10 : mm_V) (vx11 : mm_V) (y0 : Int) {hi : mm_Id → Int → Int} {dh : Int → Int} {nx ns : Int} {Q : mm_V → mm_H → Prop} (hy : 5306 ≤ nx) :
    mm_Wp 264 (bk_264_12.drop 6) [zR (40, 0, 0), vx1, zI x2, zI x3, zI x4, zI x5, zI x6, zI x7, zI x8, zI x9, vx10, vx11] [zI y0] (mm_z hi dh nx ns) Q =
    (if y0 = 0 then mm_Wp 264 (mm_blk 264 13) [zR (40, 0, 0), vx1, zI x2, zI x3, zI x4, zI x5, zI x6, zI x7, zI x8, zI x9, vx10, vx11] [] (mm_z hi dh nx ns) Q else ((0 ≤ (mm_w ((mm_w (36 * x5)) + x7)) ∧ (mm_w ((mm_w (36 * x5)) + x7)) < 37584) ∧ mm_Wp 264 (mm_blk 264 16) [zR (40, 0, 0), vx1, zI x2, zI x3, zI x4, zI x5, zI x6, zI x7, zI x8, zI x9, vx10, vx11] [] (mm_z (mm_up hi (43, 0, 0) (mm_w ((mm_w (36 * x5)) + x7)) x8) dh nx ns) Q)) :=
  (wp_40).trans (mm_ic (rfl) ((wp_5_0).trans ((wp_62 (by decide) (mm_o40 hy) (mm_r40_4 hy)).trans ((wp_1).trans ((wp_3_5).trans ((wp_12).trans ((wp_3_7).trans ((wp_10).trans ((wp_3_8).trans ((wp_74 (mm_q43 hy)).trans (mm_ae ((wp_56).trans (rfl)))))))))))))
theorem r_264_16 (vx1 : mm_V) (x2 : Int) (x3 : Int) (x4 : Int) (x5 : Int) (x6 : Int) (x7 : Int) (vx8 : mm_V) (vx9 : mm_V) (vx10 : mm_V) (vx11 : mm_V) {hi : mm_Id → Int → Int} {dh : Int → Int} {nx ns : Int} {Q : mm_V → mm_H → Prop} (hy : 5306 ≤ nx) :
    mm_Wp 264 (mm_blk 264 16) [zR (40, 0, 0), vx1, zI x2, zI x3, zI x4, zI x5, zI x6, zI x7, vx8, vx9, vx10, vx11] [] (mm_z hi dh nx ns) Q =
    mm_Wp 264 (mm_blk 264 9) [zR (40, 0, 0), vx1, zI x2, zI x3, zI x4, zI x5, zI x6, zI (mm_w (x7 + 1)), vx8, vx9, vx10, vx11] [] (mm_z hi dh nx ns) Q :=
  mm_kb bq_264_16 ((wp_9 (l2 := [zR (40, 0, 0), vx1, zI x2, zI x3, zI x4, zI x5, zI x6, zI (mm_w (x7 + 1)), vx8, vx9, vx10, vx11]) rfl rfl).trans ((wp_56).trans (rfl)))
theorem r_264_13_2 (vx1 : mm_V) (x2 : Int) (x3 : Int) (x4 : Int) (x5 : Int) (x6 : Int) (x7 : Int) (vx8 : mm_V) (x9 : Int) (vx10 : mm_V) (vx11 : mm_V) (y0 : Int) {hi : mm_Id → Int → Int} {dh : Int → Int} {nx ns : Int} {Q : mm_V → mm_H → Prop} (hy : 5306 ≤ nx) :
    mm_Wp 264 (bk_264_13.drop 2) [zR (40, 0, 0), vx1, zI x2, zI x3, zI x4, zI x5, zI x6, zI x7, vx8, zI x9, vx10, vx11] [zI y0] (mm_z hi dh nx ns) Q =
    mm_Wp 264 (mm_blk 264 14) [zR (40, 0, 0), vx1, zI x2, zI x3, zI x4, zI x5, zI x6, zI x7, vx8, zI x9, zI y0, zI 0] [] (mm_z hi dh nx ns) Q :=
  (wp_6 (l2 := [zR (40, 0, 0), vx1, zI x2, zI x3, zI x4, zI x5, zI x6, zI x7, vx8, zI x9, zI y0, vx11]) rfl).trans ((wp_1).trans ((wp_6 (l2 := [zR (40, 0, 0), vx1, zI x2, zI x3, zI x4, zI x5, zI x6, zI x7, vx8, zI x9, zI y0, zI 0]) rfl).trans ((wp_0).trans (rfl))))
theorem r_264_14 (vx1 : mm_V) (x2 : Int) (x3 : Int) (x4 : Int) (x5 : Int) (x6 : Int) (x7 : Int) (vx8 : mm_V) (x9 : Int) (x10 : Int) (x11 : Int) {hi : mm_Id → Int → Int} {dh : Int → Int} {nx ns : Int} {Q : mm_V → mm_H → Prop} (hy : 5306 ≤ nx) :
    mm_Wp 264 (mm_blk 264 14) [zR (40, 0, 0), vx1, zI x2, zI x3, zI x4, zI x5, zI x6, zI x7, vx8, zI x9, zI x10, zI x11] [] (mm_z hi dh nx ns) Q =
    (if x11 < 60 then ((0 ≤ (mm_w ((mm_w (60 * x9)) + x11)) ∧ (mm_w ((mm_w (60 * x9)) + x11)) < 180060) ∧ ((0 ≤ (mm_w ((mm_w (60 * x10)) + x11)) ∧ (mm_w ((mm_w (60 * x10)) + x11)) < 180060) ∧ mm_Wp 264 (mm_blk 264 14) [zR (40, 0, 0), vx1, zI x2, zI x3, zI x4, zI x5, zI x6, zI x7, vx8, zI x9, zI x10, zI (mm_w (x11 + 1))] [] (mm_z (mm_up hi (54, 0, 0) (mm_w ((mm_w (60 * x10)) + x11)) (mm_b (hi (54, 0, 0) (mm_w ((mm_w (60 * x9)) + x11))))) dh nx ns) Q)) else ((0 ≤ (mm_w ((mm_w (36 * x5)) + x7)) ∧ (mm_w ((mm_w (36 * x5)) + x7)) < 37584) ∧ mm_Wp 264 (mm_blk 264 16) [zR (40, 0, 0), vx1, zI x2, zI (mm_w (x3 + 1)), zI x4, zI x5, zI x6, zI x7, vx8, zI x9, zI x10, zI x11] [] (mm_z (mm_up hi (43, 0, 0) (mm_w ((mm_w (36 * x5)) + x7)) x10) dh nx ns) Q)) :=
  mm_kb bq_264_14 ((wp_3_11).trans ((wp_1).trans ((wp_49).trans (mm_ic ((wp_5_0).trans ((wp_62 (by decide) (mm_o40 hy) (mm_r40_15 hy)).trans ((wp_1).trans ((wp_3_10).trans ((wp_12).trans ((wp_3_11).trans ((wp_10).trans ((wp_5_0).trans ((wp_62 (by decide) (mm_o40 hy) (mm_r40_15 hy)).trans ((wp_1).trans ((wp_3_9).trans ((wp_12).trans ((wp_3_11).trans ((wp_10).trans ((wp_71 (mm_q54 hy)).trans (mm_ae ((wp_75 (mm_q54 hy)).trans (mm_ae ((wp_9 (l2 := [zR (40, 0, 0), vx1, zI x2, zI x3, zI x4, zI x5, zI x6, zI x7, vx8, zI x9, zI x10, zI (mm_w (x11 + 1))]) rfl rfl).trans ((wp_56).trans (rfl))))))))))))))))))))) (mm_kb bq_264_15 ((wp_5_0).trans ((wp_62 (by decide) (mm_o40 hy) (mm_r40_4 hy)).trans ((wp_1).trans ((wp_3_5).trans ((wp_12).trans ((wp_3_7).trans ((wp_10).trans ((wp_3_10).trans ((wp_74 (mm_q43 hy)).trans (mm_ae ((wp_9 (l2 := [zR (40, 0, 0), vx1, zI x2, zI (mm_w (x3 + 1)), zI x4, zI x5, zI x6, zI x7, vx8, zI x9, zI x10, zI x11]) rfl rfl).trans ((wp_0).trans (rfl))))))))))))))))))
/-- PoolHouseModel.commit()I -/
theorem bq_265_0 : mm_blk 265 0 = bk_265_0 := by decide +kernel
theorem r_265_e  {hi : mm_Id → Int → Int} {dh : Int → Int} {nx ns : Int} {Q : mm_V → mm_H → Prop} (hy : 5306 ≤ nx) :
    mm_Cl 265 [zR (40, 0, 0)] (mm_z hi dh nx ns) Q =
    mm_Cl 208 [zR (40, 0, 0)] (mm_z (mm_up hi (40, 0, 0) 0 0) dh nx ns) (fun r h3 => mm_Wp 265 (bk_265_0.drop 8) [zR (40, 0, 0), zI ((mm_up hi (40, 0, 0) 0 0) (40, 0, 0) 33)] (mm_push r []) h3 Q) :=
  mm_ce (l2 := [zR (40, 0, 0), zU]) rfl (mm_kb bq_265_0 ((wp_5_0).trans ((wp_1).trans ((wp_63 (mm_o40 hy)).trans ((wp_5_0).trans ((wp_60 (by decide) (mm_o40 hy)).trans ((wp_6 (l2 := [zR (40, 0, 0), zI ((mm_up hi (40, 0, 0) 0 0) (40, 0, 0) 33)]) rfl).trans ((wp_5_0).trans ((wp_v1 mm_n_208 (mm_leq mm_m_208 (mm_lb rfl)) (mm_lb rfl) (mm_o40 hy)).trans rfl)))))))))
theorem r_265_0_8 (vx0 : mm_V) (x1 : Int) {hi : mm_Id → Int → Int} {dh : Int → Int} {nx ns : Int} {Q : mm_V → mm_H → Prop} (hy : 5306 ≤ nx) :
    mm_Wp 265 (bk_265_0.drop 8) [vx0, zI x1] [] (mm_z hi dh nx ns) Q =
    Q (zI x1) (mm_z hi dh nx ns) :=
  (wp_3_1).trans (wp_90)
/-- PoolHouseModel.sync()I -/
theorem bq_266_0 : mm_blk 266 0 = bk_266_0 := by decide +kernel
theorem r_266_e  {hi : mm_Id → Int → Int} {dh : Int → Int} {nx ns : Int} {Q : mm_V → mm_H → Prop} (hy : 5306 ≤ nx) :
    mm_Cl 266 [zR (40, 0, 0)] (mm_z hi dh nx ns) Q =
    mm_Cl 208 [zR (40, 0, 0)] (mm_z (mm_up hi (40, 0, 0) 0 0) dh nx ns) (fun r h3 => mm_Wp 266 (bk_266_0.drop 8) [zR (40, 0, 0), zI ((mm_up hi (40, 0, 0) 0 0) (40, 0, 0) 33)] (mm_push r []) h3 Q) :=
  mm_ce (l2 := [zR (40, 0, 0), zU]) rfl (mm_kb bq_266_0 ((wp_5_0).trans ((wp_1).trans ((wp_63 (mm_o40 hy)).trans ((wp_5_0).trans ((wp_60 (by decide) (mm_o40 hy)).trans ((wp_6 (l2 := [zR (40, 0, 0), zI ((mm_up hi (40, 0, 0) 0 0) (40, 0, 0) 33)]) rfl).trans ((wp_5_0).trans ((wp_v1 mm_n_208 (mm_leq mm_m_208 (mm_lb rfl)) (mm_lb rfl) (mm_o40 hy)).trans rfl)))))))))
theorem r_266_0_8 (vx0 : mm_V) (x1 : Int) {hi : mm_Id → Int → Int} {dh : Int → Int} {nx ns : Int} {Q : mm_V → mm_H → Prop} (hy : 5306 ≤ nx) :
    mm_Wp 266 (bk_266_0.drop 8) [vx0, zI x1] [] (mm_z hi dh nx ns) Q =
    Q (zI x1) (mm_z hi dh nx ns) :=
  (wp_3_1).trans (wp_90)
/-- PoolHouseModel.crash(I)I -/
theorem bq_267_0 : mm_blk 267 0 = bk_267_0 := by decide +kernel
theorem bq_267_1 : mm_blk 267 1 = bk_267_1 := by decide +kernel
theorem bq_267_2 : mm_blk 267 2 = bk_267_2 := by decide +kernel
theorem bq_267_3 : mm_blk 267 3 = bk_267_3 := by decide +kernel
theorem bq_267_4 : mm_blk 267 4 = bk_267_4 := by decide +kernel
theorem bq_267_5 : mm_blk 267 5 = bk_267_5 := by decide +kernel
theorem bq_267_6 : mm_blk 267 6 = bk_267_6 := by decide +kernel
theorem bq_267_7 : mm_blk 267 7 = bk_267_7 := by decide +kernel
theorem bq_267_8 : mm_blk 267 8 = bk_267_8 := by decide +kernel
theorem bq_267_9 : mm_blk 267 9 = bk_267_9 := by decide +kernel
theorem bq_267_10 : mm_blk 267 10 = bk_267_10 := by decide +kernel
theorem r_267_e (x1 : Int) {hi : mm_Id → Int → Int} {dh : Int → Int} {nx ns : Int} {Q : mm_V → mm_H → Prop} (hy : 5306 ≤ nx) :
    mm_Cl 267 [zR (40, 0, 0), zI x1] (mm_z hi dh nx ns) Q =
    mm_Cl 174 [zL x1, zL 0, zL 4] (mm_z (mm_up hi (40, 0, 0) 0 0) dh nx ns) (fun r h3 => mm_Wp 267 (bk_267_0.drop 8) [zR (40, 0, 0), zI x1, zU, zU, zU] (mm_push r []) h3 Q) :=
  mm_ce (l2 := [zR (40, 0, 0), zI x1, zU, zU, zU]) rfl (mm_kb bq_267_0 ((wp_5_0).trans ((wp_1).trans ((wp_63 (mm_o40 hy)).trans ((wp_3_1).trans ((wp_31).trans ((wp_2).trans ((wp_2).trans ((wp_s3 mm_n_174 (mm_leq mm_m_174 (mm_lb rfl)) (mm_lb rfl)).trans rfl)))))))))
theorem r_267_0_8 (x1 : Int) (vx2 : mm_V) (vx3 : mm_V) (vx4 : mm_V) (y0 : Int) {hi : mm_Id → Int → Int} {dh : Int → Int} {nx ns : Int} {Q : mm_V → mm_H → Prop} (hy : 5306 ≤ nx) :
    mm_Wp 267 (bk_267_0.drop 8) [zR (40, 0, 0), zI x1, vx2, vx3, vx4] [zI y0] (mm_z hi dh nx ns) Q =
    (if y0 = 0 then Q (zI (-2)) (mm_z hi dh nx ns) else (if x1 = 4 then mm_Cl 208 [zR (40, 0, 0)] (mm_z hi dh nx ns) (fun r h3 => mm_Wp 267 (bk_267_1.drop 5) [zR (40, 0, 0), zI x1, vx2, vx3, vx4] (mm_push r []) h3 Q) else mm_Wp 267 (mm_blk 267 2) [zR (40, 0, 0), zI x1, vx2, vx3, vx4] [] (mm_z hi dh nx ns) Q)) :=
  (wp_41).trans (mm_ic ((wp_1).trans (wp_90)) (mm_kb bq_267_1 ((wp_3_1).trans ((wp_1).trans ((wp_47).trans (mm_ic ((wp_5_0).trans ((wp_v1 mm_n_208 (mm_leq mm_m_208 (mm_lb rfl)) (mm_lb rfl) (mm_o40 hy)).trans rfl)) (rfl)))))))
theorem r_267_2 (vx1 : mm_V) (vx2 : mm_V) (vx3 : mm_V) (vx4 : mm_V) {hi : mm_Id → Int → Int} {dh : Int → Int} {nx ns : Int} {Q : mm_V → mm_H → Prop} (hvx1 : mm_wt vx1 = 1) (hy : 5306 ≤ nx) :
    mm_Wp 267 (mm_blk 267 2) [zR (40, 0, 0), vx1, vx2, vx3, vx4] [] (mm_z hi dh nx ns) Q =
    mm_Wp 267 (mm_blk 267 3) [zR (40, 0, 0), vx1, zI (hi (40, 0, 0) 33), zI 0, vx4] [] (mm_z hi dh nx ns) Q :=
  mm_kb bq_267_2 ((wp_5_0).trans ((wp_60 (by decide) (mm_o40 hy)).trans ((wp_6 (l2 := [zR (40, 0, 0), vx1, zI (hi (40, 0, 0) 33), vx3, vx4]) ((if_pos (mm_lb rfl)).trans (congrArg some (mm_stw rfl hvx1)))).trans ((wp_1).trans ((wp_6 (l2 := [zR (40, 0, 0), vx1, zI (hi (40, 0, 0) 33), zI 0, vx4]) rfl).trans ((wp_0).trans (rfl)))))))
theorem r_267_1_5 (vx1 : mm_V) (vx2 : mm_V) (vx3 : mm_V) (vx4 : mm_V) {hi : mm_Id → Int → Int} {dh : Int → Int} {nx ns : Int} {Q : mm_V → mm_H → Prop} (hy : 5306 ≤ nx) :
    mm_Wp 267 (bk_267_1.drop 5) [zR (40, 0, 0), vx1, vx2, vx3, vx4] [] (mm_z hi dh nx ns) Q =
    mm_Wp 267 (mm_blk 267 2) [zR (40, 0, 0), vx1, vx2, vx3, vx4] [] (mm_z hi dh nx ns) Q :=
  (wp_0).trans (rfl)
theorem r_267_3 (vx1 : mm_V) (x2 : Int) (x3 : Int) (vx4 : mm_V) {hi : mm_Id → Int → Int} {dh : Int → Int} {nx ns : Int} {Q : mm_V → mm_H → Prop} (hy : 5306 ≤ nx) :
    mm_Wp 267 (mm_blk 267 3) [zR (40, 0, 0), vx1, zI x2, zI x3, vx4] [] (mm_z hi dh nx ns) Q =
    (if x3 < 13 then ((0 ≤ (mm_w (13 + x3)) ∧ (mm_w (13 + x3)) < 26) ∧ ((0 ≤ x3 ∧ x3 < 26) ∧ ((0 ≤ (mm_w (13 + x3)) ∧ (mm_w (13 + x3)) < 26) ∧ ((0 ≤ x3 ∧ x3 < 26) ∧ ((0 ≤ (mm_w (13 + x3)) ∧ (mm_w (13 + x3)) < 26) ∧ ((0 ≤ x3 ∧ x3 < 26) ∧ ((0 ≤ (mm_w (13 + x3)) ∧ (mm_w (13 + x3)) < 26) ∧ (((((mm_up (mm_up (mm_up hi (57, 0, 0) x3 (hi (57, 0, 0) (mm_w (13 + x3)))) (58, 0, 0) x3 ((mm_up hi (57, 0, 0) x3 (hi (57, 0, 0) (mm_w (13 + x3)))) (58, 0, 0) (mm_w (13 + x3)))) (59, 0, 0) x3 ((mm_up (mm_up hi (57, 0, 0) x3 (hi (57, 0, 0) (mm_w (13 + x3)))) (58, 0, 0) x3 ((mm_up hi (57, 0, 0) x3 (hi (57, 0, 0) (mm_w (13 + x3)))) (58, 0, 0) (mm_w (13 + x3)))) (59, 0, 0) (mm_w (13 + x3)))) (60, 0, 0) (mm_w (13 + x3))) = 0 ∨ ((mm_up (mm_up (mm_up hi (57, 0, 0) x3 (hi (57, 0, 0) (mm_w (13 + x3)))) (58, 0, 0) x3 ((mm_up hi (57, 0, 0) x3 (hi (57, 0, 0) (mm_w (13 + x3)))) (58, 0, 0) (mm_w (13 + x3)))) (59, 0, 0) x3 ((mm_up (mm_up hi (57, 0, 0) x3 (hi (57, 0, 0) (mm_w (13 + x3)))) (58, 0, 0) x3 ((mm_up hi (57, 0, 0) x3 (hi (57, 0, 0) (mm_w (13 + x3)))) (58, 0, 0) (mm_w (13 + x3)))) (59, 0, 0) (mm_w (13 + x3)))) (60, 0, 0) (mm_w (13 + x3))) = 1) ∧ 0 ≤ x3 ∧ x3 < 26) ∧ mm_Wp 267 (mm_blk 267 4) [zR (40, 0, 0), vx1, zI x2, zI x3, zI 0] [] (mm_z (mm_up (mm_up (mm_up (mm_up hi (57, 0, 0) x3 (hi (57, 0, 0) (mm_w (13 + x3)))) (58, 0, 0) x3 ((mm_up hi (57, 0, 0) x3 (hi (57, 0, 0) (mm_w (13 + x3)))) (58, 0, 0) (mm_w (13 + x3)))) (59, 0, 0) x3 ((mm_up (mm_up hi (57, 0, 0) x3 (hi (57, 0, 0) (mm_w (13 + x3)))) (58, 0, 0) x3 ((mm_up hi (57, 0, 0) x3 (hi (57, 0, 0) (mm_w (13 + x3)))) (58, 0, 0) (mm_w (13 + x3)))) (59, 0, 0) (mm_w (13 + x3)))) (60, 0, 0) x3 ((mm_up (mm_up (mm_up hi (57, 0, 0) x3 (hi (57, 0, 0) (mm_w (13 + x3)))) (58, 0, 0) x3 ((mm_up hi (57, 0, 0) x3 (hi (57, 0, 0) (mm_w (13 + x3)))) (58, 0, 0) (mm_w (13 + x3)))) (59, 0, 0) x3 ((mm_up (mm_up hi (57, 0, 0) x3 (hi (57, 0, 0) (mm_w (13 + x3)))) (58, 0, 0) x3 ((mm_up hi (57, 0, 0) x3 (hi (57, 0, 0) (mm_w (13 + x3)))) (58, 0, 0) (mm_w (13 + x3)))) (59, 0, 0) (mm_w (13 + x3)))) (60, 0, 0) (mm_w (13 + x3)))) dh nx ns) Q)))))))) else mm_Wp 267 (mm_blk 267 7) [zR (40, 0, 0), vx1, zI x2, zI 1, vx4] [] (mm_z hi dh nx ns) Q) :=
  mm_kb bq_267_3 ((wp_3_3).trans ((wp_1).trans ((wp_49).trans (mm_ic ((wp_5_0).trans ((wp_62 (by decide) (mm_o40 hy) (mm_r40_19 hy)).trans ((wp_3_3).trans ((wp_5_0).trans ((wp_62 (by decide) (mm_o40 hy) (mm_r40_19 hy)).trans ((wp_1).trans ((wp_3_3).trans ((wp_10).trans ((wp_70 (mm_q57 hy)).trans (mm_ae ((wp_74 (mm_q57 hy)).trans (mm_ae ((wp_5_0).trans ((wp_62 (by decide) (mm_o40 hy) (mm_r40_20 hy)).trans ((wp_3_3).trans ((wp_5_0).trans ((wp_62 (by decide) (mm_o40 hy) (mm_r40_20 hy)).trans ((wp_1).trans ((wp_3_3).trans ((wp_10).trans ((wp_70 (mm_q58 hy)).trans (mm_ae ((wp_74 (mm_q58 hy)).trans (mm_ae ((wp_5_0).trans ((wp_62 (by decide) (mm_o40 hy) (mm_r40_21 hy)).trans ((wp_3_3).trans ((wp_5_0).trans ((wp_62 (by decide) (mm_o40 hy) (mm_r40_21 hy)).trans ((wp_1).trans ((wp_3_3).trans ((wp_10).trans ((wp_70 (mm_q59 hy)).trans (mm_ae ((wp_74 (mm_q59 hy)).trans (mm_ae ((wp_5_0).trans ((wp_62 (by decide) (mm_o40 hy) (mm_r40_22 hy)).trans ((wp_3_3).trans ((wp_5_0).trans ((wp_62 (by decide) (mm_o40 hy) (mm_r40_22 hy)).trans ((wp_1).trans ((wp_3_3).trans ((wp_10).trans ((wp_71z (mm_q60 hy)).trans (mm_ae ((wp_75zv (mm_q60 hy)).trans (mm_ae ((wp_1).trans ((wp_6 (l2 := [zR (40, 0, 0), vx1, zI x2, zI x3, zI 0]) rfl).trans ((wp_0).trans (rfl)))))))))))))))))))))))))))))))))))))))))))))))))))) (mm_kb bq_267_6 ((wp_1).trans ((wp_6 (l2 := [zR (40, 0, 0), vx1, zI x2, zI 1, vx4]) rfl).trans ((wp_0).trans (rfl)))))))))
theorem r_267_7 (vx1 : mm_V) (x2 : Int) (x3 : Int) (vx4 : mm_V) {hi : mm_Id → Int → Int} {dh : Int → Int} {nx ns : Int} {Q : mm_V → mm_H → Prop} (hy : 5306 ≤ nx) :
    mm_Wp 267 (mm_blk 267 7) [zR (40, 0, 0), vx1, zI x2, zI x3, vx4] [] (mm_z hi dh nx ns) Q =
    (if 8 < x3 then mm_Wp 267 (mm_blk 267 9) [zR (40, 0, 0), vx1, zI x2, zI 0, vx4] [] (mm_z (mm_up (mm_up hi (40, 0, 0) 29 0) (40, 0, 0) 30 0) dh nx ns) Q else mm_Cl 192 [zR (40, 0, 0), zI x3] (mm_z hi dh nx ns) (fun r h3 => mm_Wp 267 (bk_267_7.drop 6) [zR (40, 0, 0), vx1, zI x2, zI x3, vx4] (mm_push r []) h3 Q)) :=
  mm_kb bq_267_7 ((wp_3_3).trans ((wp_1).trans ((wp_50).trans (mm_ic (mm_kb bq_267_8 ((wp_5_0).trans ((wp_1).trans ((wp_63 (mm_o40 hy)).trans ((wp_5_0).trans ((wp_1).trans ((wp_63 (mm_o40 hy)).trans ((wp_1).trans ((wp_6 (l2 := [zR (40, 0, 0), vx1, zI x2, zI 0, vx4]) rfl).trans ((wp_0).trans (rfl))))))))))) ((wp_5_0).trans ((wp_3_3).trans ((wp_v2 mm_n_192 (mm_leq mm_m_192 (mm_lb rfl)) (mm_lb rfl) (mm_o40 hy)).trans rfl)))))))
theorem r_267_4 (vx1 : mm_V) (x2 : Int) (x3 : Int) (x4 : Int) {hi : mm_Id → Int → Int} {dh : Int → Int} {nx ns : Int} {Q : mm_V → mm_H → Prop} (hy : 5306 ≤ nx) :
    mm_Wp 267 (mm_blk 267 4) [zR (40, 0, 0), vx1, zI x2, zI x3, zI x4] [] (mm_z hi dh nx ns) Q =
    (if x4 < 8 then ((0 ≤ (mm_w ((mm_w (8 * (mm_w (13 + x3)))) + x4)) ∧ (mm_w ((mm_w (8 * (mm_w (13 + x3)))) + x4)) < 208) ∧ ((0 ≤ (mm_w ((mm_w (8 * x3)) + x4)) ∧ (mm_w ((mm_w (8 * x3)) + x4)) < 208) ∧ mm_Wp 267 (mm_blk 267 4) [zR (40, 0, 0), vx1, zI x2, zI x3, zI (mm_w (x4 + 1))] [] (mm_z (mm_up hi (61, 0, 0) (mm_w ((mm_w (8 * x3)) + x4)) (hi (61, 0, 0) (mm_w ((mm_w (8 * (mm_w (13 + x3)))) + x4)))) dh nx ns) Q)) else mm_Cl 179 [zR (40, 0, 0), zI (mm_w (13 + x3)), zI x3] (mm_z hi dh nx ns) (fun r h3 => mm_Wp 267 (bk_267_5.drop 6) [zR (40, 0, 0), vx1, zI x2, zI x3, zI x4] (mm_push r []) h3 Q)) :=
  mm_kb bq_267_4 ((wp_3_4).trans ((wp_1).trans ((wp_49).trans (mm_ic ((wp_5_0).trans ((wp_62 (by decide) (mm_o40 hy) (mm_r40_23 hy)).trans ((wp_1).trans ((wp_3_3).trans ((wp_12).trans ((wp_3_4).trans ((wp_10).trans ((wp_5_0).trans ((wp_62 (by decide) (mm_o40 hy) (mm_r40_23 hy)).trans ((wp_1).trans ((wp_1).trans ((wp_3_3).trans ((wp_10).trans ((wp_12).trans ((wp_3_4).trans ((wp_10).trans ((wp_70 (mm_q61 hy)).trans (mm_ae ((wp_74 (mm_q61 hy)).trans (mm_ae ((wp_9 (l2 := [zR (40, 0, 0), vx1, zI x2, zI x3, zI (mm_w (x4 + 1))]) rfl rfl).trans ((wp_56).trans (rfl))))))))))))))))))))))) (mm_kb bq_267_5 ((wp_5_0).trans ((wp_1).trans ((wp_3_3).trans ((wp_10).trans ((wp_3_3).trans ((wp_v3 mm_n_179 (mm_leq mm_m_179 (mm_lb rfl)) (mm_lb rfl) (mm_o40 hy)).trans rfl)))))))))))
theorem r_267_9 (vx1 : mm_V) (x2 : Int) (x3 : Int) (vx4 : mm_V) {hi : mm_Id → Int → Int} {dh : Int → Int} {nx ns : Int} {Q : mm_V → mm_H → Prop} (hy : 5306 ≤ nx) :
    mm_Wp 267 (mm_blk 267 9) [zR (40, 0, 0), vx1, zI x2, zI x3, vx4] [] (mm_z hi dh nx ns) Q =
    (if x3 < 5 then mm_Cl 194 [zR (40, 0, 0), zI x3] (mm_z hi dh nx ns) (fun r h3 => mm_Wp 267 (bk_267_9.drop 6) [zR (40, 0, 0), vx1, zI x2, zI x3, vx4] (mm_push r []) h3 Q) else mm_Cl 249 [zR (40, 0, 0), zI 26] (mm_z (mm_up hi (40, 0, 0) 34 0) dh nx ns) (fun r h3 => mm_Wp 267 (bk_267_10.drop 6) [zR (40, 0, 0), vx1, zI x2, zI x3, vx4] (mm_push r []) h3 Q)) :=
  mm_kb bq_267_9 ((wp_3_3).trans ((wp_1).trans ((wp_49).trans (mm_ic ((wp_5_0).trans ((wp_3_3).trans ((wp_v2 mm_n_194 (mm_leq mm_m_194 (mm_lb rfl)) (mm_lb rfl) (mm_o40 hy)).trans rfl))) (mm_kb bq_267_10 ((wp_5_0).trans ((wp_1).trans ((wp_64k (mm_o40 hy) (by decide)).trans ((wp_5_0).trans ((wp_1).trans ((wp_v2 mm_n_249 (mm_leq mm_m_249 (mm_lb rfl)) (mm_lb rfl) (mm_o40 hy)).trans rfl)))))))))))
theorem r_267_7_6 (vx1 : mm_V) (x2 : Int) (x3 : Int) (vx4 : mm_V) {hi : mm_Id → Int → Int} {dh : Int → Int} {nx ns : Int} {Q : mm_V → mm_H → Prop} (hy : 5306 ≤ nx) :
    mm_Wp 267 (bk_267_7.drop 6) [zR (40, 0, 0), vx1, zI x2, zI x3, vx4] [] (mm_z hi dh nx ns) Q =
    mm_Wp 267 (mm_blk 267 7) [zR (40, 0, 0), vx1, zI x2, zI (mm_w (x3 + 1)), vx4] [] (mm_z hi dh nx ns) Q :=
  (wp_9 (l2 := [zR (40, 0, 0), vx1, zI x2, zI (mm_w (x3 + 1)), vx4]) rfl rfl).trans ((wp_56).trans (rfl))
theorem r_267_5_6 (vx1 : mm_V) (x2 : Int) (x3 : Int) (vx4 : mm_V) {hi : mm_Id → Int → Int} {dh : Int → Int} {nx ns : Int} {Q : mm_V → mm_H → Prop} (hy : 5306 ≤ nx) :
    mm_Wp 267 (bk_267_5.drop 6) [zR (40, 0, 0), vx1, zI x2, zI x3, vx4] [] (mm_z hi dh nx ns) Q =
    mm_Wp 267 (mm_blk 267 3) [zR (40, 0, 0), vx1, zI x2, zI (mm_w (x3 + 1)), vx4] [] (mm_z hi dh nx ns) Q :=
  (wp_9 (l2 := [zR (40, 0, 0), vx1, zI x2, zI (mm_w (x3 + 1)), vx4]) rfl rfl).trans ((wp_56).trans (rfl))
theorem r_267_10_6 (vx1 : mm_V) (x2 : Int) (vx3 : mm_V) (vx4 : mm_V) {hi : mm_Id → Int → Int} {dh : Int → Int} {nx ns : Int} {Q : mm_V → mm_H → Prop} (hy : 5306 ≤ nx) :
    mm_Wp 267 (bk_267_10.drop 6) [zR (40, 0, 0), vx1, zI x2, vx3, vx4] [] (mm_z hi dh nx ns) Q =
    mm_Cl 249 [zR (40, 0, 0), zI 27] (mm_z hi dh nx ns) (fun r h3 => mm_Wp 267 (bk_267_10.drop 9) [zR (40, 0, 0), vx1, zI x2, vx3, vx4] (mm_push r []) h3 Q) :=
  (wp_5_0).trans ((wp_1).trans ((wp_v2 mm_n_249 (mm_leq mm_m_249 (mm_lb rfl)) (mm_lb rfl) (mm_o40 hy)).trans rfl))
theorem r_267_9_6 (vx1 : mm_V) (x2 : Int) (x3 : Int) (vx4 : mm_V) {hi : mm_Id → Int → Int} {dh : Int → Int} {nx ns : Int} {Q : mm_V → mm_H → Prop} (hy : 5306 ≤ nx) :
    mm_Wp 267 (bk_267_9.drop 6) [zR (40, 0, 0), vx1, zI x2, zI x3, vx4] [] (mm_z hi dh nx ns) Q =
    mm_Wp 267 (mm_blk 267 9) [zR (40, 0, 0), vx1, zI x2, zI (mm_w (x3 + 1)), vx4] [] (mm_z hi dh nx ns) Q :=
  (wp_9 (l2 := [zR (40, 0, 0), vx1, zI x2, zI (mm_w (x3 + 1)), vx4]) rfl rfl).trans ((wp_56).trans (rfl))
theorem r_267_10_9 (vx1 : mm_V) (x2 : Int) (vx3 : mm_V) (vx4 : mm_V) {hi : mm_Id → Int → Int} {dh : Int → Int} {nx ns : Int} {Q : mm_V → mm_H → Prop} (hy : 5306 ≤ nx) :
    mm_Wp 267 (bk_267_10.drop 9) [zR (40, 0, 0), vx1, zI x2, vx3, vx4] [] (mm_z hi dh nx ns) Q =
    mm_Cl 208 [zR (40, 0, 0)] (mm_z hi dh nx ns) (fun r h3 => mm_Wp 267 (bk_267_10.drop 11) [zR (40, 0, 0), vx1, zI x2, vx3, vx4] (mm_push r []) h3 Q) :=
  (wp_5_0).trans ((wp_v1 mm_n_208 (mm_leq mm_m_208 (mm_lb rfl)) (mm_lb rfl) (mm_o40 hy)).trans rfl)
theorem r_267_10_11 (vx0 : mm_V) (vx1 : mm_V) (x2 : Int) (vx3 : mm_V) (vx4 : mm_V) {hi : mm_Id → Int → Int} {dh : Int → Int} {nx ns : Int} {Q : mm_V → mm_H → Prop} (hy : 5306 ≤ nx) :
    mm_Wp 267 (bk_267_10.drop 11) [vx0, vx1, zI x2, vx3, vx4] [] (mm_z hi dh nx ns) Q =
    Q (zI x2) (mm_z hi dh nx ns) :=
  (wp_3_2).trans (wp_90)
/-- PoolHouseModel.isDisk(I)Z -/
theorem bq_268_0 : mm_blk 268 0 = bk_268_0 := by decide +kernel
theorem r_268_e (x1 : Int) {hi : mm_Id → Int → Int} {dh : Int → Int} {nx ns : Int} {Q : mm_V → mm_H → Prop} (hy : 5306 ≤ nx) :
    mm_Cl 268 [zR (40, 0, 0), zI x1] (mm_z hi dh nx ns) Q =
    mm_Cl 174 [zL x1, zL 1, zL (hi (40, 0, 0) 1)] (mm_z hi dh nx ns) (fun r h3 => mm_Wp 268 (bk_268_0.drop 7) [zR (40, 0, 0), zI x1] (mm_push r []) h3 Q) :=
  mm_ce (l2 := [zR (40, 0, 0), zI x1]) rfl (mm_kb bq_268_0 ((wp_3_1).trans ((wp_31).trans ((wp_2).trans ((wp_5_0).trans ((wp_60 (by decide) (mm_o40 hy)).trans ((wp_31).trans ((wp_s3 mm_n_174 (mm_leq mm_m_174 (mm_lb rfl)) (mm_lb rfl)).trans rfl))))))))
theorem r_268_0_7 (vx0 : mm_V) (vx1 : mm_V) (y0 : Int) {hi : mm_Id → Int → Int} {dh : Int → Int} {nx ns : Int} {Q : mm_V → mm_H → Prop} (hy : 5306 ≤ nx) :
    mm_Wp 268 (bk_268_0.drop 7) [vx0, vx1] [zI y0] (mm_z hi dh nx ns) Q =
    ((y0 = 0 ∨ y0 = 1) ∧ Q (zI y0) (mm_z hi dh nx ns)) :=
  wp_94z
/-- PoolHouseModel.isBarred(I)Z -/
theorem bq_269_0 : mm_blk 269 0 = bk_269_0 := by decide +kernel
theorem bq_269_1 : mm_blk 269 1 = bk_269_1 := by decide +kernel
theorem bq_269_2 : mm_blk 269 2 = bk_269_2 := by decide +kernel
theorem bq_269_3 : mm_blk 269 3 = bk_269_3 := by decide +kernel
theorem bq_269_4 : mm_blk 269 4 = bk_269_4 := by decide +kernel
theorem r_269_e (x1 : Int) {hi : mm_Id → Int → Int} {dh : Int → Int} {nx ns : Int} {Q : mm_V → mm_H → Prop} (hy : 5306 ≤ nx) :
    mm_Cl 269 [zR (40, 0, 0), zI x1] (mm_z hi dh nx ns) Q =
    (if (hi (40, 0, 0) 35) = 0 then mm_Wp 269 (mm_blk 269 1) [zR (40, 0, 0), zI x1] [] (mm_z hi dh nx ns) Q else (if (hi (40, 0, 0) 35) = x1 then mm_Wp 269 (mm_blk 269 1) [zR (40, 0, 0), zI x1] [] (mm_z hi dh nx ns) Q else mm_Wp 269 (mm_blk 269 2) [zR (40, 0, 0), zI x1] [] (mm_z hi dh nx ns) Q)) :=
  mm_ce (l2 := [zR (40, 0, 0), zI x1]) rfl (mm_kb bq_269_0 ((wp_5_0).trans ((wp_60 (by decide) (mm_o40 hy)).trans ((wp_40).trans (mm_ic (rfl) ((wp_5_0).trans ((wp_60 (by decide) (mm_o40 hy)).trans ((wp_3_1).trans ((wp_47).trans (mm_ic ((wp_0).trans (rfl)) (rfl)))))))))))
theorem r_269_1 (vx1 : mm_V) {hi : mm_Id → Int → Int} {dh : Int → Int} {nx ns : Int} {Q : mm_V → mm_H → Prop} (hy : 5306 ≤ nx) :
    mm_Wp 269 (mm_blk 269 1) [zR (40, 0, 0), vx1] [] (mm_z hi dh nx ns) Q =
    (if (hi (40, 0, 0) 36) = 0 then mm_Wp 269 (mm_blk 269 4) [zR (40, 0, 0), vx1] [zI 0] (mm_z hi dh nx ns) Q else mm_Wp 269 (mm_blk 269 2) [zR (40, 0, 0), vx1] [] (mm_z hi dh nx ns) Q) :=
  mm_kb bq_269_1 ((wp_5_0).trans ((wp_60 (by decide) (mm_o40 hy)).trans ((wp_40).trans (mm_ic (mm_kb bq_269_3 ((wp_1).trans ((wp_0).trans (rfl)))) ((wp_0).trans (rfl))))))
theorem r_269_2 (vx0 : mm_V) (vx1 : mm_V) {hi : mm_Id → Int → Int} {dh : Int → Int} {nx ns : Int} {Q : mm_V → mm_H → Prop} (hy : 5306 ≤ nx) :
    mm_Wp 269 (mm_blk 269 2) [vx0, vx1] [] (mm_z hi dh nx ns) Q =
    mm_Wp 269 (mm_blk 269 4) [vx0, vx1] [zI 1] (mm_z hi dh nx ns) Q :=
  mm_kb bq_269_2 ((wp_1).trans ((wp_56).trans (rfl)))
theorem r_269_4 (vx0 : mm_V) (vx1 : mm_V) (y0 : Int) {hi : mm_Id → Int → Int} {dh : Int → Int} {nx ns : Int} {Q : mm_V → mm_H → Prop} (hy : 5306 ≤ nx) :
    mm_Wp 269 (mm_blk 269 4) [vx0, vx1] [zI y0] (mm_z hi dh nx ns) Q =
    ((y0 = 0 ∨ y0 = 1) ∧ Q (zI y0) (mm_z hi dh nx ns)) :=
  mm_kb bq_269_4 (wp_94z)
/-- PoolHouseModel.spoil(III)I -/
theorem bq_270_0 : mm_blk 270 0 = bk_270_0 := by decide +kernel
theorem bq_270_1 : mm_blk 270 1 = bk_270_1 := by decide +kernel
theorem bq_270_2 : mm_blk 270 2 = bk_270_2 := by decide +kernel
theorem bq_270_3 : mm_blk 270 3 = bk_270_3 := by decide +kernel
theorem r_270_e (x1 : Int) (x2 : Int) (x3 : Int) {hi : mm_Id → Int → Int} {dh : Int → Int} {nx ns : Int} {Q : mm_V → mm_H → Prop} (hy : 5306 ≤ nx) :
    mm_Cl 270 [zR (40, 0, 0), zI x1, zI x2, zI x3] (mm_z hi dh nx ns) Q =
    mm_Cl 268 [zR (40, 0, 0), zI x1] (mm_z (mm_up hi (40, 0, 0) 0 0) dh nx ns) (fun r h3 => mm_Wp 270 (bk_270_0.drop 6) [zR (40, 0, 0), zI x1, zI x2, zI x3] (mm_push r []) h3 Q) :=
  mm_ce (l2 := [zR (40, 0, 0), zI x1, zI x2, zI x3]) rfl (mm_kb bq_270_0 ((wp_5_0).trans ((wp_1).trans ((wp_63 (mm_o40 hy)).trans ((wp_5_0).trans ((wp_3_1).trans ((wp_v2 mm_n_268 (mm_leq mm_m_268 (mm_lb rfl)) (mm_lb rfl) (mm_o40 hy)).trans rfl)))))))
theorem r_270_0_6 (x1 : Int) (vx2 : mm_V) (x3 : Int) (y0 : Int) {hi : mm_Id → Int → Int} {dh : Int → Int} {nx ns : Int} {Q : mm_V → mm_H → Prop} (hy : 5306 ≤ nx) :
    mm_Wp 270 (bk_270_0.drop 6) [zR (40, 0, 0), zI x1, vx2, zI x3] [zI y0] (mm_z hi dh nx ns) Q =
    (if y0 = 0 then Q (zI (-1)) (mm_z hi dh nx ns) else mm_Cl 174 [zL x3, zL 1, zL 2000] (mm_z hi dh nx ns) (fun r h3 => mm_Wp 270 (bk_270_1.drop 5) [zR (40, 0, 0), zI x1, vx2, zI x3] (mm_push r []) h3 Q)) :=
  (wp_41).trans (mm_ic ((wp_1).trans (wp_90)) (mm_kb bq_270_1 ((wp_3_3).trans ((wp_31).trans ((wp_2).trans ((wp_2).trans ((wp_s3 mm_n_174 (mm_leq mm_m_174 (mm_lb rfl)) (mm_lb rfl)).trans rfl)))))))
theorem r_270_1_5 (x1 : Int) (vx2 : mm_V) (vx3 : mm_V) (y0 : Int) {hi : mm_Id → Int → Int} {dh : Int → Int} {nx ns : Int} {Q : mm_V → mm_H → Prop} (hy : 5306 ≤ nx) :
    mm_Wp 270 (bk_270_1.drop 5) [zR (40, 0, 0), zI x1, vx2, vx3] [zI y0] (mm_z hi dh nx ns) Q =
    (if y0 = 0 then Q (zI (-2)) (mm_z hi dh nx ns) else mm_Cl 269 [zR (40, 0, 0), zI x1] (mm_z hi dh nx ns) (fun r h3 => mm_Wp 270 (bk_270_2.drop 3) [zR (40, 0, 0), zI x1, vx2, vx3] (mm_push r []) h3 Q)) :=
  (wp_41).trans (mm_ic ((wp_1).trans (wp_90)) (mm_kb bq_270_2 ((wp_5_0).trans ((wp_3_1).trans ((wp_v2 mm_n_269 (mm_leq mm_m_269 (mm_lb rfl)) (mm_lb rfl) (mm_o40 hy)).trans rfl)))))
theorem r_270_2_3 (x1 : Int) (vx2 : mm_V) (vx3 : mm_V) (y0 : Int) {hi : mm_Id → Int → Int} {dh : Int → Int} {nx ns : Int} {Q : mm_V → mm_H → Prop} (hy : 5306 ≤ nx) :
    mm_Wp 270 (bk_270_2.drop 3) [zR (40, 0, 0), zI x1, vx2, vx3] [zI y0] (mm_z hi dh nx ns) Q =
    (if y0 = 0 then Q (zI 1) (mm_z (mm_up hi (40, 0, 0) 35 x1) dh nx ns) else Q (zI (-3)) (mm_z hi dh nx ns)) :=
  (wp_40).trans (mm_ic (mm_kb bq_270_3 ((wp_5_0).trans ((wp_3_1).trans ((wp_63 (mm_o40 hy)).trans ((wp_1).trans (wp_90)))))) ((wp_1).trans (wp_90)))
/-- PoolHouseModel.lose(I)I -/
theorem bq_271_0 : mm_blk 271 0 = bk_271_0 := by decide +kernel
theorem bq_271_1 : mm_blk 271 1 = bk_271_1 := by decide +kernel
theorem bq_271_2 : mm_blk 271 2 = bk_271_2 := by decide +kernel
theorem r_271_e (x1 : Int) {hi : mm_Id → Int → Int} {dh : Int → Int} {nx ns : Int} {Q : mm_V → mm_H → Prop} (hy : 5306 ≤ nx) :
    mm_Cl 271 [zR (40, 0, 0), zI x1] (mm_z hi dh nx ns) Q =
    mm_Cl 268 [zR (40, 0, 0), zI x1] (mm_z (mm_up hi (40, 0, 0) 0 0) dh nx ns) (fun r h3 => mm_Wp 271 (bk_271_0.drop 6) [zR (40, 0, 0), zI x1] (mm_push r []) h3 Q) :=
  mm_ce (l2 := [zR (40, 0, 0), zI x1]) rfl (mm_kb bq_271_0 ((wp_5_0).trans ((wp_1).trans ((wp_63 (mm_o40 hy)).trans ((wp_5_0).trans ((wp_3_1).trans ((wp_v2 mm_n_268 (mm_leq mm_m_268 (mm_lb rfl)) (mm_lb rfl) (mm_o40 hy)).trans rfl)))))))
theorem r_271_0_6 (x1 : Int) (y0 : Int) {hi : mm_Id → Int → Int} {dh : Int → Int} {nx ns : Int} {Q : mm_V → mm_H → Prop} (hy : 5306 ≤ nx) :
    mm_Wp 271 (bk_271_0.drop 6) [zR (40, 0, 0), zI x1] [zI y0] (mm_z hi dh nx ns) Q =
    (if y0 = 0 then Q (zI (-1)) (mm_z hi dh nx ns) else mm_Cl 269 [zR (40, 0, 0), zI x1] (mm_z hi dh nx ns) (fun r h3 => mm_Wp 271 (bk_271_1.drop 3) [zR (40, 0, 0), zI x1] (mm_push r []) h3 Q)) :=
  (wp_41).trans (mm_ic ((wp_1).trans (wp_90)) (mm_kb bq_271_1 ((wp_5_0).trans ((wp_3_1).trans ((wp_v2 mm_n_269 (mm_leq mm_m_269 (mm_lb rfl)) (mm_lb rfl) (mm_o40 hy)).trans rfl)))))
theorem r_271_1_3 (x1 : Int) (y0 : Int) {hi : mm_Id → Int → Int} {dh : Int → Int} {nx ns : Int} {Q : mm_V → mm_H → Prop} (hy : 5306 ≤ nx) :
    mm_Wp 271 (bk_271_1.drop 3) [zR (40, 0, 0), zI x1] [zI y0] (mm_z hi dh nx ns) Q =
    (if y0 = 0 then Q (zI 1) (mm_z (mm_up (mm_up hi (40, 0, 0) 35 x1) (40, 0, 0) 36 1) dh nx ns) else Q (zI (-3)) (mm_z hi dh nx ns)) :=
  (wp_40).trans (mm_ic (mm_kb bq_271_2 ((wp_5_0).trans ((wp_3_1).trans ((wp_63 (mm_o40 hy)).trans ((wp_5_0).trans ((wp_1).trans ((wp_64k (mm_o40 hy) (by decide)).trans ((wp_1).trans (wp_90))))))))) ((wp_1).trans (wp_90)))
/-- PoolHouseModel.bring(IZ)I -/
theorem bq_272_0 : mm_blk 272 0 = bk_272_0 := by decide +kernel
theorem bq_272_1 : mm_blk 272 1 = bk_272_1 := by decide +kernel
theorem bq_272_2 : mm_blk 272 2 = bk_272_2 := by decide +kernel
theorem bq_272_3 : mm_blk 272 3 = bk_272_3 := by decide +kernel
theorem r_272_e (x1 : Int) (x2 : Int) {hi : mm_Id → Int → Int} {dh : Int → Int} {nx ns : Int} {Q : mm_V → mm_H → Prop} (hy : 5306 ≤ nx) :
    mm_Cl 272 [zR (40, 0, 0), zI x1, zI x2] (mm_z hi dh nx ns) Q =
    mm_Cl 268 [zR (40, 0, 0), zI x1] (mm_z (mm_up hi (40, 0, 0) 0 0) dh nx ns) (fun r h3 => mm_Wp 272 (bk_272_0.drop 6) [zR (40, 0, 0), zI x1, zI x2] (mm_push r []) h3 Q) :=
  mm_ce (l2 := [zR (40, 0, 0), zI x1, zI x2]) rfl (mm_kb bq_272_0 ((wp_5_0).trans ((wp_1).trans ((wp_63 (mm_o40 hy)).trans ((wp_5_0).trans ((wp_3_1).trans ((wp_v2 mm_n_268 (mm_leq mm_m_268 (mm_lb rfl)) (mm_lb rfl) (mm_o40 hy)).trans rfl)))))))
theorem r_272_0_6 (x1 : Int) (vx2 : mm_V) (y0 : Int) {hi : mm_Id → Int → Int} {dh : Int → Int} {nx ns : Int} {Q : mm_V → mm_H → Prop} (hy : 5306 ≤ nx) :
    mm_Wp 272 (bk_272_0.drop 6) [zR (40, 0, 0), zI x1, vx2] [zI y0] (mm_z hi dh nx ns) Q =
    (if y0 = 0 then Q (zI (-1)) (mm_z hi dh nx ns) else (if (hi (40, 0, 0) 36) = 0 then mm_Wp 272 (mm_blk 272 2) [zR (40, 0, 0), zI x1, vx2] [] (mm_z hi dh nx ns) Q else (if (hi (40, 0, 0) 35) = x1 then Q (zI 1) (mm_z (mm_up hi (40, 0, 0) 36 0) dh nx ns) else mm_Wp 272 (mm_blk 272 2) [zR (40, 0, 0), zI x1, vx2] [] (mm_z hi dh nx ns) Q))) :=
  (wp_41).trans (mm_ic ((wp_1).trans (wp_90)) (mm_kb bq_272_1 ((wp_5_0).trans ((wp_60 (by decide) (mm_o40 hy)).trans ((wp_40).trans (mm_ic (rfl) ((wp_5_0).trans ((wp_60 (by decide) (mm_o40 hy)).trans ((wp_3_1).trans ((wp_46).trans (mm_ic (mm_kb bq_272_3 ((wp_5_0).trans ((wp_1).trans ((wp_64k (mm_o40 hy) (by decide)).trans ((wp_1).trans (wp_90)))))) ((wp_0).trans (rfl)))))))))))))
theorem r_272_2 (vx0 : mm_V) (vx1 : mm_V) (vx2 : mm_V) {hi : mm_Id → Int → Int} {dh : Int → Int} {nx ns : Int} {Q : mm_V → mm_H → Prop} (hy : 5306 ≤ nx) :
    mm_Wp 272 (mm_blk 272 2) [vx0, vx1, vx2] [] (mm_z hi dh nx ns) Q =
    Q (zI (-3)) (mm_z hi dh nx ns) :=
  mm_kb bq_272_2 ((wp_1).trans (wp_90))
/-- PoolHouseModel.scrub(Z)I -/
theorem bq_273_0 : mm_blk 273 0 = bk_273_0 := by decide +kernel
theorem bq_273_1 : mm_blk 273 1 = bk_273_1 := by decide +kernel
theorem bq_273_2 : mm_blk 273 2 = bk_273_2 := by decide +kernel
theorem bq_273_3 : mm_blk 273 3 = bk_273_3 := by decide +kernel
theorem bq_273_4 : mm_blk 273 4 = bk_273_4 := by decide +kernel
theorem bq_273_5 : mm_blk 273 5 = bk_273_5 := by decide +kernel
theorem r_273_e (x1 : Int) {hi : mm_Id → Int → Int} {dh : Int → Int} {nx ns : Int} {Q : mm_V → mm_H → Prop} (hy : 5306 ≤ nx) :
    mm_Cl 273 [zR (40, 0, 0), zI x1] (mm_z hi dh nx ns) Q =
    (if ((mm_up hi (40, 0, 0) 0 0) (40, 0, 0) 36) = 0 then (if x1 = 0 then mm_Wp 273 (mm_blk 273 3) [zR (40, 0, 0), zI x1, zI ((mm_up hi (40, 0, 0) 0 0) (40, 0, 0) 35)] [zI 0, zR (40, 0, 0)] (mm_z (mm_up hi (40, 0, 0) 0 0) dh nx ns) Q else mm_Wp 273 (mm_blk 273 3) [zR (40, 0, 0), zI x1, zI ((mm_up hi (40, 0, 0) 0 0) (40, 0, 0) 35)] [zI ((mm_up hi (40, 0, 0) 0 0) (40, 0, 0) 35), zR (40, 0, 0)] (mm_z (mm_up hi (40, 0, 0) 0 0) dh nx ns) Q) else Q (zI (-3)) (mm_z (mm_up hi (40, 0, 0) 0 0) dh nx ns)) :=
  mm_ce (l2 := [zR (40, 0, 0), zI x1, zU]) rfl (mm_kb bq_273_0 ((wp_5_0).trans ((wp_1).trans ((wp_63 (mm_o40 hy)).trans ((wp_5_0).trans ((wp_60 (by decide) (mm_o40 hy)).trans ((wp_40).trans (mm_ic (mm_kb bq_273_1 ((wp_5_0).trans ((wp_60 (by decide) (mm_o40 hy)).trans ((wp_6 (l2 := [zR (40, 0, 0), zI x1, zI ((mm_up hi (40, 0, 0) 0 0) (40, 0, 0) 35)]) rfl).trans ((wp_5_0).trans ((wp_3_1).trans ((wp_40).trans (mm_ic (mm_kb bq_273_2 ((wp_1).trans ((wp_0).trans (rfl)))) ((wp_5_0).trans ((wp_60 (by decide) (mm_o40 hy)).trans ((wp_56).trans (rfl)))))))))))) ((wp_1).trans (wp_90))))))))))
theorem r_273_3 (x1 : Int) (x2 : Int) (y0 : Int) {hi : mm_Id → Int → Int} {dh : Int → Int} {nx ns : Int} {Q : mm_V → mm_H → Prop} (hy : 5306 ≤ nx) :
    mm_Wp 273 (mm_blk 273 3) [zR (40, 0, 0), zI x1, zI x2] [zI y0, zR (40, 0, 0)] (mm_z hi dh nx ns) Q =
    mm_Cl 208 [zR (40, 0, 0)] (mm_z (mm_up hi (40, 0, 0) 35 y0) dh nx ns) (fun r h3 => mm_Wp 273 (bk_273_3.drop 3) [zR (40, 0, 0), zI x1, zI x2] (mm_push r []) h3 Q) :=
  mm_kb bq_273_3 ((wp_63 (mm_o40 hy)).trans ((wp_5_0).trans ((wp_v1 mm_n_208 (mm_leq mm_m_208 (mm_lb rfl)) (mm_lb rfl) (mm_o40 hy)).trans rfl)))
theorem r_273_3_3 (vx0 : mm_V) (x1 : Int) (x2 : Int) {hi : mm_Id → Int → Int} {dh : Int → Int} {nx ns : Int} {Q : mm_V → mm_H → Prop} (hy : 5306 ≤ nx) :
    mm_Wp 273 (bk_273_3.drop 3) [vx0, zI x1, zI x2] [] (mm_z hi dh nx ns) Q =
    (if x1 = 0 then mm_Wp 273 (mm_blk 273 5) [vx0, zI x1, zI x2] [zI x2] (mm_z hi dh nx ns) Q else mm_Wp 273 (mm_blk 273 5) [vx0, zI x1, zI x2] [zI 0] (mm_z hi dh nx ns) Q) :=
  (wp_3_1).trans ((wp_40).trans (mm_ic (mm_kb bq_273_4 ((wp_3_2).trans ((wp_0).trans (rfl)))) ((wp_1).trans ((wp_56).trans (rfl)))))
theorem r_273_5 (vx0 : mm_V) (vx1 : mm_V) (vx2 : mm_V) (y0 : Int) {hi : mm_Id → Int → Int} {dh : Int → Int} {nx ns : Int} {Q : mm_V → mm_H → Prop} (hy : 5306 ≤ nx) :
    mm_Wp 273 (mm_blk 273 5) [vx0, vx1, vx2] [zI y0] (mm_z hi dh nx ns) Q =
    Q (zI y0) (mm_z hi dh nx ns) :=
  mm_kb bq_273_5 (wp_90)
/-- PoolHouseModel.disk(I)I -/
theorem bq_274_0 : mm_blk 274 0 = bk_274_0 := by decide +kernel
theorem bq_274_1 : mm_blk 274 1 = bk_274_1 := by decide +kernel
theorem bq_274_2 : mm_blk 274 2 = bk_274_2 := by decide +kernel
theorem bq_274_3 : mm_blk 274 3 = bk_274_3 := by decide +kernel
theorem bq_274_4 : mm_blk 274 4 = bk_274_4 := by decide +kernel
theorem r_274_e (x1 : Int) {hi : mm_Id → Int → Int} {dh : Int → Int} {nx ns : Int} {Q : mm_V → mm_H → Prop} (hy : 5306 ≤ nx) :
    mm_Cl 274 [zR (40, 0, 0), zI x1] (mm_z hi dh nx ns) Q =
    mm_Cl 268 [zR (40, 0, 0), zI x1] (mm_z (mm_up hi (40, 0, 0) 0 0) dh nx ns) (fun r h3 => mm_Wp 274 (bk_274_0.drop 6) [zR (40, 0, 0), zI x1] (mm_push r []) h3 Q) :=
  mm_ce (l2 := [zR (40, 0, 0), zI x1]) rfl (mm_kb bq_274_0 ((wp_5_0).trans ((wp_1).trans ((wp_63 (mm_o40 hy)).trans ((wp_5_0).trans ((wp_3_1).trans ((wp_v2 mm_n_268 (mm_leq mm_m_268 (mm_lb rfl)) (mm_lb rfl) (mm_o40 hy)).trans rfl)))))))
theorem r_274_0_6 (x1 : Int) (y0 : Int) {hi : mm_Id → Int → Int} {dh : Int → Int} {nx ns : Int} {Q : mm_V → mm_H → Prop} (hy : 5306 ≤ nx) :
    mm_Wp 274 (bk_274_0.drop 6) [zR (40, 0, 0), zI x1] [zI y0] (mm_z hi dh nx ns) Q =
    (if y0 = 0 then Q (zI (-1)) (mm_z hi dh nx ns) else (if (hi (40, 0, 0) 35) = x1 then (if (hi (40, 0, 0) 36) = 0 then mm_Wp 274 (mm_blk 274 4) [zR (40, 0, 0), zI x1] [zI 1] (mm_z hi dh nx ns) Q else mm_Wp 274 (mm_blk 274 4) [zR (40, 0, 0), zI x1] [zI 2] (mm_z hi dh nx ns) Q) else mm_Wp 274 (mm_blk 274 4) [zR (40, 0, 0), zI x1] [zI 0] (mm_z hi dh nx ns) Q)) :=
  (wp_41).trans (mm_ic ((wp_1).trans (wp_90)) (mm_kb bq_274_1 ((wp_5_0).trans ((wp_60 (by decide) (mm_o40 hy)).trans ((wp_3_1).trans ((wp_46).trans (mm_ic (mm_kb bq_274_2 ((wp_5_0).trans ((wp_60 (by decide) (mm_o40 hy)).trans ((wp_40).trans (mm_ic (mm_kb bq_274_3 ((wp_1).trans ((wp_0).trans (rfl)))) ((wp_1).trans ((wp_56).trans (rfl)))))))) ((wp_1).trans ((wp_56).trans (rfl))))))))))
theorem r_274_4 (vx0 : mm_V) (vx1 : mm_V) (y0 : Int) {hi : mm_Id → Int → Int} {dh : Int → Int} {nx ns : Int} {Q : mm_V → mm_H → Prop} (hy : 5306 ≤ nx) :
    mm_Wp 274 (mm_blk 274 4) [vx0, vx1] [zI y0] (mm_z hi dh nx ns) Q =
    Q (zI y0) (mm_z hi dh nx ns) :=
  mm_kb bq_274_4 (wp_90)
/-- PoolHouseModel.oddities()I -/
theorem bq_275_0 : mm_blk 275 0 = bk_275_0 := by decide +kernel
theorem r_275_e  {hi : mm_Id → Int → Int} {dh : Int → Int} {nx ns : Int} {Q : mm_V → mm_H → Prop} (hy : 5306 ≤ nx) :
    mm_Cl 275 [zR (40, 0, 0)] (mm_z hi dh nx ns) Q =
    Q (zI 0) (mm_z (mm_up hi (40, 0, 0) 0 0) dh nx ns) :=
  mm_ce (l2 := [zR (40, 0, 0)]) rfl (mm_kb bq_275_0 ((wp_5_0).trans ((wp_1).trans ((wp_63 (mm_o40 hy)).trans ((wp_1).trans (wp_90))))))
/-- PoolHouseModel.feed(IIIII)I -/
theorem bq_276_0 : mm_blk 276 0 = bk_276_0 := by decide +kernel
theorem bq_276_1 : mm_blk 276 1 = bk_276_1 := by decide +kernel
theorem bq_276_2 : mm_blk 276 2 = bk_276_2 := by decide +kernel
theorem bq_276_3 : mm_blk 276 3 = bk_276_3 := by decide +kernel
theorem bq_276_4 : mm_blk 276 4 = bk_276_4 := by decide +kernel
theorem bq_276_5 : mm_blk 276 5 = bk_276_5 := by decide +kernel
theorem bq_276_6 : mm_blk 276 6 = bk_276_6 := by decide +kernel
theorem bq_276_7 : mm_blk 276 7 = bk_276_7 := by decide +kernel
theorem bq_276_8 : mm_blk 276 8 = bk_276_8 := by decide +kernel
theorem bq_276_9 : mm_blk 276 9 = bk_276_9 := by decide +kernel
theorem bq_276_10 : mm_blk 276 10 = bk_276_10 := by decide +kernel
theorem r_276_e (x1 : Int) (x2 : Int) (x3 : Int) (x4 : Int) (x5 : Int) {hi : mm_Id → Int → Int} {dh : Int → Int} {nx ns : Int} {Q : mm_V → mm_H → Prop} (hy : 5306 ≤ nx) :
    mm_Cl 276 [zR (40, 0, 0), zI x1, zI x2, zI x3, zI x4, zI x5] (mm_z hi dh nx ns) Q =
    (if 8000 < (mm_w (((mm_up hi (40, 0, 0) 0 0) (40, 0, 0) 37) + 20)) then Q (zI (-4)) (mm_z (mm_up hi (40, 0, 0) 0 0) dh nx ns) else mm_Wp 276 (mm_blk 276 2) [zR (40, 0, 0), zI x1, zI x2, zI x3, zI x4, zI x5, zI 0, zU, zU] [] (mm_z (mm_up hi (40, 0, 0) 0 0) dh nx ns) Q) :=
  mm_ce (l2 := [zR (40, 0, 0), zI x1, zI x2, zI x3, zI x4, zI x5, zU, zU, zU]) rfl (mm_kb bq_276_0 ((wp_5_0).trans ((wp_1).trans ((wp_63 (mm_o40 hy)).trans ((wp_5_0).trans ((wp_60 (by decide) (mm_o40 hy)).trans ((wp_1).trans ((wp_10).trans ((wp_1).trans ((wp_51).trans (mm_ic ((wp_1).trans (wp_90)) (mm_kb bq_276_1 ((wp_1).trans ((wp_6 (l2 := [zR (40, 0, 0), zI x1, zI x2, zI x3, zI x4, zI x5, zI 0, zU, zU]) rfl).trans ((wp_0).trans (rfl))))))))))))))))
theorem r_276_2 (x1 : Int) (x2 : Int) (x3 : Int) (x4 : Int) (x5 : Int) (x6 : Int) (vx7 : mm_V) (vx8 : mm_V) {hi : mm_Id → Int → Int} {dh : Int → Int} {nx ns : Int} {Q : mm_V → mm_H → Prop} (hy : 5306 ≤ nx) :
    mm_Wp 276 (mm_blk 276 2) [zR (40, 0, 0), zI x1, zI x2, zI x3, zI x4, zI x5, zI x6, vx7, vx8] [] (mm_z hi dh nx ns) Q =
    (if x6 < 5 then (if x6 = 0 then mm_Wp 276 (mm_blk 276 7) [zR (40, 0, 0), zI x1, zI x2, zI x3, zI x4, zI x5, zI x6, vx7, vx8] [zI x1] (mm_z hi dh nx ns) Q else (if x6 = 1 then mm_Wp 276 (mm_blk 276 7) [zR (40, 0, 0), zI x1, zI x2, zI x3, zI x4, zI x5, zI x6, vx7, vx8] [zI x2] (mm_z hi dh nx ns) Q else (if x6 = 2 then mm_Wp 276 (mm_blk 276 7) [zR (40, 0, 0), zI x1, zI x2, zI x3, zI x4, zI x5, zI x6, vx7, vx8] [zI x3] (mm_z hi dh nx ns) Q else (if x6 = 3 then mm_Wp 276 (mm_blk 276 7) [zR (40, 0, 0), zI x1, zI x2, zI x3, zI x4, zI x5, zI x6, vx7, vx8] [zI x4] (mm_z hi dh nx ns) Q else mm_Wp 276 (mm_blk 276 7) [zR (40, 0, 0), zI x1, zI x2, zI x3, zI x4, zI x5, zI x6, vx7, vx8] [zI x5] (mm_z hi dh nx ns) Q)))) else Q (zI (hi (40, 0, 0) 37)) (mm_z hi dh nx ns)) :=
  mm_kb bq_276_2 ((wp_3_6).trans ((wp_1).trans ((wp_49).trans (mm_ic ((wp_3_6).trans ((wp_41).trans (mm_ic ((wp_3_1).trans ((wp_56).trans (rfl))) (mm_kb bq_276_3 ((wp_3_6).trans ((wp_1).trans ((wp_47).trans (mm_ic ((wp_3_2).trans ((wp_56).trans (rfl))) (mm_kb bq_276_4 ((wp_3_6).trans ((wp_1).trans ((wp_47).trans (mm_ic ((wp_3_3).trans ((wp_56).trans (rfl))) (mm_kb bq_276_5 ((wp_3_6).trans ((wp_1).trans ((wp_47).trans (mm_ic ((wp_3_4).trans ((wp_56).trans (rfl))) (mm_kb bq_276_6 ((wp_3_5).trans ((wp_0).trans (rfl)))))))))))))))))))))) (mm_kb bq_276_10 ((wp_5_0).trans ((wp_60 (by decide) (mm_o40 hy)).trans (wp_90))))))))
theorem r_276_7 (x1 : Int) (x2 : Int) (x3 : Int) (x4 : Int) (x5 : Int) (x6 : Int) (vx7 : mm_V) (vx8 : mm_V) (y0 : Int) {hi : mm_Id → Int → Int} {dh : Int → Int} {nx ns : Int} {Q : mm_V → mm_H → Prop} (hy : 5306 ≤ nx) :
    mm_Wp 276 (mm_blk 276 7) [zR (40, 0, 0), zI x1, zI x2, zI x3, zI x4, zI x5, zI x6, vx7, vx8] [zI y0] (mm_z hi dh nx ns) Q =
    mm_Wp 276 (mm_blk 276 8) [zR (40, 0, 0), zI x1, zI x2, zI x3, zI x4, zI x5, zI x6, zI y0, zI 24] [] (mm_z hi dh nx ns) Q :=
  mm_kb bq_276_7 ((wp_6 (l2 := [zR (40, 0, 0), zI x1, zI x2, zI x3, zI x4, zI x5, zI x6, zI y0, vx8]) rfl).trans ((wp_1).trans ((wp_6 (l2 := [zR (40, 0, 0), zI x1, zI x2, zI x3, zI x4, zI x5, zI x6, zI y0, zI 24]) rfl).trans ((wp_0).trans (rfl)))))
theorem r_276_8 (x1 : Int) (x2 : Int) (x3 : Int) (x4 : Int) (x5 : Int) (x6 : Int) (x7 : Int) (x8 : Int) {hi : mm_Id → Int → Int} {dh : Int → Int} {nx ns : Int} {Q : mm_V → mm_H → Prop} (hy : 5306 ≤ nx) :
    mm_Wp 276 (mm_blk 276 8) [zR (40, 0, 0), zI x1, zI x2, zI x3, zI x4, zI x5, zI x6, zI x7, zI x8] [] (mm_z hi dh nx ns) Q =
    (if x8 < 0 then mm_Wp 276 (mm_blk 276 2) [zR (40, 0, 0), zI x1, zI x2, zI x3, zI x4, zI x5, zI (mm_w (x6 + 1)), zI x7, zI x8] [] (mm_z hi dh nx ns) Q else ((0 ≤ (hi (40, 0, 0) 37) ∧ (hi (40, 0, 0) 37) < 8000) ∧ mm_Wp 276 (mm_blk 276 8) [zR (40, 0, 0), zI x1, zI x2, zI x3, zI x4, zI x5, zI x6, zI x7, zI (mm_w (x8 + (-8)))] [] (mm_z (mm_up (mm_up hi (67, 0, 0) (hi (40, 0, 0) 37) (mm_b (mm_b (mm_shr x7 x8)))) (40, 0, 0) 37 (mm_w (((mm_up hi (67, 0, 0) (hi (40, 0, 0) 37) (mm_b (mm_b (mm_shr x7 x8)))) (40, 0, 0) 37) + 1))) dh nx ns) Q)) :=
  mm_kb bq_276_8 ((wp_3_8).trans ((wp_42).trans (mm_ic (mm_kb bq_276_9 ((wp_9 (l2 := [zR (40, 0, 0), zI x1, zI x2, zI x3, zI x4, zI x5, zI (mm_w (x6 + 1)), zI x7, zI x8]) rfl rfl).trans ((wp_56).trans (rfl)))) ((wp_5_0).trans ((wp_62 (by decide) (mm_o40 hy) (mm_r40_38 hy)).trans ((wp_5_0).trans ((wp_60 (by decide) (mm_o40 hy)).trans ((wp_3_7).trans ((wp_3_8).trans ((wp_17).trans ((wp_33).trans ((wp_75 (mm_q67 hy)).trans (mm_ae ((wp_5_0).trans ((wp_35r).trans ((wp_60 (by decide) (mm_o40 hy)).trans ((wp_1).trans ((wp_10).trans ((wp_63 (mm_o40 hy)).trans ((wp_9 (l2 := [zR (40, 0, 0), zI x1, zI x2, zI x3, zI x4, zI x5, zI x6, zI x7, zI (mm_w (x8 + (-8)))]) rfl rfl).trans ((wp_56).trans (rfl))))))))))))))))))))))
/-- PoolHouseModel.end(I)I -/
theorem bq_277_0 : mm_blk 277 0 = bk_277_0 := by decide +kernel
theorem bq_277_1 : mm_blk 277 1 = bk_277_1 := by decide +kernel
theorem r_277_e (x1 : Int) {hi : mm_Id → Int → Int} {dh : Int → Int} {nx ns : Int} {Q : mm_V → mm_H → Prop} (hy : 5306 ≤ nx) :
    mm_Cl 277 [zR (40, 0, 0), zI x1] (mm_z hi dh nx ns) Q =
    mm_Cl 174 [zL x1, zL 0, zL ((mm_up hi (40, 0, 0) 0 0) (40, 0, 0) 37)] (mm_z (mm_up hi (40, 0, 0) 0 0) dh nx ns) (fun r h3 => mm_Wp 277 (bk_277_0.drop 10) [zR (40, 0, 0), zI x1, zU] (mm_push r []) h3 Q) :=
  mm_ce (l2 := [zR (40, 0, 0), zI x1, zU]) rfl (mm_kb bq_277_0 ((wp_5_0).trans ((wp_1).trans ((wp_63 (mm_o40 hy)).trans ((wp_3_1).trans ((wp_31).trans ((wp_2).trans ((wp_5_0).trans ((wp_60 (by decide) (mm_o40 hy)).trans ((wp_31).trans ((wp_s3 mm_n_174 (mm_leq mm_m_174 (mm_lb rfl)) (mm_lb rfl)).trans rfl)))))))))))
theorem r_277_0_10 (x1 : Int) (vx2 : mm_V) (y0 : Int) {hi : mm_Id → Int → Int} {dh : Int → Int} {nx ns : Int} {Q : mm_V → mm_H → Prop} (hy : 5306 ≤ nx) :
    mm_Wp 277 (bk_277_0.drop 10) [zR (40, 0, 0), zI x1, vx2] [zI y0] (mm_z hi dh nx ns) Q =
    (if y0 = 0 then Q (zI (-2)) (mm_z hi dh nx ns) else Q (zI (hi (40, 0, 0) 37)) (mm_z (mm_up hi (40, 0, 0) 37 x1) dh nx ns)) :=
  (wp_41).trans (mm_ic ((wp_1).trans (wp_90)) (mm_kb bq_277_1 ((wp_5_0).trans ((wp_60 (by decide) (mm_o40 hy)).trans ((wp_6 (l2 := [zR (40, 0, 0), zI x1, zI (hi (40, 0, 0) 37)]) rfl).trans ((wp_5_0).trans ((wp_3_1).trans ((wp_63 (mm_o40 hy)).trans ((wp_3_2).trans (wp_90))))))))))
/-- PoolHouseModel.letters(II)J -/
theorem bq_278_0 : mm_blk 278 0 = bk_278_0 := by decide +kernel
theorem bq_278_1 : mm_blk 278 1 = bk_278_1 := by decide +kernel
theorem bq_278_2 : mm_blk 278 2 = bk_278_2 := by decide +kernel
theorem r_278_e (x1 : Int) (x2 : Int) {hi : mm_Id → Int → Int} {dh : Int → Int} {nx ns : Int} {Q : mm_V → mm_H → Prop} (hy : 5306 ≤ nx) :
    mm_Cl 278 [zR (40, 0, 0), zI x1, zI x2] (mm_z hi dh nx ns) Q =
    mm_Wp 278 (mm_blk 278 1) [zR (40, 0, 0), zI x1, zI x2, zL 0, zU, zI (mm_w (x2 - 1))] [] (mm_z hi dh nx ns) Q :=
  mm_ce (l2 := [zR (40, 0, 0), zI x1, zI x2, zU, zU, zU]) rfl (mm_kb bq_278_0 ((wp_2).trans ((wp_7 (l2 := [zR (40, 0, 0), zI x1, zI x2, zL 0, zU, zU]) rfl).trans ((wp_3_2).trans ((wp_1).trans ((wp_11).trans ((wp_6 (l2 := [zR (40, 0, 0), zI x1, zI x2, zL 0, zU, zI (mm_w (x2 - 1))]) rfl).trans ((wp_0).trans (rfl)))))))))
theorem r_278_1 (x1 : Int) (vx2 : mm_V) (x3 : Int) (x5 : Int) {hi : mm_Id → Int → Int} {dh : Int → Int} {nx ns : Int} {Q : mm_V → mm_H → Prop} (hvx2 : mm_wt vx2 = 1) (hy : 5306 ≤ nx) :
    mm_Wp 278 (mm_blk 278 1) [zR (40, 0, 0), zI x1, vx2, zL x3, zU, zI x5] [] (mm_z hi dh nx ns) Q =
    (if x5 < x1 then Q (zL x3) (mm_z hi dh nx ns) else ((0 ≤ x5 ∧ x5 < 8000) ∧ mm_Wp 278 (mm_blk 278 1) [zR (40, 0, 0), zI x1, vx2, zL (mm_lor (mm_lshl x3 8) (mm_and (hi (67, 0, 0) x5) 255)), zU, zI (mm_w (x5 + (-1)))] [] (mm_z hi dh nx ns) Q)) :=
  mm_kb bq_278_1 ((wp_3_5).trans ((wp_3_1).trans ((wp_48).trans (mm_ic (mm_kb bq_278_2 ((wp_4_3).trans (wp_91))) ((wp_4_3).trans ((wp_1).trans ((wp_28).trans ((wp_5_0).trans ((wp_62 (by decide) (mm_o40 hy) (mm_r40_38 hy)).trans ((wp_3_5).trans ((wp_71 (mm_q67 hy)).trans (mm_ae ((wp_1).trans ((wp_16).trans ((wp_31).trans ((wp_27).trans ((wp_7 (l2 := [zR (40, 0, 0), zI x1, vx2, zL (mm_lor (mm_lshl x3 8) (mm_and (hi (67, 0, 0) x5) 255)), zU, zI x5]) ((if_pos (mm_lb rfl)).trans (congrArg (fun z => some (List.set z 4 zU)) (mm_stw rfl hvx2)))).trans ((wp_9 (l2 := [zR (40, 0, 0), zI x1, vx2, zL (mm_lor (mm_lshl x3 8) (mm_and (hi (67, 0, 0) x5) 255)), zU, zI (mm_w (x5 + (-1)))]) rfl rfl).trans ((wp_56).trans (rfl))))))))))))))))))))
/-- PoolHouseModel.callOf0(JJ)I -/
theorem bq_279_0 : mm_blk 279 0 = bk_279_0 := by decide +kernel
theorem bq_279_1 : mm_blk 279 1 = bk_279_1 := by decide +kernel
theorem bq_279_2 : mm_blk 279 2 = bk_279_2 := by decide +kernel
theorem bq_279_3 : mm_blk 279 3 = bk_279_3 := by decide +kernel
theorem bq_279_4 : mm_blk 279 4 = bk_279_4 := by decide +kernel
theorem bq_279_5 : mm_blk 279 5 = bk_279_5 := by decide +kernel
theorem bq_279_6 : mm_blk 279 6 = bk_279_6 := by decide +kernel
theorem bq_279_7 : mm_blk 279 7 = bk_279_7 := by decide +kernel
theorem bq_279_8 : mm_blk 279 8 = bk_279_8 := by decide +kernel
theorem bq_279_9 : mm_blk 279 9 = bk_279_9 := by decide +kernel
theorem bq_279_10 : mm_blk 279 10 = bk_279_10 := by decide +kernel
theorem bq_279_11 : mm_blk 279 11 = bk_279_11 := by decide +kernel
theorem bq_279_12 : mm_blk 279 12 = bk_279_12 := by decide +kernel
theorem bq_279_13 : mm_blk 279 13 = bk_279_13 := by decide +kernel
theorem bq_279_14 : mm_blk 279 14 = bk_279_14 := by decide +kernel
theorem bq_279_15 : mm_blk 279 15 = bk_279_15 := by decide +kernel
theorem bq_279_16 : mm_blk 279 16 = bk_279_16 := by decide +kernel
theorem r_279_e (x0 : Int) (x1 : Int) {hi : mm_Id → Int → Int} {dh : Int → Int} {nx ns : Int} {Q : mm_V → mm_H → Prop} (hy : 5306 ≤ nx) :
    mm_Cl 279 [zL x0, zL x1] (mm_z hi dh nx ns) Q =
    (if (mm_cmp x0 1701536109) = 0 then (if (mm_cmp x1 0) = 0 then Q (zI 0) (mm_z hi dh nx ns) else mm_Wp 279 (mm_blk 279 1) [zL x0, zU, zL x1, zU] [] (mm_z hi dh nx ns) Q) else mm_Wp 279 (mm_blk 279 1) [zL x0, zU, zL x1, zU] [] (mm_z hi dh nx ns) Q) :=
  mm_ce (l2 := [zL x0, zU, zL x1, zU]) rfl (mm_kb bq_279_0 ((wp_4_0).trans ((wp_2).trans ((wp_34).trans ((wp_41).trans (mm_ic ((wp_4_2).trans ((wp_2).trans ((wp_34).trans ((wp_41).trans (mm_ic ((wp_1).trans (wp_90)) (rfl)))))) (rfl)))))))
theorem r_279_1 (x0 : Int) (x2 : Int) {hi : mm_Id → Int → Int} {dh : Int → Int} {nx ns : Int} {Q : mm_V → mm_H → Prop} (hy : 5306 ≤ nx) :
    mm_Wp 279 (mm_blk 279 1) [zL x0, zU, zL x2, zU] [] (mm_z hi dh nx ns) Q =
    (if (mm_cmp x0 1885697139) = 0 then (if (mm_cmp x2 0) = 0 then Q (zI 1) (mm_z hi dh nx ns) else mm_Wp 279 (mm_blk 279 2) [zL x0, zU, zL x2, zU] [] (mm_z hi dh nx ns) Q) else mm_Wp 279 (mm_blk 279 2) [zL x0, zU, zL x2, zU] [] (mm_z hi dh nx ns) Q) :=
  mm_kb bq_279_1 ((wp_4_0).trans ((wp_2).trans ((wp_34).trans ((wp_41).trans (mm_ic ((wp_4_2).trans ((wp_2).trans ((wp_34).trans ((wp_41).trans (mm_ic ((wp_1).trans (wp_90)) (rfl)))))) (rfl))))))
theorem r_279_2 (x0 : Int) (x2 : Int) {hi : mm_Id → Int → Int} {dh : Int → Int} {nx ns : Int} {Q : mm_V → mm_H → Prop} (hy : 5306 ≤ nx) :
    mm_Wp 279 (mm_blk 279 2) [zL x0, zU, zL x2, zU] [] (mm_z hi dh nx ns) Q =
    (if (mm_cmp x0 7741240586336428397) = 0 then (if (mm_cmp x2 0) = 0 then Q (zI 2) (mm_z hi dh nx ns) else mm_Wp 279 (mm_blk 279 3) [zL x0, zU, zL x2, zU] [] (mm_z hi dh nx ns) Q) else mm_Wp 279 (mm_blk 279 3) [zL x0, zU, zL x2, zU] [] (mm_z hi dh nx ns) Q) :=
  mm_kb bq_279_2 ((wp_4_0).trans ((wp_2).trans ((wp_34).trans ((wp_41).trans (mm_ic ((wp_4_2).trans ((wp_2).trans ((wp_34).trans ((wp_41).trans (mm_ic ((wp_1).trans (wp_90)) (rfl)))))) (rfl))))))
theorem r_279_3 (x0 : Int) (x2 : Int) {hi : mm_Id → Int → Int} {dh : Int → Int} {nx ns : Int} {Q : mm_V → mm_H → Prop} (hy : 5306 ≤ nx) :
    mm_Wp 279 (mm_blk 279 3) [zL x0, zU, zL x2, zU] [] (mm_z hi dh nx ns) Q =
    (if (mm_cmp x0 1802264951) = 0 then (if (mm_cmp x2 0) = 0 then Q (zI 3) (mm_z hi dh nx ns) else mm_Wp 279 (mm_blk 279 4) [zL x0, zU, zL x2, zU] [] (mm_z hi dh nx ns) Q) else mm_Wp 279 (mm_blk 279 4) [zL x0, zU, zL x2, zU] [] (mm_z hi dh nx ns) Q) :=
  mm_kb bq_279_3 ((wp_4_0).trans ((wp_2).trans ((wp_34).trans ((wp_41).trans (mm_ic ((wp_4_2).trans ((wp_2).trans ((wp_34).trans ((wp_41).trans (mm_ic ((wp_1).trans (wp_90)) (rfl)))))) (rfl))))))
theorem r_279_4 (x0 : Int) (x2 : Int) {hi : mm_Id → Int → Int} {dh : Int → Int} {nx ns : Int} {Q : mm_V → mm_H → Prop} (hy : 5306 ≤ nx) :
    mm_Wp 279 (mm_blk 279 4) [zL x0, zU, zL x2, zU] [] (mm_z hi dh nx ns) Q =
    (if (mm_cmp x0 110386756872556) = 0 then (if (mm_cmp x2 0) = 0 then Q (zI 4) (mm_z hi dh nx ns) else mm_Wp 279 (mm_blk 279 5) [zL x0, zU, zL x2, zU] [] (mm_z hi dh nx ns) Q) else mm_Wp 279 (mm_blk 279 5) [zL x0, zU, zL x2, zU] [] (mm_z hi dh nx ns) Q) :=
  mm_kb bq_279_4 ((wp_4_0).trans ((wp_2).trans ((wp_34).trans ((wp_41).trans (mm_ic ((wp_4_2).trans ((wp_2).trans ((wp_34).trans ((wp_41).trans (mm_ic ((wp_1).trans (wp_90)) (rfl)))))) (rfl))))))
theorem r_279_5 (x0 : Int) (x2 : Int) {hi : mm_Id → Int → Int} {dh : Int → Int} {nx ns : Int} {Q : mm_V → mm_H → Prop} (hy : 5306 ≤ nx) :
    mm_Wp 279 (mm_blk 279 5) [zL x0, zU, zL x2, zU] [] (mm_z hi dh nx ns) Q =
    (if (mm_cmp x0 1684957542) = 0 then (if (mm_cmp x2 0) = 0 then Q (zI 5) (mm_z hi dh nx ns) else mm_Wp 279 (mm_blk 279 6) [zL x0, zU, zL x2, zU] [] (mm_z hi dh nx ns) Q) else mm_Wp 279 (mm_blk 279 6) [zL x0, zU, zL x2, zU] [] (mm_z hi dh nx ns) Q) :=
  mm_kb bq_279_5 ((wp_4_0).trans ((wp_2).trans ((wp_34).trans ((wp_41).trans (mm_ic ((wp_4_2).trans ((wp_2).trans ((wp_34).trans ((wp_41).trans (mm_ic ((wp_1).trans (wp_90)) (rfl)))))) (rfl))))))
theorem r_279_6 (x0 : Int) (x2 : Int) {hi : mm_Id → Int → Int} {dh : Int → Int} {nx ns : Int} {Q : mm_V → mm_H → Prop} (hy : 5306 ≤ nx) :
    mm_Wp 279 (mm_blk 279 6) [zL x0, zU, zL x2, zU] [] (mm_z hi dh nx ns) Q =
    (if (mm_cmp x0 435744764535) = 0 then (if (mm_cmp x2 0) = 0 then Q (zI 6) (mm_z hi dh nx ns) else mm_Wp 279 (mm_blk 279 7) [zL x0, zU, zL x2, zU] [] (mm_z hi dh nx ns) Q) else mm_Wp 279 (mm_blk 279 7) [zL x0, zU, zL x2, zU] [] (mm_z hi dh nx ns) Q) :=
  mm_kb bq_279_6 ((wp_4_0).trans ((wp_2).trans ((wp_34).trans ((wp_41).trans (mm_ic ((wp_4_2).trans ((wp_2).trans ((wp_34).trans ((wp_41).trans (mm_ic ((wp_1).trans (wp_90)) (rfl)))))) (rfl))))))
theorem r_279_7 (x0 : Int) (x2 : Int) {hi : mm_Id → Int → Int} {dh : Int → Int} {nx ns : Int} {Q : mm_V → mm_H → Prop} (hy : 5306 ≤ nx) :
    mm_Wp 279 (mm_blk 279 7) [zL x0, zU, zL x2, zU] [] (mm_z hi dh nx ns) Q =
    (if (mm_cmp x0 1684104562) = 0 then (if (mm_cmp x2 0) = 0 then Q (zI 7) (mm_z hi dh nx ns) else mm_Wp 279 (mm_blk 279 8) [zL x0, zU, zL x2, zU] [] (mm_z hi dh nx ns) Q) else mm_Wp 279 (mm_blk 279 8) [zL x0, zU, zL x2, zU] [] (mm_z hi dh nx ns) Q) :=
  mm_kb bq_279_7 ((wp_4_0).trans ((wp_2).trans ((wp_34).trans ((wp_41).trans (mm_ic ((wp_4_2).trans ((wp_2).trans ((wp_34).trans ((wp_41).trans (mm_ic ((wp_1).trans (wp_90)) (rfl)))))) (rfl))))))
theorem r_279_8 (x0 : Int) (x2 : Int) {hi : mm_Id → Int → Int} {dh : Int → Int} {nx ns : Int} {Q : mm_V → mm_H → Prop} (hy : 5306 ≤ nx) :
    mm_Wp 279 (mm_blk 279 8) [zL x0, zU, zL x2, zU] [] (mm_z hi dh nx ns) Q =
    (if (mm_cmp x0 7632227) = 0 then (if (mm_cmp x2 0) = 0 then Q (zI 8) (mm_z hi dh nx ns) else mm_Wp 279 (mm_blk 279 9) [zL x0, zU, zL x2, zU] [] (mm_z hi dh nx ns) Q) else mm_Wp 279 (mm_blk 279 9) [zL x0, zU, zL x2, zU] [] (mm_z hi dh nx ns) Q) :=
  mm_kb bq_279_8 ((wp_4_0).trans ((wp_2).trans ((wp_34).trans ((wp_41).trans (mm_ic ((wp_4_2).trans ((wp_2).trans ((wp_34).trans ((wp_41).trans (mm_ic ((wp_1).trans (wp_90)) (rfl)))))) (rfl))))))
theorem r_279_9 (x0 : Int) (x2 : Int) {hi : mm_Id → Int → Int} {dh : Int → Int} {nx ns : Int} {Q : mm_V → mm_H → Prop} (hy : 5306 ≤ nx) :
    mm_Wp 279 (mm_blk 279 9) [zL x0, zU, zL x2, zU] [] (mm_z hi dh nx ns) Q =
    (if (mm_cmp x0 1802398060) = 0 then (if (mm_cmp x2 0) = 0 then Q (zI 9) (mm_z hi dh nx ns) else mm_Wp 279 (mm_blk 279 10) [zL x0, zU, zL x2, zU] [] (mm_z hi dh nx ns) Q) else mm_Wp 279 (mm_blk 279 10) [zL x0, zU, zL x2, zU] [] (mm_z hi dh nx ns) Q) :=
  mm_kb bq_279_9 ((wp_4_0).trans ((wp_2).trans ((wp_34).trans ((wp_41).trans (mm_ic ((wp_4_2).trans ((wp_2).trans ((wp_34).trans ((wp_41).trans (mm_ic ((wp_1).trans (wp_90)) (rfl)))))) (rfl))))))
theorem r_279_10 (x0 : Int) (x2 : Int) {hi : mm_Id → Int → Int} {dh : Int → Int} {nx ns : Int} {Q : mm_V → mm_H → Prop} (hy : 5306 ≤ nx) :
    mm_Wp 279 (mm_blk 279 10) [zL x0, zU, zL x2, zU] [] (mm_z hi dh nx ns) Q =
    (if (mm_cmp x0 118121959288437) = 0 then (if (mm_cmp x2 0) = 0 then Q (zI 10) (mm_z hi dh nx ns) else mm_Wp 279 (mm_blk 279 11) [zL x0, zU, zL x2, zU] [] (mm_z hi dh nx ns) Q) else mm_Wp 279 (mm_blk 279 11) [zL x0, zU, zL x2, zU] [] (mm_z hi dh nx ns) Q) :=
  mm_kb bq_279_10 ((wp_4_0).trans ((wp_2).trans ((wp_34).trans ((wp_41).trans (mm_ic ((wp_4_2).trans ((wp_2).trans ((wp_34).trans ((wp_41).trans (mm_ic ((wp_1).trans (wp_90)) (rfl)))))) (rfl))))))
theorem r_279_11 (x0 : Int) (x2 : Int) {hi : mm_Id → Int → Int} {dh : Int → Int} {nx ns : Int} {Q : mm_V → mm_H → Prop} (hy : 5306 ≤ nx) :
    mm_Wp 279 (mm_blk 279 11) [zL x0, zU, zL x2, zU] [] (mm_z hi dh nx ns) Q =
    (if (mm_cmp x0 111520460465522) = 0 then (if (mm_cmp x2 0) = 0 then Q (zI 11) (mm_z hi dh nx ns) else mm_Wp 279 (mm_blk 279 12) [zL x0, zU, zL x2, zU] [] (mm_z hi dh nx ns) Q) else mm_Wp 279 (mm_blk 279 12) [zL x0, zU, zL x2, zU] [] (mm_z hi dh nx ns) Q) :=
  mm_kb bq_279_11 ((wp_4_0).trans ((wp_2).trans ((wp_34).trans ((wp_41).trans (mm_ic ((wp_4_2).trans ((wp_2).trans ((wp_34).trans ((wp_41).trans (mm_ic ((wp_1).trans (wp_90)) (rfl)))))) (rfl))))))
theorem r_279_12 (x0 : Int) (x2 : Int) {hi : mm_Id → Int → Int} {dh : Int → Int} {nx ns : Int} {Q : mm_V → mm_H → Prop} (hy : 5306 ≤ nx) :
    mm_Wp 279 (mm_blk 279 12) [zL x0, zU, zL x2, zU] [] (mm_z hi dh nx ns) Q =
    (if (mm_cmp x0 500186440289) = 0 then (if (mm_cmp x2 0) = 0 then Q (zI 12) (mm_z hi dh nx ns) else mm_Wp 279 (mm_blk 279 13) [zL x0, zU, zL x2, zU] [] (mm_z hi dh nx ns) Q) else mm_Wp 279 (mm_blk 279 13) [zL x0, zU, zL x2, zU] [] (mm_z hi dh nx ns) Q) :=
  mm_kb bq_279_12 ((wp_4_0).trans ((wp_2).trans ((wp_34).trans ((wp_41).trans (mm_ic ((wp_4_2).trans ((wp_2).trans ((wp_34).trans ((wp_41).trans (mm_ic ((wp_1).trans (wp_90)) (rfl)))))) (rfl))))))
theorem r_279_13 (x0 : Int) (x2 : Int) {hi : mm_Id → Int → Int} {dh : Int → Int} {nx ns : Int} {Q : mm_V → mm_H → Prop} (hy : 5306 ≤ nx) :
    mm_Wp 279 (mm_blk 279 13) [zL x0, zU, zL x2, zU] [] (mm_z hi dh nx ns) Q =
    (if (mm_cmp x0 521611275877) = 0 then (if (mm_cmp x2 0) = 0 then Q (zI 13) (mm_z hi dh nx ns) else mm_Wp 279 (mm_blk 279 14) [zL x0, zU, zL x2, zU] [] (mm_z hi dh nx ns) Q) else mm_Wp 279 (mm_blk 279 14) [zL x0, zU, zL x2, zU] [] (mm_z hi dh nx ns) Q) :=
  mm_kb bq_279_13 ((wp_4_0).trans ((wp_2).trans ((wp_34).trans ((wp_41).trans (mm_ic ((wp_4_2).trans ((wp_2).trans ((wp_34).trans ((wp_41).trans (mm_ic ((wp_1).trans (wp_90)) (rfl)))))) (rfl))))))
theorem r_279_14 (x0 : Int) (x2 : Int) {hi : mm_Id → Int → Int} {dh : Int → Int} {nx ns : Int} {Q : mm_V → mm_H → Prop} (hy : 5306 ≤ nx) :
    mm_Wp 279 (mm_blk 279 14) [zL x0, zU, zL x2, zU] [] (mm_z hi dh nx ns) Q =
    (if (mm_cmp x0 7239535) = 0 then (if (mm_cmp x2 0) = 0 then Q (zI 14) (mm_z hi dh nx ns) else mm_Wp 279 (mm_blk 279 15) [zL x0, zU, zL x2, zU] [] (mm_z hi dh nx ns) Q) else mm_Wp 279 (mm_blk 279 15) [zL x0, zU, zL x2, zU] [] (mm_z hi dh nx ns) Q) :=
  mm_kb bq_279_14 ((wp_4_0).trans ((wp_2).trans ((wp_34).trans ((wp_41).trans (mm_ic ((wp_4_2).trans ((wp_2).trans ((wp_34).trans ((wp_41).trans (mm_ic ((wp_1).trans (wp_90)) (rfl)))))) (rfl))))))
theorem r_279_15 (x0 : Int) (x2 : Int) {hi : mm_Id → Int → Int} {dh : Int → Int} {nx ns : Int} {Q : mm_V → mm_H → Prop} (hy : 5306 ≤ nx) :
    mm_Wp 279 (mm_blk 279 15) [zL x0, zU, zL x2, zU] [] (mm_z hi dh nx ns) Q =
    (if (mm_cmp x0 126943805008242) = 0 then (if (mm_cmp x2 0) = 0 then Q (zI 15) (mm_z hi dh nx ns) else mm_Wp 279 (mm_blk 279 16) [zL x0, zU, zL x2, zU] [] (mm_z hi dh nx ns) Q) else mm_Wp 279 (mm_blk 279 16) [zL x0, zU, zL x2, zU] [] (mm_z hi dh nx ns) Q) :=
  mm_kb bq_279_15 ((wp_4_0).trans ((wp_2).trans ((wp_34).trans ((wp_41).trans (mm_ic ((wp_4_2).trans ((wp_2).trans ((wp_34).trans ((wp_41).trans (mm_ic ((wp_1).trans (wp_90)) (rfl)))))) (rfl))))))
theorem r_279_16 (x0 : Int) (x2 : Int) {hi : mm_Id → Int → Int} {dh : Int → Int} {nx ns : Int} {Q : mm_V → mm_H → Prop} (hy : 5306 ≤ nx) :
    mm_Wp 279 (mm_blk 279 16) [zL x0, zU, zL x2, zU] [] (mm_z hi dh nx ns) Q =
    Q (zI (-1)) (mm_z hi dh nx ns) :=
  mm_kb bq_279_16 ((wp_1).trans (wp_90))
/-- PoolHouseModel.callOf1(JJ)I -/
theorem bq_280_0 : mm_blk 280 0 = bk_280_0 := by decide +kernel
theorem bq_280_1 : mm_blk 280 1 = bk_280_1 := by decide +kernel
theorem bq_280_2 : mm_blk 280 2 = bk_280_2 := by decide +kernel
theorem bq_280_3 : mm_blk 280 3 = bk_280_3 := by decide +kernel
theorem bq_280_4 : mm_blk 280 4 = bk_280_4 := by decide +kernel
theorem bq_280_5 : mm_blk 280 5 = bk_280_5 := by decide +kernel
theorem bq_280_6 : mm_blk 280 6 = bk_280_6 := by decide +kernel
theorem bq_280_7 : mm_blk 280 7 = bk_280_7 := by decide +kernel
theorem bq_280_8 : mm_blk 280 8 = bk_280_8 := by decide +kernel
theorem bq_280_9 : mm_blk 280 9 = bk_280_9 := by decide +kernel
theorem bq_280_10 : mm_blk 280 10 = bk_280_10 := by decide +kernel
theorem bq_280_11 : mm_blk 280 11 = bk_280_11 := by decide +kernel
theorem bq_280_12 : mm_blk 280 12 = bk_280_12 := by decide +kernel
theorem bq_280_13 : mm_blk 280 13 = bk_280_13 := by decide +kernel
theorem bq_280_14 : mm_blk 280 14 = bk_280_14 := by decide +kernel
theorem bq_280_15 : mm_blk 280 15 = bk_280_15 := by decide +kernel
theorem bq_280_16 : mm_blk 280 16 = bk_280_16 := by decide +kernel
theorem r_280_e (x0 : Int) (x1 : Int) {hi : mm_Id → Int → Int} {dh : Int → Int} {nx ns : Int} {Q : mm_V → mm_H → Prop} (hy : 5306 ≤ nx) :
    mm_Cl 280 [zL x0, zL x1] (mm_z hi dh nx ns) Q =
    (if (mm_cmp x0 8391721685706110049) = 0 then (if (mm_cmp x1 101) = 0 then Q (zI 16) (mm_z hi dh nx ns) else mm_Wp 280 (mm_blk 280 1) [zL x0, zU, zL x1, zU] [] (mm_z hi dh nx ns) Q) else mm_Wp 280 (mm_blk 280 1) [zL x0, zU, zL x1, zU] [] (mm_z hi dh nx ns) Q) :=
  mm_ce (l2 := [zL x0, zU, zL x1, zU]) rfl (mm_kb bq_280_0 ((wp_4_0).trans ((wp_2).trans ((wp_34).trans ((wp_41).trans (mm_ic ((wp_4_2).trans ((wp_2).trans ((wp_34).trans ((wp_41).trans (mm_ic ((wp_1).trans (wp_90)) (rfl)))))) (rfl)))))))
theorem r_280_1 (x0 : Int) (x2 : Int) {hi : mm_Id → Int → Int} {dh : Int → Int} {nx ns : Int} {Q : mm_V → mm_H → Prop} (hy : 5306 ≤ nx) :
    mm_Wp 280 (mm_blk 280 1) [zL x0, zU, zL x2, zU] [] (mm_z hi dh nx ns) Q =
    (if (mm_cmp x0 8391721685706110049) = 0 then (if (mm_cmp x2 6704997) = 0 then Q (zI 17) (mm_z hi dh nx ns) else mm_Wp 280 (mm_blk 280 2) [zL x0, zU, zL x2, zU] [] (mm_z hi dh nx ns) Q) else mm_Wp 280 (mm_blk 280 2) [zL x0, zU, zL x2, zU] [] (mm_z hi dh nx ns) Q) :=
  mm_kb bq_280_1 ((wp_4_0).trans ((wp_2).trans ((wp_34).trans ((wp_41).trans (mm_ic ((wp_4_2).trans ((wp_2).trans ((wp_34).trans ((wp_41).trans (mm_ic ((wp_1).trans (wp_90)) (rfl)))))) (rfl))))))
theorem r_280_2 (x0 : Int) (x2 : Int) {hi : mm_Id → Int → Int} {dh : Int → Int} {nx ns : Int} {Q : mm_V → mm_H → Prop} (hy : 5306 ≤ nx) :
    mm_Wp 280 (mm_blk 280 2) [zL x0, zU, zL x2, zU] [] (mm_z hi dh nx ns) Q =
    (if (mm_cmp x0 7955819) = 0 then (if (mm_cmp x2 0) = 0 then Q (zI 18) (mm_z hi dh nx ns) else mm_Wp 280 (mm_blk 280 3) [zL x0, zU, zL x2, zU] [] (mm_z hi dh nx ns) Q) else mm_Wp 280 (mm_blk 280 3) [zL x0, zU, zL x2, zU] [] (mm_z hi dh nx ns) Q) :=
  mm_kb bq_280_2 ((wp_4_0).trans ((wp_2).trans ((wp_34).trans ((wp_41).trans (mm_ic ((wp_4_2).trans ((wp_2).trans ((wp_34).trans ((wp_41).trans (mm_ic ((wp_1).trans (wp_90)) (rfl)))))) (rfl))))))
theorem r_280_3 (x0 : Int) (x2 : Int) {hi : mm_Id → Int → Int} {dh : Int → Int} {nx ns : Int} {Q : mm_V → mm_H → Prop} (hy : 5306 ≤ nx) :
    mm_Wp 280 (mm_blk 280 3) [zL x0, zU, zL x2, zU] [] (mm_z hi dh nx ns) Q =
    (if (mm_cmp x0 29537) = 0 then (if (mm_cmp x2 0) = 0 then Q (zI 19) (mm_z hi dh nx ns) else mm_Wp 280 (mm_blk 280 4) [zL x0, zU, zL x2, zU] [] (mm_z hi dh nx ns) Q) else mm_Wp 280 (mm_blk 280 4) [zL x0, zU, zL x2, zU] [] (mm_z hi dh nx ns) Q) :=
  mm_kb bq_280_3 ((wp_4_0).trans ((wp_2).trans ((wp_34).trans ((wp_41).trans (mm_ic ((wp_4_2).trans ((wp_2).trans ((wp_34).trans ((wp_41).trans (mm_ic ((wp_1).trans (wp_90)) (rfl)))))) (rfl))))))
theorem r_280_4 (x0 : Int) (x2 : Int) {hi : mm_Id → Int → Int} {dh : Int → Int} {nx ns : Int} {Q : mm_V → mm_H → Prop} (hy : 5306 ≤ nx) :
    mm_Wp 280 (mm_blk 280 4) [zL x0, zU, zL x2, zU] [] (mm_z hi dh nx ns) Q =
    (if (mm_cmp x0 435526136693) = 0 then (if (mm_cmp x2 0) = 0 then Q (zI 20) (mm_z hi dh nx ns) else mm_Wp 280 (mm_blk 280 5) [zL x0, zU, zL x2, zU] [] (mm_z hi dh nx ns) Q) else mm_Wp 280 (mm_blk 280 5) [zL x0, zU, zL x2, zU] [] (mm_z hi dh nx ns) Q) :=
  mm_kb bq_280_4 ((wp_4_0).trans ((wp_2).trans ((wp_34).trans ((wp_41).trans (mm_ic ((wp_4_2).trans ((wp_2).trans ((wp_34).trans ((wp_41).trans (mm_ic ((wp_1).trans (wp_90)) (rfl)))))) (rfl))))))
theorem r_280_5 (x0 : Int) (x2 : Int) {hi : mm_Id → Int → Int} {dh : Int → Int} {nx ns : Int} {Q : mm_V → mm_H → Prop} (hy : 5306 ≤ nx) :
    mm_Wp 280 (mm_blk 280 5) [zL x0, zU, zL x2, zU] [] (mm_z hi dh nx ns) Q =
    (if (mm_cmp x0 499984984428) = 0 then (if (mm_cmp x2 0) = 0 then Q (zI 21) (mm_z hi dh nx ns) else mm_Wp 280 (mm_blk 280 6) [zL x0, zU, zL x2, zU] [] (mm_z hi dh nx ns) Q) else mm_Wp 280 (mm_blk 280 6) [zL x0, zU, zL x2, zU] [] (mm_z hi dh nx ns) Q) :=
  mm_kb bq_280_5 ((wp_4_0).trans ((wp_2).trans ((wp_34).trans ((wp_41).trans (mm_ic ((wp_4_2).trans ((wp_2).trans ((wp_34).trans ((wp_41).trans (mm_ic ((wp_1).trans (wp_90)) (rfl)))))) (rfl))))))
theorem r_280_6 (x0 : Int) (x2 : Int) {hi : mm_Id → Int → Int} {dh : Int → Int} {nx ns : Int} {Q : mm_V → mm_H → Prop} (hy : 5306 ≤ nx) :
    mm_Wp 280 (mm_blk 280 6) [zL x0, zU, zL x2, zU] [] (mm_z hi dh nx ns) Q =
    (if (mm_cmp x0 1801678700) = 0 then (if (mm_cmp x2 0) = 0 then Q (zI 22) (mm_z hi dh nx ns) else mm_Wp 280 (mm_blk 280 7) [zL x0, zU, zL x2, zU] [] (mm_z hi dh nx ns) Q) else mm_Wp 280 (mm_blk 280 7) [zL x0, zU, zL x2, zU] [] (mm_z hi dh nx ns) Q) :=
  mm_kb bq_280_6 ((wp_4_0).trans ((wp_2).trans ((wp_34).trans ((wp_41).trans (mm_ic ((wp_4_2).trans ((wp_2).trans ((wp_34).trans ((wp_41).trans (mm_ic ((wp_1).trans (wp_90)) (rfl)))))) (rfl))))))
theorem r_280_7 (x0 : Int) (x2 : Int) {hi : mm_Id → Int → Int} {dh : Int → Int} {nx ns : Int} {Q : mm_V → mm_H → Prop} (hy : 5306 ≤ nx) :
    mm_Wp 280 (mm_blk 280 7) [zL x0, zU, zL x2, zU] [] (mm_z hi dh nx ns) Q =
    (if (mm_cmp x0 110386756153196) = 0 then (if (mm_cmp x2 0) = 0 then Q (zI 23) (mm_z hi dh nx ns) else mm_Wp 280 (mm_blk 280 8) [zL x0, zU, zL x2, zU] [] (mm_z hi dh nx ns) Q) else mm_Wp 280 (mm_blk 280 8) [zL x0, zU, zL x2, zU] [] (mm_z hi dh nx ns) Q) :=
  mm_kb bq_280_7 ((wp_4_0).trans ((wp_2).trans ((wp_34).trans ((wp_41).trans (mm_ic ((wp_4_2).trans ((wp_2).trans ((wp_34).trans ((wp_41).trans (mm_ic ((wp_1).trans (wp_90)) (rfl)))))) (rfl))))))
theorem r_280_8 (x0 : Int) (x2 : Int) {hi : mm_Id → Int → Int} {dh : Int → Int} {nx ns : Int} {Q : mm_V → mm_H → Prop} (hy : 5306 ≤ nx) :
    mm_Wp 280 (mm_blk 280 8) [zL x0, zU, zL x2, zU] [] (mm_z hi dh nx ns) Q =
    (if (mm_cmp x0 1852141679) = 0 then (if (mm_cmp x2 0) = 0 then Q (zI 24) (mm_z hi dh nx ns) else mm_Wp 280 (mm_blk 280 9) [zL x0, zU, zL x2, zU] [] (mm_z hi dh nx ns) Q) else mm_Wp 280 (mm_blk 280 9) [zL x0, zU, zL x2, zU] [] (mm_z hi dh nx ns) Q) :=
  mm_kb bq_280_8 ((wp_4_0).trans ((wp_2).trans ((wp_34).trans ((wp_41).trans (mm_ic ((wp_4_2).trans ((wp_2).trans ((wp_34).trans ((wp_41).trans (mm_ic ((wp_1).trans (wp_90)) (rfl)))))) (rfl))))))
theorem r_280_9 (x0 : Int) (x2 : Int) {hi : mm_Id → Int → Int} {dh : Int → Int} {nx ns : Int} {Q : mm_V → mm_H → Prop} (hy : 5306 ≤ nx) :
    mm_Wp 280 (mm_blk 280 9) [zL x0, zU, zL x2, zU] [] (mm_z hi dh nx ns) Q =
    (if (mm_cmp x0 435728378979) = 0 then (if (mm_cmp x2 0) = 0 then Q (zI 25) (mm_z hi dh nx ns) else mm_Wp 280 (mm_blk 280 10) [zL x0, zU, zL x2, zU] [] (mm_z hi dh nx ns) Q) else mm_Wp 280 (mm_blk 280 10) [zL x0, zU, zL x2, zU] [] (mm_z hi dh nx ns) Q) :=
  mm_kb bq_280_9 ((wp_4_0).trans ((wp_2).trans ((wp_34).trans ((wp_41).trans (mm_ic ((wp_4_2).trans ((wp_2).trans ((wp_34).trans ((wp_41).trans (mm_ic ((wp_1).trans (wp_90)) (rfl)))))) (rfl))))))
theorem r_280_10 (x0 : Int) (x2 : Int) {hi : mm_Id → Int → Int} {dh : Int → Int} {nx ns : Int} {Q : mm_V → mm_H → Prop} (hy : 5306 ≤ nx) :
    mm_Wp 280 (mm_blk 280 10) [zL x0, zU, zL x2, zU] [] (mm_z hi dh nx ns) Q =
    (if (mm_cmp x0 111516215828840) = 0 then (if (mm_cmp x2 0) = 0 then Q (zI 26) (mm_z hi dh nx ns) else mm_Wp 280 (mm_blk 280 11) [zL x0, zU, zL x2, zU] [] (mm_z hi dh nx ns) Q) else mm_Wp 280 (mm_blk 280 11) [zL x0, zU, zL x2, zU] [] (mm_z hi dh nx ns) Q) :=
  mm_kb bq_280_10 ((wp_4_0).trans ((wp_2).trans ((wp_34).trans ((wp_41).trans (mm_ic ((wp_4_2).trans ((wp_2).trans ((wp_34).trans ((wp_41).trans (mm_ic ((wp_1).trans (wp_90)) (rfl)))))) (rfl))))))
theorem r_280_11 (x0 : Int) (x2 : Int) {hi : mm_Id → Int → Int} {dh : Int → Int} {nx ns : Int} {Q : mm_V → mm_H → Prop} (hy : 5306 ≤ nx) :
    mm_Wp 280 (mm_blk 280 11) [zL x0, zU, zL x2, zU] [] (mm_z hi dh nx ns) Q =
    (if (mm_cmp x0 8390039475830484595) = 0 then (if (mm_cmp x2 0) = 0 then Q (zI 27) (mm_z hi dh nx ns) else mm_Wp 280 (mm_blk 280 12) [zL x0, zU, zL x2, zU] [] (mm_z hi dh nx ns) Q) else mm_Wp 280 (mm_blk 280 12) [zL x0, zU, zL x2, zU] [] (mm_z hi dh nx ns) Q) :=
  mm_kb bq_280_11 ((wp_4_0).trans ((wp_2).trans ((wp_34).trans ((wp_41).trans (mm_ic ((wp_4_2).trans ((wp_2).trans ((wp_34).trans ((wp_41).trans (mm_ic ((wp_1).trans (wp_90)) (rfl)))))) (rfl))))))
theorem r_280_12 (x0 : Int) (x2 : Int) {hi : mm_Id → Int → Int} {dh : Int → Int} {nx ns : Int} {Q : mm_V → mm_H → Prop} (hy : 5306 ≤ nx) :
    mm_Wp 280 (mm_blk 280 12) [zL x0, zU, zL x2, zU] [] (mm_z hi dh nx ns) Q =
    (if (mm_cmp x0 435644492899) = 0 then (if (mm_cmp x2 0) = 0 then Q (zI 28) (mm_z hi dh nx ns) else mm_Wp 280 (mm_blk 280 13) [zL x0, zU, zL x2, zU] [] (mm_z hi dh nx ns) Q) else mm_Wp 280 (mm_blk 280 13) [zL x0, zU, zL x2, zU] [] (mm_z hi dh nx ns) Q) :=
  mm_kb bq_280_12 ((wp_4_0).trans ((wp_2).trans ((wp_34).trans ((wp_41).trans (mm_ic ((wp_4_2).trans ((wp_2).trans ((wp_34).trans ((wp_41).trans (mm_ic ((wp_1).trans (wp_90)) (rfl)))))) (rfl))))))
theorem r_280_13 (x0 : Int) (x2 : Int) {hi : mm_Id → Int → Int} {dh : Int → Int} {nx ns : Int} {Q : mm_V → mm_H → Prop} (hy : 5306 ≤ nx) :
    mm_Wp 280 (mm_blk 280 13) [zL x0, zU, zL x2, zU] [] (mm_z hi dh nx ns) Q =
    (if (mm_cmp x0 1801675106) = 0 then (if (mm_cmp x2 0) = 0 then Q (zI 29) (mm_z hi dh nx ns) else mm_Wp 280 (mm_blk 280 14) [zL x0, zU, zL x2, zU] [] (mm_z hi dh nx ns) Q) else mm_Wp 280 (mm_blk 280 14) [zL x0, zU, zL x2, zU] [] (mm_z hi dh nx ns) Q) :=
  mm_kb bq_280_13 ((wp_4_0).trans ((wp_2).trans ((wp_34).trans ((wp_41).trans (mm_ic ((wp_4_2).trans ((wp_2).trans ((wp_34).trans ((wp_41).trans (mm_ic ((wp_1).trans (wp_90)) (rfl)))))) (rfl))))))
theorem r_280_14 (x0 : Int) (x2 : Int) {hi : mm_Id → Int → Int} {dh : Int → Int} {nx ns : Int} {Q : mm_V → mm_H → Prop} (hy : 5306 ≤ nx) :
    mm_Wp 280 (mm_blk 280 14) [zL x0, zU, zL x2, zU] [] (mm_z hi dh nx ns) Q =
    (if (mm_cmp x0 34181009552663908) = 0 then (if (mm_cmp x2 0) = 0 then Q (zI 30) (mm_z hi dh nx ns) else mm_Wp 280 (mm_blk 280 15) [zL x0, zU, zL x2, zU] [] (mm_z hi dh nx ns) Q) else mm_Wp 280 (mm_blk 280 15) [zL x0, zU, zL x2, zU] [] (mm_z hi dh nx ns) Q) :=
  mm_kb bq_280_14 ((wp_4_0).trans ((wp_2).trans ((wp_34).trans ((wp_41).trans (mm_ic ((wp_4_2).trans ((wp_2).trans ((wp_34).trans ((wp_41).trans (mm_ic ((wp_1).trans (wp_90)) (rfl)))))) (rfl))))))
theorem r_280_15 (x0 : Int) (x2 : Int) {hi : mm_Id → Int → Int} {dh : Int → Int} {nx ns : Int} {Q : mm_V → mm_H → Prop} (hy : 5306 ≤ nx) :
    mm_Wp 280 (mm_blk 280 15) [zL x0, zU, zL x2, zU] [] (mm_z hi dh nx ns) Q =
    (if (mm_cmp x0 1684828008) = 0 then (if (mm_cmp x2 0) = 0 then Q (zI 31) (mm_z hi dh nx ns) else mm_Wp 280 (mm_blk 280 16) [zL x0, zU, zL x2, zU] [] (mm_z hi dh nx ns) Q) else mm_Wp 280 (mm_blk 280 16) [zL x0, zU, zL x2, zU] [] (mm_z hi dh nx ns) Q) :=
  mm_kb bq_280_15 ((wp_4_0).trans ((wp_2).trans ((wp_34).trans ((wp_41).trans (mm_ic ((wp_4_2).trans ((wp_2).trans ((wp_34).trans ((wp_41).trans (mm_ic ((wp_1).trans (wp_90)) (rfl)))))) (rfl))))))
theorem r_280_16 (x0 : Int) (x2 : Int) {hi : mm_Id → Int → Int} {dh : Int → Int} {nx ns : Int} {Q : mm_V → mm_H → Prop} (hy : 5306 ≤ nx) :
    mm_Wp 280 (mm_blk 280 16) [zL x0, zU, zL x2, zU] [] (mm_z hi dh nx ns) Q =
    Q (zI (-1)) (mm_z hi dh nx ns) :=
  mm_kb bq_280_16 ((wp_1).trans (wp_90))
/-- PoolHouseModel.callOf2(JJ)I -/
theorem bq_281_0 : mm_blk 281 0 = bk_281_0 := by decide +kernel
theorem bq_281_1 : mm_blk 281 1 = bk_281_1 := by decide +kernel
theorem bq_281_2 : mm_blk 281 2 = bk_281_2 := by decide +kernel
theorem bq_281_3 : mm_blk 281 3 = bk_281_3 := by decide +kernel
theorem bq_281_4 : mm_blk 281 4 = bk_281_4 := by decide +kernel
theorem bq_281_5 : mm_blk 281 5 = bk_281_5 := by decide +kernel
theorem bq_281_6 : mm_blk 281 6 = bk_281_6 := by decide +kernel
theorem bq_281_7 : mm_blk 281 7 = bk_281_7 := by decide +kernel
theorem bq_281_8 : mm_blk 281 8 = bk_281_8 := by decide +kernel
theorem bq_281_9 : mm_blk 281 9 = bk_281_9 := by decide +kernel
theorem bq_281_10 : mm_blk 281 10 = bk_281_10 := by decide +kernel
theorem bq_281_11 : mm_blk 281 11 = bk_281_11 := by decide +kernel
theorem bq_281_12 : mm_blk 281 12 = bk_281_12 := by decide +kernel
theorem bq_281_13 : mm_blk 281 13 = bk_281_13 := by decide +kernel
theorem bq_281_14 : mm_blk 281 14 = bk_281_14 := by decide +kernel
theorem bq_281_15 : mm_blk 281 15 = bk_281_15 := by decide +kernel
theorem r_281_e (x0 : Int) (x1 : Int) {hi : mm_Id → Int → Int} {dh : Int → Int} {nx ns : Int} {Q : mm_V → mm_H → Prop} (hy : 5306 ≤ nx) :
    mm_Cl 281 [zL x0, zL x1] (mm_z hi dh nx ns) Q =
    (if (mm_cmp x0 418565289329) = 0 then (if (mm_cmp x1 0) = 0 then Q (zI 32) (mm_z hi dh nx ns) else mm_Wp 281 (mm_blk 281 1) [zL x0, zU, zL x1, zU] [] (mm_z hi dh nx ns) Q) else mm_Wp 281 (mm_blk 281 1) [zL x0, zU, zL x1, zU] [] (mm_z hi dh nx ns) Q) :=
  mm_ce (l2 := [zL x0, zU, zL x1, zU]) rfl (mm_kb bq_281_0 ((wp_4_0).trans ((wp_2).trans ((wp_34).trans ((wp_41).trans (mm_ic ((wp_4_2).trans ((wp_2).trans ((wp_34).trans ((wp_41).trans (mm_ic ((wp_1).trans (wp_90)) (rfl)))))) (rfl)))))))
theorem r_281_1 (x0 : Int) (x2 : Int) {hi : mm_Id → Int → Int} {dh : Int → Int} {nx ns : Int} {Q : mm_V → mm_H → Prop} (hy : 5306 ≤ nx) :
    mm_Wp 281 (mm_blk 281 1) [zL x0, zU, zL x2, zU] [] (mm_z hi dh nx ns) Q =
    (if (mm_cmp x0 1684825448) = 0 then (if (mm_cmp x2 0) = 0 then Q (zI 33) (mm_z hi dh nx ns) else mm_Wp 281 (mm_blk 281 2) [zL x0, zU, zL x2, zU] [] (mm_z hi dh nx ns) Q) else mm_Wp 281 (mm_blk 281 2) [zL x0, zU, zL x2, zU] [] (mm_z hi dh nx ns) Q) :=
  mm_kb bq_281_1 ((wp_4_0).trans ((wp_2).trans ((wp_34).trans ((wp_41).trans (mm_ic ((wp_4_2).trans ((wp_2).trans ((wp_34).trans ((wp_41).trans (mm_ic ((wp_1).trans (wp_90)) (rfl)))))) (rfl))))))
theorem r_281_2 (x0 : Int) (x2 : Int) {hi : mm_Id → Int → Int} {dh : Int → Int} {nx ns : Int} {Q : mm_V → mm_H → Prop} (hy : 5306 ≤ nx) :
    mm_Wp 281 (mm_blk 281 2) [zL x0, zU, zL x2, zU] [] (mm_z hi dh nx ns) Q =
    (if (mm_cmp x0 1684828020) = 0 then (if (mm_cmp x2 0) = 0 then Q (zI 34) (mm_z hi dh nx ns) else mm_Wp 281 (mm_blk 281 3) [zL x0, zU, zL x2, zU] [] (mm_z hi dh nx ns) Q) else mm_Wp 281 (mm_blk 281 3) [zL x0, zU, zL x2, zU] [] (mm_z hi dh nx ns) Q) :=
  mm_kb bq_281_2 ((wp_4_0).trans ((wp_2).trans ((wp_34).trans ((wp_41).trans (mm_ic ((wp_4_2).trans ((wp_2).trans ((wp_34).trans ((wp_41).trans (mm_ic ((wp_1).trans (wp_90)) (rfl)))))) (rfl))))))
theorem r_281_3 (x0 : Int) (x2 : Int) {hi : mm_Id → Int → Int} {dh : Int → Int} {nx ns : Int} {Q : mm_V → mm_H → Prop} (hy : 5306 ≤ nx) :
    mm_Wp 281 (mm_blk 281 3) [zL x0, zU, zL x2, zU] [] (mm_z hi dh nx ns) Q =
    (if (mm_cmp x0 32495402156976484) = 0 then (if (mm_cmp x2 0) = 0 then Q (zI 35) (mm_z hi dh nx ns) else mm_Wp 281 (mm_blk 281 4) [zL x0, zU, zL x2, zU] [] (mm_z hi dh nx ns) Q) else mm_Wp 281 (mm_blk 281 4) [zL x0, zU, zL x2, zU] [] (mm_z hi dh nx ns) Q) :=
  mm_kb bq_281_3 ((wp_4_0).trans ((wp_2).trans ((wp_34).trans ((wp_41).trans (mm_ic ((wp_4_2).trans ((wp_2).trans ((wp_34).trans ((wp_41).trans (mm_ic ((wp_1).trans (wp_90)) (rfl)))))) (rfl))))))
theorem r_281_4 (x0 : Int) (x2 : Int) {hi : mm_Id → Int → Int} {dh : Int → Int} {nx ns : Int} {Q : mm_V → mm_H → Prop} (hy : 5306 ≤ nx) :
    mm_Wp 281 (mm_blk 281 4) [zL x0, zU, zL x2, zU] [] (mm_z hi dh nx ns) Q =
    (if (mm_cmp x0 1684956531) = 0 then (if (mm_cmp x2 0) = 0 then Q (zI 36) (mm_z hi dh nx ns) else mm_Wp 281 (mm_blk 281 5) [zL x0, zU, zL x2, zU] [] (mm_z hi dh nx ns) Q) else mm_Wp 281 (mm_blk 281 5) [zL x0, zU, zL x2, zU] [] (mm_z hi dh nx ns) Q) :=
  mm_kb bq_281_4 ((wp_4_0).trans ((wp_2).trans ((wp_34).trans ((wp_41).trans (mm_ic ((wp_4_2).trans ((wp_2).trans ((wp_34).trans ((wp_41).trans (mm_ic ((wp_1).trans (wp_90)) (rfl)))))) (rfl))))))
theorem r_281_5 (x0 : Int) (x2 : Int) {hi : mm_Id → Int → Int} {dh : Int → Int} {nx ns : Int} {Q : mm_V → mm_H → Prop} (hy : 5306 ≤ nx) :
    mm_Wp 281 (mm_blk 281 5) [zL x0, zU, zL x2, zU] [] (mm_z hi dh nx ns) Q =
    (if (mm_cmp x0 28559167692432754) = 0 then (if (mm_cmp x2 0) = 0 then Q (zI 37) (mm_z hi dh nx ns) else mm_Wp 281 (mm_blk 281 6) [zL x0, zU, zL x2, zU] [] (mm_z hi dh nx ns) Q) else mm_Wp 281 (mm_blk 281 6) [zL x0, zU, zL x2, zU] [] (mm_z hi dh nx ns) Q) :=
  mm_kb bq_281_5 ((wp_4_0).trans ((wp_2).trans ((wp_34).trans ((wp_41).trans (mm_ic ((wp_4_2).trans ((wp_2).trans ((wp_34).trans ((wp_41).trans (mm_ic ((wp_1).trans (wp_90)) (rfl)))))) (rfl))))))
theorem r_281_6 (x0 : Int) (x2 : Int) {hi : mm_Id → Int → Int} {dh : Int → Int} {nx ns : Int} {Q : mm_V → mm_H → Prop} (hy : 5306 ≤ nx) :
    mm_Wp 281 (mm_blk 281 6) [zL x0, zU, zL x2, zU] [] (mm_z hi dh nx ns) Q =
    (if (mm_cmp x0 127996156276579) = 0 then (if (mm_cmp x2 0) = 0 then Q (zI 38) (mm_z hi dh nx ns) else mm_Wp 281 (mm_blk 281 7) [zL x0, zU, zL x2, zU] [] (mm_z hi dh nx ns) Q) else mm_Wp 281 (mm_blk 281 7) [zL x0, zU, zL x2, zU] [] (mm_z hi dh nx ns) Q) :=
  mm_kb bq_281_6 ((wp_4_0).trans ((wp_2).trans ((wp_34).trans ((wp_41).trans (mm_ic ((wp_4_2).trans ((wp_2).trans ((wp_34).trans ((wp_41).trans (mm_ic ((wp_1).trans (wp_90)) (rfl)))))) (rfl))))))
theorem r_281_7 (x0 : Int) (x2 : Int) {hi : mm_Id → Int → Int} {dh : Int → Int} {nx ns : Int} {Q : mm_V → mm_H → Prop} (hy : 5306 ≤ nx) :
    mm_Wp 281 (mm_blk 281 7) [zL x0, zU, zL x2, zU] [] (mm_z hi dh nx ns) Q =
    (if (mm_cmp x0 1668184435) = 0 then (if (mm_cmp x2 0) = 0 then Q (zI 39) (mm_z hi dh nx ns) else mm_Wp 281 (mm_blk 281 8) [zL x0, zU, zL x2, zU] [] (mm_z hi dh nx ns) Q) else mm_Wp 281 (mm_blk 281 8) [zL x0, zU, zL x2, zU] [] (mm_z hi dh nx ns) Q) :=
  mm_kb bq_281_7 ((wp_4_0).trans ((wp_2).trans ((wp_34).trans ((wp_41).trans (mm_ic ((wp_4_2).trans ((wp_2).trans ((wp_34).trans ((wp_41).trans (mm_ic ((wp_1).trans (wp_90)) (rfl)))))) (rfl))))))
theorem r_281_8 (x0 : Int) (x2 : Int) {hi : mm_Id → Int → Int} {dh : Int → Int} {nx ns : Int} {Q : mm_V → mm_H → Prop} (hy : 5306 ≤ nx) :
    mm_Wp 281 (mm_blk 281 8) [zL x0, zU, zL x2, zU] [] (mm_z hi dh nx ns) Q =
    (if (mm_cmp x0 448612364899) = 0 then (if (mm_cmp x2 0) = 0 then Q (zI 40) (mm_z hi dh nx ns) else mm_Wp 281 (mm_blk 281 9) [zL x0, zU, zL x2, zU] [] (mm_z hi dh nx ns) Q) else mm_Wp 281 (mm_blk 281 9) [zL x0, zU, zL x2, zU] [] (mm_z hi dh nx ns) Q) :=
  mm_kb bq_281_8 ((wp_4_0).trans ((wp_2).trans ((wp_34).trans ((wp_41).trans (mm_ic ((wp_4_2).trans ((wp_2).trans ((wp_34).trans ((wp_41).trans (mm_ic ((wp_1).trans (wp_90)) (rfl)))))) (rfl))))))
theorem r_281_9 (x0 : Int) (x2 : Int) {hi : mm_Id → Int → Int} {dh : Int → Int} {nx ns : Int} {Q : mm_V → mm_H → Prop} (hy : 5306 ≤ nx) :
    mm_Wp 281 (mm_blk 281 9) [zL x0, zU, zL x2, zU] [] (mm_z hi dh nx ns) Q =
    (if (mm_cmp x0 465625378931) = 0 then (if (mm_cmp x2 0) = 0 then Q (zI 41) (mm_z hi dh nx ns) else mm_Wp 281 (mm_blk 281 10) [zL x0, zU, zL x2, zU] [] (mm_z hi dh nx ns) Q) else mm_Wp 281 (mm_blk 281 10) [zL x0, zU, zL x2, zU] [] (mm_z hi dh nx ns) Q) :=
  mm_kb bq_281_9 ((wp_4_0).trans ((wp_2).trans ((wp_34).trans ((wp_41).trans (mm_ic ((wp_4_2).trans ((wp_2).trans ((wp_34).trans ((wp_41).trans (mm_ic ((wp_1).trans (wp_90)) (rfl)))))) (rfl))))))
theorem r_281_10 (x0 : Int) (x2 : Int) {hi : mm_Id → Int → Int} {dh : Int → Int} {nx ns : Int} {Q : mm_V → mm_H → Prop} (hy : 5306 ≤ nx) :
    mm_Wp 281 (mm_blk 281 10) [zL x0, zU, zL x2, zU] [] (mm_z hi dh nx ns) Q =
    (if (mm_cmp x0 1702063980) = 0 then (if (mm_cmp x2 0) = 0 then Q (zI 42) (mm_z hi dh nx ns) else mm_Wp 281 (mm_blk 281 11) [zL x0, zU, zL x2, zU] [] (mm_z hi dh nx ns) Q) else mm_Wp 281 (mm_blk 281 11) [zL x0, zU, zL x2, zU] [] (mm_z hi dh nx ns) Q) :=
  mm_kb bq_281_10 ((wp_4_0).trans ((wp_2).trans ((wp_34).trans ((wp_41).trans (mm_ic ((wp_4_2).trans ((wp_2).trans ((wp_34).trans ((wp_41).trans (mm_ic ((wp_1).trans (wp_90)) (rfl)))))) (rfl))))))
theorem r_281_11 (x0 : Int) (x2 : Int) {hi : mm_Id → Int → Int} {dh : Int → Int} {nx ns : Int} {Q : mm_V → mm_H → Prop} (hy : 5306 ≤ nx) :
    mm_Wp 281 (mm_blk 281 11) [zL x0, zU, zL x2, zU] [] (mm_z hi dh nx ns) Q =
    (if (mm_cmp x0 444234035810) = 0 then (if (mm_cmp x2 0) = 0 then Q (zI 43) (mm_z hi dh nx ns) else mm_Wp 281 (mm_blk 281 12) [zL x0, zU, zL x2, zU] [] (mm_z hi dh nx ns) Q) else mm_Wp 281 (mm_blk 281 12) [zL x0, zU, zL x2, zU] [] (mm_z hi dh nx ns) Q) :=
  mm_kb bq_281_11 ((wp_4_0).trans ((wp_2).trans ((wp_34).trans ((wp_41).trans (mm_ic ((wp_4_2).trans ((wp_2).trans ((wp_34).trans ((wp_41).trans (mm_ic ((wp_1).trans (wp_90)) (rfl)))))) (rfl))))))
theorem r_281_12 (x0 : Int) (x2 : Int) {hi : mm_Id → Int → Int} {dh : Int → Int} {nx ns : Int} {Q : mm_V → mm_H → Prop} (hy : 5306 ≤ nx) :
    mm_Wp 281 (mm_blk 281 12) [zL x0, zU, zL x2, zU] [] (mm_z hi dh nx ns) Q =
    (if (mm_cmp x0 422877225843) = 0 then (if (mm_cmp x2 0) = 0 then Q (zI 44) (mm_z hi dh nx ns) else mm_Wp 281 (mm_blk 281 13) [zL x0, zU, zL x2, zU] [] (mm_z hi dh nx ns) Q) else mm_Wp 281 (mm_blk 281 13) [zL x0, zU, zL x2, zU] [] (mm_z hi dh nx ns) Q) :=
  mm_kb bq_281_12 ((wp_4_0).trans ((wp_2).trans ((wp_34).trans ((wp_41).trans (mm_ic ((wp_4_2).trans ((wp_2).trans ((wp_34).trans ((wp_41).trans (mm_ic ((wp_1).trans (wp_90)) (rfl)))))) (rfl))))))
theorem r_281_13 (x0 : Int) (x2 : Int) {hi : mm_Id → Int → Int} {dh : Int → Int} {nx ns : Int} {Q : mm_V → mm_H → Prop} (hy : 5306 ≤ nx) :
    mm_Wp 281 (mm_blk 281 13) [zL x0, zU, zL x2, zU] [] (mm_z hi dh nx ns) Q =
    (if (mm_cmp x0 1802725732) = 0 then (if (mm_cmp x2 0) = 0 then Q (zI 45) (mm_z hi dh nx ns) else mm_Wp 281 (mm_blk 281 14) [zL x0, zU, zL x2, zU] [] (mm_z hi dh nx ns) Q) else mm_Wp 281 (mm_blk 281 14) [zL x0, zU, zL x2, zU] [] (mm_z hi dh nx ns) Q) :=
  mm_kb bq_281_13 ((wp_4_0).trans ((wp_2).trans ((wp_34).trans ((wp_41).trans (mm_ic ((wp_4_2).trans ((wp_2).trans ((wp_34).trans ((wp_41).trans (mm_ic ((wp_1).trans (wp_90)) (rfl)))))) (rfl))))))
theorem r_281_14 (x0 : Int) (x2 : Int) {hi : mm_Id → Int → Int} {dh : Int → Int} {nx ns : Int} {Q : mm_V → mm_H → Prop} (hy : 5306 ≤ nx) :
    mm_Wp 281 (mm_blk 281 14) [zL x0, zU, zL x2, zU] [] (mm_z hi dh nx ns) Q =
    (if (mm_cmp x0 8315168235714798703) = 0 then (if (mm_cmp x2 0) = 0 then Q (zI 46) (mm_z hi dh nx ns) else mm_Wp 281 (mm_blk 281 15) [zL x0, zU, zL x2, zU] [] (mm_z hi dh nx ns) Q) else mm_Wp 281 (mm_blk 281 15) [zL x0, zU, zL x2, zU] [] (mm_z hi dh nx ns) Q) :=
  mm_kb bq_281_14 ((wp_4_0).trans ((wp_2).trans ((wp_34).trans ((wp_41).trans (mm_ic ((wp_4_2).trans ((wp_2).trans ((wp_34).trans ((wp_41).trans (mm_ic ((wp_1).trans (wp_90)) (rfl)))))) (rfl))))))
theorem r_281_15 (x0 : Int) (x2 : Int) {hi : mm_Id → Int → Int} {dh : Int → Int} {nx ns : Int} {Q : mm_V → mm_H → Prop} (hy : 5306 ≤ nx) :
    mm_Wp 281 (mm_blk 281 15) [zL x0, zU, zL x2, zU] [] (mm_z hi dh nx ns) Q =
    Q (zI (-1)) (mm_z hi dh nx ns) :=
  mm_kb bq_281_15 ((wp_1).trans (wp_90))
/-- PoolHouseModel.callOf()I -/
theorem bq_282_0 : mm_blk 282 0 = bk_282_0 := by decide +kernel
theorem bq_282_1 : mm_blk 282 1 = bk_282_1 := by decide +kernel
theorem bq_282_2 : mm_blk 282 2 = bk_282_2 := by decide +kernel
theorem bq_282_3 : mm_blk 282 3 = bk_282_3 := by decide +kernel
theorem bq_282_4 : mm_blk 282 4 = bk_282_4 := by decide +kernel
theorem bq_282_5 : mm_blk 282 5 = bk_282_5 := by decide +kernel
theorem bq_282_6 : mm_blk 282 6 = bk_282_6 := by decide +kernel
theorem bq_282_7 : mm_blk 282 7 = bk_282_7 := by decide +kernel
theorem bq_282_8 : mm_blk 282 8 = bk_282_8 := by decide +kernel
theorem bq_282_9 : mm_blk 282 9 = bk_282_9 := by decide +kernel
theorem bq_282_10 : mm_blk 282 10 = bk_282_10 := by decide +kernel
theorem bq_282_11 : mm_blk 282 11 = bk_282_11 := by decide +kernel
theorem bq_282_12 : mm_blk 282 12 = bk_282_12 := by decide +kernel
theorem bq_282_13 : mm_blk 282 13 = bk_282_13 := by decide +kernel
theorem bq_282_14 : mm_blk 282 14 = bk_282_14 := by decide +kernel
theorem bq_282_15 : mm_blk 282 15 = bk_282_15 := by decide +kernel
theorem bq_282_16 : mm_blk 282 16 = bk_282_16 := by decide +kernel
theorem r_282_e  {hi : mm_Id → Int → Int} {dh : Int → Int} {nx ns : Int} {Q : mm_V → mm_H → Prop} (hy : 5306 ≤ nx) :
    mm_Cl 282 [zR (40, 0, 0)] (mm_z hi dh nx ns) Q =
    (if 16 < (mm_w ((hi (40, 0, 0) 45) - (hi (40, 0, 0) 44))) then mm_Wp 282 (mm_blk 282 2) [zR (40, 0, 0), zI (mm_w ((hi (40, 0, 0) 45) - (hi (40, 0, 0) 44))), zU, zU, zU, zU, zU, zU] [zI 1] (mm_z hi dh nx ns) Q else mm_Wp 282 (mm_blk 282 2) [zR (40, 0, 0), zI (mm_w ((hi (40, 0, 0) 45) - (hi (40, 0, 0) 44))), zU, zU, zU, zU, zU, zU] [zI 0] (mm_z hi dh nx ns) Q) :=
  mm_ce (l2 := [zR (40, 0, 0), zU, zU, zU, zU, zU, zU, zU]) rfl (mm_kb bq_282_0 ((wp_5_0).trans ((wp_60 (by decide) (mm_o40 hy)).trans ((wp_5_0).trans ((wp_60 (by decide) (mm_o40 hy)).trans ((wp_11).trans ((wp_6 (l2 := [zR (40, 0, 0), zI (mm_w ((hi (40, 0, 0) 45) - (hi (40, 0, 0) 44))), zU, zU, zU, zU, zU, zU]) rfl).trans ((wp_3_1).trans ((wp_1).trans ((wp_51).trans (mm_ic ((wp_1).trans ((wp_56).trans (rfl))) (mm_kb bq_282_1 ((wp_1).trans ((wp_0).trans (rfl)))))))))))))))
theorem r_282_2 (x1 : Int) (vx2 : mm_V) (vx3 : mm_V) (vx4 : mm_V) (vx5 : mm_V) (vx6 : mm_V) (vx7 : mm_V) (y0 : Int) {hi : mm_Id → Int → Int} {dh : Int → Int} {nx ns : Int} {Q : mm_V → mm_H → Prop} (hy : 5306 ≤ nx) :
    mm_Wp 282 (mm_blk 282 2) [zR (40, 0, 0), zI x1, vx2, vx3, vx4, vx5, vx6, vx7] [zI y0] (mm_z hi dh nx ns) Q =
    mm_Wp 282 (mm_blk 282 3) [zR (40, 0, 0), zI x1, zI y0, zI (hi (40, 0, 0) 44), vx4, vx5, vx6, vx7] [] (mm_z hi dh nx ns) Q :=
  mm_kb bq_282_2 ((wp_6 (l2 := [zR (40, 0, 0), zI x1, zI y0, vx3, vx4, vx5, vx6, vx7]) rfl).trans ((wp_5_0).trans ((wp_60 (by decide) (mm_o40 hy)).trans ((wp_6 (l2 := [zR (40, 0, 0), zI x1, zI y0, zI (hi (40, 0, 0) 44), vx4, vx5, vx6, vx7]) rfl).trans ((wp_0).trans (rfl))))))
theorem r_282_3 (x1 : Int) (x2 : Int) (x3 : Int) (vx4 : mm_V) (vx5 : mm_V) (vx6 : mm_V) (vx7 : mm_V) {hi : mm_Id → Int → Int} {dh : Int → Int} {nx ns : Int} {Q : mm_V → mm_H → Prop} (hy : 5306 ≤ nx) :
    mm_Wp 282 (mm_blk 282 3) [zR (40, 0, 0), zI x1, zI x2, zI x3, vx4, vx5, vx6, vx7] [] (mm_z hi dh nx ns) Q =
    (if x3 < (hi (40, 0, 0) 45) then (if x2 = 0 then ((0 ≤ x3 ∧ x3 < 8000) ∧ (if (hi (67, 0, 0) x3) = 0 then mm_Wp 282 (mm_blk 282 4) [zR (40, 0, 0), zI x1, zI x2, zI x3, vx4, vx5, vx6, vx7] [] (mm_z hi dh nx ns) Q else mm_Wp 282 (mm_blk 282 6) [zR (40, 0, 0), zI x1, zI x2, zI x3, vx4, vx5, vx6, vx7] [zI 0] (mm_z hi dh nx ns) Q)) else mm_Wp 282 (mm_blk 282 4) [zR (40, 0, 0), zI x1, zI x2, zI x3, vx4, vx5, vx6, vx7] [] (mm_z hi dh nx ns) Q) else (if x2 = 0 then (if 8 < x1 then mm_Wp 282 (mm_blk 282 10) [zR (40, 0, 0), zI x1, zI x2, zI x3, vx4, vx5, vx6, vx7] [zI (mm_w ((hi (40, 0, 0) 44) + 8)), zI (hi (40, 0, 0) 44), zR (40, 0, 0)] (mm_z hi dh nx ns) Q else mm_Wp 282 (mm_blk 282 10) [zR (40, 0, 0), zI x1, zI x2, zI x3, vx4, vx5, vx6, vx7] [zI (hi (40, 0, 0) 45), zI (hi (40, 0, 0) 44), zR (40, 0, 0)] (mm_z hi dh nx ns) Q) else Q (zI (-1)) (mm_z hi dh nx ns))) :=
  mm_kb bq_282_3 ((wp_3_3).trans ((wp_5_0).trans ((wp_60 (by decide) (mm_o40 hy)).trans ((wp_49).trans (mm_ic ((wp_3_2).trans ((wp_41).trans (mm_ic ((wp_5_0).trans ((wp_62 (by decide) (mm_o40 hy) (mm_r40_38 hy)).trans ((wp_3_3).trans ((wp_71 (mm_q67 hy)).trans (mm_ae ((wp_41).trans (mm_ic ((wp_0).trans (rfl)) (mm_kb bq_282_5 ((wp_1).trans ((wp_0).trans (rfl))))))))))) (rfl)))) (mm_kb bq_282_7 ((wp_3_2).trans ((wp_40).trans (mm_ic (mm_kb bq_282_8 ((wp_5_0).trans ((wp_5_0).trans ((wp_60 (by decide) (mm_o40 hy)).trans ((wp_3_1).trans ((wp_1).trans ((wp_51).trans (mm_ic ((wp_5_0).trans ((wp_60 (by decide) (mm_o40 hy)).trans ((wp_1).trans ((wp_10).trans ((wp_56).trans (rfl)))))) (mm_kb bq_282_9 ((wp_5_0).trans ((wp_60 (by decide) (mm_o40 hy)).trans ((wp_0).trans (rfl))))))))))))) ((wp_1).trans (wp_90)))))))))))
theorem r_282_10 (x1 : Int) (vx2 : mm_V) (vx3 : mm_V) (vx4 : mm_V) (vx5 : mm_V) (vx6 : mm_V) (vx7 : mm_V) (y0 : Int) (y1 : Int) {hi : mm_Id → Int → Int} {dh : Int → Int} {nx ns : Int} {Q : mm_V → mm_H → Prop} (hy : 5306 ≤ nx) :
    mm_Wp 282 (mm_blk 282 10) [zR (40, 0, 0), zI x1, vx2, vx3, vx4, vx5, vx6, vx7] [zI y0, zI y1, zR (40, 0, 0)] (mm_z hi dh nx ns) Q =
    mm_Cl 278 [zR (40, 0, 0), zI y1, zI y0] (mm_z hi dh nx ns) (fun r h3 => mm_Wp 282 (bk_282_10.drop 1) [zR (40, 0, 0), zI x1, vx2, vx3, vx4, vx5, vx6, vx7] (mm_push r []) h3 Q) :=
  mm_kb bq_282_10 ((wp_v3 mm_n_278 (mm_leq mm_m_278 (mm_lb rfl)) (mm_lb rfl) (mm_o40 hy)).trans rfl)
theorem r_282_4 (x1 : Int) (vx2 : mm_V) (x3 : Int) (vx4 : mm_V) (vx5 : mm_V) (vx6 : mm_V) (vx7 : mm_V) {hi : mm_Id → Int → Int} {dh : Int → Int} {nx ns : Int} {Q : mm_V → mm_H → Prop} (hy : 5306 ≤ nx) :
    mm_Wp 282 (mm_blk 282 4) [zR (40, 0, 0), zI x1, vx2, zI x3, vx4, vx5, vx6, vx7] [] (mm_z hi dh nx ns) Q =
    mm_Wp 282 (mm_blk 282 6) [zR (40, 0, 0), zI x1, vx2, zI x3, vx4, vx5, vx6, vx7] [zI 1] (mm_z hi dh nx ns) Q :=
  mm_kb bq_282_4 ((wp_1).trans ((wp_56).trans (rfl)))
theorem r_282_6 (x1 : Int) (vx2 : mm_V) (x3 : Int) (vx4 : mm_V) (vx5 : mm_V) (vx6 : mm_V) (vx7 : mm_V) (y0 : Int) {hi : mm_Id → Int → Int} {dh : Int → Int} {nx ns : Int} {Q : mm_V → mm_H → Prop} (hy : 5306 ≤ nx) :
    mm_Wp 282 (mm_blk 282 6) [zR (40, 0, 0), zI x1, vx2, zI x3, vx4, vx5, vx6, vx7] [zI y0] (mm_z hi dh nx ns) Q =
    mm_Wp 282 (mm_blk 282 3) [zR (40, 0, 0), zI x1, zI y0, zI (mm_w (x3 + 1)), vx4, vx5, vx6, vx7] [] (mm_z hi dh nx ns) Q :=
  mm_kb bq_282_6 ((wp_6 (l2 := [zR (40, 0, 0), zI x1, zI y0, zI x3, vx4, vx5, vx6, vx7]) rfl).trans ((wp_9 (l2 := [zR (40, 0, 0), zI x1, zI y0, zI (mm_w (x3 + 1)), vx4, vx5, vx6, vx7]) rfl rfl).trans ((wp_56).trans (rfl))))
theorem r_282_10_1 (x1 : Int) (vx2 : mm_V) (vx3 : mm_V) (vx4 : mm_V) (vx5 : mm_V) (vx6 : mm_V) (vx7 : mm_V) (y0 : Int) {hi : mm_Id → Int → Int} {dh : Int → Int} {nx ns : Int} {Q : mm_V → mm_H → Prop} (hvx2 : mm_wt vx2 = 1) (hy : 5306 ≤ nx) :
    mm_Wp 282 (bk_282_10.drop 1) [zR (40, 0, 0), zI x1, vx2, vx3, vx4, vx5, vx6, vx7] [zL y0] (mm_z hi dh nx ns) Q =
    (if 8 < x1 then mm_Cl 278 [zR (40, 0, 0), zI (mm_w ((hi (40, 0, 0) 44) + 8)), zI (hi (40, 0, 0) 45)] (mm_z hi dh nx ns) (fun r h3 => mm_Wp 282 (bk_282_10.drop 13) [zR (40, 0, 0), zI x1, vx2, zL y0, zU, vx5, vx6, vx7] (mm_push r []) h3 Q) else mm_Wp 282 (mm_blk 282 12) [zR (40, 0, 0), zI x1, vx2, zL y0, zU, vx5, vx6, vx7] [zL 0] (mm_z hi dh nx ns) Q) :=
  (wp_7 (l2 := [zR (40, 0, 0), zI x1, vx2, zL y0, zU, vx5, vx6, vx7]) ((if_pos (mm_lb rfl)).trans (congrArg (fun z => some (List.set z 4 zU)) (mm_stw rfl hvx2)))).trans ((wp_3_1).trans ((wp_1).trans ((wp_51).trans (mm_ic ((wp_5_0).trans ((wp_5_0).trans ((wp_60 (by decide) (mm_o40 hy)).trans ((wp_1).trans ((wp_10).trans ((wp_5_0).trans ((wp_60 (by decide) (mm_o40 hy)).trans ((wp_v3 mm_n_278 (mm_leq mm_m_278 (mm_lb rfl)) (mm_lb rfl) (mm_o40 hy)).trans rfl)))))))) (mm_kb bq_282_11 ((wp_2).trans ((wp_0).trans (rfl))))))))
theorem r_282_12 (vx0 : mm_V) (vx1 : mm_V) (vx2 : mm_V) (x3 : Int) (vx5 : mm_V) (vx6 : mm_V) (vx7 : mm_V) (y0 : Int) {hi : mm_Id → Int → Int} {dh : Int → Int} {nx ns : Int} {Q : mm_V → mm_H → Prop} (hy : 5306 ≤ nx) :
    mm_Wp 282 (mm_blk 282 12) [vx0, vx1, vx2, zL x3, zU, vx5, vx6, vx7] [zL y0] (mm_z hi dh nx ns) Q =
    mm_Cl 279 [zL x3, zL y0] (mm_z hi dh nx ns) (fun r h3 => mm_Wp 282 (bk_282_12.drop 4) [vx0, vx1, vx2, zL x3, zU, zL y0, zU, vx7] (mm_push r []) h3 Q) :=
  mm_kb bq_282_12 ((wp_7 (l2 := [vx0, vx1, vx2, zL x3, zU, zL y0, zU, vx7]) rfl).trans ((wp_4_3).trans ((wp_4_5).trans ((wp_s2 mm_n_279 (mm_leq mm_m_279 (mm_lb rfl)) (mm_lb rfl)).trans rfl))))
theorem r_282_10_13 (vx0 : mm_V) (vx1 : mm_V) (vx2 : mm_V) (x3 : Int) (vx5 : mm_V) (vx6 : mm_V) (vx7 : mm_V) (y0 : Int) {hi : mm_Id → Int → Int} {dh : Int → Int} {nx ns : Int} {Q : mm_V → mm_H → Prop} (hy : 5306 ≤ nx) :
    mm_Wp 282 (bk_282_10.drop 13) [vx0, vx1, vx2, zL x3, zU, vx5, vx6, vx7] [zL y0] (mm_z hi dh nx ns) Q =
    mm_Wp 282 (mm_blk 282 12) [vx0, vx1, vx2, zL x3, zU, vx5, vx6, vx7] [zL y0] (mm_z hi dh nx ns) Q :=
  (wp_56).trans (rfl)
theorem r_282_12_4 (vx0 : mm_V) (vx1 : mm_V) (vx2 : mm_V) (x3 : Int) (x5 : Int) (vx7 : mm_V) (y0 : Int) {hi : mm_Id → Int → Int} {dh : Int → Int} {nx ns : Int} {Q : mm_V → mm_H → Prop} (hy : 5306 ≤ nx) :
    mm_Wp 282 (bk_282_12.drop 4) [vx0, vx1, vx2, zL x3, zU, zL x5, zU, vx7] [zI y0] (mm_z hi dh nx ns) Q =
    (if y0 < 0 then mm_Cl 280 [zL x3, zL x5] (mm_z hi dh nx ns) (fun r h3 => mm_Wp 282 (bk_282_12.drop 10) [vx0, vx1, vx2, zL x3, zU, zL x5, zU, zI y0] (mm_push r []) h3 Q) else mm_Wp 282 (mm_blk 282 14) [vx0, vx1, vx2, zL x3, zU, zL x5, zU, zI y0] [zI y0] (mm_z hi dh nx ns) Q) :=
  (wp_6 (l2 := [vx0, vx1, vx2, zL x3, zU, zL x5, zU, zI y0]) rfl).trans ((wp_3_7).trans ((wp_43).trans (mm_ic ((wp_4_3).trans ((wp_4_5).trans ((wp_s2 mm_n_280 (mm_leq mm_m_280 (mm_lb rfl)) (mm_lb rfl)).trans rfl))) (mm_kb bq_282_13 ((wp_3_7).trans ((wp_0).trans (rfl)))))))
theorem r_282_14 (vx0 : mm_V) (vx1 : mm_V) (vx2 : mm_V) (x3 : Int) (x5 : Int) (vx7 : mm_V) (y0 : Int) {hi : mm_Id → Int → Int} {dh : Int → Int} {nx ns : Int} {Q : mm_V → mm_H → Prop} (hy : 5306 ≤ nx) :
    mm_Wp 282 (mm_blk 282 14) [vx0, vx1, vx2, zL x3, zU, zL x5, zU, vx7] [zI y0] (mm_z hi dh nx ns) Q =
    (if y0 < 0 then mm_Cl 281 [zL x3, zL x5] (mm_z hi dh nx ns) (fun r h3 => mm_Wp 282 (bk_282_14.drop 6) [vx0, vx1, vx2, zL x3, zU, zL x5, zU, zI y0] (mm_push r []) h3 Q) else mm_Wp 282 (mm_blk 282 16) [vx0, vx1, vx2, zL x3, zU, zL x5, zU, zI y0] [zI y0] (mm_z hi dh nx ns) Q) :=
  mm_kb bq_282_14 ((wp_6 (l2 := [vx0, vx1, vx2, zL x3, zU, zL x5, zU, zI y0]) rfl).trans ((wp_3_7).trans ((wp_43).trans (mm_ic ((wp_4_3).trans ((wp_4_5).trans ((wp_s2 mm_n_281 (mm_leq mm_m_281 (mm_lb rfl)) (mm_lb rfl)).trans rfl))) (mm_kb bq_282_15 ((wp_3_7).trans ((wp_0).trans (rfl))))))))
theorem r_282_12_10 (vx0 : mm_V) (vx1 : mm_V) (vx2 : mm_V) (x3 : Int) (x5 : Int) (vx7 : mm_V) (y0 : Int) {hi : mm_Id → Int → Int} {dh : Int → Int} {nx ns : Int} {Q : mm_V → mm_H → Prop} (hy : 5306 ≤ nx) :
    mm_Wp 282 (bk_282_12.drop 10) [vx0, vx1, vx2, zL x3, zU, zL x5, zU, vx7] [zI y0] (mm_z hi dh nx ns) Q =
    mm_Wp 282 (mm_blk 282 14) [vx0, vx1, vx2, zL x3, zU, zL x5, zU, vx7] [zI y0] (mm_z hi dh nx ns) Q :=
  (wp_56).trans (rfl)
theorem r_282_16 (vx0 : mm_V) (vx1 : mm_V) (vx2 : mm_V) (x3 : Int) (x5 : Int) (vx7 : mm_V) (y0 : Int) {hi : mm_Id → Int → Int} {dh : Int → Int} {nx ns : Int} {Q : mm_V → mm_H → Prop} (hy : 5306 ≤ nx) :
    mm_Wp 282 (mm_blk 282 16) [vx0, vx1, vx2, zL x3, zU, zL x5, zU, vx7] [zI y0] (mm_z hi dh nx ns) Q =
    Q (zI y0) (mm_z hi dh nx ns) :=
  mm_kb bq_282_16 (wp_90)
theorem r_282_14_6 (vx0 : mm_V) (vx1 : mm_V) (vx2 : mm_V) (x3 : Int) (x5 : Int) (vx7 : mm_V) (y0 : Int) {hi : mm_Id → Int → Int} {dh : Int → Int} {nx ns : Int} {Q : mm_V → mm_H → Prop} (hy : 5306 ≤ nx) :
    mm_Wp 282 (bk_282_14.drop 6) [vx0, vx1, vx2, zL x3, zU, zL x5, zU, vx7] [zI y0] (mm_z hi dh nx ns) Q =
    mm_Wp 282 (mm_blk 282 16) [vx0, vx1, vx2, zL x3, zU, zL x5, zU, vx7] [zI y0] (mm_z hi dh nx ns) Q :=
  (wp_56).trans (rfl)
/-- PoolHouseModel.kindsOf(I)I -/
theorem bq_283_0 : mm_blk 283 0 = bk_283_0 := by decide +kernel
theorem bq_283_1 : mm_blk 283 1 = bk_283_1 := by decide +kernel
theorem bq_283_2 : mm_blk 283 2 = bk_283_2 := by decide +kernel
theorem bq_283_3 : mm_blk 283 3 = bk_283_3 := by decide +kernel
theorem bq_283_4 : mm_blk 283 4 = bk_283_4 := by decide +kernel
theorem bq_283_5 : mm_blk 283 5 = bk_283_5 := by decide +kernel
theorem bq_283_6 : mm_blk 283 6 = bk_283_6 := by decide +kernel
theorem bq_283_7 : mm_blk 283 7 = bk_283_7 := by decide +kernel
theorem bq_283_8 : mm_blk 283 8 = bk_283_8 := by decide +kernel
theorem bq_283_9 : mm_blk 283 9 = bk_283_9 := by decide +kernel
theorem bq_283_10 : mm_blk 283 10 = bk_283_10 := by decide +kernel
theorem bq_283_11 : mm_blk 283 11 = bk_283_11 := by decide +kernel
theorem bq_283_12 : mm_blk 283 12 = bk_283_12 := by decide +kernel
theorem bq_283_13 : mm_blk 283 13 = bk_283_13 := by decide +kernel
theorem r_283_e (x0 : Int) {hi : mm_Id → Int → Int} {dh : Int → Int} {nx ns : Int} {Q : mm_V → mm_H → Prop} (hy : 5306 ≤ nx) :
    mm_Cl 283 [zI x0] (mm_z hi dh nx ns) Q =
    mm_Wp 283 (mm_blk 283 (mm_sw 5 x0)) [zI x0] [] (mm_z hi dh nx ns) Q :=
  mm_ce (l2 := [zI x0]) rfl (mm_kb bq_283_0 ((wp_3_0).trans (wp_57 rfl)))
theorem r_283_1 (vx0 : mm_V) {hi : mm_Id → Int → Int} {dh : Int → Int} {nx ns : Int} {Q : mm_V → mm_H → Prop} (hy : 5306 ≤ nx) :
    mm_Wp 283 (mm_blk 283 1) [vx0] [] (mm_z hi dh nx ns) Q =
    Q (zI 0) (mm_z hi dh nx ns) :=
  mm_kb bq_283_1 ((wp_1).trans (wp_90))
theorem r_283_2 (vx0 : mm_V) {hi : mm_Id → Int → Int} {dh : Int → Int} {nx ns : Int} {Q : mm_V → mm_H → Prop} (hy : 5306 ≤ nx) :
    mm_Wp 283 (mm_blk 283 2) [vx0] [] (mm_z hi dh nx ns) Q =
    Q (zI 1) (mm_z hi dh nx ns) :=
  mm_kb bq_283_2 ((wp_1).trans (wp_90))
theorem r_283_3 (vx0 : mm_V) {hi : mm_Id → Int → Int} {dh : Int → Int} {nx ns : Int} {Q : mm_V → mm_H → Prop} (hy : 5306 ≤ nx) :
    mm_Wp 283 (mm_blk 283 3) [vx0] [] (mm_z hi dh nx ns) Q =
    Q (zI 3) (mm_z hi dh nx ns) :=
  mm_kb bq_283_3 ((wp_1).trans (wp_90))
theorem r_283_4 (vx0 : mm_V) {hi : mm_Id → Int → Int} {dh : Int → Int} {nx ns : Int} {Q : mm_V → mm_H → Prop} (hy : 5306 ≤ nx) :
    mm_Wp 283 (mm_blk 283 4) [vx0] [] (mm_z hi dh nx ns) Q =
    Q (zI 5) (mm_z hi dh nx ns) :=
  mm_kb bq_283_4 ((wp_1).trans (wp_90))
theorem r_283_5 (vx0 : mm_V) {hi : mm_Id → Int → Int} {dh : Int → Int} {nx ns : Int} {Q : mm_V → mm_H → Prop} (hy : 5306 ≤ nx) :
    mm_Wp 283 (mm_blk 283 5) [vx0] [] (mm_z hi dh nx ns) Q =
    Q (zI 13) (mm_z hi dh nx ns) :=
  mm_kb bq_283_5 ((wp_1).trans (wp_90))
theorem r_283_6 (vx0 : mm_V) {hi : mm_Id → Int → Int} {dh : Int → Int} {nx ns : Int} {Q : mm_V → mm_H → Prop} (hy : 5306 ≤ nx) :
    mm_Wp 283 (mm_blk 283 6) [vx0] [] (mm_z hi dh nx ns) Q =
    Q (zI 21) (mm_z hi dh nx ns) :=
  mm_kb bq_283_6 ((wp_1).trans (wp_90))
theorem r_283_7 (vx0 : mm_V) {hi : mm_Id → Int → Int} {dh : Int → Int} {nx ns : Int} {Q : mm_V → mm_H → Prop} (hy : 5306 ≤ nx) :
    mm_Wp 283 (mm_blk 283 7) [vx0] [] (mm_z hi dh nx ns) Q =
    Q (zI 53) (mm_z hi dh nx ns) :=
  mm_kb bq_283_7 ((wp_1).trans (wp_90))
theorem r_283_8 (vx0 : mm_V) {hi : mm_Id → Int → Int} {dh : Int → Int} {nx ns : Int} {Q : mm_V → mm_H → Prop} (hy : 5306 ≤ nx) :
    mm_Wp 283 (mm_blk 283 8) [vx0] [] (mm_z hi dh nx ns) Q =
    Q (zI 85) (mm_z hi dh nx ns) :=
  mm_kb bq_283_8 ((wp_1).trans (wp_90))
theorem r_283_9 (vx0 : mm_V) {hi : mm_Id → Int → Int} {dh : Int → Int} {nx ns : Int} {Q : mm_V → mm_H → Prop} (hy : 5306 ≤ nx) :
    mm_Wp 283 (mm_blk 283 9) [vx0] [] (mm_z hi dh nx ns) Q =
    Q (zI 213) (mm_z hi dh nx ns) :=
  mm_kb bq_283_9 ((wp_1).trans (wp_90))
theorem r_283_10 (vx0 : mm_V) {hi : mm_Id → Int → Int} {dh : Int → Int} {nx ns : Int} {Q : mm_V → mm_H → Prop} (hy : 5306 ≤ nx) :
    mm_Wp 283 (mm_blk 283 10) [vx0] [] (mm_z hi dh nx ns) Q =
    Q (zI 341) (mm_z hi dh nx ns) :=
  mm_kb bq_283_10 ((wp_1).trans (wp_90))
theorem r_283_11 (vx0 : mm_V) {hi : mm_Id → Int → Int} {dh : Int → Int} {nx ns : Int} {Q : mm_V → mm_H → Prop} (hy : 5306 ≤ nx) :
    mm_Wp 283 (mm_blk 283 11) [vx0] [] (mm_z hi dh nx ns) Q =
    Q (zI 405) (mm_z hi dh nx ns) :=
  mm_kb bq_283_11 ((wp_1).trans (wp_90))
theorem r_283_12 (vx0 : mm_V) {hi : mm_Id → Int → Int} {dh : Int → Int} {nx ns : Int} {Q : mm_V → mm_H → Prop} (hy : 5306 ≤ nx) :
    mm_Wp 283 (mm_blk 283 12) [vx0] [] (mm_z hi dh nx ns) Q =
    Q (zI 917) (mm_z hi dh nx ns) :=
  mm_kb bq_283_12 ((wp_1).trans (wp_90))
theorem r_283_13 (vx0 : mm_V) {hi : mm_Id → Int → Int} {dh : Int → Int} {nx ns : Int} {Q : mm_V → mm_H → Prop} (hy : 5306 ≤ nx) :
    mm_Wp 283 (mm_blk 283 13) [vx0] [] (mm_z hi dh nx ns) Q =
    Q (zI 0) (mm_z hi dh nx ns) :=
  mm_kb bq_283_13 ((wp_1).trans (wp_90))
/-- PoolHouseModel.done0(I)J -/
theorem bq_284_0 : mm_blk 284 0 = bk_284_0 := by decide +kernel
theorem bq_284_1 : mm_blk 284 1 = bk_284_1 := by decide +kernel
theorem bq_284_2 : mm_blk 284 2 = bk_284_2 := by decide +kernel
theorem bq_284_3 : mm_blk 284 3 = bk_284_3 := by decide +kernel
theorem bq_284_4 : mm_blk 284 4 = bk_284_4 := by decide +kernel
theorem bq_284_5 : mm_blk 284 5 = bk_284_5 := by decide +kernel
theorem bq_284_6 : mm_blk 284 6 = bk_284_6 := by decide +kernel
theorem bq_284_7 : mm_blk 284 7 = bk_284_7 := by decide +kernel
theorem bq_284_8 : mm_blk 284 8 = bk_284_8 := by decide +kernel
theorem bq_284_9 : mm_blk 284 9 = bk_284_9 := by decide +kernel
theorem bq_284_10 : mm_blk 284 10 = bk_284_10 := by decide +kernel
theorem bq_284_11 : mm_blk 284 11 = bk_284_11 := by decide +kernel
theorem bq_284_12 : mm_blk 284 12 = bk_284_12 := by decide +kernel
theorem bq_284_13 : mm_blk 284 13 = bk_284_13 := by decide +kernel
theorem bq_284_14 : mm_blk 284 14 = bk_284_14 := by decide +kernel
theorem bq_284_15 : mm_blk 284 15 = bk_284_15 := by decide +kernel
theorem bq_284_16 : mm_blk 284 16 = bk_284_16 := by decide +kernel
theorem bq_284_17 : mm_blk 284 17 = bk_284_17 := by decide +kernel
theorem bq_284_18 : mm_blk 284 18 = bk_284_18 := by decide +kernel
theorem bq_284_19 : mm_blk 284 19 = bk_284_19 := by decide +kernel
theorem bq_284_20 : mm_blk 284 20 = bk_284_20 := by decide +kernel
theorem bq_284_21 : mm_blk 284 21 = bk_284_21 := by decide +kernel
theorem r_284_e (x1 : Int) {hi : mm_Id → Int → Int} {dh : Int → Int} {nx ns : Int} {Q : mm_V → mm_H → Prop} (hy : 5306 ≤ nx) :
    mm_Cl 284 [zR (40, 0, 0), zI x1] (mm_z hi dh nx ns) Q =
    mm_Wp 284 (mm_blk 284 (mm_sw 6 x1)) [zR (40, 0, 0), zI x1] [] (mm_z hi dh nx ns) Q :=
  mm_ce (l2 := [zR (40, 0, 0), zI x1]) rfl (mm_kb bq_284_0 ((wp_3_1).trans (wp_57 rfl)))
theorem r_284_1 (vx1 : mm_V) {hi : mm_Id → Int → Int} {dh : Int → Int} {nx ns : Int} {Q : mm_V → mm_H → Prop} (hy : 5306 ≤ nx) :
    mm_Wp 284 (mm_blk 284 1) [zR (40, 0, 0), vx1] [] (mm_z hi dh nx ns) Q =
    mm_Cl 212 [zR (40, 0, 0), zI (mm_w (hi (70, 0, 0) 0)), zI (mm_w (hi (70, 0, 0) 1)), zI (mm_w (hi (70, 0, 0) 2)), zI (mm_w (hi (70, 0, 0) 3))] (mm_z hi dh nx ns) (fun r h3 => mm_Wp 284 (bk_284_1.drop 22) [zR (40, 0, 0), vx1] (mm_push r []) h3 Q) :=
  mm_kb bq_284_1 ((wp_5_0).trans ((wp_5_0).trans ((wp_62 (by decide) (mm_o40 hy) (mm_r40_47 hy)).trans ((wp_1).trans ((wp_72k (mm_q70 hy) (by decide)).trans ((wp_32).trans ((wp_5_0).trans ((wp_62 (by decide) (mm_o40 hy) (mm_r40_47 hy)).trans ((wp_1).trans ((wp_72k (mm_q70 hy) (by decide)).trans ((wp_32).trans ((wp_5_0).trans ((wp_62 (by decide) (mm_o40 hy) (mm_r40_47 hy)).trans ((wp_1).trans ((wp_72k (mm_q70 hy) (by decide)).trans ((wp_32).trans ((wp_5_0).trans ((wp_62 (by decide) (mm_o40 hy) (mm_r40_47 hy)).trans ((wp_1).trans ((wp_72k (mm_q70 hy) (by decide)).trans ((wp_32).trans ((wp_v5 mm_n_212 (mm_leq mm_m_212 (mm_lb rfl)) (mm_lb rfl) (mm_o40 hy)).trans rfl))))))))))))))))))))))
theorem r_284_2 (vx1 : mm_V) {hi : mm_Id → Int → Int} {dh : Int → Int} {nx ns : Int} {Q : mm_V → mm_H → Prop} (hy : 5306 ≤ nx) :
    mm_Wp 284 (mm_blk 284 2) [zR (40, 0, 0), vx1] [] (mm_z hi dh nx ns) Q =
    mm_Cl 214 [zR (40, 0, 0), zI (mm_w (hi (70, 0, 0) 0))] (mm_z hi dh nx ns) (fun r h3 => mm_Wp 284 (bk_284_2.drop 7) [zR (40, 0, 0), vx1] (mm_push r []) h3 Q) :=
  mm_kb bq_284_2 ((wp_5_0).trans ((wp_5_0).trans ((wp_62 (by decide) (mm_o40 hy) (mm_r40_47 hy)).trans ((wp_1).trans ((wp_72k (mm_q70 hy) (by decide)).trans ((wp_32).trans ((wp_v2 mm_n_214 (mm_leq mm_m_214 (mm_lb rfl)) (mm_lb rfl) (mm_o40 hy)).trans rfl)))))))
theorem r_284_3 (vx1 : mm_V) {hi : mm_Id → Int → Int} {dh : Int → Int} {nx ns : Int} {Q : mm_V → mm_H → Prop} (hy : 5306 ≤ nx) :
    mm_Wp 284 (mm_blk 284 3) [zR (40, 0, 0), vx1] [] (mm_z hi dh nx ns) Q =
    (if (mm_cmp (hi (70, 0, 0) 3) 1) = 0 then mm_Wp 284 (mm_blk 284 5) [zR (40, 0, 0), vx1] [zI 1, zI (mm_w (hi (70, 0, 0) 2)), zI (mm_w (hi (70, 0, 0) 1)), zI (mm_w (hi (70, 0, 0) 0)), zR (40, 0, 0)] (mm_z hi dh nx ns) Q else mm_Wp 284 (mm_blk 284 5) [zR (40, 0, 0), vx1] [zI 0, zI (mm_w (hi (70, 0, 0) 2)), zI (mm_w (hi (70, 0, 0) 1)), zI (mm_w (hi (70, 0, 0) 0)), zR (40, 0, 0)] (mm_z hi dh nx ns) Q) :=
  mm_kb bq_284_3 ((wp_5_0).trans ((wp_5_0).trans ((wp_62 (by decide) (mm_o40 hy) (mm_r40_47 hy)).trans ((wp_1).trans ((wp_72k (mm_q70 hy) (by decide)).trans ((wp_32).trans ((wp_5_0).trans ((wp_62 (by decide) (mm_o40 hy) (mm_r40_47 hy)).trans ((wp_1).trans ((wp_72k (mm_q70 hy) (by decide)).trans ((wp_32).trans ((wp_5_0).trans ((wp_62 (by decide) (mm_o40 hy) (mm_r40_47 hy)).trans ((wp_1).trans ((wp_72k (mm_q70 hy) (by decide)).trans ((wp_32).trans ((wp_5_0).trans ((wp_62 (by decide) (mm_o40 hy) (mm_r40_47 hy)).trans ((wp_1).trans ((wp_72k (mm_q70 hy) (by decide)).trans ((wp_2).trans ((wp_34).trans ((wp_41).trans (mm_ic ((wp_1).trans ((wp_56).trans (rfl))) (mm_kb bq_284_4 ((wp_1).trans ((wp_0).trans (rfl))))))))))))))))))))))))))))
theorem r_284_6 (vx1 : mm_V) {hi : mm_Id → Int → Int} {dh : Int → Int} {nx ns : Int} {Q : mm_V → mm_H → Prop} (hy : 5306 ≤ nx) :
    mm_Wp 284 (mm_blk 284 6) [zR (40, 0, 0), vx1] [] (mm_z hi dh nx ns) Q =
    (if (mm_cmp (hi (70, 0, 0) 2) 1) = 0 then mm_Wp 284 (mm_blk 284 8) [zR (40, 0, 0), vx1] [zI 1, zI (mm_w (hi (70, 0, 0) 1)), zI (mm_w (hi (70, 0, 0) 0)), zR (40, 0, 0)] (mm_z hi dh nx ns) Q else mm_Wp 284 (mm_blk 284 8) [zR (40, 0, 0), vx1] [zI 0, zI (mm_w (hi (70, 0, 0) 1)), zI (mm_w (hi (70, 0, 0) 0)), zR (40, 0, 0)] (mm_z hi dh nx ns) Q) :=
  mm_kb bq_284_6 ((wp_5_0).trans ((wp_5_0).trans ((wp_62 (by decide) (mm_o40 hy) (mm_r40_47 hy)).trans ((wp_1).trans ((wp_72k (mm_q70 hy) (by decide)).trans ((wp_32).trans ((wp_5_0).trans ((wp_62 (by decide) (mm_o40 hy) (mm_r40_47 hy)).trans ((wp_1).trans ((wp_72k (mm_q70 hy) (by decide)).trans ((wp_32).trans ((wp_5_0).trans ((wp_62 (by decide) (mm_o40 hy) (mm_r40_47 hy)).trans ((wp_1).trans ((wp_72k (mm_q70 hy) (by decide)).trans ((wp_2).trans ((wp_34).trans ((wp_41).trans (mm_ic ((wp_1).trans ((wp_56).trans (rfl))) (mm_kb bq_284_7 ((wp_1).trans ((wp_0).trans (rfl)))))))))))))))))))))))
theorem r_284_9 (vx1 : mm_V) {hi : mm_Id → Int → Int} {dh : Int → Int} {nx ns : Int} {Q : mm_V → mm_H → Prop} (hy : 5306 ≤ nx) :
    mm_Wp 284 (mm_blk 284 9) [zR (40, 0, 0), vx1] [] (mm_z hi dh nx ns) Q =
    mm_Cl 217 [zR (40, 0, 0), zI (mm_w (hi (70, 0, 0) 0)), zI (mm_w (hi (70, 0, 0) 1)), zI (mm_w (hi (70, 0, 0) 2))] (mm_z hi dh nx ns) (fun r h3 => mm_Wp 284 (bk_284_9.drop 17) [zR (40, 0, 0), vx1] (mm_push r []) h3 Q) :=
  mm_kb bq_284_9 ((wp_5_0).trans ((wp_5_0).trans ((wp_62 (by decide) (mm_o40 hy) (mm_r40_47 hy)).trans ((wp_1).trans ((wp_72k (mm_q70 hy) (by decide)).trans ((wp_32).trans ((wp_5_0).trans ((wp_62 (by decide) (mm_o40 hy) (mm_r40_47 hy)).trans ((wp_1).trans ((wp_72k (mm_q70 hy) (by decide)).trans ((wp_32).trans ((wp_5_0).trans ((wp_62 (by decide) (mm_o40 hy) (mm_r40_47 hy)).trans ((wp_1).trans ((wp_72k (mm_q70 hy) (by decide)).trans ((wp_32).trans ((wp_v4 mm_n_217 (mm_leq mm_m_217 (mm_lb rfl)) (mm_lb rfl) (mm_o40 hy)).trans rfl)))))))))))))))))
theorem r_284_10 (vx1 : mm_V) {hi : mm_Id → Int → Int} {dh : Int → Int} {nx ns : Int} {Q : mm_V → mm_H → Prop} (hy : 5306 ≤ nx) :
    mm_Wp 284 (mm_blk 284 10) [zR (40, 0, 0), vx1] [] (mm_z hi dh nx ns) Q =
    mm_Cl 218 [zR (40, 0, 0), zI (mm_w (hi (70, 0, 0) 0)), zI (mm_w (hi (70, 0, 0) 1)), zI (mm_w (hi (70, 0, 0) 2))] (mm_z hi dh nx ns) (fun r h3 => mm_Wp 284 (bk_284_10.drop 17) [zR (40, 0, 0), vx1] (mm_push r []) h3 Q) :=
  mm_kb bq_284_10 ((wp_5_0).trans ((wp_5_0).trans ((wp_62 (by decide) (mm_o40 hy) (mm_r40_47 hy)).trans ((wp_1).trans ((wp_72k (mm_q70 hy) (by decide)).trans ((wp_32).trans ((wp_5_0).trans ((wp_62 (by decide) (mm_o40 hy) (mm_r40_47 hy)).trans ((wp_1).trans ((wp_72k (mm_q70 hy) (by decide)).trans ((wp_32).trans ((wp_5_0).trans ((wp_62 (by decide) (mm_o40 hy) (mm_r40_47 hy)).trans ((wp_1).trans ((wp_72k (mm_q70 hy) (by decide)).trans ((wp_32).trans ((wp_v4 mm_n_218 (mm_leq mm_m_218 (mm_lb rfl)) (mm_lb rfl) (mm_o40 hy)).trans rfl)))))))))))))))))
theorem r_284_11 (vx1 : mm_V) {hi : mm_Id → Int → Int} {dh : Int → Int} {nx ns : Int} {Q : mm_V → mm_H → Prop} (hy : 5306 ≤ nx) :
    mm_Wp 284 (mm_blk 284 11) [zR (40, 0, 0), vx1] [] (mm_z hi dh nx ns) Q =
    mm_Cl 220 [zR (40, 0, 0), zI (mm_w (hi (70, 0, 0) 0)), zI (mm_w (hi (70, 0, 0) 1)), zI (mm_w (hi (70, 0, 0) 2)), zL (hi (70, 0, 0) 3), zI (mm_w (hi (70, 0, 0) 4))] (mm_z hi dh nx ns) (fun r h3 => mm_Wp 284 (bk_284_11.drop 26) [zR (40, 0, 0), vx1] (mm_push r []) h3 Q) :=
  mm_kb bq_284_11 ((wp_5_0).trans ((wp_5_0).trans ((wp_62 (by decide) (mm_o40 hy) (mm_r40_47 hy)).trans ((wp_1).trans ((wp_72k (mm_q70 hy) (by decide)).trans ((wp_32).trans ((wp_5_0).trans ((wp_62 (by decide) (mm_o40 hy) (mm_r40_47 hy)).trans ((wp_1).trans ((wp_72k (mm_q70 hy) (by decide)).trans ((wp_32).trans ((wp_5_0).trans ((wp_62 (by decide) (mm_o40 hy) (mm_r40_47 hy)).trans ((wp_1).trans ((wp_72k (mm_q70 hy) (by decide)).trans ((wp_32).trans ((wp_5_0).trans ((wp_62 (by decide) (mm_o40 hy) (mm_r40_47 hy)).trans ((wp_1).trans ((wp_72k (mm_q70 hy) (by decide)).trans ((wp_5_0).trans ((wp_62 (by decide) (mm_o40 hy) (mm_r40_47 hy)).trans ((wp_1).trans ((wp_72k (mm_q70 hy) (by decide)).trans ((wp_32).trans ((wp_v6 mm_n_220 (mm_leq mm_m_220 (mm_lb rfl)) (mm_lb rfl) (mm_o40 hy)).trans rfl))))))))))))))))))))))))))
theorem r_284_12 (vx1 : mm_V) {hi : mm_Id → Int → Int} {dh : Int → Int} {nx ns : Int} {Q : mm_V → mm_H → Prop} (hy : 5306 ≤ nx) :
    mm_Wp 284 (mm_blk 284 12) [zR (40, 0, 0), vx1] [] (mm_z hi dh nx ns) Q =
    mm_Cl 221 [zR (40, 0, 0), zI (mm_w (hi (70, 0, 0) 0)), zI (mm_w (hi (70, 0, 0) 1)), zI (mm_w (hi (70, 0, 0) 2))] (mm_z hi dh nx ns) (fun r h3 => mm_Wp 284 (bk_284_12.drop 17) [zR (40, 0, 0), vx1] (mm_push r []) h3 Q) :=
  mm_kb bq_284_12 ((wp_5_0).trans ((wp_5_0).trans ((wp_62 (by decide) (mm_o40 hy) (mm_r40_47 hy)).trans ((wp_1).trans ((wp_72k (mm_q70 hy) (by decide)).trans ((wp_32).trans ((wp_5_0).trans ((wp_62 (by decide) (mm_o40 hy) (mm_r40_47 hy)).trans ((wp_1).trans ((wp_72k (mm_q70 hy) (by decide)).trans ((wp_32).trans ((wp_5_0).trans ((wp_62 (by decide) (mm_o40 hy) (mm_r40_47 hy)).trans ((wp_1).trans ((wp_72k (mm_q70 hy) (by decide)).trans ((wp_32).trans ((wp_v4 mm_n_221 (mm_leq mm_m_221 (mm_lb rfl)) (mm_lb rfl) (mm_o40 hy)).trans rfl)))))))))))))))))
theorem r_284_13 (vx1 : mm_V) {hi : mm_Id → Int → Int} {dh : Int → Int} {nx ns : Int} {Q : mm_V → mm_H → Prop} (hy : 5306 ≤ nx) :
    mm_Wp 284 (mm_blk 284 13) [zR (40, 0, 0), vx1] [] (mm_z hi dh nx ns) Q =
    mm_Cl 222 [zR (40, 0, 0), zI (mm_w (hi (70, 0, 0) 0)), zI (mm_w (hi (70, 0, 0) 1)), zI (mm_w (hi (70, 0, 0) 2))] (mm_z hi dh nx ns) (fun r h3 => mm_Wp 284 (bk_284_13.drop 17) [zR (40, 0, 0), vx1] (mm_push r []) h3 Q) :=
  mm_kb bq_284_13 ((wp_5_0).trans ((wp_5_0).trans ((wp_62 (by decide) (mm_o40 hy) (mm_r40_47 hy)).trans ((wp_1).trans ((wp_72k (mm_q70 hy) (by decide)).trans ((wp_32).trans ((wp_5_0).trans ((wp_62 (by decide) (mm_o40 hy) (mm_r40_47 hy)).trans ((wp_1).trans ((wp_72k (mm_q70 hy) (by decide)).trans ((wp_32).trans ((wp_5_0).trans ((wp_62 (by decide) (mm_o40 hy) (mm_r40_47 hy)).trans ((wp_1).trans ((wp_72k (mm_q70 hy) (by decide)).trans ((wp_32).trans ((wp_v4 mm_n_222 (mm_leq mm_m_222 (mm_lb rfl)) (mm_lb rfl) (mm_o40 hy)).trans rfl)))))))))))))))))
theorem r_284_14 (vx1 : mm_V) {hi : mm_Id → Int → Int} {dh : Int → Int} {nx ns : Int} {Q : mm_V → mm_H → Prop} (hy : 5306 ≤ nx) :
    mm_Wp 284 (mm_blk 284 14) [zR (40, 0, 0), vx1] [] (mm_z hi dh nx ns) Q =
    mm_Cl 223 [zR (40, 0, 0), zI (mm_w (hi (70, 0, 0) 0)), zI (mm_w (hi (70, 0, 0) 1)), zI (mm_w (hi (70, 0, 0) 2)), zI (mm_w (hi (70, 0, 0) 3))] (mm_z hi dh nx ns) (fun r h3 => mm_Wp 284 (bk_284_14.drop 22) [zR (40, 0, 0), vx1] (mm_push r []) h3 Q) :=
  mm_kb bq_284_14 ((wp_5_0).trans ((wp_5_0).trans ((wp_62 (by decide) (mm_o40 hy) (mm_r40_47 hy)).trans ((wp_1).trans ((wp_72k (mm_q70 hy) (by decide)).trans ((wp_32).trans ((wp_5_0).trans ((wp_62 (by decide) (mm_o40 hy) (mm_r40_47 hy)).trans ((wp_1).trans ((wp_72k (mm_q70 hy) (by decide)).trans ((wp_32).trans ((wp_5_0).trans ((wp_62 (by decide) (mm_o40 hy) (mm_r40_47 hy)).trans ((wp_1).trans ((wp_72k (mm_q70 hy) (by decide)).trans ((wp_32).trans ((wp_5_0).trans ((wp_62 (by decide) (mm_o40 hy) (mm_r40_47 hy)).trans ((wp_1).trans ((wp_72k (mm_q70 hy) (by decide)).trans ((wp_32).trans ((wp_v5 mm_n_223 (mm_leq mm_m_223 (mm_lb rfl)) (mm_lb rfl) (mm_o40 hy)).trans rfl))))))))))))))))))))))
theorem r_284_15 (vx1 : mm_V) {hi : mm_Id → Int → Int} {dh : Int → Int} {nx ns : Int} {Q : mm_V → mm_H → Prop} (hy : 5306 ≤ nx) :
    mm_Wp 284 (mm_blk 284 15) [zR (40, 0, 0), vx1] [] (mm_z hi dh nx ns) Q =
    mm_Cl 225 [zR (40, 0, 0), zI (mm_w (hi (70, 0, 0) 0)), zI (mm_w (hi (70, 0, 0) 1)), zI (mm_w (hi (70, 0, 0) 2))] (mm_z hi dh nx ns) (fun r h3 => mm_Wp 284 (bk_284_15.drop 17) [zR (40, 0, 0), vx1] (mm_push r []) h3 Q) :=
  mm_kb bq_284_15 ((wp_5_0).trans ((wp_5_0).trans ((wp_62 (by decide) (mm_o40 hy) (mm_r40_47 hy)).trans ((wp_1).trans ((wp_72k (mm_q70 hy) (by decide)).trans ((wp_32).trans ((wp_5_0).trans ((wp_62 (by decide) (mm_o40 hy) (mm_r40_47 hy)).trans ((wp_1).trans ((wp_72k (mm_q70 hy) (by decide)).trans ((wp_32).trans ((wp_5_0).trans ((wp_62 (by decide) (mm_o40 hy) (mm_r40_47 hy)).trans ((wp_1).trans ((wp_72k (mm_q70 hy) (by decide)).trans ((wp_32).trans ((wp_v4 mm_n_225 (mm_leq mm_m_225 (mm_lb rfl)) (mm_lb rfl) (mm_o40 hy)).trans rfl)))))))))))))))))
theorem r_284_16 (vx1 : mm_V) {hi : mm_Id → Int → Int} {dh : Int → Int} {nx ns : Int} {Q : mm_V → mm_H → Prop} (hy : 5306 ≤ nx) :
    mm_Wp 284 (mm_blk 284 16) [zR (40, 0, 0), vx1] [] (mm_z hi dh nx ns) Q =
    mm_Cl 227 [zR (40, 0, 0), zI (mm_w (hi (70, 0, 0) 0)), zI (mm_w (hi (70, 0, 0) 1)), zI (mm_w (hi (70, 0, 0) 2)), zI (mm_w (hi (70, 0, 0) 3)), zI (mm_w (hi (70, 0, 0) 4))] (mm_z hi dh nx ns) (fun r h3 => mm_Wp 284 (bk_284_16.drop 27) [zR (40, 0, 0), vx1] (mm_push r []) h3 Q) :=
  mm_kb bq_284_16 ((wp_5_0).trans ((wp_5_0).trans ((wp_62 (by decide) (mm_o40 hy) (mm_r40_47 hy)).trans ((wp_1).trans ((wp_72k (mm_q70 hy) (by decide)).trans ((wp_32).trans ((wp_5_0).trans ((wp_62 (by decide) (mm_o40 hy) (mm_r40_47 hy)).trans ((wp_1).trans ((wp_72k (mm_q70 hy) (by decide)).trans ((wp_32).trans ((wp_5_0).trans ((wp_62 (by decide) (mm_o40 hy) (mm_r40_47 hy)).trans ((wp_1).trans ((wp_72k (mm_q70 hy) (by decide)).trans ((wp_32).trans ((wp_5_0).trans ((wp_62 (by decide) (mm_o40 hy) (mm_r40_47 hy)).trans ((wp_1).trans ((wp_72k (mm_q70 hy) (by decide)).trans ((wp_32).trans ((wp_5_0).trans ((wp_62 (by decide) (mm_o40 hy) (mm_r40_47 hy)).trans ((wp_1).trans ((wp_72k (mm_q70 hy) (by decide)).trans ((wp_32).trans ((wp_v6 mm_n_227 (mm_leq mm_m_227 (mm_lb rfl)) (mm_lb rfl) (mm_o40 hy)).trans rfl)))))))))))))))))))))))))))
theorem r_284_17 (vx1 : mm_V) {hi : mm_Id → Int → Int} {dh : Int → Int} {nx ns : Int} {Q : mm_V → mm_H → Prop} (hy : 5306 ≤ nx) :
    mm_Wp 284 (mm_blk 284 17) [zR (40, 0, 0), vx1] [] (mm_z hi dh nx ns) Q =
    mm_Cl 228 [zR (40, 0, 0), zI (mm_w (hi (70, 0, 0) 0)), zI (mm_w (hi (70, 0, 0) 1)), zI (mm_w (hi (70, 0, 0) 2))] (mm_z hi dh nx ns) (fun r h3 => mm_Wp 284 (bk_284_17.drop 17) [zR (40, 0, 0), vx1] (mm_push r []) h3 Q) :=
  mm_kb bq_284_17 ((wp_5_0).trans ((wp_5_0).trans ((wp_62 (by decide) (mm_o40 hy) (mm_r40_47 hy)).trans ((wp_1).trans ((wp_72k (mm_q70 hy) (by decide)).trans ((wp_32).trans ((wp_5_0).trans ((wp_62 (by decide) (mm_o40 hy) (mm_r40_47 hy)).trans ((wp_1).trans ((wp_72k (mm_q70 hy) (by decide)).trans ((wp_32).trans ((wp_5_0).trans ((wp_62 (by decide) (mm_o40 hy) (mm_r40_47 hy)).trans ((wp_1).trans ((wp_72k (mm_q70 hy) (by decide)).trans ((wp_32).trans ((wp_v4 mm_n_228 (mm_leq mm_m_228 (mm_lb rfl)) (mm_lb rfl) (mm_o40 hy)).trans rfl)))))))))))))))))
theorem r_284_18 (vx1 : mm_V) {hi : mm_Id → Int → Int} {dh : Int → Int} {nx ns : Int} {Q : mm_V → mm_H → Prop} (hy : 5306 ≤ nx) :
    mm_Wp 284 (mm_blk 284 18) [zR (40, 0, 0), vx1] [] (mm_z hi dh nx ns) Q =
    mm_Cl 229 [zR (40, 0, 0), zI (mm_w (hi (70, 0, 0) 0)), zI (mm_w (hi (70, 0, 0) 1)), zI (mm_w (hi (70, 0, 0) 2))] (mm_z hi dh nx ns) (fun r h3 => mm_Wp 284 (bk_284_18.drop 17) [zR (40, 0, 0), vx1] (mm_push r []) h3 Q) :=
  mm_kb bq_284_18 ((wp_5_0).trans ((wp_5_0).trans ((wp_62 (by decide) (mm_o40 hy) (mm_r40_47 hy)).trans ((wp_1).trans ((wp_72k (mm_q70 hy) (by decide)).trans ((wp_32).trans ((wp_5_0).trans ((wp_62 (by decide) (mm_o40 hy) (mm_r40_47 hy)).trans ((wp_1).trans ((wp_72k (mm_q70 hy) (by decide)).trans ((wp_32).trans ((wp_5_0).trans ((wp_62 (by decide) (mm_o40 hy) (mm_r40_47 hy)).trans ((wp_1).trans ((wp_72k (mm_q70 hy) (by decide)).trans ((wp_32).trans ((wp_v4 mm_n_229 (mm_leq mm_m_229 (mm_lb rfl)) (mm_lb rfl) (mm_o40 hy)).trans rfl)))))))))))))))))
theorem r_284_19 (vx1 : mm_V) {hi : mm_Id → Int → Int} {dh : Int → Int} {nx ns : Int} {Q : mm_V → mm_H → Prop} (hy : 5306 ≤ nx) :
    mm_Wp 284 (mm_blk 284 19) [zR (40, 0, 0), vx1] [] (mm_z hi dh nx ns) Q =
    mm_Cl 230 [zR (40, 0, 0), zI (mm_w (hi (70, 0, 0) 0)), zI (mm_w (hi (70, 0, 0) 1)), zI (mm_w (hi (70, 0, 0) 2))] (mm_z hi dh nx ns) (fun r h3 => mm_Wp 284 (bk_284_19.drop 17) [zR (40, 0, 0), vx1] (mm_push r []) h3 Q) :=
  mm_kb bq_284_19 ((wp_5_0).trans ((wp_5_0).trans ((wp_62 (by decide) (mm_o40 hy) (mm_r40_47 hy)).trans ((wp_1).trans ((wp_72k (mm_q70 hy) (by decide)).trans ((wp_32).trans ((wp_5_0).trans ((wp_62 (by decide) (mm_o40 hy) (mm_r40_47 hy)).trans ((wp_1).trans ((wp_72k (mm_q70 hy) (by decide)).trans ((wp_32).trans ((wp_5_0).trans ((wp_62 (by decide) (mm_o40 hy) (mm_r40_47 hy)).trans ((wp_1).trans ((wp_72k (mm_q70 hy) (by decide)).trans ((wp_32).trans ((wp_v4 mm_n_230 (mm_leq mm_m_230 (mm_lb rfl)) (mm_lb rfl) (mm_o40 hy)).trans rfl)))))))))))))))))
theorem r_284_20 (vx1 : mm_V) {hi : mm_Id → Int → Int} {dh : Int → Int} {nx ns : Int} {Q : mm_V → mm_H → Prop} (hy : 5306 ≤ nx) :
    mm_Wp 284 (mm_blk 284 20) [zR (40, 0, 0), vx1] [] (mm_z hi dh nx ns) Q =
    mm_Cl 232 [zR (40, 0, 0), zI (mm_w (hi (70, 0, 0) 0)), zI (mm_w (hi (70, 0, 0) 1)), zI (mm_w (hi (70, 0, 0) 2))] (mm_z hi dh nx ns) (fun r h3 => mm_Wp 284 (bk_284_20.drop 17) [zR (40, 0, 0), vx1] (mm_push r []) h3 Q) :=
  mm_kb bq_284_20 ((wp_5_0).trans ((wp_5_0).trans ((wp_62 (by decide) (mm_o40 hy) (mm_r40_47 hy)).trans ((wp_1).trans ((wp_72k (mm_q70 hy) (by decide)).trans ((wp_32).trans ((wp_5_0).trans ((wp_62 (by decide) (mm_o40 hy) (mm_r40_47 hy)).trans ((wp_1).trans ((wp_72k (mm_q70 hy) (by decide)).trans ((wp_32).trans ((wp_5_0).trans ((wp_62 (by decide) (mm_o40 hy) (mm_r40_47 hy)).trans ((wp_1).trans ((wp_72k (mm_q70 hy) (by decide)).trans ((wp_32).trans ((wp_v4 mm_n_232 (mm_leq mm_m_232 (mm_lb rfl)) (mm_lb rfl) (mm_o40 hy)).trans rfl)))))))))))))))))
theorem r_284_21 (vx0 : mm_V) (vx1 : mm_V) {hi : mm_Id → Int → Int} {dh : Int → Int} {nx ns : Int} {Q : mm_V → mm_H → Prop} (hy : 5306 ≤ nx) :
    mm_Wp 284 (mm_blk 284 21) [vx0, vx1] [] (mm_z hi dh nx ns) Q =
    Q (zL 0) (mm_z hi dh nx ns) :=
  mm_kb bq_284_21 ((wp_2).trans (wp_91))
theorem r_284_1_22 (vx0 : mm_V) (vx1 : mm_V) (y0 : Int) {hi : mm_Id → Int → Int} {dh : Int → Int} {nx ns : Int} {Q : mm_V → mm_H → Prop} (hy : 5306 ≤ nx) :
    mm_Wp 284 (bk_284_1.drop 22) [vx0, vx1] [zI y0] (mm_z hi dh nx ns) Q =
    Q (zL y0) (mm_z hi dh nx ns) :=
  (wp_31).trans (wp_91)
theorem r_284_2_7 (vx0 : mm_V) (vx1 : mm_V) (y0 : Int) {hi : mm_Id → Int → Int} {dh : Int → Int} {nx ns : Int} {Q : mm_V → mm_H → Prop} (hy : 5306 ≤ nx) :
    mm_Wp 284 (bk_284_2.drop 7) [vx0, vx1] [zI y0] (mm_z hi dh nx ns) Q =
    Q (zL y0) (mm_z hi dh nx ns) :=
  (wp_31).trans (wp_91)
theorem r_284_5 (vx0 : mm_V) (vx1 : mm_V) (y0 : Int) (y1 : Int) (y2 : Int) (y3 : Int) {hi : mm_Id → Int → Int} {dh : Int → Int} {nx ns : Int} {Q : mm_V → mm_H → Prop} (hy : 5306 ≤ nx) :
    mm_Wp 284 (mm_blk 284 5) [vx0, vx1] [zI y0, zI y1, zI y2, zI y3, zR (40, 0, 0)] (mm_z hi dh nx ns) Q =
    mm_Cl 215 [zR (40, 0, 0), zI y3, zI y2, zI y1, zI y0] (mm_z hi dh nx ns) (fun r h3 => mm_Wp 284 (bk_284_5.drop 1) [vx0, vx1] (mm_push r []) h3 Q) :=
  mm_kb bq_284_5 ((wp_v5 mm_n_215 (mm_leq mm_m_215 (mm_lb rfl)) (mm_lb rfl) (mm_o40 hy)).trans rfl)
theorem r_284_8 (vx0 : mm_V) (vx1 : mm_V) (y0 : Int) (y1 : Int) (y2 : Int) {hi : mm_Id → Int → Int} {dh : Int → Int} {nx ns : Int} {Q : mm_V → mm_H → Prop} (hy : 5306 ≤ nx) :
    mm_Wp 284 (mm_blk 284 8) [vx0, vx1] [zI y0, zI y1, zI y2, zR (40, 0, 0)] (mm_z hi dh nx ns) Q =
    mm_Cl 216 [zR (40, 0, 0), zI y2, zI y1, zI y0] (mm_z hi dh nx ns) (fun r h3 => mm_Wp 284 (bk_284_8.drop 1) [vx0, vx1] (mm_push r []) h3 Q) :=
  mm_kb bq_284_8 ((wp_v4 mm_n_216 (mm_leq mm_m_216 (mm_lb rfl)) (mm_lb rfl) (mm_o40 hy)).trans rfl)
theorem r_284_9_17 (vx0 : mm_V) (vx1 : mm_V) (y0 : Int) {hi : mm_Id → Int → Int} {dh : Int → Int} {nx ns : Int} {Q : mm_V → mm_H → Prop} (hy : 5306 ≤ nx) :
    mm_Wp 284 (bk_284_9.drop 17) [vx0, vx1] [zI y0] (mm_z hi dh nx ns) Q =
    Q (zL y0) (mm_z hi dh nx ns) :=
  (wp_31).trans (wp_91)
theorem r_284_10_17 (vx0 : mm_V) (vx1 : mm_V) (y0 : Int) {hi : mm_Id → Int → Int} {dh : Int → Int} {nx ns : Int} {Q : mm_V → mm_H → Prop} (hy : 5306 ≤ nx) :
    mm_Wp 284 (bk_284_10.drop 17) [vx0, vx1] [zI y0] (mm_z hi dh nx ns) Q =
    Q (zL y0) (mm_z hi dh nx ns) :=
  (wp_31).trans (wp_91)
theorem r_284_11_26 (vx0 : mm_V) (vx1 : mm_V) (y0 : Int) {hi : mm_Id → Int → Int} {dh : Int → Int} {nx ns : Int} {Q : mm_V → mm_H → Prop} (hy : 5306 ≤ nx) :
    mm_Wp 284 (bk_284_11.drop 26) [vx0, vx1] [zI y0] (mm_z hi dh nx ns) Q =
    Q (zL y0) (mm_z hi dh nx ns) :=
  (wp_31).trans (wp_91)
theorem r_284_12_17 (vx0 : mm_V) (vx1 : mm_V) (y0 : Int) {hi : mm_Id → Int → Int} {dh : Int → Int} {nx ns : Int} {Q : mm_V → mm_H → Prop} (hy : 5306 ≤ nx) :
    mm_Wp 284 (bk_284_12.drop 17) [vx0, vx1] [zI y0] (mm_z hi dh nx ns) Q =
    Q (zL y0) (mm_z hi dh nx ns) :=
  (wp_31).trans (wp_91)
theorem r_284_13_17 (vx0 : mm_V) (vx1 : mm_V) (y0 : Int) {hi : mm_Id → Int → Int} {dh : Int → Int} {nx ns : Int} {Q : mm_V → mm_H → Prop} (hy : 5306 ≤ nx) :
    mm_Wp 284 (bk_284_13.drop 17) [vx0, vx1] [zI y0] (mm_z hi dh nx ns) Q =
    Q (zL y0) (mm_z hi dh nx ns) :=
  (wp_31).trans (wp_91)
theorem r_284_14_22 (vx0 : mm_V) (vx1 : mm_V) (y0 : Int) {hi : mm_Id → Int → Int} {dh : Int → Int} {nx ns : Int} {Q : mm_V → mm_H → Prop} (hy : 5306 ≤ nx) :
    mm_Wp 284 (bk_284_14.drop 22) [vx0, vx1] [zI y0] (mm_z hi dh nx ns) Q =
    Q (zL y0) (mm_z hi dh nx ns) :=
  (wp_31).trans (wp_91)
theorem r_284_15_17 (vx0 : mm_V) (vx1 : mm_V) (y0 : Int) {hi : mm_Id → Int → Int} {dh : Int → Int} {nx ns : Int} {Q : mm_V → mm_H → Prop} (hy : 5306 ≤ nx) :
    mm_Wp 284 (bk_284_15.drop 17) [vx0, vx1] [zI y0] (mm_z hi dh nx ns) Q =
    Q (zL y0) (mm_z hi dh nx ns) :=
  (wp_31).trans (wp_91)
theorem r_284_16_27 (vx0 : mm_V) (vx1 : mm_V) (y0 : Int) {hi : mm_Id → Int → Int} {dh : Int → Int} {nx ns : Int} {Q : mm_V → mm_H → Prop} (hy : 5306 ≤ nx) :
    mm_Wp 284 (bk_284_16.drop 27) [vx0, vx1] [zI y0] (mm_z hi dh nx ns) Q =
    Q (zL y0) (mm_z hi dh nx ns) :=
  (wp_31).trans (wp_91)
theorem r_284_17_17 (vx0 : mm_V) (vx1 : mm_V) (y0 : Int) {hi : mm_Id → Int → Int} {dh : Int → Int} {nx ns : Int} {Q : mm_V → mm_H → Prop} (hy : 5306 ≤ nx) :
    mm_Wp 284 (bk_284_17.drop 17) [vx0, vx1] [zI y0] (mm_z hi dh nx ns) Q =
    Q (zL y0) (mm_z hi dh nx ns) :=
  (wp_31).trans (wp_91)
theorem r_284_18_17 (vx0 : mm_V) (vx1 : mm_V) (y0 : Int) {hi : mm_Id → Int → Int} {dh : Int → Int} {nx ns : Int} {Q : mm_V → mm_H → Prop} (hy : 5306 ≤ nx) :
    mm_Wp 284 (bk_284_18.drop 17) [vx0, vx1] [zI y0] (mm_z hi dh nx ns) Q =
    Q (zL y0) (mm_z hi dh nx ns) :=
  (wp_31).trans (wp_91)
theorem r_284_19_17 (vx0 : mm_V) (vx1 : mm_V) (y0 : Int) {hi : mm_Id → Int → Int} {dh : Int → Int} {nx ns : Int} {Q : mm_V → mm_H → Prop} (hy : 5306 ≤ nx) :
    mm_Wp 284 (bk_284_19.drop 17) [vx0, vx1] [zI y0] (mm_z hi dh nx ns) Q =
    Q (zL y0) (mm_z hi dh nx ns) :=
  (wp_31).trans (wp_91)
theorem r_284_20_17 (vx0 : mm_V) (vx1 : mm_V) (y0 : Int) {hi : mm_Id → Int → Int} {dh : Int → Int} {nx ns : Int} {Q : mm_V → mm_H → Prop} (hy : 5306 ≤ nx) :
    mm_Wp 284 (bk_284_20.drop 17) [vx0, vx1] [zI y0] (mm_z hi dh nx ns) Q =
    Q (zL y0) (mm_z hi dh nx ns) :=
  (wp_31).trans (wp_91)
theorem r_284_5_1 (vx0 : mm_V) (vx1 : mm_V) (y0 : Int) {hi : mm_Id → Int → Int} {dh : Int → Int} {nx ns : Int} {Q : mm_V → mm_H → Prop} (hy : 5306 ≤ nx) :
    mm_Wp 284 (bk_284_5.drop 1) [vx0, vx1] [zI y0] (mm_z hi dh nx ns) Q =
    Q (zL y0) (mm_z hi dh nx ns) :=
  (wp_31).trans (wp_91)
theorem r_284_8_1 (vx0 : mm_V) (vx1 : mm_V) (y0 : Int) {hi : mm_Id → Int → Int} {dh : Int → Int} {nx ns : Int} {Q : mm_V → mm_H → Prop} (hy : 5306 ≤ nx) :
    mm_Wp 284 (bk_284_8.drop 1) [vx0, vx1] [zI y0] (mm_z hi dh nx ns) Q =
    Q (zL y0) (mm_z hi dh nx ns) :=
  (wp_31).trans (wp_91)
/-- PoolHouseModel.done1(I)J -/
theorem bq_285_0 : mm_blk 285 0 = bk_285_0 := by decide +kernel
theorem bq_285_1 : mm_blk 285 1 = bk_285_1 := by decide +kernel
theorem bq_285_2 : mm_blk 285 2 = bk_285_2 := by decide +kernel
theorem bq_285_3 : mm_blk 285 3 = bk_285_3 := by decide +kernel
theorem bq_285_4 : mm_blk 285 4 = bk_285_4 := by decide +kernel
theorem bq_285_5 : mm_blk 285 5 = bk_285_5 := by decide +kernel
theorem bq_285_6 : mm_blk 285 6 = bk_285_6 := by decide +kernel
theorem bq_285_7 : mm_blk 285 7 = bk_285_7 := by decide +kernel
theorem bq_285_8 : mm_blk 285 8 = bk_285_8 := by decide +kernel
theorem bq_285_9 : mm_blk 285 9 = bk_285_9 := by decide +kernel
theorem bq_285_10 : mm_blk 285 10 = bk_285_10 := by decide +kernel
theorem bq_285_11 : mm_blk 285 11 = bk_285_11 := by decide +kernel
theorem bq_285_12 : mm_blk 285 12 = bk_285_12 := by decide +kernel
theorem bq_285_13 : mm_blk 285 13 = bk_285_13 := by decide +kernel
theorem bq_285_14 : mm_blk 285 14 = bk_285_14 := by decide +kernel
theorem bq_285_15 : mm_blk 285 15 = bk_285_15 := by decide +kernel
theorem bq_285_16 : mm_blk 285 16 = bk_285_16 := by decide +kernel
theorem bq_285_17 : mm_blk 285 17 = bk_285_17 := by decide +kernel
theorem bq_285_18 : mm_blk 285 18 = bk_285_18 := by decide +kernel
theorem bq_285_19 : mm_blk 285 19 = bk_285_19 := by decide +kernel
theorem bq_285_20 : mm_blk 285 20 = bk_285_20 := by decide +kernel
theorem bq_285_21 : mm_blk 285 21 = bk_285_21 := by decide +kernel
theorem r_285_e (x1 : Int) {hi : mm_Id → Int → Int} {dh : Int → Int} {nx ns : Int} {Q : mm_V → mm_H → Prop} (hy : 5306 ≤ nx) :
    mm_Cl 285 [zR (40, 0, 0), zI x1] (mm_z hi dh nx ns) Q =
    mm_Wp 285 (mm_blk 285 (mm_sw 7 x1)) [zR (40, 0, 0), zI x1] [] (mm_z hi dh nx ns) Q :=
  mm_ce (l2 := [zR (40, 0, 0), zI x1]) rfl (mm_kb bq_285_0 ((wp_3_1).trans (wp_57 rfl)))
theorem r_285_1 (vx1 : mm_V) {hi : mm_Id → Int → Int} {dh : Int → Int} {nx ns : Int} {Q : mm_V → mm_H → Prop} (hy : 5306 ≤ nx) :
    mm_Wp 285 (mm_blk 285 1) [zR (40, 0, 0), vx1] [] (mm_z hi dh nx ns) Q =
    (if (mm_cmp (hi (70, 0, 0) 4) 1) = 0 then mm_Wp 285 (mm_blk 285 3) [zR (40, 0, 0), vx1] [zI 1, zL (hi (70, 0, 0) 3), zI (mm_w (hi (70, 0, 0) 2)), zI (mm_w (hi (70, 0, 0) 1)), zI (mm_w (hi (70, 0, 0) 0)), zR (40, 0, 0)] (mm_z hi dh nx ns) Q else mm_Wp 285 (mm_blk 285 3) [zR (40, 0, 0), vx1] [zI 0, zL (hi (70, 0, 0) 3), zI (mm_w (hi (70, 0, 0) 2)), zI (mm_w (hi (70, 0, 0) 1)), zI (mm_w (hi (70, 0, 0) 0)), zR (40, 0, 0)] (mm_z hi dh nx ns) Q) :=
  mm_kb bq_285_1 ((wp_5_0).trans ((wp_5_0).trans ((wp_62 (by decide) (mm_o40 hy) (mm_r40_47 hy)).trans ((wp_1).trans ((wp_72k (mm_q70 hy) (by decide)).trans ((wp_32).trans ((wp_5_0).trans ((wp_62 (by decide) (mm_o40 hy) (mm_r40_47 hy)).trans ((wp_1).trans ((wp_72k (mm_q70 hy) (by decide)).trans ((wp_32).trans ((wp_5_0).trans ((wp_62 (by decide) (mm_o40 hy) (mm_r40_47 hy)).trans ((wp_1).trans ((wp_72k (mm_q70 hy) (by decide)).trans ((wp_32).trans ((wp_5_0).trans ((wp_62 (by decide) (mm_o40 hy) (mm_r40_47 hy)).trans ((wp_1).trans ((wp_72k (mm_q70 hy) (by decide)).trans ((wp_5_0).trans ((wp_62 (by decide) (mm_o40 hy) (mm_r40_47 hy)).trans ((wp_1).trans ((wp_72k (mm_q70 hy) (by decide)).trans ((wp_2).trans ((wp_34).trans ((wp_41).trans (mm_ic ((wp_1).trans ((wp_56).trans (rfl))) (mm_kb bq_285_2 ((wp_1).trans ((wp_0).trans (rfl))))))))))))))))))))))))))))))))
theorem r_285_4 (vx1 : mm_V) {hi : mm_Id → Int → Int} {dh : Int → Int} {nx ns : Int} {Q : mm_V → mm_H → Prop} (hy : 5306 ≤ nx) :
    mm_Wp 285 (mm_blk 285 4) [zR (40, 0, 0), vx1] [] (mm_z hi dh nx ns) Q =
    mm_Cl 236 [zR (40, 0, 0), zI (mm_w (hi (70, 0, 0) 0)), zI (mm_w (hi (70, 0, 0) 1)), zI (mm_w (hi (70, 0, 0) 2))] (mm_z hi dh nx ns) (fun r h3 => mm_Wp 285 (bk_285_4.drop 17) [zR (40, 0, 0), vx1] (mm_push r []) h3 Q) :=
  mm_kb bq_285_4 ((wp_5_0).trans ((wp_5_0).trans ((wp_62 (by decide) (mm_o40 hy) (mm_r40_47 hy)).trans ((wp_1).trans ((wp_72k (mm_q70 hy) (by decide)).trans ((wp_32).trans ((wp_5_0).trans ((wp_62 (by decide) (mm_o40 hy) (mm_r40_47 hy)).trans ((wp_1).trans ((wp_72k (mm_q70 hy) (by decide)).trans ((wp_32).trans ((wp_5_0).trans ((wp_62 (by decide) (mm_o40 hy) (mm_r40_47 hy)).trans ((wp_1).trans ((wp_72k (mm_q70 hy) (by decide)).trans ((wp_32).trans ((wp_v4 mm_n_236 (mm_leq mm_m_236 (mm_lb rfl)) (mm_lb rfl) (mm_o40 hy)).trans rfl)))))))))))))))))
theorem r_285_5 (vx1 : mm_V) {hi : mm_Id → Int → Int} {dh : Int → Int} {nx ns : Int} {Q : mm_V → mm_H → Prop} (hy : 5306 ≤ nx) :
    mm_Wp 285 (mm_blk 285 5) [zR (40, 0, 0), vx1] [] (mm_z hi dh nx ns) Q =
    mm_Cl 237 [zR (40, 0, 0), zI (mm_w (hi (70, 0, 0) 0)), zI (mm_w (hi (70, 0, 0) 1)), zI (mm_w (hi (70, 0, 0) 2))] (mm_z hi dh nx ns) (fun r h3 => mm_Wp 285 (bk_285_5.drop 17) [zR (40, 0, 0), vx1] (mm_push r []) h3 Q) :=
  mm_kb bq_285_5 ((wp_5_0).trans ((wp_5_0).trans ((wp_62 (by decide) (mm_o40 hy) (mm_r40_47 hy)).trans ((wp_1).trans ((wp_72k (mm_q70 hy) (by decide)).trans ((wp_32).trans ((wp_5_0).trans ((wp_62 (by decide) (mm_o40 hy) (mm_r40_47 hy)).trans ((wp_1).trans ((wp_72k (mm_q70 hy) (by decide)).trans ((wp_32).trans ((wp_5_0).trans ((wp_62 (by decide) (mm_o40 hy) (mm_r40_47 hy)).trans ((wp_1).trans ((wp_72k (mm_q70 hy) (by decide)).trans ((wp_32).trans ((wp_v4 mm_n_237 (mm_leq mm_m_237 (mm_lb rfl)) (mm_lb rfl) (mm_o40 hy)).trans rfl)))))))))))))))))
theorem r_285_6 (vx1 : mm_V) {hi : mm_Id → Int → Int} {dh : Int → Int} {nx ns : Int} {Q : mm_V → mm_H → Prop} (hy : 5306 ≤ nx) :
    mm_Wp 285 (mm_blk 285 6) [zR (40, 0, 0), vx1] [] (mm_z hi dh nx ns) Q =
    mm_Cl 238 [zR (40, 0, 0), zI (mm_w (hi (70, 0, 0) 0))] (mm_z hi dh nx ns) (fun r h3 => mm_Wp 285 (bk_285_6.drop 7) [zR (40, 0, 0), vx1] (mm_push r []) h3 Q) :=
  mm_kb bq_285_6 ((wp_5_0).trans ((wp_5_0).trans ((wp_62 (by decide) (mm_o40 hy) (mm_r40_47 hy)).trans ((wp_1).trans ((wp_72k (mm_q70 hy) (by decide)).trans ((wp_32).trans ((wp_v2 mm_n_238 (mm_leq mm_m_238 (mm_lb rfl)) (mm_lb rfl) (mm_o40 hy)).trans rfl)))))))
theorem r_285_7 (vx1 : mm_V) {hi : mm_Id → Int → Int} {dh : Int → Int} {nx ns : Int} {Q : mm_V → mm_H → Prop} (hy : 5306 ≤ nx) :
    mm_Wp 285 (mm_blk 285 7) [zR (40, 0, 0), vx1] [] (mm_z hi dh nx ns) Q =
    mm_Cl 239 [zR (40, 0, 0), zI (mm_w (hi (70, 0, 0) 0)), zI (mm_w (hi (70, 0, 0) 1))] (mm_z hi dh nx ns) (fun r h3 => mm_Wp 285 (bk_285_7.drop 12) [zR (40, 0, 0), vx1] (mm_push r []) h3 Q) :=
  mm_kb bq_285_7 ((wp_5_0).trans ((wp_5_0).trans ((wp_62 (by decide) (mm_o40 hy) (mm_r40_47 hy)).trans ((wp_1).trans ((wp_72k (mm_q70 hy) (by decide)).trans ((wp_32).trans ((wp_5_0).trans ((wp_62 (by decide) (mm_o40 hy) (mm_r40_47 hy)).trans ((wp_1).trans ((wp_72k (mm_q70 hy) (by decide)).trans ((wp_32).trans ((wp_v3 mm_n_239 (mm_leq mm_m_239 (mm_lb rfl)) (mm_lb rfl) (mm_o40 hy)).trans rfl))))))))))))
theorem r_285_8 (vx1 : mm_V) {hi : mm_Id → Int → Int} {dh : Int → Int} {nx ns : Int} {Q : mm_V → mm_H → Prop} (hy : 5306 ≤ nx) :
    mm_Wp 285 (mm_blk 285 8) [zR (40, 0, 0), vx1] [] (mm_z hi dh nx ns) Q =
    mm_Cl 240 [zR (40, 0, 0), zI (mm_w (hi (70, 0, 0) 0)), zI (mm_w (hi (70, 0, 0) 1)), zI (mm_w (hi (70, 0, 0) 2))] (mm_z hi dh nx ns) (fun r h3 => mm_Wp 285 (bk_285_8.drop 17) [zR (40, 0, 0), vx1] (mm_push r []) h3 Q) :=
  mm_kb bq_285_8 ((wp_5_0).trans ((wp_5_0).trans ((wp_62 (by decide) (mm_o40 hy) (mm_r40_47 hy)).trans ((wp_1).trans ((wp_72k (mm_q70 hy) (by decide)).trans ((wp_32).trans ((wp_5_0).trans ((wp_62 (by decide) (mm_o40 hy) (mm_r40_47 hy)).trans ((wp_1).trans ((wp_72k (mm_q70 hy) (by decide)).trans ((wp_32).trans ((wp_5_0).trans ((wp_62 (by decide) (mm_o40 hy) (mm_r40_47 hy)).trans ((wp_1).trans ((wp_72k (mm_q70 hy) (by decide)).trans ((wp_32).trans ((wp_v4 mm_n_240 (mm_leq mm_m_240 (mm_lb rfl)) (mm_lb rfl) (mm_o40 hy)).trans rfl)))))))))))))))))
theorem r_285_9 (vx1 : mm_V) {hi : mm_Id → Int → Int} {dh : Int → Int} {nx ns : Int} {Q : mm_V → mm_H → Prop} (hy : 5306 ≤ nx) :
    mm_Wp 285 (mm_blk 285 9) [zR (40, 0, 0), vx1] [] (mm_z hi dh nx ns) Q =
    mm_Cl 246 [zR (40, 0, 0), zI (mm_w (hi (70, 0, 0) 0)), zI (mm_w (hi (70, 0, 0) 1)), zI (mm_w (hi (70, 0, 0) 2)), zI (mm_w (hi (70, 0, 0) 3))] (mm_z hi dh nx ns) (fun r h3 => mm_Wp 285 (bk_285_9.drop 22) [zR (40, 0, 0), vx1] (mm_push r []) h3 Q) :=
  mm_kb bq_285_9 ((wp_5_0).trans ((wp_5_0).trans ((wp_62 (by decide) (mm_o40 hy) (mm_r40_47 hy)).trans ((wp_1).trans ((wp_72k (mm_q70 hy) (by decide)).trans ((wp_32).trans ((wp_5_0).trans ((wp_62 (by decide) (mm_o40 hy) (mm_r40_47 hy)).trans ((wp_1).trans ((wp_72k (mm_q70 hy) (by decide)).trans ((wp_32).trans ((wp_5_0).trans ((wp_62 (by decide) (mm_o40 hy) (mm_r40_47 hy)).trans ((wp_1).trans ((wp_72k (mm_q70 hy) (by decide)).trans ((wp_32).trans ((wp_5_0).trans ((wp_62 (by decide) (mm_o40 hy) (mm_r40_47 hy)).trans ((wp_1).trans ((wp_72k (mm_q70 hy) (by decide)).trans ((wp_32).trans ((wp_v5 mm_n_246 (mm_leq mm_m_246 (mm_lb rfl)) (mm_lb rfl) (mm_o40 hy)).trans rfl))))))))))))))))))))))
theorem r_285_10 (vx1 : mm_V) {hi : mm_Id → Int → Int} {dh : Int → Int} {nx ns : Int} {Q : mm_V → mm_H → Prop} (hy : 5306 ≤ nx) :
    mm_Wp 285 (mm_blk 285 10) [zR (40, 0, 0), vx1] [] (mm_z hi dh nx ns) Q =
    mm_Cl 247 [zR (40, 0, 0), zI (mm_w (hi (70, 0, 0) 0)), zI (mm_w (hi (70, 0, 0) 1))] (mm_z hi dh nx ns) (fun r h3 => mm_Wp 285 (bk_285_10.drop 12) [zR (40, 0, 0), vx1] (mm_push r []) h3 Q) :=
  mm_kb bq_285_10 ((wp_5_0).trans ((wp_5_0).trans ((wp_62 (by decide) (mm_o40 hy) (mm_r40_47 hy)).trans ((wp_1).trans ((wp_72k (mm_q70 hy) (by decide)).trans ((wp_32).trans ((wp_5_0).trans ((wp_62 (by decide) (mm_o40 hy) (mm_r40_47 hy)).trans ((wp_1).trans ((wp_72k (mm_q70 hy) (by decide)).trans ((wp_32).trans ((wp_v3 mm_n_247 (mm_leq mm_m_247 (mm_lb rfl)) (mm_lb rfl) (mm_o40 hy)).trans rfl))))))))))))
theorem r_285_11 (vx1 : mm_V) {hi : mm_Id → Int → Int} {dh : Int → Int} {nx ns : Int} {Q : mm_V → mm_H → Prop} (hy : 5306 ≤ nx) :
    mm_Wp 285 (mm_blk 285 11) [zR (40, 0, 0), vx1] [] (mm_z hi dh nx ns) Q =
    mm_Cl 241 [zR (40, 0, 0), zI (mm_w (hi (70, 0, 0) 0)), zI (mm_w (hi (70, 0, 0) 1))] (mm_z hi dh nx ns) (fun r h3 => mm_Wp 285 (bk_285_11.drop 12) [zR (40, 0, 0), vx1] (mm_push r []) h3 Q) :=
  mm_kb bq_285_11 ((wp_5_0).trans ((wp_5_0).trans ((wp_62 (by decide) (mm_o40 hy) (mm_r40_47 hy)).trans ((wp_1).trans ((wp_72k (mm_q70 hy) (by decide)).trans ((wp_32).trans ((wp_5_0).trans ((wp_62 (by decide) (mm_o40 hy) (mm_r40_47 hy)).trans ((wp_1).trans ((wp_72k (mm_q70 hy) (by decide)).trans ((wp_32).trans ((wp_v3 mm_n_241 (mm_leq mm_m_241 (mm_lb rfl)) (mm_lb rfl) (mm_o40 hy)).trans rfl))))))))))))
theorem r_285_12 (vx1 : mm_V) {hi : mm_Id → Int → Int} {dh : Int → Int} {nx ns : Int} {Q : mm_V → mm_H → Prop} (hy : 5306 ≤ nx) :
    mm_Wp 285 (mm_blk 285 12) [zR (40, 0, 0), vx1] [] (mm_z hi dh nx ns) Q =
    mm_Cl 243 [zR (40, 0, 0), zI (mm_w (hi (70, 0, 0) 0))] (mm_z hi dh nx ns) (fun r h3 => mm_Wp 285 (bk_285_12.drop 7) [zR (40, 0, 0), vx1] (mm_push r []) h3 Q) :=
  mm_kb bq_285_12 ((wp_5_0).trans ((wp_5_0).trans ((wp_62 (by decide) (mm_o40 hy) (mm_r40_47 hy)).trans ((wp_1).trans ((wp_72k (mm_q70 hy) (by decide)).trans ((wp_32).trans ((wp_v2 mm_n_243 (mm_leq mm_m_243 (mm_lb rfl)) (mm_lb rfl) (mm_o40 hy)).trans rfl)))))))
theorem r_285_13 (vx1 : mm_V) {hi : mm_Id → Int → Int} {dh : Int → Int} {nx ns : Int} {Q : mm_V → mm_H → Prop} (hy : 5306 ≤ nx) :
    mm_Wp 285 (mm_blk 285 13) [zR (40, 0, 0), vx1] [] (mm_z hi dh nx ns) Q =
    mm_Cl 244 [zR (40, 0, 0), zI (mm_w (hi (70, 0, 0) 0)), zI (mm_w (hi (70, 0, 0) 1))] (mm_z hi dh nx ns) (fun r h3 => mm_Wp 285 (bk_285_13.drop 12) [zR (40, 0, 0), vx1] (mm_push r []) h3 Q) :=
  mm_kb bq_285_13 ((wp_5_0).trans ((wp_5_0).trans ((wp_62 (by decide) (mm_o40 hy) (mm_r40_47 hy)).trans ((wp_1).trans ((wp_72k (mm_q70 hy) (by decide)).trans ((wp_32).trans ((wp_5_0).trans ((wp_62 (by decide) (mm_o40 hy) (mm_r40_47 hy)).trans ((wp_1).trans ((wp_72k (mm_q70 hy) (by decide)).trans ((wp_32).trans ((wp_v3 mm_n_244 (mm_leq mm_m_244 (mm_lb rfl)) (mm_lb rfl) (mm_o40 hy)).trans rfl))))))))))))
theorem r_285_14 (vx1 : mm_V) {hi : mm_Id → Int → Int} {dh : Int → Int} {nx ns : Int} {Q : mm_V → mm_H → Prop} (hy : 5306 ≤ nx) :
    mm_Wp 285 (mm_blk 285 14) [zR (40, 0, 0), vx1] [] (mm_z hi dh nx ns) Q =
    mm_Cl 250 [zR (40, 0, 0), zI (mm_w (hi (70, 0, 0) 0))] (mm_z hi dh nx ns) (fun r h3 => mm_Wp 285 (bk_285_14.drop 7) [zR (40, 0, 0), vx1] (mm_push r []) h3 Q) :=
  mm_kb bq_285_14 ((wp_5_0).trans ((wp_5_0).trans ((wp_62 (by decide) (mm_o40 hy) (mm_r40_47 hy)).trans ((wp_1).trans ((wp_72k (mm_q70 hy) (by decide)).trans ((wp_32).trans ((wp_v2 mm_n_250 (mm_leq mm_m_250 (mm_lb rfl)) (mm_lb rfl) (mm_o40 hy)).trans rfl)))))))
theorem r_285_15 (vx1 : mm_V) {hi : mm_Id → Int → Int} {dh : Int → Int} {nx ns : Int} {Q : mm_V → mm_H → Prop} (hy : 5306 ≤ nx) :
    mm_Wp 285 (mm_blk 285 15) [zR (40, 0, 0), vx1] [] (mm_z hi dh nx ns) Q =
    mm_Cl 251 [zR (40, 0, 0), zI (mm_w (hi (70, 0, 0) 0))] (mm_z hi dh nx ns) (fun r h3 => mm_Wp 285 (bk_285_15.drop 7) [zR (40, 0, 0), vx1] (mm_push r []) h3 Q) :=
  mm_kb bq_285_15 ((wp_5_0).trans ((wp_5_0).trans ((wp_62 (by decide) (mm_o40 hy) (mm_r40_47 hy)).trans ((wp_1).trans ((wp_72k (mm_q70 hy) (by decide)).trans ((wp_32).trans ((wp_v2 mm_n_251 (mm_leq mm_m_251 (mm_lb rfl)) (mm_lb rfl) (mm_o40 hy)).trans rfl)))))))
theorem r_285_16 (vx1 : mm_V) {hi : mm_Id → Int → Int} {dh : Int → Int} {nx ns : Int} {Q : mm_V → mm_H → Prop} (hy : 5306 ≤ nx) :
    mm_Wp 285 (mm_blk 285 16) [zR (40, 0, 0), vx1] [] (mm_z hi dh nx ns) Q =
    mm_Cl 252 [zR (40, 0, 0), zI (mm_w (hi (70, 0, 0) 0)), zI (mm_w (hi (70, 0, 0) 1))] (mm_z hi dh nx ns) (fun r h3 => mm_Wp 285 (bk_285_16.drop 12) [zR (40, 0, 0), vx1] (mm_push r []) h3 Q) :=
  mm_kb bq_285_16 ((wp_5_0).trans ((wp_5_0).trans ((wp_62 (by decide) (mm_o40 hy) (mm_r40_47 hy)).trans ((wp_1).trans ((wp_72k (mm_q70 hy) (by decide)).trans ((wp_32).trans ((wp_5_0).trans ((wp_62 (by decide) (mm_o40 hy) (mm_r40_47 hy)).trans ((wp_1).trans ((wp_72k (mm_q70 hy) (by decide)).trans ((wp_32).trans ((wp_v3 mm_n_252 (mm_leq mm_m_252 (mm_lb rfl)) (mm_lb rfl) (mm_o40 hy)).trans rfl))))))))))))
theorem r_285_17 (vx1 : mm_V) {hi : mm_Id → Int → Int} {dh : Int → Int} {nx ns : Int} {Q : mm_V → mm_H → Prop} (hy : 5306 ≤ nx) :
    mm_Wp 285 (mm_blk 285 17) [zR (40, 0, 0), vx1] [] (mm_z hi dh nx ns) Q =
    mm_Cl 253 [zR (40, 0, 0), zI (mm_w (hi (70, 0, 0) 0))] (mm_z hi dh nx ns) (fun r h3 => mm_Wp 285 (bk_285_17.drop 7) [zR (40, 0, 0), vx1] (mm_push r []) h3 Q) :=
  mm_kb bq_285_17 ((wp_5_0).trans ((wp_5_0).trans ((wp_62 (by decide) (mm_o40 hy) (mm_r40_47 hy)).trans ((wp_1).trans ((wp_72k (mm_q70 hy) (by decide)).trans ((wp_32).trans ((wp_v2 mm_n_253 (mm_leq mm_m_253 (mm_lb rfl)) (mm_lb rfl) (mm_o40 hy)).trans rfl)))))))
theorem r_285_18 (vx1 : mm_V) {hi : mm_Id → Int → Int} {dh : Int → Int} {nx ns : Int} {Q : mm_V → mm_H → Prop} (hy : 5306 ≤ nx) :
    mm_Wp 285 (mm_blk 285 18) [zR (40, 0, 0), vx1] [] (mm_z hi dh nx ns) Q =
    (if (mm_cmp (hi (70, 0, 0) 1) 1) = 0 then mm_Wp 285 (mm_blk 285 20) [zR (40, 0, 0), vx1] [zI 1, zI (mm_w (hi (70, 0, 0) 0)), zR (40, 0, 0)] (mm_z hi dh nx ns) Q else mm_Wp 285 (mm_blk 285 20) [zR (40, 0, 0), vx1] [zI 0, zI (mm_w (hi (70, 0, 0) 0)), zR (40, 0, 0)] (mm_z hi dh nx ns) Q) :=
  mm_kb bq_285_18 ((wp_5_0).trans ((wp_5_0).trans ((wp_62 (by decide) (mm_o40 hy) (mm_r40_47 hy)).trans ((wp_1).trans ((wp_72k (mm_q70 hy) (by decide)).trans ((wp_32).trans ((wp_5_0).trans ((wp_62 (by decide) (mm_o40 hy) (mm_r40_47 hy)).trans ((wp_1).trans ((wp_72k (mm_q70 hy) (by decide)).trans ((wp_2).trans ((wp_34).trans ((wp_41).trans (mm_ic ((wp_1).trans ((wp_56).trans (rfl))) (mm_kb bq_285_19 ((wp_1).trans ((wp_0).trans (rfl))))))))))))))))))
theorem r_285_21 (vx0 : mm_V) (vx1 : mm_V) {hi : mm_Id → Int → Int} {dh : Int → Int} {nx ns : Int} {Q : mm_V → mm_H → Prop} (hy : 5306 ≤ nx) :
    mm_Wp 285 (mm_blk 285 21) [vx0, vx1] [] (mm_z hi dh nx ns) Q =
    Q (zL 0) (mm_z hi dh nx ns) :=
  mm_kb bq_285_21 ((wp_2).trans (wp_91))
theorem r_285_3 (vx0 : mm_V) (vx1 : mm_V) (y0 : Int) (y1 : Int) (y2 : Int) (y3 : Int) (y4 : Int) {hi : mm_Id → Int → Int} {dh : Int → Int} {nx ns : Int} {Q : mm_V → mm_H → Prop} (hy : 5306 ≤ nx) :
    mm_Wp 285 (mm_blk 285 3) [vx0, vx1] [zI y0, zL y1, zI y2, zI y3, zI y4, zR (40, 0, 0)] (mm_z hi dh nx ns) Q =
    mm_Cl 235 [zR (40, 0, 0), zI y4, zI y3, zI y2, zL y1, zI y0] (mm_z hi dh nx ns) (fun r h3 => mm_Wp 285 (bk_285_3.drop 1) [vx0, vx1] (mm_push r []) h3 Q) :=
  mm_kb bq_285_3 ((wp_v6 mm_n_235 (mm_leq mm_m_235 (mm_lb rfl)) (mm_lb rfl) (mm_o40 hy)).trans rfl)
theorem r_285_4_17 (vx0 : mm_V) (vx1 : mm_V) (y0 : Int) {hi : mm_Id → Int → Int} {dh : Int → Int} {nx ns : Int} {Q : mm_V → mm_H → Prop} (hy : 5306 ≤ nx) :
    mm_Wp 285 (bk_285_4.drop 17) [vx0, vx1] [zL y0] (mm_z hi dh nx ns) Q =
    Q (zL y0) (mm_z hi dh nx ns) :=
  wp_91
theorem r_285_5_17 (vx0 : mm_V) (vx1 : mm_V) (y0 : Int) {hi : mm_Id → Int → Int} {dh : Int → Int} {nx ns : Int} {Q : mm_V → mm_H → Prop} (hy : 5306 ≤ nx) :
    mm_Wp 285 (bk_285_5.drop 17) [vx0, vx1] [zI y0] (mm_z hi dh nx ns) Q =
    Q (zL y0) (mm_z hi dh nx ns) :=
  (wp_31).trans (wp_91)
theorem r_285_6_7 (vx0 : mm_V) (vx1 : mm_V) (y0 : Int) {hi : mm_Id → Int → Int} {dh : Int → Int} {nx ns : Int} {Q : mm_V → mm_H → Prop} (hy : 5306 ≤ nx) :
    mm_Wp 285 (bk_285_6.drop 7) [vx0, vx1] [zI y0] (mm_z hi dh nx ns) Q =
    Q (zL y0) (mm_z hi dh nx ns) :=
  (wp_31).trans (wp_91)
theorem r_285_7_12 (vx0 : mm_V) (vx1 : mm_V) (y0 : Int) {hi : mm_Id → Int → Int} {dh : Int → Int} {nx ns : Int} {Q : mm_V → mm_H → Prop} (hy : 5306 ≤ nx) :
    mm_Wp 285 (bk_285_7.drop 12) [vx0, vx1] [zI y0] (mm_z hi dh nx ns) Q =
    Q (zL y0) (mm_z hi dh nx ns) :=
  (wp_31).trans (wp_91)
theorem r_285_8_17 (vx0 : mm_V) (vx1 : mm_V) (y0 : Int) {hi : mm_Id → Int → Int} {dh : Int → Int} {nx ns : Int} {Q : mm_V → mm_H → Prop} (hy : 5306 ≤ nx) :
    mm_Wp 285 (bk_285_8.drop 17) [vx0, vx1] [zI y0] (mm_z hi dh nx ns) Q =
    Q (zL y0) (mm_z hi dh nx ns) :=
  (wp_31).trans (wp_91)
theorem r_285_9_22 (vx0 : mm_V) (vx1 : mm_V) (y0 : Int) {hi : mm_Id → Int → Int} {dh : Int → Int} {nx ns : Int} {Q : mm_V → mm_H → Prop} (hy : 5306 ≤ nx) :
    mm_Wp 285 (bk_285_9.drop 22) [vx0, vx1] [zI y0] (mm_z hi dh nx ns) Q =
    Q (zL y0) (mm_z hi dh nx ns) :=
  (wp_31).trans (wp_91)
theorem r_285_10_12 (vx0 : mm_V) (vx1 : mm_V) (y0 : Int) {hi : mm_Id → Int → Int} {dh : Int → Int} {nx ns : Int} {Q : mm_V → mm_H → Prop} (hy : 5306 ≤ nx) :
    mm_Wp 285 (bk_285_10.drop 12) [vx0, vx1] [zI y0] (mm_z hi dh nx ns) Q =
    Q (zL y0) (mm_z hi dh nx ns) :=
  (wp_31).trans (wp_91)
theorem r_285_11_12 (vx0 : mm_V) (vx1 : mm_V) (y0 : Int) {hi : mm_Id → Int → Int} {dh : Int → Int} {nx ns : Int} {Q : mm_V → mm_H → Prop} (hy : 5306 ≤ nx) :
    mm_Wp 285 (bk_285_11.drop 12) [vx0, vx1] [zI y0] (mm_z hi dh nx ns) Q =
    Q (zL y0) (mm_z hi dh nx ns) :=
  (wp_31).trans (wp_91)
theorem r_285_12_7 (vx0 : mm_V) (vx1 : mm_V) (y0 : Int) {hi : mm_Id → Int → Int} {dh : Int → Int} {nx ns : Int} {Q : mm_V → mm_H → Prop} (hy : 5306 ≤ nx) :
    mm_Wp 285 (bk_285_12.drop 7) [vx0, vx1] [zI y0] (mm_z hi dh nx ns) Q =
    Q (zL y0) (mm_z hi dh nx ns) :=
  (wp_31).trans (wp_91)
theorem r_285_13_12 (vx0 : mm_V) (vx1 : mm_V) (y0 : Int) {hi : mm_Id → Int → Int} {dh : Int → Int} {nx ns : Int} {Q : mm_V → mm_H → Prop} (hy : 5306 ≤ nx) :
    mm_Wp 285 (bk_285_13.drop 12) [vx0, vx1] [zI y0] (mm_z hi dh nx ns) Q =
    Q (zL y0) (mm_z hi dh nx ns) :=
  (wp_31).trans (wp_91)
theorem r_285_14_7 (vx0 : mm_V) (vx1 : mm_V) (y0 : Int) {hi : mm_Id → Int → Int} {dh : Int → Int} {nx ns : Int} {Q : mm_V → mm_H → Prop} (hy : 5306 ≤ nx) :
    mm_Wp 285 (bk_285_14.drop 7) [vx0, vx1] [zI y0] (mm_z hi dh nx ns) Q =
    Q (zL y0) (mm_z hi dh nx ns) :=
  (wp_31).trans (wp_91)
theorem r_285_15_7 (vx0 : mm_V) (vx1 : mm_V) (y0 : Int) {hi : mm_Id → Int → Int} {dh : Int → Int} {nx ns : Int} {Q : mm_V → mm_H → Prop} (hy : 5306 ≤ nx) :
    mm_Wp 285 (bk_285_15.drop 7) [vx0, vx1] [zI y0] (mm_z hi dh nx ns) Q =
    Q (zL y0) (mm_z hi dh nx ns) :=
  (wp_31).trans (wp_91)
theorem r_285_16_12 (vx0 : mm_V) (vx1 : mm_V) (y0 : Int) {hi : mm_Id → Int → Int} {dh : Int → Int} {nx ns : Int} {Q : mm_V → mm_H → Prop} (hy : 5306 ≤ nx) :
    mm_Wp 285 (bk_285_16.drop 12) [vx0, vx1] [zI y0] (mm_z hi dh nx ns) Q =
    Q (zL y0) (mm_z hi dh nx ns) :=
  (wp_31).trans (wp_91)
theorem r_285_17_7 (vx0 : mm_V) (vx1 : mm_V) (y0 : Int) {hi : mm_Id → Int → Int} {dh : Int → Int} {nx ns : Int} {Q : mm_V → mm_H → Prop} (hy : 5306 ≤ nx) :
    mm_Wp 285 (bk_285_17.drop 7) [vx0, vx1] [zI y0] (mm_z hi dh nx ns) Q =
    Q (zL y0) (mm_z hi dh nx ns) :=
  (wp_31).trans (wp_91)
theorem r_285_20 (vx0 : mm_V) (vx1 : mm_V) (y0 : Int) (y1 : Int) {hi : mm_Id → Int → Int} {dh : Int → Int} {nx ns : Int} {Q : mm_V → mm_H → Prop} (hy : 5306 ≤ nx) :
    mm_Wp 285 (mm_blk 285 20) [vx0, vx1] [zI y0, zI y1, zR (40, 0, 0)] (mm_z hi dh nx ns) Q =
    mm_Cl 254 [zR (40, 0, 0), zI y1, zI y0] (mm_z hi dh nx ns) (fun r h3 => mm_Wp 285 (bk_285_20.drop 1) [vx0, vx1] (mm_push r []) h3 Q) :=
  mm_kb bq_285_20 ((wp_v3 mm_n_254 (mm_leq mm_m_254 (mm_lb rfl)) (mm_lb rfl) (mm_o40 hy)).trans rfl)
theorem r_285_3_1 (vx0 : mm_V) (vx1 : mm_V) (y0 : Int) {hi : mm_Id → Int → Int} {dh : Int → Int} {nx ns : Int} {Q : mm_V → mm_H → Prop} (hy : 5306 ≤ nx) :
    mm_Wp 285 (bk_285_3.drop 1) [vx0, vx1] [zI y0] (mm_z hi dh nx ns) Q =
    Q (zL y0) (mm_z hi dh nx ns) :=
  (wp_31).trans (wp_91)
theorem r_285_20_1 (vx0 : mm_V) (vx1 : mm_V) (y0 : Int) {hi : mm_Id → Int → Int} {dh : Int → Int} {nx ns : Int} {Q : mm_V → mm_H → Prop} (hy : 5306 ≤ nx) :
    mm_Wp 285 (bk_285_20.drop 1) [vx0, vx1] [zI y0] (mm_z hi dh nx ns) Q =
    Q (zL y0) (mm_z hi dh nx ns) :=
  (wp_31).trans (wp_91)
/-- PoolHouseModel.done2(I)J -/
theorem bq_286_0 : mm_blk 286 0 = bk_286_0 := by decide +kernel
theorem bq_286_1 : mm_blk 286 1 = bk_286_1 := by decide +kernel
theorem bq_286_2 : mm_blk 286 2 = bk_286_2 := by decide +kernel
theorem bq_286_3 : mm_blk 286 3 = bk_286_3 := by decide +kernel
theorem bq_286_4 : mm_blk 286 4 = bk_286_4 := by decide +kernel
theorem bq_286_5 : mm_blk 286 5 = bk_286_5 := by decide +kernel
theorem bq_286_6 : mm_blk 286 6 = bk_286_6 := by decide +kernel
theorem bq_286_7 : mm_blk 286 7 = bk_286_7 := by decide +kernel
theorem bq_286_8 : mm_blk 286 8 = bk_286_8 := by decide +kernel
theorem bq_286_9 : mm_blk 286 9 = bk_286_9 := by decide +kernel
theorem bq_286_10 : mm_blk 286 10 = bk_286_10 := by decide +kernel
theorem bq_286_11 : mm_blk 286 11 = bk_286_11 := by decide +kernel
theorem bq_286_12 : mm_blk 286 12 = bk_286_12 := by decide +kernel
theorem bq_286_13 : mm_blk 286 13 = bk_286_13 := by decide +kernel
theorem bq_286_14 : mm_blk 286 14 = bk_286_14 := by decide +kernel
theorem bq_286_15 : mm_blk 286 15 = bk_286_15 := by decide +kernel
theorem bq_286_16 : mm_blk 286 16 = bk_286_16 := by decide +kernel
theorem bq_286_17 : mm_blk 286 17 = bk_286_17 := by decide +kernel
theorem bq_286_18 : mm_blk 286 18 = bk_286_18 := by decide +kernel
theorem bq_286_19 : mm_blk 286 19 = bk_286_19 := by decide +kernel
theorem bq_286_20 : mm_blk 286 20 = bk_286_20 := by decide +kernel
theorem bq_286_21 : mm_blk 286 21 = bk_286_21 := by decide +kernel
theorem bq_286_22 : mm_blk 286 22 = bk_286_22 := by decide +kernel
theorem r_286_e (x1 : Int) {hi : mm_Id → Int → Int} {dh : Int → Int} {nx ns : Int} {Q : mm_V → mm_H → Prop} (hy : 5306 ≤ nx) :
    mm_Cl 286 [zR (40, 0, 0), zI x1] (mm_z hi dh nx ns) Q =
    mm_Wp 286 (mm_blk 286 (mm_sw 8 x1)) [zR (40, 0, 0), zI x1] [] (mm_z hi dh nx ns) Q :=
  mm_ce (l2 := [zR (40, 0, 0), zI x1]) rfl (mm_kb bq_286_0 ((wp_3_1).trans (wp_57 rfl)))
theorem r_286_1 (vx1 : mm_V) {hi : mm_Id → Int → Int} {dh : Int → Int} {nx ns : Int} {Q : mm_V → mm_H → Prop} (hy : 5306 ≤ nx) :
    mm_Wp 286 (mm_blk 286 1) [zR (40, 0, 0), vx1] [] (mm_z hi dh nx ns) Q =
    mm_Cl 255 [zR (40, 0, 0), zI (mm_w (hi (70, 0, 0) 0)), zI (mm_w (hi (70, 0, 0) 1))] (mm_z hi dh nx ns) (fun r h3 => mm_Wp 286 (bk_286_1.drop 12) [zR (40, 0, 0), vx1] (mm_push r []) h3 Q) :=
  mm_kb bq_286_1 ((wp_5_0).trans ((wp_5_0).trans ((wp_62 (by decide) (mm_o40 hy) (mm_r40_47 hy)).trans ((wp_1).trans ((wp_72k (mm_q70 hy) (by decide)).trans ((wp_32).trans ((wp_5_0).trans ((wp_62 (by decide) (mm_o40 hy) (mm_r40_47 hy)).trans ((wp_1).trans ((wp_72k (mm_q70 hy) (by decide)).trans ((wp_32).trans ((wp_v3 mm_n_255 (mm_leq mm_m_255 (mm_lb rfl)) (mm_lb rfl) (mm_o40 hy)).trans rfl))))))))))))
theorem r_286_2 (vx1 : mm_V) {hi : mm_Id → Int → Int} {dh : Int → Int} {nx ns : Int} {Q : mm_V → mm_H → Prop} (hy : 5306 ≤ nx) :
    mm_Wp 286 (mm_blk 286 2) [zR (40, 0, 0), vx1] [] (mm_z hi dh nx ns) Q =
    (if (mm_cmp (hi (70, 0, 0) 1) 1) = 0 then mm_Wp 286 (mm_blk 286 4) [zR (40, 0, 0), vx1] [zI 1, zI (mm_w (hi (70, 0, 0) 0)), zR (40, 0, 0)] (mm_z hi dh nx ns) Q else mm_Wp 286 (mm_blk 286 4) [zR (40, 0, 0), vx1] [zI 0, zI (mm_w (hi (70, 0, 0) 0)), zR (40, 0, 0)] (mm_z hi dh nx ns) Q) :=
  mm_kb bq_286_2 ((wp_5_0).trans ((wp_5_0).trans ((wp_62 (by decide) (mm_o40 hy) (mm_r40_47 hy)).trans ((wp_1).trans ((wp_72k (mm_q70 hy) (by decide)).trans ((wp_32).trans ((wp_5_0).trans ((wp_62 (by decide) (mm_o40 hy) (mm_r40_47 hy)).trans ((wp_1).trans ((wp_72k (mm_q70 hy) (by decide)).trans ((wp_2).trans ((wp_34).trans ((wp_41).trans (mm_ic ((wp_1).trans ((wp_56).trans (rfl))) (mm_kb bq_286_3 ((wp_1).trans ((wp_0).trans (rfl))))))))))))))))))
theorem r_286_5 (vx1 : mm_V) {hi : mm_Id → Int → Int} {dh : Int → Int} {nx ns : Int} {Q : mm_V → mm_H → Prop} (hy : 5306 ≤ nx) :
    mm_Wp 286 (mm_blk 286 5) [zR (40, 0, 0), vx1] [] (mm_z hi dh nx ns) Q =
    mm_Cl 257 [zR (40, 0, 0), zI (mm_w (hi (70, 0, 0) 0)), zI (mm_w (hi (70, 0, 0) 1))] (mm_z hi dh nx ns) (fun r h3 => mm_Wp 286 (bk_286_5.drop 12) [zR (40, 0, 0), vx1] (mm_push r []) h3 Q) :=
  mm_kb bq_286_5 ((wp_5_0).trans ((wp_5_0).trans ((wp_62 (by decide) (mm_o40 hy) (mm_r40_47 hy)).trans ((wp_1).trans ((wp_72k (mm_q70 hy) (by decide)).trans ((wp_32).trans ((wp_5_0).trans ((wp_62 (by decide) (mm_o40 hy) (mm_r40_47 hy)).trans ((wp_1).trans ((wp_72k (mm_q70 hy) (by decide)).trans ((wp_32).trans ((wp_v3 mm_n_257 (mm_leq mm_m_257 (mm_lb rfl)) (mm_lb rfl) (mm_o40 hy)).trans rfl))))))))))))
theorem r_286_6 (vx1 : mm_V) {hi : mm_Id → Int → Int} {dh : Int → Int} {nx ns : Int} {Q : mm_V → mm_H → Prop} (hy : 5306 ≤ nx) :
    mm_Wp 286 (mm_blk 286 6) [zR (40, 0, 0), vx1] [] (mm_z hi dh nx ns) Q =
    mm_Cl 259 [zR (40, 0, 0), zI (mm_w (hi (70, 0, 0) 0)), zI (mm_w (hi (70, 0, 0) 1)), zI (mm_w (hi (70, 0, 0) 2))] (mm_z hi dh nx ns) (fun r h3 => mm_Wp 286 (bk_286_6.drop 17) [zR (40, 0, 0), vx1] (mm_push r []) h3 Q) :=
  mm_kb bq_286_6 ((wp_5_0).trans ((wp_5_0).trans ((wp_62 (by decide) (mm_o40 hy) (mm_r40_47 hy)).trans ((wp_1).trans ((wp_72k (mm_q70 hy) (by decide)).trans ((wp_32).trans ((wp_5_0).trans ((wp_62 (by decide) (mm_o40 hy) (mm_r40_47 hy)).trans ((wp_1).trans ((wp_72k (mm_q70 hy) (by decide)).trans ((wp_32).trans ((wp_5_0).trans ((wp_62 (by decide) (mm_o40 hy) (mm_r40_47 hy)).trans ((wp_1).trans ((wp_72k (mm_q70 hy) (by decide)).trans ((wp_32).trans ((wp_v4 mm_n_259 (mm_leq mm_m_259 (mm_lb rfl)) (mm_lb rfl) (mm_o40 hy)).trans rfl)))))))))))))))))
theorem r_286_7 (vx1 : mm_V) {hi : mm_Id → Int → Int} {dh : Int → Int} {nx ns : Int} {Q : mm_V → mm_H → Prop} (hy : 5306 ≤ nx) :
    mm_Wp 286 (mm_blk 286 7) [zR (40, 0, 0), vx1] [] (mm_z hi dh nx ns) Q =
    mm_Cl 260 [zR (40, 0, 0), zI (mm_w (hi (70, 0, 0) 0)), zI (mm_w (hi (70, 0, 0) 1))] (mm_z hi dh nx ns) (fun r h3 => mm_Wp 286 (bk_286_7.drop 12) [zR (40, 0, 0), vx1] (mm_push r []) h3 Q) :=
  mm_kb bq_286_7 ((wp_5_0).trans ((wp_5_0).trans ((wp_62 (by decide) (mm_o40 hy) (mm_r40_47 hy)).trans ((wp_1).trans ((wp_72k (mm_q70 hy) (by decide)).trans ((wp_32).trans ((wp_5_0).trans ((wp_62 (by decide) (mm_o40 hy) (mm_r40_47 hy)).trans ((wp_1).trans ((wp_72k (mm_q70 hy) (by decide)).trans ((wp_32).trans ((wp_v3 mm_n_260 (mm_leq mm_m_260 (mm_lb rfl)) (mm_lb rfl) (mm_o40 hy)).trans rfl))))))))))))
theorem r_286_8 (vx1 : mm_V) {hi : mm_Id → Int → Int} {dh : Int → Int} {nx ns : Int} {Q : mm_V → mm_H → Prop} (hy : 5306 ≤ nx) :
    mm_Wp 286 (mm_blk 286 8) [zR (40, 0, 0), vx1] [] (mm_z hi dh nx ns) Q =
    mm_Cl 264 [zR (40, 0, 0), zI (mm_w (hi (70, 0, 0) 0))] (mm_z hi dh nx ns) (fun r h3 => mm_Wp 286 (bk_286_8.drop 7) [zR (40, 0, 0), vx1] (mm_push r []) h3 Q) :=
  mm_kb bq_286_8 ((wp_5_0).trans ((wp_5_0).trans ((wp_62 (by decide) (mm_o40 hy) (mm_r40_47 hy)).trans ((wp_1).trans ((wp_72k (mm_q70 hy) (by decide)).trans ((wp_32).trans ((wp_v2 mm_n_264 (mm_leq mm_m_264 (mm_lb rfl)) (mm_lb rfl) (mm_o40 hy)).trans rfl)))))))
theorem r_286_9 (vx1 : mm_V) {hi : mm_Id → Int → Int} {dh : Int → Int} {nx ns : Int} {Q : mm_V → mm_H → Prop} (hy : 5306 ≤ nx) :
    mm_Wp 286 (mm_blk 286 9) [zR (40, 0, 0), vx1] [] (mm_z hi dh nx ns) Q =
    mm_Cl 265 [zR (40, 0, 0)] (mm_z hi dh nx ns) (fun r h3 => mm_Wp 286 (bk_286_9.drop 2) [zR (40, 0, 0), vx1] (mm_push r []) h3 Q) :=
  mm_kb bq_286_9 ((wp_5_0).trans ((wp_v1 mm_n_265 (mm_leq mm_m_265 (mm_lb rfl)) (mm_lb rfl) (mm_o40 hy)).trans rfl))
theorem r_286_10 (vx1 : mm_V) {hi : mm_Id → Int → Int} {dh : Int → Int} {nx ns : Int} {Q : mm_V → mm_H → Prop} (hy : 5306 ≤ nx) :
    mm_Wp 286 (mm_blk 286 10) [zR (40, 0, 0), vx1] [] (mm_z hi dh nx ns) Q =
    mm_Cl 266 [zR (40, 0, 0)] (mm_z hi dh nx ns) (fun r h3 => mm_Wp 286 (bk_286_10.drop 2) [zR (40, 0, 0), vx1] (mm_push r []) h3 Q) :=
  mm_kb bq_286_10 ((wp_5_0).trans ((wp_v1 mm_n_266 (mm_leq mm_m_266 (mm_lb rfl)) (mm_lb rfl) (mm_o40 hy)).trans rfl))
theorem r_286_11 (vx1 : mm_V) {hi : mm_Id → Int → Int} {dh : Int → Int} {nx ns : Int} {Q : mm_V → mm_H → Prop} (hy : 5306 ≤ nx) :
    mm_Wp 286 (mm_blk 286 11) [zR (40, 0, 0), vx1] [] (mm_z hi dh nx ns) Q =
    mm_Cl 267 [zR (40, 0, 0), zI (mm_w (hi (70, 0, 0) 0))] (mm_z hi dh nx ns) (fun r h3 => mm_Wp 286 (bk_286_11.drop 7) [zR (40, 0, 0), vx1] (mm_push r []) h3 Q) :=
  mm_kb bq_286_11 ((wp_5_0).trans ((wp_5_0).trans ((wp_62 (by decide) (mm_o40 hy) (mm_r40_47 hy)).trans ((wp_1).trans ((wp_72k (mm_q70 hy) (by decide)).trans ((wp_32).trans ((wp_v2 mm_n_267 (mm_leq mm_m_267 (mm_lb rfl)) (mm_lb rfl) (mm_o40 hy)).trans rfl)))))))
theorem r_286_12 (vx1 : mm_V) {hi : mm_Id → Int → Int} {dh : Int → Int} {nx ns : Int} {Q : mm_V → mm_H → Prop} (hy : 5306 ≤ nx) :
    mm_Wp 286 (mm_blk 286 12) [zR (40, 0, 0), vx1] [] (mm_z hi dh nx ns) Q =
    mm_Cl 270 [zR (40, 0, 0), zI (mm_w (hi (70, 0, 0) 0)), zI (mm_w (hi (70, 0, 0) 1)), zI (mm_w (hi (70, 0, 0) 2))] (mm_z hi dh nx ns) (fun r h3 => mm_Wp 286 (bk_286_12.drop 17) [zR (40, 0, 0), vx1] (mm_push r []) h3 Q) :=
  mm_kb bq_286_12 ((wp_5_0).trans ((wp_5_0).trans ((wp_62 (by decide) (mm_o40 hy) (mm_r40_47 hy)).trans ((wp_1).trans ((wp_72k (mm_q70 hy) (by decide)).trans ((wp_32).trans ((wp_5_0).trans ((wp_62 (by decide) (mm_o40 hy) (mm_r40_47 hy)).trans ((wp_1).trans ((wp_72k (mm_q70 hy) (by decide)).trans ((wp_32).trans ((wp_5_0).trans ((wp_62 (by decide) (mm_o40 hy) (mm_r40_47 hy)).trans ((wp_1).trans ((wp_72k (mm_q70 hy) (by decide)).trans ((wp_32).trans ((wp_v4 mm_n_270 (mm_leq mm_m_270 (mm_lb rfl)) (mm_lb rfl) (mm_o40 hy)).trans rfl)))))))))))))))))
theorem r_286_13 (vx1 : mm_V) {hi : mm_Id → Int → Int} {dh : Int → Int} {nx ns : Int} {Q : mm_V → mm_H → Prop} (hy : 5306 ≤ nx) :
    mm_Wp 286 (mm_blk 286 13) [zR (40, 0, 0), vx1] [] (mm_z hi dh nx ns) Q =
    mm_Cl 271 [zR (40, 0, 0), zI (mm_w (hi (70, 0, 0) 0))] (mm_z hi dh nx ns) (fun r h3 => mm_Wp 286 (bk_286_13.drop 7) [zR (40, 0, 0), vx1] (mm_push r []) h3 Q) :=
  mm_kb bq_286_13 ((wp_5_0).trans ((wp_5_0).trans ((wp_62 (by decide) (mm_o40 hy) (mm_r40_47 hy)).trans ((wp_1).trans ((wp_72k (mm_q70 hy) (by decide)).trans ((wp_32).trans ((wp_v2 mm_n_271 (mm_leq mm_m_271 (mm_lb rfl)) (mm_lb rfl) (mm_o40 hy)).trans rfl)))))))
theorem r_286_14 (vx1 : mm_V) {hi : mm_Id → Int → Int} {dh : Int → Int} {nx ns : Int} {Q : mm_V → mm_H → Prop} (hy : 5306 ≤ nx) :
    mm_Wp 286 (mm_blk 286 14) [zR (40, 0, 0), vx1] [] (mm_z hi dh nx ns) Q =
    (if (mm_cmp (hi (70, 0, 0) 1) 1) = 0 then mm_Wp 286 (mm_blk 286 16) [zR (40, 0, 0), vx1] [zI 1, zI (mm_w (hi (70, 0, 0) 0)), zR (40, 0, 0)] (mm_z hi dh nx ns) Q else mm_Wp 286 (mm_blk 286 16) [zR (40, 0, 0), vx1] [zI 0, zI (mm_w (hi (70, 0, 0) 0)), zR (40, 0, 0)] (mm_z hi dh nx ns) Q) :=
  mm_kb bq_286_14 ((wp_5_0).trans ((wp_5_0).trans ((wp_62 (by decide) (mm_o40 hy) (mm_r40_47 hy)).trans ((wp_1).trans ((wp_72k (mm_q70 hy) (by decide)).trans ((wp_32).trans ((wp_5_0).trans ((wp_62 (by decide) (mm_o40 hy) (mm_r40_47 hy)).trans ((wp_1).trans ((wp_72k (mm_q70 hy) (by decide)).trans ((wp_2).trans ((wp_34).trans ((wp_41).trans (mm_ic ((wp_1).trans ((wp_56).trans (rfl))) (mm_kb bq_286_15 ((wp_1).trans ((wp_0).trans (rfl))))))))))))))))))
theorem r_286_17 (vx1 : mm_V) {hi : mm_Id → Int → Int} {dh : Int → Int} {nx ns : Int} {Q : mm_V → mm_H → Prop} (hy : 5306 ≤ nx) :
    mm_Wp 286 (mm_blk 286 17) [zR (40, 0, 0), vx1] [] (mm_z hi dh nx ns) Q =
    (if (mm_cmp (hi (70, 0, 0) 0) 1) = 0 then mm_Wp 286 (mm_blk 286 19) [zR (40, 0, 0), vx1] [zI 1, zR (40, 0, 0)] (mm_z hi dh nx ns) Q else mm_Wp 286 (mm_blk 286 19) [zR (40, 0, 0), vx1] [zI 0, zR (40, 0, 0)] (mm_z hi dh nx ns) Q) :=
  mm_kb bq_286_17 ((wp_5_0).trans ((wp_5_0).trans ((wp_62 (by decide) (mm_o40 hy) (mm_r40_47 hy)).trans ((wp_1).trans ((wp_72k (mm_q70 hy) (by decide)).trans ((wp_2).trans ((wp_34).trans ((wp_41).trans (mm_ic ((wp_1).trans ((wp_56).trans (rfl))) (mm_kb bq_286_18 ((wp_1).trans ((wp_0).trans (rfl)))))))))))))
theorem r_286_20 (vx1 : mm_V) {hi : mm_Id → Int → Int} {dh : Int → Int} {nx ns : Int} {Q : mm_V → mm_H → Prop} (hy : 5306 ≤ nx) :
    mm_Wp 286 (mm_blk 286 20) [zR (40, 0, 0), vx1] [] (mm_z hi dh nx ns) Q =
    mm_Cl 274 [zR (40, 0, 0), zI (mm_w (hi (70, 0, 0) 0))] (mm_z hi dh nx ns) (fun r h3 => mm_Wp 286 (bk_286_20.drop 7) [zR (40, 0, 0), vx1] (mm_push r []) h3 Q) :=
  mm_kb bq_286_20 ((wp_5_0).trans ((wp_5_0).trans ((wp_62 (by decide) (mm_o40 hy) (mm_r40_47 hy)).trans ((wp_1).trans ((wp_72k (mm_q70 hy) (by decide)).trans ((wp_32).trans ((wp_v2 mm_n_274 (mm_leq mm_m_274 (mm_lb rfl)) (mm_lb rfl) (mm_o40 hy)).trans rfl)))))))
theorem r_286_21 (vx1 : mm_V) {hi : mm_Id → Int → Int} {dh : Int → Int} {nx ns : Int} {Q : mm_V → mm_H → Prop} (hy : 5306 ≤ nx) :
    mm_Wp 286 (mm_blk 286 21) [zR (40, 0, 0), vx1] [] (mm_z hi dh nx ns) Q =
    mm_Cl 275 [zR (40, 0, 0)] (mm_z hi dh nx ns) (fun r h3 => mm_Wp 286 (bk_286_21.drop 2) [zR (40, 0, 0), vx1] (mm_push r []) h3 Q) :=
  mm_kb bq_286_21 ((wp_5_0).trans ((wp_v1 mm_n_275 (mm_leq mm_m_275 (mm_lb rfl)) (mm_lb rfl) (mm_o40 hy)).trans rfl))
theorem r_286_22 (vx0 : mm_V) (vx1 : mm_V) {hi : mm_Id → Int → Int} {dh : Int → Int} {nx ns : Int} {Q : mm_V → mm_H → Prop} (hy : 5306 ≤ nx) :
    mm_Wp 286 (mm_blk 286 22) [vx0, vx1] [] (mm_z hi dh nx ns) Q =
    Q (zL 0) (mm_z hi dh nx ns) :=
  mm_kb bq_286_22 ((wp_2).trans (wp_91))
theorem r_286_1_12 (vx0 : mm_V) (vx1 : mm_V) (y0 : Int) {hi : mm_Id → Int → Int} {dh : Int → Int} {nx ns : Int} {Q : mm_V → mm_H → Prop} (hy : 5306 ≤ nx) :
    mm_Wp 286 (bk_286_1.drop 12) [vx0, vx1] [zI y0] (mm_z hi dh nx ns) Q =
    Q (zL y0) (mm_z hi dh nx ns) :=
  (wp_31).trans (wp_91)
theorem r_286_4 (vx0 : mm_V) (vx1 : mm_V) (y0 : Int) (y1 : Int) {hi : mm_Id → Int → Int} {dh : Int → Int} {nx ns : Int} {Q : mm_V → mm_H → Prop} (hy : 5306 ≤ nx) :
    mm_Wp 286 (mm_blk 286 4) [vx0, vx1] [zI y0, zI y1, zR (40, 0, 0)] (mm_z hi dh nx ns) Q =
    mm_Cl 256 [zR (40, 0, 0), zI y1, zI y0] (mm_z hi dh nx ns) (fun r h3 => mm_Wp 286 (bk_286_4.drop 1) [vx0, vx1] (mm_push r []) h3 Q) :=
  mm_kb bq_286_4 ((wp_v3 mm_n_256 (mm_leq mm_m_256 (mm_lb rfl)) (mm_lb rfl) (mm_o40 hy)).trans rfl)
theorem r_286_5_12 (vx0 : mm_V) (vx1 : mm_V) (y0 : Int) {hi : mm_Id → Int → Int} {dh : Int → Int} {nx ns : Int} {Q : mm_V → mm_H → Prop} (hy : 5306 ≤ nx) :
    mm_Wp 286 (bk_286_5.drop 12) [vx0, vx1] [zI y0] (mm_z hi dh nx ns) Q =
    Q (zL y0) (mm_z hi dh nx ns) :=
  (wp_31).trans (wp_91)
theorem r_286_6_17 (vx0 : mm_V) (vx1 : mm_V) (y0 : Int) {hi : mm_Id → Int → Int} {dh : Int → Int} {nx ns : Int} {Q : mm_V → mm_H → Prop} (hy : 5306 ≤ nx) :
    mm_Wp 286 (bk_286_6.drop 17) [vx0, vx1] [zI y0] (mm_z hi dh nx ns) Q =
    Q (zL y0) (mm_z hi dh nx ns) :=
  (wp_31).trans (wp_91)
theorem r_286_7_12 (vx0 : mm_V) (vx1 : mm_V) (y0 : Int) {hi : mm_Id → Int → Int} {dh : Int → Int} {nx ns : Int} {Q : mm_V → mm_H → Prop} (hy : 5306 ≤ nx) :
    mm_Wp 286 (bk_286_7.drop 12) [vx0, vx1] [zI y0] (mm_z hi dh nx ns) Q =
    Q (zL y0) (mm_z hi dh nx ns) :=
  (wp_31).trans (wp_91)
theorem r_286_8_7 (vx0 : mm_V) (vx1 : mm_V) (y0 : Int) {hi : mm_Id → Int → Int} {dh : Int → Int} {nx ns : Int} {Q : mm_V → mm_H → Prop} (hy : 5306 ≤ nx) :
    mm_Wp 286 (bk_286_8.drop 7) [vx0, vx1] [zI y0] (mm_z hi dh nx ns) Q =
    Q (zL y0) (mm_z hi dh nx ns) :=
  (wp_31).trans (wp_91)
theorem r_286_9_2 (vx0 : mm_V) (vx1 : mm_V) (y0 : Int) {hi : mm_Id → Int → Int} {dh : Int → Int} {nx ns : Int} {Q : mm_V → mm_H → Prop} (hy : 5306 ≤ nx) :
    mm_Wp 286 (bk_286_9.drop 2) [vx0, vx1] [zI y0] (mm_z hi dh nx ns) Q =
    Q (zL y0) (mm_z hi dh nx ns) :=
  (wp_31).trans (wp_91)
theorem r_286_10_2 (vx0 : mm_V) (vx1 : mm_V) (y0 : Int) {hi : mm_Id → Int → Int} {dh : Int → Int} {nx ns : Int} {Q : mm_V → mm_H → Prop} (hy : 5306 ≤ nx) :
    mm_Wp 286 (bk_286_10.drop 2) [vx0, vx1] [zI y0] (mm_z hi dh nx ns) Q =
    Q (zL y0) (mm_z hi dh nx ns) :=
  (wp_31).trans (wp_91)
theorem r_286_11_7 (vx0 : mm_V) (vx1 : mm_V) (y0 : Int) {hi : mm_Id → Int → Int} {dh : Int → Int} {nx ns : Int} {Q : mm_V → mm_H → Prop} (hy : 5306 ≤ nx) :
    mm_Wp 286 (bk_286_11.drop 7) [vx0, vx1] [zI y0] (mm_z hi dh nx ns) Q =
    Q (zL y0) (mm_z hi dh nx ns) :=
  (wp_31).trans (wp_91)
theorem r_286_12_17 (vx0 : mm_V) (vx1 : mm_V) (y0 : Int) {hi : mm_Id → Int → Int} {dh : Int → Int} {nx ns : Int} {Q : mm_V → mm_H → Prop} (hy : 5306 ≤ nx) :
    mm_Wp 286 (bk_286_12.drop 17) [vx0, vx1] [zI y0] (mm_z hi dh nx ns) Q =
    Q (zL y0) (mm_z hi dh nx ns) :=
  (wp_31).trans (wp_91)
theorem r_286_13_7 (vx0 : mm_V) (vx1 : mm_V) (y0 : Int) {hi : mm_Id → Int → Int} {dh : Int → Int} {nx ns : Int} {Q : mm_V → mm_H → Prop} (hy : 5306 ≤ nx) :
    mm_Wp 286 (bk_286_13.drop 7) [vx0, vx1] [zI y0] (mm_z hi dh nx ns) Q =
    Q (zL y0) (mm_z hi dh nx ns) :=
  (wp_31).trans (wp_91)
theorem r_286_16 (vx0 : mm_V) (vx1 : mm_V) (y0 : Int) (y1 : Int) {hi : mm_Id → Int → Int} {dh : Int → Int} {nx ns : Int} {Q : mm_V → mm_H → Prop} (hy : 5306 ≤ nx) :
    mm_Wp 286 (mm_blk 286 16) [vx0, vx1] [zI y0, zI y1, zR (40, 0, 0)] (mm_z hi dh nx ns) Q =
    mm_Cl 272 [zR (40, 0, 0), zI y1, zI y0] (mm_z hi dh nx ns) (fun r h3 => mm_Wp 286 (bk_286_16.drop 1) [vx0, vx1] (mm_push r []) h3 Q) :=
  mm_kb bq_286_16 ((wp_v3 mm_n_272 (mm_leq mm_m_272 (mm_lb rfl)) (mm_lb rfl) (mm_o40 hy)).trans rfl)
theorem r_286_19 (vx0 : mm_V) (vx1 : mm_V) (y0 : Int) {hi : mm_Id → Int → Int} {dh : Int → Int} {nx ns : Int} {Q : mm_V → mm_H → Prop} (hy : 5306 ≤ nx) :
    mm_Wp 286 (mm_blk 286 19) [vx0, vx1] [zI y0, zR (40, 0, 0)] (mm_z hi dh nx ns) Q =
    mm_Cl 273 [zR (40, 0, 0), zI y0] (mm_z hi dh nx ns) (fun r h3 => mm_Wp 286 (bk_286_19.drop 1) [vx0, vx1] (mm_push r []) h3 Q) :=
  mm_kb bq_286_19 ((wp_v2 mm_n_273 (mm_leq mm_m_273 (mm_lb rfl)) (mm_lb rfl) (mm_o40 hy)).trans rfl)
theorem r_286_20_7 (vx0 : mm_V) (vx1 : mm_V) (y0 : Int) {hi : mm_Id → Int → Int} {dh : Int → Int} {nx ns : Int} {Q : mm_V → mm_H → Prop} (hy : 5306 ≤ nx) :
    mm_Wp 286 (bk_286_20.drop 7) [vx0, vx1] [zI y0] (mm_z hi dh nx ns) Q =
    Q (zL y0) (mm_z hi dh nx ns) :=
  (wp_31).trans (wp_91)
theorem r_286_21_2 (vx0 : mm_V) (vx1 : mm_V) (y0 : Int) {hi : mm_Id → Int → Int} {dh : Int → Int} {nx ns : Int} {Q : mm_V → mm_H → Prop} (hy : 5306 ≤ nx) :
    mm_Wp 286 (bk_286_21.drop 2) [vx0, vx1] [zI y0] (mm_z hi dh nx ns) Q =
    Q (zL y0) (mm_z hi dh nx ns) :=
  (wp_31).trans (wp_91)
theorem r_286_4_1 (vx0 : mm_V) (vx1 : mm_V) (y0 : Int) {hi : mm_Id → Int → Int} {dh : Int → Int} {nx ns : Int} {Q : mm_V → mm_H → Prop} (hy : 5306 ≤ nx) :
    mm_Wp 286 (bk_286_4.drop 1) [vx0, vx1] [zI y0] (mm_z hi dh nx ns) Q =
    Q (zL y0) (mm_z hi dh nx ns) :=
  (wp_31).trans (wp_91)
theorem r_286_16_1 (vx0 : mm_V) (vx1 : mm_V) (y0 : Int) {hi : mm_Id → Int → Int} {dh : Int → Int} {nx ns : Int} {Q : mm_V → mm_H → Prop} (hy : 5306 ≤ nx) :
    mm_Wp 286 (bk_286_16.drop 1) [vx0, vx1] [zI y0] (mm_z hi dh nx ns) Q =
    Q (zL y0) (mm_z hi dh nx ns) :=
  (wp_31).trans (wp_91)
theorem r_286_19_1 (vx0 : mm_V) (vx1 : mm_V) (y0 : Int) {hi : mm_Id → Int → Int} {dh : Int → Int} {nx ns : Int} {Q : mm_V → mm_H → Prop} (hy : 5306 ≤ nx) :
    mm_Wp 286 (bk_286_19.drop 1) [vx0, vx1] [zI y0] (mm_z hi dh nx ns) Q =
    Q (zL y0) (mm_z hi dh nx ns) :=
  (wp_31).trans (wp_91)
/-- PoolHouseModel.nextWord(II)Z -/
theorem bq_287_0 : mm_blk 287 0 = bk_287_0 := by decide +kernel
theorem bq_287_1 : mm_blk 287 1 = bk_287_1 := by decide +kernel
theorem bq_287_2 : mm_blk 287 2 = bk_287_2 := by decide +kernel
theorem bq_287_3 : mm_blk 287 3 = bk_287_3 := by decide +kernel
theorem bq_287_4 : mm_blk 287 4 = bk_287_4 := by decide +kernel
theorem bq_287_5 : mm_blk 287 5 = bk_287_5 := by decide +kernel
theorem bq_287_6 : mm_blk 287 6 = bk_287_6 := by decide +kernel
theorem r_287_e (x1 : Int) (x2 : Int) {hi : mm_Id → Int → Int} {dh : Int → Int} {nx ns : Int} {Q : mm_V → mm_H → Prop} (hy : 5306 ≤ nx) :
    mm_Cl 287 [zR (40, 0, 0), zI x1, zI x2] (mm_z hi dh nx ns) Q =
    mm_Wp 287 (mm_blk 287 1) [zR (40, 0, 0), zI x1, zI x2] [] (mm_z (mm_up hi (40, 0, 0) 44 x1) dh nx ns) Q :=
  mm_ce (l2 := [zR (40, 0, 0), zI x1, zI x2]) rfl (mm_kb bq_287_0 ((wp_5_0).trans ((wp_3_1).trans ((wp_63 (mm_o40 hy)).trans ((wp_0).trans (rfl))))))
theorem r_287_1 (vx1 : mm_V) (x2 : Int) {hi : mm_Id → Int → Int} {dh : Int → Int} {nx ns : Int} {Q : mm_V → mm_H → Prop} (hy : 5306 ≤ nx) :
    mm_Wp 287 (mm_blk 287 1) [zR (40, 0, 0), vx1, zI x2] [] (mm_z hi dh nx ns) Q =
    (if (hi (40, 0, 0) 44) < x2 then ((0 ≤ (hi (40, 0, 0) 44) ∧ (hi (40, 0, 0) 44) < 8000) ∧ (if (hi (67, 0, 0) (hi (40, 0, 0) 44)) = 32 then mm_Wp 287 (mm_blk 287 1) [zR (40, 0, 0), vx1, zI x2] [] (mm_z (mm_up hi (40, 0, 0) 44 (mm_w ((hi (40, 0, 0) 44) + 1))) dh nx ns) Q else mm_Wp 287 (mm_blk 287 2) [zR (40, 0, 0), vx1, zI x2] [] (mm_z hi dh nx ns) Q)) else mm_Wp 287 (mm_blk 287 2) [zR (40, 0, 0), vx1, zI x2] [] (mm_z hi dh nx ns) Q) :=
  mm_kb bq_287_1 ((wp_5_0).trans ((wp_60 (by decide) (mm_o40 hy)).trans ((wp_3_2).trans ((wp_49).trans (mm_ic ((wp_5_0).trans ((wp_62 (by decide) (mm_o40 hy) (mm_r40_38 hy)).trans ((wp_5_0).trans ((wp_60 (by decide) (mm_o40 hy)).trans ((wp_71 (mm_q67 hy)).trans (mm_ae ((wp_1).trans ((wp_47).trans (mm_ic ((wp_5_0).trans ((wp_35r).trans ((wp_60 (by decide) (mm_o40 hy)).trans ((wp_1).trans ((wp_10).trans ((wp_63 (mm_o40 hy)).trans ((wp_56).trans (rfl)))))))) (rfl)))))))))) (rfl))))))
theorem r_287_2 (vx1 : mm_V) (x2 : Int) {hi : mm_Id → Int → Int} {dh : Int → Int} {nx ns : Int} {Q : mm_V → mm_H → Prop} (hy : 5306 ≤ nx) :
    mm_Wp 287 (mm_blk 287 2) [zR (40, 0, 0), vx1, zI x2] [] (mm_z hi dh nx ns) Q =
    mm_Wp 287 (mm_blk 287 3) [zR (40, 0, 0), vx1, zI x2] [] (mm_z (mm_up hi (40, 0, 0) 45 (hi (40, 0, 0) 44)) dh nx ns) Q :=
  mm_kb bq_287_2 ((wp_5_0).trans ((wp_5_0).trans ((wp_60 (by decide) (mm_o40 hy)).trans ((wp_63 (mm_o40 hy)).trans ((wp_0).trans (rfl))))))
theorem r_287_3 (vx1 : mm_V) (x2 : Int) {hi : mm_Id → Int → Int} {dh : Int → Int} {nx ns : Int} {Q : mm_V → mm_H → Prop} (hy : 5306 ≤ nx) :
    mm_Wp 287 (mm_blk 287 3) [zR (40, 0, 0), vx1, zI x2] [] (mm_z hi dh nx ns) Q =
    (if (hi (40, 0, 0) 45) < x2 then ((0 ≤ (hi (40, 0, 0) 45) ∧ (hi (40, 0, 0) 45) < 8000) ∧ (if (hi (67, 0, 0) (hi (40, 0, 0) 45)) = 32 then mm_Wp 287 (mm_blk 287 4) [zR (40, 0, 0), vx1, zI x2] [] (mm_z hi dh nx ns) Q else mm_Wp 287 (mm_blk 287 3) [zR (40, 0, 0), vx1, zI x2] [] (mm_z (mm_up hi (40, 0, 0) 45 (mm_w ((hi (40, 0, 0) 45) + 1))) dh nx ns) Q)) else mm_Wp 287 (mm_blk 287 4) [zR (40, 0, 0), vx1, zI x2] [] (mm_z hi dh nx ns) Q) :=
  mm_kb bq_287_3 ((wp_5_0).trans ((wp_60 (by decide) (mm_o40 hy)).trans ((wp_3_2).trans ((wp_49).trans (mm_ic ((wp_5_0).trans ((wp_62 (by decide) (mm_o40 hy) (mm_r40_38 hy)).trans ((wp_5_0).trans ((wp_60 (by decide) (mm_o40 hy)).trans ((wp_71 (mm_q67 hy)).trans (mm_ae ((wp_1).trans ((wp_46).trans (mm_ic (rfl) ((wp_5_0).trans ((wp_35r).trans ((wp_60 (by decide) (mm_o40 hy)).trans ((wp_1).trans ((wp_10).trans ((wp_63 (mm_o40 hy)).trans ((wp_56).trans (rfl))))))))))))))))) (rfl))))))
theorem r_287_4 (vx1 : mm_V) (vx2 : mm_V) {hi : mm_Id → Int → Int} {dh : Int → Int} {nx ns : Int} {Q : mm_V → mm_H → Prop} (hy : 5306 ≤ nx) :
    mm_Wp 287 (mm_blk 287 4) [zR (40, 0, 0), vx1, vx2] [] (mm_z hi dh nx ns) Q =
    (if (hi (40, 0, 0) 44) < (hi (40, 0, 0) 45) then mm_Wp 287 (mm_blk 287 6) [zR (40, 0, 0), vx1, vx2] [zI 1] (mm_z hi dh nx ns) Q else mm_Wp 287 (mm_blk 287 6) [zR (40, 0, 0), vx1, vx2] [zI 0] (mm_z hi dh nx ns) Q) :=
  mm_kb bq_287_4 ((wp_5_0).trans ((wp_60 (by decide) (mm_o40 hy)).trans ((wp_5_0).trans ((wp_60 (by decide) (mm_o40 hy)).trans ((wp_51).trans (mm_ic ((wp_1).trans ((wp_56).trans (rfl))) (mm_kb bq_287_5 ((wp_1).trans ((wp_0).trans (rfl))))))))))
theorem r_287_6 (vx0 : mm_V) (vx1 : mm_V) (vx2 : mm_V) (y0 : Int) {hi : mm_Id → Int → Int} {dh : Int → Int} {nx ns : Int} {Q : mm_V → mm_H → Prop} (hy : 5306 ≤ nx) :
    mm_Wp 287 (mm_blk 287 6) [vx0, vx1, vx2] [zI y0] (mm_z hi dh nx ns) Q =
    ((y0 = 0 ∨ y0 = 1) ∧ Q (zI y0) (mm_z hi dh nx ns)) :=
  mm_kb bq_287_6 (wp_94z)
/-- PoolHouseModel.digits(III)Z -/
theorem bq_288_0 : mm_blk 288 0 = bk_288_0 := by decide +kernel
theorem bq_288_1 : mm_blk 288 1 = bk_288_1 := by decide +kernel
theorem bq_288_2 : mm_blk 288 2 = bk_288_2 := by decide +kernel
theorem bq_288_3 : mm_blk 288 3 = bk_288_3 := by decide +kernel
theorem bq_288_4 : mm_blk 288 4 = bk_288_4 := by decide +kernel
theorem bq_288_5 : mm_blk 288 5 = bk_288_5 := by decide +kernel
theorem bq_288_6 : mm_blk 288 6 = bk_288_6 := by decide +kernel
theorem r_288_e (x1 : Int) (x2 : Int) (x3 : Int) {hi : mm_Id → Int → Int} {dh : Int → Int} {nx ns : Int} {Q : mm_V → mm_H → Prop} (hy : 5306 ≤ nx) :
    mm_Cl 288 [zR (40, 0, 0), zI x1, zI x2, zI x3] (mm_z hi dh nx ns) Q =
    (if (mm_w (x2 - x1)) < 1 then mm_Wp 288 (mm_blk 288 1) [zR (40, 0, 0), zI x1, zI x2, zI x3, zU, zU, zU, zU] [] (mm_z hi dh nx ns) Q else (if x3 < (mm_w (x2 - x1)) then mm_Wp 288 (mm_blk 288 1) [zR (40, 0, 0), zI x1, zI x2, zI x3, zU, zU, zU, zU] [] (mm_z hi dh nx ns) Q else mm_Wp 288 (mm_blk 288 2) [zR (40, 0, 0), zI x1, zI x2, zI x3, zU, zU, zU, zU] [zI 1] (mm_z hi dh nx ns) Q)) :=
  mm_ce (l2 := [zR (40, 0, 0), zI x1, zI x2, zI x3, zU, zU, zU, zU]) rfl (mm_kb bq_288_0 ((wp_3_2).trans ((wp_3_1).trans ((wp_11).trans ((wp_1).trans ((wp_48).trans (mm_ic (rfl) ((wp_3_2).trans ((wp_3_1).trans ((wp_11).trans ((wp_3_3).trans ((wp_50).trans (mm_ic (rfl) ((wp_1).trans ((wp_56).trans (rfl))))))))))))))))
theorem r_288_1 (x1 : Int) (x2 : Int) (vx3 : mm_V) (vx4 : mm_V) (vx5 : mm_V) (vx6 : mm_V) (vx7 : mm_V) {hi : mm_Id → Int → Int} {dh : Int → Int} {nx ns : Int} {Q : mm_V → mm_H → Prop} (hy : 5306 ≤ nx) :
    mm_Wp 288 (mm_blk 288 1) [zR (40, 0, 0), zI x1, zI x2, vx3, vx4, vx5, vx6, vx7] [] (mm_z hi dh nx ns) Q =
    mm_Wp 288 (mm_blk 288 2) [zR (40, 0, 0), zI x1, zI x2, vx3, vx4, vx5, vx6, vx7] [zI 0] (mm_z hi dh nx ns) Q :=
  mm_kb bq_288_1 ((wp_1).trans ((wp_0).trans (rfl)))
theorem r_288_2 (x1 : Int) (x2 : Int) (vx3 : mm_V) (vx4 : mm_V) (vx5 : mm_V) (vx6 : mm_V) (vx7 : mm_V) (y0 : Int) {hi : mm_Id → Int → Int} {dh : Int → Int} {nx ns : Int} {Q : mm_V → mm_H → Prop} (hvx3 : mm_wt vx3 = 1) (hy : 5306 ≤ nx) :
    mm_Wp 288 (mm_blk 288 2) [zR (40, 0, 0), zI x1, zI x2, vx3, vx4, vx5, vx6, vx7] [zI y0] (mm_z hi dh nx ns) Q =
    mm_Wp 288 (mm_blk 288 3) [zR (40, 0, 0), zI x1, zI x2, vx3, zI y0, zL 0, zU, zI x1] [] (mm_z hi dh nx ns) Q :=
  mm_kb bq_288_2 ((wp_6 (l2 := [zR (40, 0, 0), zI x1, zI x2, vx3, zI y0, vx5, vx6, vx7]) ((if_pos (mm_lb rfl)).trans (congrArg some (mm_stw rfl hvx3)))).trans ((wp_2).trans ((wp_7 (l2 := [zR (40, 0, 0), zI x1, zI x2, vx3, zI y0, zL 0, zU, vx7]) rfl).trans ((wp_3_1).trans ((wp_6 (l2 := [zR (40, 0, 0), zI x1, zI x2, vx3, zI y0, zL 0, zU, zI x1]) rfl).trans ((wp_0).trans (rfl)))))))
theorem r_288_3 (vx1 : mm_V) (x2 : Int) (vx3 : mm_V) (x4 : Int) (x5 : Int) (x7 : Int) {hi : mm_Id → Int → Int} {dh : Int → Int} {nx ns : Int} {Q : mm_V → mm_H → Prop} (hy : 5306 ≤ nx) :
    mm_Wp 288 (mm_blk 288 3) [zR (40, 0, 0), vx1, zI x2, vx3, zI x4, zL x5, zU, zI x7] [] (mm_z hi dh nx ns) Q =
    (if x7 < x2 then (if x4 = 0 then mm_Wp 288 (mm_blk 288 6) [zR (40, 0, 0), vx1, zI x2, vx3, zI x4, zL x5, zU, zI x7] [] (mm_z hi dh nx ns) Q else ((0 ≤ x7 ∧ x7 < 8000) ∧ (if (hi (67, 0, 0) x7) < 48 then mm_Wp 288 (mm_blk 288 4) [zR (40, 0, 0), vx1, zI x2, vx3, zI x4, zL x5, zU, zI x7] [] (mm_z hi dh nx ns) Q else ((0 ≤ x7 ∧ x7 < 8000) ∧ (if 57 < (hi (67, 0, 0) x7) then mm_Wp 288 (mm_blk 288 4) [zR (40, 0, 0), vx1, zI x2, vx3, zI x4, zL x5, zU, zI x7] [] (mm_z hi dh nx ns) Q else mm_Wp 288 (mm_blk 288 5) [zR (40, 0, 0), vx1, zI x2, vx3, zI x4, zL x5, zU, zI x7] [zI 1] (mm_z hi dh nx ns) Q))))) else mm_Wp 288 (mm_blk 288 6) [zR (40, 0, 0), vx1, zI x2, vx3, zI x4, zL x5, zU, zI x7] [] (mm_z hi dh nx ns) Q) :=
  mm_kb bq_288_3 ((wp_3_7).trans ((wp_3_2).trans ((wp_49).trans (mm_ic ((wp_3_4).trans ((wp_40).trans (mm_ic (rfl) ((wp_5_0).trans ((wp_62 (by decide) (mm_o40 hy) (mm_r40_38 hy)).trans ((wp_3_7).trans ((wp_71 (mm_q67 hy)).trans (mm_ae ((wp_1).trans ((wp_48).trans (mm_ic (rfl) ((wp_5_0).trans ((wp_62 (by decide) (mm_o40 hy) (mm_r40_38 hy)).trans ((wp_3_7).trans ((wp_71 (mm_q67 hy)).trans (mm_ae ((wp_1).trans ((wp_50).trans (mm_ic (rfl) ((wp_1).trans ((wp_56).trans (rfl)))))))))))))))))))))) (rfl)))))
theorem r_288_6 (vx1 : mm_V) (vx2 : mm_V) (vx3 : mm_V) (x4 : Int) (x5 : Int) (vx7 : mm_V) {hi : mm_Id → Int → Int} {dh : Int → Int} {nx ns : Int} {Q : mm_V → mm_H → Prop} (hy : 5306 ≤ nx) :
    mm_Wp 288 (mm_blk 288 6) [zR (40, 0, 0), vx1, vx2, vx3, zI x4, zL x5, zU, vx7] [] (mm_z hi dh nx ns) Q =
    ((x4 = 0 ∨ x4 = 1) ∧ Q (zI x4) (mm_z (mm_up hi (40, 0, 0) 46 x5) dh nx ns)) :=
  mm_kb bq_288_6 ((wp_5_0).trans ((wp_4_5).trans ((wp_65 (mm_o40 hy)).trans ((wp_3_4).trans (wp_94z)))))
theorem r_288_4 (vx1 : mm_V) (x2 : Int) (vx3 : mm_V) (vx4 : mm_V) (x5 : Int) (x7 : Int) {hi : mm_Id → Int → Int} {dh : Int → Int} {nx ns : Int} {Q : mm_V → mm_H → Prop} (hy : 5306 ≤ nx) :
    mm_Wp 288 (mm_blk 288 4) [zR (40, 0, 0), vx1, zI x2, vx3, vx4, zL x5, zU, zI x7] [] (mm_z hi dh nx ns) Q =
    mm_Wp 288 (mm_blk 288 5) [zR (40, 0, 0), vx1, zI x2, vx3, vx4, zL x5, zU, zI x7] [zI 0] (mm_z hi dh nx ns) Q :=
  mm_kb bq_288_4 ((wp_1).trans ((wp_0).trans (rfl)))
theorem r_288_5 (vx1 : mm_V) (x2 : Int) (vx3 : mm_V) (vx4 : mm_V) (x5 : Int) (x7 : Int) (y0 : Int) {hi : mm_Id → Int → Int} {dh : Int → Int} {nx ns : Int} {Q : mm_V → mm_H → Prop} (hvx3 : mm_wt vx3 = 1) (hy : 5306 ≤ nx) :
    mm_Wp 288 (mm_blk 288 5) [zR (40, 0, 0), vx1, zI x2, vx3, vx4, zL x5, zU, zI x7] [zI y0] (mm_z hi dh nx ns) Q =
    ((0 ≤ x7 ∧ x7 < 8000) ∧ mm_Wp 288 (mm_blk 288 3) [zR (40, 0, 0), vx1, zI x2, vx3, zI y0, zL (mm_W ((mm_W ((mm_W (10 * x5)) + (hi (67, 0, 0) x7))) - 48)), zU, zI (mm_w (x7 + 1))] [] (mm_z hi dh nx ns) Q) :=
  mm_kb bq_288_5 ((wp_6 (l2 := [zR (40, 0, 0), vx1, zI x2, vx3, zI y0, zL x5, zU, zI x7]) ((if_pos (mm_lb rfl)).trans (congrArg some (mm_stw rfl hvx3)))).trans ((wp_2).trans ((wp_4_5).trans ((wp_22).trans ((wp_5_0).trans ((wp_62 (by decide) (mm_o40 hy) (mm_r40_38 hy)).trans ((wp_3_7).trans ((wp_71 (mm_q67 hy)).trans (mm_ae ((wp_31).trans ((wp_20).trans ((wp_2).trans ((wp_21).trans ((wp_7 (l2 := [zR (40, 0, 0), vx1, zI x2, vx3, zI y0, zL (mm_W ((mm_W ((mm_W (10 * x5)) + (hi (67, 0, 0) x7))) - 48)), zU, zI x7]) rfl).trans ((wp_9 (l2 := [zR (40, 0, 0), vx1, zI x2, vx3, zI y0, zL (mm_W ((mm_W ((mm_W (10 * x5)) + (hi (67, 0, 0) x7))) - 48)), zU, zI (mm_w (x7 + 1))]) rfl rfl).trans ((wp_56).trans (rfl)))))))))))))))))
/-- PoolHouseModel.way(I)Z -/
theorem bq_289_0 : mm_blk 289 0 = bk_289_0 := by decide +kernel
theorem bq_289_1 : mm_blk 289 1 = bk_289_1 := by decide +kernel
theorem bq_289_2 : mm_blk 289 2 = bk_289_2 := by decide +kernel
theorem bq_289_3 : mm_blk 289 3 = bk_289_3 := by decide +kernel
theorem bq_289_4 : mm_blk 289 4 = bk_289_4 := by decide +kernel
theorem bq_289_5 : mm_blk 289 5 = bk_289_5 := by decide +kernel
theorem bq_289_6 : mm_blk 289 6 = bk_289_6 := by decide +kernel
theorem bq_289_7 : mm_blk 289 7 = bk_289_7 := by decide +kernel
theorem bq_289_8 : mm_blk 289 8 = bk_289_8 := by decide +kernel
theorem bq_289_9 : mm_blk 289 9 = bk_289_9 := by decide +kernel
theorem bq_289_10 : mm_blk 289 10 = bk_289_10 := by decide +kernel
theorem r_289_e (x1 : Int) {hi : mm_Id → Int → Int} {dh : Int → Int} {nx ns : Int} {Q : mm_V → mm_H → Prop} (hy : 5306 ≤ nx) :
    mm_Cl 289 [zR (40, 0, 0), zI x1] (mm_z hi dh nx ns) Q =
    (if x1 < 0 then mm_Wp 289 (mm_blk 289 2) [zR (40, 0, 0), zI x1, zU, zU, zU, zU, zU] [zI 0] (mm_z hi dh nx ns) Q else mm_Wp 289 (mm_blk 289 2) [zR (40, 0, 0), zI x1, zU, zU, zU, zU, zU] [zI 1] (mm_z hi dh nx ns) Q) :=
  mm_ce (l2 := [zR (40, 0, 0), zI x1, zU, zU, zU, zU, zU]) rfl (mm_kb bq_289_0 ((wp_3_1).trans ((wp_43).trans (mm_ic ((wp_1).trans ((wp_56).trans (rfl))) (mm_kb bq_289_1 ((wp_1).trans ((wp_0).trans (rfl))))))))
theorem r_289_2 (x1 : Int) (vx2 : mm_V) (vx3 : mm_V) (vx4 : mm_V) (vx5 : mm_V) (vx6 : mm_V) (y0 : Int) {hi : mm_Id → Int → Int} {dh : Int → Int} {nx ns : Int} {Q : mm_V → mm_H → Prop} (hy : 5306 ≤ nx) :
    mm_Wp 289 (mm_blk 289 2) [zR (40, 0, 0), zI x1, vx2, vx3, vx4, vx5, vx6] [zI y0] (mm_z hi dh nx ns) Q =
    mm_Wp 289 (mm_blk 289 3) [zR (40, 0, 0), zI x1, zI y0, zI (mm_w ((hi (40, 0, 0) 44) + 1)), zI 1, vx5, vx6] [] (mm_z hi dh nx ns) Q :=
  mm_kb bq_289_2 ((wp_6 (l2 := [zR (40, 0, 0), zI x1, zI y0, vx3, vx4, vx5, vx6]) rfl).trans ((wp_5_0).trans ((wp_60 (by decide) (mm_o40 hy)).trans ((wp_1).trans ((wp_10).trans ((wp_6 (l2 := [zR (40, 0, 0), zI x1, zI y0, zI (mm_w ((hi (40, 0, 0) 44) + 1)), vx4, vx5, vx6]) rfl).trans ((wp_1).trans ((wp_6 (l2 := [zR (40, 0, 0), zI x1, zI y0, zI (mm_w ((hi (40, 0, 0) 44) + 1)), zI 1, vx5, vx6]) rfl).trans ((wp_0).trans (rfl))))))))))
theorem r_289_3 (x1 : Int) (x2 : Int) (x3 : Int) (x4 : Int) (vx5 : mm_V) (vx6 : mm_V) {hi : mm_Id → Int → Int} {dh : Int → Int} {nx ns : Int} {Q : mm_V → mm_H → Prop} (hy : 5306 ≤ nx) :
    mm_Wp 289 (mm_blk 289 3) [zR (40, 0, 0), zI x1, zI x2, zI x3, zI x4, vx5, vx6] [] (mm_z hi dh nx ns) Q =
    (if x4 = 0 then mm_Wp 289 (mm_blk 289 10) [zR (40, 0, 0), zI x1, zI x2, zI x3, zI x4, vx5, vx6] [] (mm_z hi dh nx ns) Q else (if x3 < (mm_w ((hi (40, 0, 0) 45) + 1)) then (if 1 < (mm_w ((hi (40, 0, 0) 45) - (hi (40, 0, 0) 44))) then mm_Wp 289 (mm_blk 289 4) [zR (40, 0, 0), zI x1, zI x2, zI x3, zI x4, zI x3, vx6] [] (mm_z hi dh nx ns) Q else mm_Wp 289 (mm_blk 289 10) [zR (40, 0, 0), zI x1, zI x2, zI x3, zI x4, vx5, vx6] [] (mm_z hi dh nx ns) Q) else mm_Wp 289 (mm_blk 289 10) [zR (40, 0, 0), zI x1, zI x2, zI x3, zI x4, vx5, vx6] [] (mm_z hi dh nx ns) Q)) :=
  mm_kb bq_289_3 ((wp_3_4).trans ((wp_40).trans (mm_ic (rfl) ((wp_3_3).trans ((wp_5_0).trans ((wp_60 (by decide) (mm_o40 hy)).trans ((wp_1).trans ((wp_10).trans ((wp_49).trans (mm_ic ((wp_5_0).trans ((wp_60 (by decide) (mm_o40 hy)).trans ((wp_5_0).trans ((wp_60 (by decide) (mm_o40 hy)).trans ((wp_11).trans ((wp_1).trans ((wp_51).trans (mm_ic ((wp_3_3).trans ((wp_6 (l2 := [zR (40, 0, 0), zI x1, zI x2, zI x3, zI x4, zI x3, vx6]) rfl).trans ((wp_0).trans (rfl)))) (rfl))))))))) (rfl)))))))))))
theorem r_289_10 (vx1 : mm_V) (x2 : Int) (vx3 : mm_V) (x4 : Int) (vx5 : mm_V) (vx6 : mm_V) {hi : mm_Id → Int → Int} {dh : Int → Int} {nx ns : Int} {Q : mm_V → mm_H → Prop} (hy : 5306 ≤ nx) :
    mm_Wp 289 (mm_blk 289 10) [zR (40, 0, 0), vx1, zI x2, vx3, zI x4, vx5, vx6] [] (mm_z hi dh nx ns) Q =
    ((x4 = 0 ∨ x4 = 1) ∧ Q (zI x4) (mm_z (mm_up hi (40, 0, 0) 46 x2) dh nx ns)) :=
  mm_kb bq_289_10 ((wp_5_0).trans ((wp_3_2).trans ((wp_31).trans ((wp_65 (mm_o40 hy)).trans ((wp_3_4).trans (wp_94z))))))
theorem r_289_4 (x1 : Int) (x2 : Int) (x3 : Int) (vx4 : mm_V) (x5 : Int) (vx6 : mm_V) {hi : mm_Id → Int → Int} {dh : Int → Int} {nx ns : Int} {Q : mm_V → mm_H → Prop} (hy : 5306 ≤ nx) :
    mm_Wp 289 (mm_blk 289 4) [zR (40, 0, 0), zI x1, zI x2, zI x3, vx4, zI x5, vx6] [] (mm_z hi dh nx ns) Q =
    (if x5 < (hi (40, 0, 0) 45) then ((0 ≤ x5 ∧ x5 < 8000) ∧ (if (hi (67, 0, 0) x5) = 47 then mm_Wp 289 (mm_blk 289 5) [zR (40, 0, 0), zI x1, zI x2, zI x3, vx4, zI x5, vx6] [] (mm_z hi dh nx ns) Q else mm_Wp 289 (mm_blk 289 4) [zR (40, 0, 0), zI x1, zI x2, zI x3, vx4, zI (mm_w (x5 + 1)), vx6] [] (mm_z hi dh nx ns) Q)) else mm_Wp 289 (mm_blk 289 5) [zR (40, 0, 0), zI x1, zI x2, zI x3, vx4, zI x5, vx6] [] (mm_z hi dh nx ns) Q) :=
  mm_kb bq_289_4 ((wp_3_5).trans ((wp_5_0).trans ((wp_60 (by decide) (mm_o40 hy)).trans ((wp_49).trans (mm_ic ((wp_5_0).trans ((wp_62 (by decide) (mm_o40 hy) (mm_r40_38 hy)).trans ((wp_3_5).trans ((wp_71 (mm_q67 hy)).trans (mm_ae ((wp_1).trans ((wp_46).trans (mm_ic (rfl) ((wp_9 (l2 := [zR (40, 0, 0), zI x1, zI x2, zI x3, vx4, zI (mm_w (x5 + 1)), vx6]) rfl rfl).trans ((wp_56).trans (rfl))))))))))) (rfl))))))
theorem r_289_5 (x1 : Int) (x2 : Int) (x3 : Int) (vx4 : mm_V) (x5 : Int) (vx6 : mm_V) {hi : mm_Id → Int → Int} {dh : Int → Int} {nx ns : Int} {Q : mm_V → mm_H → Prop} (hy : 5306 ≤ nx) :
    mm_Wp 289 (mm_blk 289 5) [zR (40, 0, 0), zI x1, zI x2, zI x3, vx4, zI x5, vx6] [] (mm_z hi dh nx ns) Q =
    mm_Cl 288 [zR (40, 0, 0), zI x3, zI x5, zI 7] (mm_z hi dh nx ns) (fun r h3 => mm_Wp 289 (bk_289_5.drop 5) [zR (40, 0, 0), zI x1, zI x2, zI x3, vx4, zI x5, vx6] (mm_push r []) h3 Q) :=
  mm_kb bq_289_5 ((wp_5_0).trans ((wp_3_3).trans ((wp_3_5).trans ((wp_1).trans ((wp_v4 mm_n_288 (mm_leq mm_m_288 (mm_lb rfl)) (mm_lb rfl) (mm_o40 hy)).trans rfl)))))
theorem r_289_5_5 (x1 : Int) (x2 : Int) (vx3 : mm_V) (vx4 : mm_V) (x5 : Int) (vx6 : mm_V) (y0 : Int) {hi : mm_Id → Int → Int} {dh : Int → Int} {nx ns : Int} {Q : mm_V → mm_H → Prop} (hvx3 : mm_wt vx3 = 1) (hy : 5306 ≤ nx) :
    mm_Wp 289 (bk_289_5.drop 5) [zR (40, 0, 0), zI x1, zI x2, vx3, vx4, zI x5, vx6] [zI y0] (mm_z hi dh nx ns) Q =
    (if y0 = 0 then mm_Wp 289 (mm_blk 289 6) [zR (40, 0, 0), zI x1, zI x2, vx3, zI y0, zI x5, vx6] [] (mm_z hi dh nx ns) Q else (if 0 < x2 then mm_Cl 211 [zR (40, 0, 0), zI x1, zI x2] (mm_z hi dh nx ns) (fun r h3 => mm_Wp 289 (bk_289_5.drop 14) [zR (40, 0, 0), zI x1, zI x2, vx3, zI y0, zI x5, vx6] (mm_push r []) h3 Q) else mm_Wp 289 (mm_blk 289 6) [zR (40, 0, 0), zI x1, zI x2, vx3, zI y0, zI x5, vx6] [] (mm_z hi dh nx ns) Q)) :=
  (wp_6 (l2 := [zR (40, 0, 0), zI x1, zI x2, vx3, zI y0, zI x5, vx6]) ((if_pos (mm_lb rfl)).trans (congrArg some (mm_stw rfl hvx3)))).trans ((wp_3_4).trans ((wp_40).trans (mm_ic (rfl) ((wp_3_2).trans ((wp_45).trans (mm_ic ((wp_5_0).trans ((wp_3_1).trans ((wp_3_2).trans ((wp_v3 mm_n_211 (mm_leq mm_m_211 (mm_lb rfl)) (mm_lb rfl) (mm_o40 hy)).trans rfl)))) (rfl)))))))
theorem r_289_6 (x1 : Int) (x2 : Int) (vx3 : mm_V) (x4 : Int) (x5 : Int) (vx6 : mm_V) {hi : mm_Id → Int → Int} {dh : Int → Int} {nx ns : Int} {Q : mm_V → mm_H → Prop} (hy : 5306 ≤ nx) :
    mm_Wp 289 (mm_blk 289 6) [zR (40, 0, 0), zI x1, zI x2, vx3, zI x4, zI x5, vx6] [] (mm_z hi dh nx ns) Q =
    mm_Wp 289 (mm_blk 289 7) [zR (40, 0, 0), zI x1, zI x2, vx3, zI x4, zI x5, vx6] [zI (-1)] (mm_z hi dh nx ns) Q :=
  mm_kb bq_289_6 ((wp_1).trans ((wp_0).trans (rfl)))
theorem r_289_5_14 (x1 : Int) (x2 : Int) (vx3 : mm_V) (x4 : Int) (x5 : Int) (vx6 : mm_V) (y0 : Int) {hi : mm_Id → Int → Int} {dh : Int → Int} {nx ns : Int} {Q : mm_V → mm_H → Prop} (hy : 5306 ≤ nx) :
    mm_Wp 289 (bk_289_5.drop 14) [zR (40, 0, 0), zI x1, zI x2, vx3, zI x4, zI x5, vx6] [zI y0] (mm_z hi dh nx ns) Q =
    (if y0 = 0 then mm_Wp 289 (mm_blk 289 6) [zR (40, 0, 0), zI x1, zI x2, vx3, zI x4, zI x5, vx6] [] (mm_z hi dh nx ns) Q else mm_Cl 174 [zL (hi (40, 0, 0) 46), zL 1, zL 1000000] (mm_z hi dh nx ns) (fun r h3 => mm_Wp 289 (bk_289_5.drop 20) [zR (40, 0, 0), zI x1, zI x2, vx3, zI x4, zI x5, vx6] (mm_push r []) h3 Q)) :=
  (wp_40).trans (mm_ic (rfl) ((wp_5_0).trans ((wp_61 (by decide) (mm_o40 hy)).trans ((wp_2).trans ((wp_2).trans ((wp_s3 mm_n_174 (mm_leq mm_m_174 (mm_lb rfl)) (mm_lb rfl)).trans rfl))))))
theorem r_289_7 (x1 : Int) (x2 : Int) (vx3 : mm_V) (x4 : Int) (x5 : Int) (vx6 : mm_V) (y0 : Int) {hi : mm_Id → Int → Int} {dh : Int → Int} {nx ns : Int} {Q : mm_V → mm_H → Prop} (hy : 5306 ≤ nx) :
    mm_Wp 289 (mm_blk 289 7) [zR (40, 0, 0), zI x1, zI x2, vx3, zI x4, zI x5, vx6] [zI y0] (mm_z hi dh nx ns) Q =
    (if y0 < 0 then mm_Wp 289 (mm_blk 289 9) [zR (40, 0, 0), zI x1, zI x2, vx3, zI x4, zI x5, zI y0] [zI 0] (mm_z hi dh nx ns) Q else mm_Cl 185 [zR (40, 0, 0), zI x1, zI x2, zI y0] (mm_z hi dh nx ns) (fun r h3 => mm_Wp 289 (bk_289_8.drop 5) [zR (40, 0, 0), zI x1, zI x2, vx3, zI x4, zI x5, zI y0] (mm_push r []) h3 Q)) :=
  mm_kb bq_289_7 ((wp_6 (l2 := [zR (40, 0, 0), zI x1, zI x2, vx3, zI x4, zI x5, zI y0]) rfl).trans ((wp_3_6).trans ((wp_43).trans (mm_ic ((wp_1).trans ((wp_56).trans (rfl))) (mm_kb bq_289_8 ((wp_5_0).trans ((wp_3_1).trans ((wp_3_2).trans ((wp_3_6).trans ((wp_v4 mm_n_185 (mm_leq mm_m_185 (mm_lb rfl)) (mm_lb rfl) (mm_o40 hy)).trans rfl))))))))))
theorem r_289_5_20 (x1 : Int) (x2 : Int) (vx3 : mm_V) (x4 : Int) (x5 : Int) (vx6 : mm_V) (y0 : Int) {hi : mm_Id → Int → Int} {dh : Int → Int} {nx ns : Int} {Q : mm_V → mm_H → Prop} (hy : 5306 ≤ nx) :
    mm_Wp 289 (bk_289_5.drop 20) [zR (40, 0, 0), zI x1, zI x2, vx3, zI x4, zI x5, vx6] [zI y0] (mm_z hi dh nx ns) Q =
    (if y0 = 0 then mm_Wp 289 (mm_blk 289 6) [zR (40, 0, 0), zI x1, zI x2, vx3, zI x4, zI x5, vx6] [] (mm_z hi dh nx ns) Q else mm_Cl 184 [zR (40, 0, 0), zI x1, zI x2, zI (mm_w (hi (40, 0, 0) 46))] (mm_z hi dh nx ns) (fun r h3 => mm_Wp 289 (bk_289_5.drop 28) [zR (40, 0, 0), zI x1, zI x2, vx3, zI x4, zI x5, vx6] (mm_push r []) h3 Q)) :=
  (wp_40).trans (mm_ic (rfl) ((wp_5_0).trans ((wp_3_1).trans ((wp_3_2).trans ((wp_5_0).trans ((wp_61 (by decide) (mm_o40 hy)).trans ((wp_32).trans ((wp_v4 mm_n_184 (mm_leq mm_m_184 (mm_lb rfl)) (mm_lb rfl) (mm_o40 hy)).trans rfl))))))))
theorem r_289_8_5 (x1 : Int) (vx2 : mm_V) (vx3 : mm_V) (x4 : Int) (x5 : Int) (vx6 : mm_V) (y0 : Int) {hi : mm_Id → Int → Int} {dh : Int → Int} {nx ns : Int} {Q : mm_V → mm_H → Prop} (hy : 5306 ≤ nx) :
    mm_Wp 289 (bk_289_8.drop 5) [zR (40, 0, 0), zI x1, vx2, vx3, zI x4, zI x5, vx6] [zI y0] (mm_z hi dh nx ns) Q =
    mm_Wp 289 (mm_blk 289 9) [zR (40, 0, 0), zI x1, vx2, vx3, zI x4, zI x5, vx6] [zI y0] (mm_z hi dh nx ns) Q :=
  (wp_0).trans (rfl)
theorem r_289_9 (x1 : Int) (vx2 : mm_V) (vx3 : mm_V) (x4 : Int) (x5 : Int) (vx6 : mm_V) (y0 : Int) {hi : mm_Id → Int → Int} {dh : Int → Int} {nx ns : Int} {Q : mm_V → mm_H → Prop} (hy : 5306 ≤ nx) :
    mm_Wp 289 (mm_blk 289 9) [zR (40, 0, 0), zI x1, vx2, vx3, zI x4, zI x5, vx6] [zI y0] (mm_z hi dh nx ns) Q =
    mm_Wp 289 (mm_blk 289 3) [zR (40, 0, 0), zI x1, zI y0, zI (mm_w (x5 + 1)), zI x4, zI x5, vx6] [] (mm_z hi dh nx ns) Q :=
  mm_kb bq_289_9 ((wp_6 (l2 := [zR (40, 0, 0), zI x1, zI y0, vx3, zI x4, zI x5, vx6]) rfl).trans ((wp_3_5).trans ((wp_1).trans ((wp_10).trans ((wp_6 (l2 := [zR (40, 0, 0), zI x1, zI y0, zI (mm_w (x5 + 1)), zI x4, zI x5, vx6]) rfl).trans ((wp_56).trans (rfl)))))))
theorem r_289_5_28 (x1 : Int) (x2 : Int) (vx3 : mm_V) (x4 : Int) (x5 : Int) (vx6 : mm_V) (y0 : Int) {hi : mm_Id → Int → Int} {dh : Int → Int} {nx ns : Int} {Q : mm_V → mm_H → Prop} (hy : 5306 ≤ nx) :
    mm_Wp 289 (bk_289_5.drop 28) [zR (40, 0, 0), zI x1, zI x2, vx3, zI x4, zI x5, vx6] [zI y0] (mm_z hi dh nx ns) Q =
    mm_Wp 289 (mm_blk 289 7) [zR (40, 0, 0), zI x1, zI x2, vx3, zI x4, zI x5, vx6] [zI y0] (mm_z hi dh nx ns) Q :=
  (wp_56).trans (rfl)
/-- PoolHouseModel.number(II)Z -/
theorem bq_290_0 : mm_blk 290 0 = bk_290_0 := by decide +kernel
theorem bq_290_1 : mm_blk 290 1 = bk_290_1 := by decide +kernel
theorem bq_290_2 : mm_blk 290 2 = bk_290_2 := by decide +kernel
theorem bq_290_3 : mm_blk 290 3 = bk_290_3 := by decide +kernel
theorem bq_290_4 : mm_blk 290 4 = bk_290_4 := by decide +kernel
theorem bq_290_5 : mm_blk 290 5 = bk_290_5 := by decide +kernel
theorem bq_290_6 : mm_blk 290 6 = bk_290_6 := by decide +kernel
theorem bq_290_7 : mm_blk 290 7 = bk_290_7 := by decide +kernel
theorem bq_290_8 : mm_blk 290 8 = bk_290_8 := by decide +kernel
theorem bq_290_9 : mm_blk 290 9 = bk_290_9 := by decide +kernel
theorem bq_290_10 : mm_blk 290 10 = bk_290_10 := by decide +kernel
theorem bq_290_11 : mm_blk 290 11 = bk_290_11 := by decide +kernel
theorem bq_290_12 : mm_blk 290 12 = bk_290_12 := by decide +kernel
theorem bq_290_13 : mm_blk 290 13 = bk_290_13 := by decide +kernel
theorem bq_290_14 : mm_blk 290 14 = bk_290_14 := by decide +kernel
theorem bq_290_15 : mm_blk 290 15 = bk_290_15 := by decide +kernel
theorem bq_290_16 : mm_blk 290 16 = bk_290_16 := by decide +kernel
theorem r_290_e (x1 : Int) (x2 : Int) {hi : mm_Id → Int → Int} {dh : Int → Int} {nx ns : Int} {Q : mm_V → mm_H → Prop} (hy : 5306 ≤ nx) :
    mm_Cl 290 [zR (40, 0, 0), zI x1, zI x2] (mm_z hi dh nx ns) Q =
    ((0 ≤ (hi (40, 0, 0) 44) ∧ (hi (40, 0, 0) 44) < 8000) ∧ (if (hi (67, 0, 0) (hi (40, 0, 0) 44)) = 47 then (if 0 < x2 then mm_Cl 174 [zL (hi (70, 0, 0) 0), zL (-2147483648), zL 2147483647] (mm_z hi dh nx ns) (fun r h3 => mm_Wp 290 (bk_290_0.drop 19) [zR (40, 0, 0), zI x1, zI x2, zI (hi (67, 0, 0) (hi (40, 0, 0) 44)), zU] (mm_push r [zR (40, 0, 0)]) h3 Q) else mm_Wp 290 (mm_blk 290 3) [zR (40, 0, 0), zI x1, zI x2, zI (hi (67, 0, 0) (hi (40, 0, 0) 44)), zU] [] (mm_z hi dh nx ns) Q) else (if (hi (67, 0, 0) (hi (40, 0, 0) 44)) = 64 then mm_Cl 288 [zR (40, 0, 0), zI (mm_w ((hi (40, 0, 0) 44) + 1)), zI (hi (40, 0, 0) 45), zI 18] (mm_z hi dh nx ns) (fun r h3 => mm_Wp 290 (bk_290_5.drop 12) [zR (40, 0, 0), zI x1, zI x2, zI (hi (67, 0, 0) (hi (40, 0, 0) 44)), zU] (mm_push r []) h3 Q) else (if (hi (67, 0, 0) (hi (40, 0, 0) 44)) = 45 then mm_Cl 288 [zR (40, 0, 0), zI (mm_w ((hi (40, 0, 0) 44) + 1)), zI (hi (40, 0, 0) 45), zI 18] (mm_z hi dh nx ns) (fun r h3 => mm_Wp 290 (bk_290_10.drop 12) [zR (40, 0, 0), zI x1, zI x2, zI (hi (67, 0, 0) (hi (40, 0, 0) 44)), zU] (mm_push r []) h3 Q) else mm_Cl 288 [zR (40, 0, 0), zI (hi (40, 0, 0) 44), zI (hi (40, 0, 0) 45), zI 18] (mm_z hi dh nx ns) (fun r h3 => mm_Wp 290 (bk_290_11.drop 7) [zR (40, 0, 0), zI x1, zI x2, zI (hi (67, 0, 0) (hi (40, 0, 0) 44)), zU] (mm_push r []) h3 Q))))) :=
  mm_ce (l2 := [zR (40, 0, 0), zI x1, zI x2, zU, zU]) rfl (mm_kb bq_290_0 ((wp_5_0).trans ((wp_62 (by decide) (mm_o40 hy) (mm_r40_38 hy)).trans ((wp_5_0).trans ((wp_60 (by decide) (mm_o40 hy)).trans ((wp_71 (mm_q67 hy)).trans (mm_ae ((wp_6 (l2 := [zR (40, 0, 0), zI x1, zI x2, zI (hi (67, 0, 0) (hi (40, 0, 0) 44)), zU]) rfl).trans ((wp_3_3).trans ((wp_1).trans ((wp_47).trans (mm_ic ((wp_3_2).trans ((wp_45).trans (mm_ic ((wp_5_0).trans ((wp_5_0).trans ((wp_62 (by decide) (mm_o40 hy) (mm_r40_47 hy)).trans ((wp_1).trans ((wp_72k (mm_q70 hy) (by decide)).trans ((wp_2).trans ((wp_2).trans ((wp_s3 mm_n_174 (mm_leq mm_m_174 (mm_lb rfl)) (mm_lb rfl)).trans rfl)))))))) (rfl)))) (mm_kb bq_290_5 ((wp_3_3).trans ((wp_1).trans ((wp_47).trans (mm_ic ((wp_5_0).trans ((wp_5_0).trans ((wp_60 (by decide) (mm_o40 hy)).trans ((wp_1).trans ((wp_10).trans ((wp_5_0).trans ((wp_60 (by decide) (mm_o40 hy)).trans ((wp_1).trans ((wp_v4 mm_n_288 (mm_leq mm_m_288 (mm_lb rfl)) (mm_lb rfl) (mm_o40 hy)).trans rfl))))))))) (mm_kb bq_290_10 ((wp_3_3).trans ((wp_1).trans ((wp_47).trans (mm_ic ((wp_5_0).trans ((wp_5_0).trans ((wp_60 (by decide) (mm_o40 hy)).trans ((wp_1).trans ((wp_10).trans ((wp_5_0).trans ((wp_60 (by decide) (mm_o40 hy)).trans ((wp_1).trans ((wp_v4 mm_n_288 (mm_leq mm_m_288 (mm_lb rfl)) (mm_lb rfl) (mm_o40 hy)).trans rfl))))))))) (mm_kb bq_290_11 ((wp_5_0).trans ((wp_5_0).trans ((wp_60 (by decide) (mm_o40 hy)).trans ((wp_5_0).trans ((wp_60 (by decide) (mm_o40 hy)).trans ((wp_1).trans ((wp_v4 mm_n_288 (mm_leq mm_m_288 (mm_lb rfl)) (mm_lb rfl) (mm_o40 hy)).trans rfl))))))))))))))))))))))))))))))
theorem r_290_11_7 (x1 : Int) (vx2 : mm_V) (vx3 : mm_V) (vx4 : mm_V) (y0 : Int) {hi : mm_Id → Int → Int} {dh : Int → Int} {nx ns : Int} {Q : mm_V → mm_H → Prop} (hvx3 : mm_wt vx3 = 1) (hy : 5306 ≤ nx) :
    mm_Wp 290 (bk_290_11.drop 7) [zR (40, 0, 0), zI x1, vx2, vx3, vx4] [zI y0] (mm_z hi dh nx ns) Q =
    mm_Wp 290 (mm_blk 290 12) [zR (40, 0, 0), zI x1, vx2, vx3, zI y0] [] (mm_z hi dh nx ns) Q :=
  (wp_6 (l2 := [zR (40, 0, 0), zI x1, vx2, vx3, zI y0]) ((if_pos (mm_lb rfl)).trans (congrArg some (mm_stw rfl hvx3)))).trans ((wp_0).trans (rfl))
theorem r_290_10_12 (x1 : Int) (vx2 : mm_V) (vx3 : mm_V) (vx4 : mm_V) (y0 : Int) {hi : mm_Id → Int → Int} {dh : Int → Int} {nx ns : Int} {Q : mm_V → mm_H → Prop} (hvx3 : mm_wt vx3 = 1) (hy : 5306 ≤ nx) :
    mm_Wp 290 (bk_290_10.drop 12) [zR (40, 0, 0), zI x1, vx2, vx3, vx4] [zI y0] (mm_z hi dh nx ns) Q =
    mm_Wp 290 (mm_blk 290 12) [zR (40, 0, 0), zI x1, vx2, vx3, zI y0] [] (mm_z (mm_up hi (40, 0, 0) 46 (mm_W (-(hi (40, 0, 0) 46)))) dh nx ns) Q :=
  (wp_6 (l2 := [zR (40, 0, 0), zI x1, vx2, vx3, zI y0]) ((if_pos (mm_lb rfl)).trans (congrArg some (mm_stw rfl hvx3)))).trans ((wp_5_0).trans ((wp_5_0).trans ((wp_61 (by decide) (mm_o40 hy)).trans ((wp_25).trans ((wp_65 (mm_o40 hy)).trans ((wp_56).trans (rfl)))))))
theorem r_290_5_12 (x1 : Int) (vx2 : mm_V) (vx3 : mm_V) (vx4 : mm_V) (y0 : Int) {hi : mm_Id → Int → Int} {dh : Int → Int} {nx ns : Int} {Q : mm_V → mm_H → Prop} (hy : 5306 ≤ nx) :
    mm_Wp 290 (bk_290_5.drop 12) [zR (40, 0, 0), zI x1, vx2, vx3, vx4] [zI y0] (mm_z hi dh nx ns) Q =
    (if y0 = 0 then mm_Wp 290 (mm_blk 290 6) [zR (40, 0, 0), zI x1, vx2, vx3, vx4] [] (mm_z hi dh nx ns) Q else (if (mm_cmp (hi (40, 0, 0) 46) (hi (40, 0, 0) 42)) < 0 then mm_Wp 290 (mm_blk 290 7) [zR (40, 0, 0), zI x1, vx2, vx3, vx4] [zI 1] (mm_z hi dh nx ns) Q else mm_Wp 290 (mm_blk 290 6) [zR (40, 0, 0), zI x1, vx2, vx3, vx4] [] (mm_z hi dh nx ns) Q)) :=
  (wp_40).trans (mm_ic (rfl) ((wp_5_0).trans ((wp_61 (by decide) (mm_o40 hy)).trans ((wp_5_0).trans ((wp_60 (by decide) (mm_o40 hy)).trans ((wp_31).trans ((wp_34).trans ((wp_43).trans (mm_ic ((wp_1).trans ((wp_56).trans (rfl))) (rfl))))))))))
theorem r_290_3 (x1 : Int) (vx2 : mm_V) (vx3 : mm_V) (vx4 : mm_V) {hi : mm_Id → Int → Int} {dh : Int → Int} {nx ns : Int} {Q : mm_V → mm_H → Prop} (hy : 5306 ≤ nx) :
    mm_Wp 290 (mm_blk 290 3) [zR (40, 0, 0), zI x1, vx2, vx3, vx4] [] (mm_z hi dh nx ns) Q =
    mm_Wp 290 (mm_blk 290 4) [zR (40, 0, 0), zI x1, vx2, vx3, vx4] [zI 0] (mm_z hi dh nx ns) Q :=
  mm_kb bq_290_3 ((wp_1).trans ((wp_0).trans (rfl)))
theorem r_290_0_19 (x1 : Int) (vx2 : mm_V) (vx3 : mm_V) (vx4 : mm_V) (y0 : Int) {hi : mm_Id → Int → Int} {dh : Int → Int} {nx ns : Int} {Q : mm_V → mm_H → Prop} (hy : 5306 ≤ nx) :
    mm_Wp 290 (bk_290_0.drop 19) [zR (40, 0, 0), zI x1, vx2, vx3, vx4] [zI y0, zR (40, 0, 0)] (mm_z hi dh nx ns) Q =
    (if y0 = 0 then mm_Wp 290 (mm_blk 290 2) [zR (40, 0, 0), zI x1, vx2, vx3, vx4] [zI (-1), zR (40, 0, 0)] (mm_z hi dh nx ns) Q else mm_Cl 181 [zR (40, 0, 0), zI (mm_w (hi (70, 0, 0) 0))] (mm_z hi dh nx ns) (fun r h3 => mm_Wp 290 (bk_290_0.drop 27) [zR (40, 0, 0), zI x1, vx2, vx3, vx4] (mm_push r [zR (40, 0, 0)]) h3 Q)) :=
  (wp_40).trans (mm_ic (mm_kb bq_290_1 ((wp_1).trans ((wp_0).trans (rfl)))) ((wp_5_0).trans ((wp_5_0).trans ((wp_62 (by decide) (mm_o40 hy) (mm_r40_47 hy)).trans ((wp_1).trans ((wp_72k (mm_q70 hy) (by decide)).trans ((wp_32).trans ((wp_v2 mm_n_181 (mm_leq mm_m_181 (mm_lb rfl)) (mm_lb rfl) (mm_o40 hy)).trans rfl))))))))
theorem r_290_12 (x1 : Int) (vx2 : mm_V) (vx3 : mm_V) (x4 : Int) {hi : mm_Id → Int → Int} {dh : Int → Int} {nx ns : Int} {Q : mm_V → mm_H → Prop} (hy : 5306 ≤ nx) :
    mm_Wp 290 (mm_blk 290 12) [zR (40, 0, 0), zI x1, vx2, vx3, zI x4] [] (mm_z hi dh nx ns) Q =
    (if x4 = 0 then mm_Wp 290 (mm_blk 290 15) [zR (40, 0, 0), zI x1, vx2, vx3, zI x4] [] (mm_z hi dh nx ns) Q else (if x1 = 2 then mm_Wp 290 (mm_blk 290 14) [zR (40, 0, 0), zI x1, vx2, vx3, zI x4] [] (mm_z hi dh nx ns) Q else (if x1 = 1 then mm_Cl 174 [zL (hi (40, 0, 0) 46), zL (-2147483648), zL 2147483647] (mm_z hi dh nx ns) (fun r h3 => mm_Wp 290 (bk_290_12.drop 13) [zR (40, 0, 0), zI x1, vx2, vx3, zI x4] (mm_push r []) h3 Q) else mm_Cl 174 [zL (hi (40, 0, 0) 46), zL 0, zL 1] (mm_z hi dh nx ns) (fun r h3 => mm_Wp 290 (bk_290_13.drop 5) [zR (40, 0, 0), zI x1, vx2, vx3, zI x4] (mm_push r []) h3 Q)))) :=
  mm_kb bq_290_12 ((wp_3_4).trans ((wp_40).trans (mm_ic (rfl) ((wp_3_1).trans ((wp_1).trans ((wp_46).trans (mm_ic (rfl) ((wp_3_1).trans ((wp_1).trans ((wp_47).trans (mm_ic ((wp_5_0).trans ((wp_61 (by decide) (mm_o40 hy)).trans ((wp_2).trans ((wp_2).trans ((wp_s3 mm_n_174 (mm_leq mm_m_174 (mm_lb rfl)) (mm_lb rfl)).trans rfl))))) (mm_kb bq_290_13 ((wp_5_0).trans ((wp_61 (by decide) (mm_o40 hy)).trans ((wp_2).trans ((wp_2).trans ((wp_s3 mm_n_174 (mm_leq mm_m_174 (mm_lb rfl)) (mm_lb rfl)).trans rfl)))))))))))))))))
theorem r_290_6 (x1 : Int) (vx2 : mm_V) (vx3 : mm_V) (vx4 : mm_V) {hi : mm_Id → Int → Int} {dh : Int → Int} {nx ns : Int} {Q : mm_V → mm_H → Prop} (hy : 5306 ≤ nx) :
    mm_Wp 290 (mm_blk 290 6) [zR (40, 0, 0), zI x1, vx2, vx3, vx4] [] (mm_z hi dh nx ns) Q =
    mm_Wp 290 (mm_blk 290 7) [zR (40, 0, 0), zI x1, vx2, vx3, vx4] [zI 0] (mm_z hi dh nx ns) Q :=
  mm_kb bq_290_6 ((wp_1).trans ((wp_0).trans (rfl)))
theorem r_290_7 (x1 : Int) (vx2 : mm_V) (vx3 : mm_V) (vx4 : mm_V) (y0 : Int) {hi : mm_Id → Int → Int} {dh : Int → Int} {nx ns : Int} {Q : mm_V → mm_H → Prop} (hvx3 : mm_wt vx3 = 1) (hy : 5306 ≤ nx) :
    mm_Wp 290 (mm_blk 290 7) [zR (40, 0, 0), zI x1, vx2, vx3, vx4] [zI y0] (mm_z hi dh nx ns) Q =
    (if y0 = 0 then mm_Wp 290 (mm_blk 290 9) [zR (40, 0, 0), zI x1, vx2, vx3, zI y0] [zL 0, zR (40, 0, 0)] (mm_z hi dh nx ns) Q else ((0 ≤ (mm_w (hi (40, 0, 0) 46)) ∧ (mm_w (hi (40, 0, 0) 46)) < 4000) ∧ mm_Wp 290 (mm_blk 290 9) [zR (40, 0, 0), zI x1, vx2, vx3, zI y0] [zL (hi (69, 0, 0) (mm_w (hi (40, 0, 0) 46))), zR (40, 0, 0)] (mm_z hi dh nx ns) Q)) :=
  mm_kb bq_290_7 ((wp_6 (l2 := [zR (40, 0, 0), zI x1, vx2, vx3, zI y0]) ((if_pos (mm_lb rfl)).trans (congrArg some (mm_stw rfl hvx3)))).trans ((wp_5_0).trans ((wp_3_4).trans ((wp_40).trans (mm_ic (mm_kb bq_290_8 ((wp_2).trans ((wp_0).trans (rfl)))) ((wp_5_0).trans ((wp_62 (by decide) (mm_o40 hy) (mm_r40_41 hy)).trans ((wp_5_0).trans ((wp_61 (by decide) (mm_o40 hy)).trans ((wp_32).trans ((wp_72 (mm_q69 hy)).trans (mm_ae ((wp_56).trans (rfl))))))))))))))
theorem r_290_4 (x1 : Int) (vx2 : mm_V) (vx3 : mm_V) (vx4 : mm_V) (y0 : Int) {hi : mm_Id → Int → Int} {dh : Int → Int} {nx ns : Int} {Q : mm_V → mm_H → Prop} (hvx3 : mm_wt vx3 = 1) (hy : 5306 ≤ nx) :
    mm_Wp 290 (mm_blk 290 4) [zR (40, 0, 0), zI x1, vx2, vx3, vx4] [zI y0] (mm_z hi dh nx ns) Q =
    mm_Wp 290 (mm_blk 290 12) [zR (40, 0, 0), zI x1, vx2, vx3, zI y0] [] (mm_z hi dh nx ns) Q :=
  mm_kb bq_290_4 ((wp_6 (l2 := [zR (40, 0, 0), zI x1, vx2, vx3, zI y0]) ((if_pos (mm_lb rfl)).trans (congrArg some (mm_stw rfl hvx3)))).trans ((wp_56).trans (rfl)))
theorem r_290_2 (x1 : Int) (vx2 : mm_V) (vx3 : mm_V) (vx4 : mm_V) (y0 : Int) {hi : mm_Id → Int → Int} {dh : Int → Int} {nx ns : Int} {Q : mm_V → mm_H → Prop} (hy : 5306 ≤ nx) :
    mm_Wp 290 (mm_blk 290 2) [zR (40, 0, 0), zI x1, vx2, vx3, vx4] [zI y0, zR (40, 0, 0)] (mm_z hi dh nx ns) Q =
    mm_Cl 289 [zR (40, 0, 0), zI y0] (mm_z hi dh nx ns) (fun r h3 => mm_Wp 290 (bk_290_2.drop 1) [zR (40, 0, 0), zI x1, vx2, vx3, vx4] (mm_push r []) h3 Q) :=
  mm_kb bq_290_2 ((wp_v2 mm_n_289 (mm_leq mm_m_289 (mm_lb rfl)) (mm_lb rfl) (mm_o40 hy)).trans rfl)
theorem r_290_0_27 (x1 : Int) (vx2 : mm_V) (vx3 : mm_V) (vx4 : mm_V) (y0 : Int) {hi : mm_Id → Int → Int} {dh : Int → Int} {nx ns : Int} {Q : mm_V → mm_H → Prop} (hy : 5306 ≤ nx) :
    mm_Wp 290 (bk_290_0.drop 27) [zR (40, 0, 0), zI x1, vx2, vx3, vx4] [zI y0, zR (40, 0, 0)] (mm_z hi dh nx ns) Q =
    mm_Wp 290 (mm_blk 290 2) [zR (40, 0, 0), zI x1, vx2, vx3, vx4] [zI y0, zR (40, 0, 0)] (mm_z hi dh nx ns) Q :=
  (wp_56).trans (rfl)
theorem r_290_15 (vx0 : mm_V) (vx1 : mm_V) (vx2 : mm_V) (vx3 : mm_V) (vx4 : mm_V) {hi : mm_Id → Int → Int} {dh : Int → Int} {nx ns : Int} {Q : mm_V → mm_H → Prop} (hy : 5306 ≤ nx) :
    mm_Wp 290 (mm_blk 290 15) [vx0, vx1, vx2, vx3, vx4] [] (mm_z hi dh nx ns) Q =
    mm_Wp 290 (mm_blk 290 16) [vx0, vx1, vx2, vx3, vx4] [zI 0] (mm_z hi dh nx ns) Q :=
  mm_kb bq_290_15 ((wp_1).trans ((wp_0).trans (rfl)))
theorem r_290_14 (vx0 : mm_V) (vx1 : mm_V) (vx2 : mm_V) (vx3 : mm_V) (vx4 : mm_V) {hi : mm_Id → Int → Int} {dh : Int → Int} {nx ns : Int} {Q : mm_V → mm_H → Prop} (hy : 5306 ≤ nx) :
    mm_Wp 290 (mm_blk 290 14) [vx0, vx1, vx2, vx3, vx4] [] (mm_z hi dh nx ns) Q =
    mm_Wp 290 (mm_blk 290 16) [vx0, vx1, vx2, vx3, vx4] [zI 1] (mm_z hi dh nx ns) Q :=
  mm_kb bq_290_14 ((wp_1).trans ((wp_56).trans (rfl)))
theorem r_290_13_5 (vx0 : mm_V) (vx1 : mm_V) (vx2 : mm_V) (vx3 : mm_V) (vx4 : mm_V) (y0 : Int) {hi : mm_Id → Int → Int} {dh : Int → Int} {nx ns : Int} {Q : mm_V → mm_H → Prop} (hy : 5306 ≤ nx) :
    mm_Wp 290 (bk_290_13.drop 5) [vx0, vx1, vx2, vx3, vx4] [zI y0] (mm_z hi dh nx ns) Q =
    (if y0 = 0 then mm_Wp 290 (mm_blk 290 15) [vx0, vx1, vx2, vx3, vx4] [] (mm_z hi dh nx ns) Q else mm_Wp 290 (mm_blk 290 14) [vx0, vx1, vx2, vx3, vx4] [] (mm_z hi dh nx ns) Q) :=
  (wp_40).trans (mm_ic (rfl) ((wp_0).trans (rfl)))
theorem r_290_12_13 (vx0 : mm_V) (vx1 : mm_V) (vx2 : mm_V) (vx3 : mm_V) (vx4 : mm_V) (y0 : Int) {hi : mm_Id → Int → Int} {dh : Int → Int} {nx ns : Int} {Q : mm_V → mm_H → Prop} (hy : 5306 ≤ nx) :
    mm_Wp 290 (bk_290_12.drop 13) [vx0, vx1, vx2, vx3, vx4] [zI y0] (mm_z hi dh nx ns) Q =
    (if y0 = 0 then mm_Wp 290 (mm_blk 290 15) [vx0, vx1, vx2, vx3, vx4] [] (mm_z hi dh nx ns) Q else mm_Wp 290 (mm_blk 290 14) [vx0, vx1, vx2, vx3, vx4] [] (mm_z hi dh nx ns) Q) :=
  (wp_40).trans (mm_ic (rfl) ((wp_56).trans (rfl)))
theorem r_290_9 (x1 : Int) (vx2 : mm_V) (vx3 : mm_V) (x4 : Int) (y0 : Int) {hi : mm_Id → Int → Int} {dh : Int → Int} {nx ns : Int} {Q : mm_V → mm_H → Prop} (hy : 5306 ≤ nx) :
    mm_Wp 290 (mm_blk 290 9) [zR (40, 0, 0), zI x1, vx2, vx3, zI x4] [zL y0, zR (40, 0, 0)] (mm_z hi dh nx ns) Q =
    mm_Wp 290 (mm_blk 290 12) [zR (40, 0, 0), zI x1, vx2, vx3, zI x4] [] (mm_z (mm_up hi (40, 0, 0) 46 y0) dh nx ns) Q :=
  mm_kb bq_290_9 ((wp_65 (mm_o40 hy)).trans ((wp_56).trans (rfl)))
theorem r_290_2_1 (x1 : Int) (vx2 : mm_V) (vx3 : mm_V) (vx4 : mm_V) (y0 : Int) {hi : mm_Id → Int → Int} {dh : Int → Int} {nx ns : Int} {Q : mm_V → mm_H → Prop} (hy : 5306 ≤ nx) :
    mm_Wp 290 (bk_290_2.drop 1) [zR (40, 0, 0), zI x1, vx2, vx3, vx4] [zI y0] (mm_z hi dh nx ns) Q =
    (if y0 = 0 then mm_Wp 290 (mm_blk 290 3) [zR (40, 0, 0), zI x1, vx2, vx3, vx4] [] (mm_z hi dh nx ns) Q else mm_Wp 290 (mm_blk 290 4) [zR (40, 0, 0), zI x1, vx2, vx3, vx4] [zI 1] (mm_z hi dh nx ns) Q) :=
  (wp_40).trans (mm_ic (rfl) ((wp_1).trans ((wp_56).trans (rfl))))
theorem r_290_16 (vx0 : mm_V) (vx1 : mm_V) (vx2 : mm_V) (vx3 : mm_V) (vx4 : mm_V) (y0 : Int) {hi : mm_Id → Int → Int} {dh : Int → Int} {nx ns : Int} {Q : mm_V → mm_H → Prop} (hy : 5306 ≤ nx) :
    mm_Wp 290 (mm_blk 290 16) [vx0, vx1, vx2, vx3, vx4] [zI y0] (mm_z hi dh nx ns) Q =
    ((y0 = 0 ∨ y0 = 1) ∧ Q (zI y0) (mm_z hi dh nx ns)) :=
  mm_kb bq_290_16 (wp_94z)
/-- PoolHouseModel.tell(J)V -/
theorem bq_291_0 : mm_blk 291 0 = bk_291_0 := by decide +kernel
theorem bq_291_1 : mm_blk 291 1 = bk_291_1 := by decide +kernel
theorem bq_291_2 : mm_blk 291 2 = bk_291_2 := by decide +kernel
theorem bq_291_3 : mm_blk 291 3 = bk_291_3 := by decide +kernel
theorem bq_291_4 : mm_blk 291 4 = bk_291_4 := by decide +kernel
theorem bq_291_5 : mm_blk 291 5 = bk_291_5 := by decide +kernel
theorem bq_291_6 : mm_blk 291 6 = bk_291_6 := by decide +kernel
theorem r_291_e (x1 : Int) {hi : mm_Id → Int → Int} {dh : Int → Int} {nx ns : Int} {Q : mm_V → mm_H → Prop} (hy : 5306 ≤ nx) :
    mm_Cl 291 [zR (40, 0, 0), zL x1] (mm_z hi dh nx ns) Q =
    (if (mm_cmp x1 0) < 0 then mm_Wp 291 (mm_blk 291 2) [zR (40, 0, 0), zL x1, zU, zU, zU, zU, zU] [zL x1] (mm_z hi dh nx ns) Q else mm_Wp 291 (mm_blk 291 2) [zR (40, 0, 0), zL x1, zU, zU, zU, zU, zU] [zL (mm_W (-x1))] (mm_z hi dh nx ns) Q) :=
  mm_ce (l2 := [zR (40, 0, 0), zL x1, zU, zU, zU, zU, zU]) rfl (mm_kb bq_291_0 ((wp_4_1).trans ((wp_2).trans ((wp_34).trans ((wp_43).trans (mm_ic ((wp_4_1).trans ((wp_56).trans (rfl))) (mm_kb bq_291_1 ((wp_4_1).trans ((wp_25).trans ((wp_0).trans (rfl)))))))))))
theorem r_291_2 (x1 : Int) (vx3 : mm_V) (vx4 : mm_V) (vx5 : mm_V) (vx6 : mm_V) (y0 : Int) {hi : mm_Id → Int → Int} {dh : Int → Int} {nx ns : Int} {Q : mm_V → mm_H → Prop} (hy : 5306 ≤ nx) :
    mm_Wp 291 (mm_blk 291 2) [zR (40, 0, 0), zL x1, zU, vx3, vx4, vx5, vx6] [zL y0] (mm_z hi dh nx ns) Q =
    (if (mm_cmp x1 0) < 0 then ((0 ≤ (hi (40, 0, 0) 39) ∧ (hi (40, 0, 0) 39) < 34000) ∧ mm_Wp 291 (mm_blk 291 3) [zR (40, 0, 0), zL x1, zU, zL y0, zU, vx5, vx6] [] (mm_z (mm_up (mm_up hi (68, 0, 0) (hi (40, 0, 0) 39) (mm_b 45)) (40, 0, 0) 39 (mm_w (((mm_up hi (68, 0, 0) (hi (40, 0, 0) 39) (mm_b 45)) (40, 0, 0) 39) + 1))) dh nx ns) Q) else mm_Wp 291 (mm_blk 291 3) [zR (40, 0, 0), zL x1, zU, zL y0, zU, vx5, vx6] [] (mm_z hi dh nx ns) Q) :=
  mm_kb bq_291_2 ((wp_7 (l2 := [zR (40, 0, 0), zL x1, zU, zL y0, zU, vx5, vx6]) rfl).trans ((wp_4_1).trans ((wp_2).trans ((wp_34).trans ((wp_43).trans (mm_ic ((wp_5_0).trans ((wp_62 (by decide) (mm_o40 hy) (mm_r40_40 hy)).trans ((wp_5_0).trans ((wp_60 (by decide) (mm_o40 hy)).trans ((wp_1).trans ((wp_75 (mm_q68 hy)).trans (mm_ae ((wp_5_0).trans ((wp_35r).trans ((wp_60 (by decide) (mm_o40 hy)).trans ((wp_1).trans ((wp_10).trans ((wp_63 (mm_o40 hy)).trans ((wp_0).trans (rfl))))))))))))))) (rfl)))))))
theorem r_291_3 (x1 : Int) (x3 : Int) (vx5 : mm_V) (vx6 : mm_V) {hi : mm_Id → Int → Int} {dh : Int → Int} {nx ns : Int} {Q : mm_V → mm_H → Prop} (hy : 5306 ≤ nx) :
    mm_Wp 291 (mm_blk 291 3) [zR (40, 0, 0), zL x1, zU, zL x3, zU, vx5, vx6] [] (mm_z hi dh nx ns) Q =
    mm_Wp 291 (mm_blk 291 4) [zR (40, 0, 0), zL x1, zU, zL x3, zU, zL 1, zU] [] (mm_z hi dh nx ns) Q :=
  mm_kb bq_291_3 ((wp_2).trans ((wp_7 (l2 := [zR (40, 0, 0), zL x1, zU, zL x3, zU, zL 1, zU]) rfl).trans ((wp_0).trans (rfl))))
theorem r_291_4 (x1 : Int) (x3 : Int) (x5 : Int) {hi : mm_Id → Int → Int} {dh : Int → Int} {nx ns : Int} {Q : mm_V → mm_H → Prop} (hy : 5306 ≤ nx) :
    mm_Wp 291 (mm_blk 291 4) [zR (40, 0, 0), zL x1, zU, zL x3, zU, zL x5, zU] [] (mm_z hi dh nx ns) Q =
    (x5 ≠ 0 ∧ (if (mm_cmp (mm_W (Int.tdiv x3 x5)) (-9)) < 0 then mm_Wp 291 (mm_blk 291 4) [zR (40, 0, 0), zL x1, zU, zL x3, zU, zL (mm_W (x5 * 10)), zU] [] (mm_z hi dh nx ns) Q else mm_Wp 291 (mm_blk 291 5) [zR (40, 0, 0), zL x1, zU, zL x3, zU, zL x5, zU] [] (mm_z hi dh nx ns) Q)) :=
  mm_kb bq_291_4 ((wp_4_3).trans ((wp_4_5).trans ((wp_23v).trans (mm_ae ((wp_2).trans ((wp_34).trans ((wp_43).trans (mm_ic ((wp_4_5).trans ((wp_2).trans ((wp_22).trans ((wp_7 (l2 := [zR (40, 0, 0), zL x1, zU, zL x3, zU, zL (mm_W (x5 * 10)), zU]) rfl).trans ((wp_56).trans (rfl)))))) (rfl)))))))))
theorem r_291_5 (x1 : Int) (x3 : Int) (x5 : Int) {hi : mm_Id → Int → Int} {dh : Int → Int} {nx ns : Int} {Q : mm_V → mm_H → Prop} (hy : 5306 ≤ nx) :
    mm_Wp 291 (mm_blk 291 5) [zR (40, 0, 0), zL x1, zU, zL x3, zU, zL x5, zU] [] (mm_z hi dh nx ns) Q =
    (if 0 < (mm_cmp x5 0) then (x5 ≠ 0 ∧ ((0 ≤ (hi (40, 0, 0) 39) ∧ (hi (40, 0, 0) 39) < 34000) ∧ mm_Wp 291 (mm_blk 291 5) [zR (40, 0, 0), zL x1, zU, zL x3, zU, zL (mm_W (Int.tdiv x5 10)), zU] [] (mm_z (mm_up (mm_up hi (68, 0, 0) (hi (40, 0, 0) 39) (mm_b (mm_b (mm_w (mm_W (48 - (Int.tmod (mm_W (Int.tdiv x3 x5)) 10))))))) (40, 0, 0) 39 (mm_w (((mm_up hi (68, 0, 0) (hi (40, 0, 0) 39) (mm_b (mm_b (mm_w (mm_W (48 - (Int.tmod (mm_W (Int.tdiv x3 x5)) 10))))))) (40, 0, 0) 39) + 1))) dh nx ns) Q)) else ((0 ≤ (hi (40, 0, 0) 39) ∧ (hi (40, 0, 0) 39) < 34000) ∧ Q zU (mm_z (mm_up (mm_up hi (68, 0, 0) (hi (40, 0, 0) 39) (mm_b 10)) (40, 0, 0) 39 (mm_w (((mm_up hi (68, 0, 0) (hi (40, 0, 0) 39) (mm_b 10)) (40, 0, 0) 39) + 1))) dh nx ns))) :=
  mm_kb bq_291_5 ((wp_4_5).trans ((wp_2).trans ((wp_34).trans ((wp_45).trans (mm_ic ((wp_5_0).trans ((wp_62 (by decide) (mm_o40 hy) (mm_r40_40 hy)).trans ((wp_5_0).trans ((wp_60 (by decide) (mm_o40 hy)).trans ((wp_2).trans ((wp_4_3).trans ((wp_4_5).trans ((wp_23v).trans (mm_ae ((wp_2).trans ((wp_24 (by decide)).trans ((wp_21).trans ((wp_32).trans ((wp_33).trans ((wp_75 (mm_q68 hy)).trans (mm_ae ((wp_5_0).trans ((wp_35r).trans ((wp_60 (by decide) (mm_o40 hy)).trans ((wp_1).trans ((wp_10).trans ((wp_63 (mm_o40 hy)).trans ((wp_4_5).trans ((wp_2).trans ((wp_23 (by decide)).trans ((wp_7 (l2 := [zR (40, 0, 0), zL x1, zU, zL x3, zU, zL (mm_W (Int.tdiv x5 10)), zU]) rfl).trans ((wp_56).trans (rfl)))))))))))))))))))))))))))) (mm_kb bq_291_6 ((wp_5_0).trans ((wp_62 (by decide) (mm_o40 hy) (mm_r40_40 hy)).trans ((wp_5_0).trans ((wp_60 (by decide) (mm_o40 hy)).trans ((wp_1).trans ((wp_75 (mm_q68 hy)).trans (mm_ae ((wp_5_0).trans ((wp_35r).trans ((wp_60 (by decide) (mm_o40 hy)).trans ((wp_1).trans ((wp_10).trans ((wp_63 (mm_o40 hy)).trans (wp_93))))))))))))))))))))
/-- PoolHouseModel.lineDone(II)I -/
theorem bq_292_0 : mm_blk 292 0 = bk_292_0 := by decide +kernel
theorem bq_292_1 : mm_blk 292 1 = bk_292_1 := by decide +kernel
theorem bq_292_2 : mm_blk 292 2 = bk_292_2 := by decide +kernel
theorem bq_292_3 : mm_blk 292 3 = bk_292_3 := by decide +kernel
theorem bq_292_4 : mm_blk 292 4 = bk_292_4 := by decide +kernel
theorem bq_292_5 : mm_blk 292 5 = bk_292_5 := by decide +kernel
theorem bq_292_6 : mm_blk 292 6 = bk_292_6 := by decide +kernel
theorem bq_292_7 : mm_blk 292 7 = bk_292_7 := by decide +kernel
theorem bq_292_8 : mm_blk 292 8 = bk_292_8 := by decide +kernel
theorem bq_292_9 : mm_blk 292 9 = bk_292_9 := by decide +kernel
theorem bq_292_10 : mm_blk 292 10 = bk_292_10 := by decide +kernel
theorem r_292_e (x1 : Int) (x2 : Int) {hi : mm_Id → Int → Int} {dh : Int → Int} {nx ns : Int} {Q : mm_V → mm_H → Prop} (hy : 5306 ≤ nx) :
    mm_Cl 292 [zR (40, 0, 0), zI x1, zI x2] (mm_z hi dh nx ns) Q =
    mm_Cl 287 [zR (40, 0, 0), zI x1, zI x2] (mm_z hi dh nx ns) (fun r h3 => mm_Wp 292 (bk_292_0.drop 4) [zR (40, 0, 0), zI x1, zI x2, zU, zU, zU, zU, zU] (mm_push r []) h3 Q) :=
  mm_ce (l2 := [zR (40, 0, 0), zI x1, zI x2, zU, zU, zU, zU, zU]) rfl (mm_kb bq_292_0 ((wp_5_0).trans ((wp_3_1).trans ((wp_3_2).trans ((wp_v3 mm_n_287 (mm_leq mm_m_287 (mm_lb rfl)) (mm_lb rfl) (mm_o40 hy)).trans rfl)))))
theorem r_292_0_4 (vx1 : mm_V) (x2 : Int) (vx3 : mm_V) (vx4 : mm_V) (vx5 : mm_V) (vx6 : mm_V) (vx7 : mm_V) (y0 : Int) {hi : mm_Id → Int → Int} {dh : Int → Int} {nx ns : Int} {Q : mm_V → mm_H → Prop} (hy : 5306 ≤ nx) :
    mm_Wp 292 (bk_292_0.drop 4) [zR (40, 0, 0), vx1, zI x2, vx3, vx4, vx5, vx6, vx7] [zI y0] (mm_z hi dh nx ns) Q =
    (if y0 = 0 then Q (zI (-1)) (mm_z hi dh nx ns) else mm_Cl 282 [zR (40, 0, 0)] (mm_z hi dh nx ns) (fun r h3 => mm_Wp 292 (bk_292_1.drop 2) [zR (40, 0, 0), vx1, zI x2, vx3, vx4, vx5, vx6, vx7] (mm_push r []) h3 Q)) :=
  (wp_41).trans (mm_ic ((wp_1).trans (wp_90)) (mm_kb bq_292_1 ((wp_5_0).trans ((wp_v1 mm_n_282 (mm_leq mm_m_282 (mm_lb rfl)) (mm_lb rfl) (mm_o40 hy)).trans rfl))))
theorem r_292_1_2 (vx1 : mm_V) (x2 : Int) (vx3 : mm_V) (vx4 : mm_V) (vx5 : mm_V) (vx6 : mm_V) (vx7 : mm_V) (y0 : Int) {hi : mm_Id → Int → Int} {dh : Int → Int} {nx ns : Int} {Q : mm_V → mm_H → Prop} (hy : 5306 ≤ nx) :
    mm_Wp 292 (bk_292_1.drop 2) [zR (40, 0, 0), vx1, zI x2, vx3, vx4, vx5, vx6, vx7] [zI y0] (mm_z hi dh nx ns) Q =
    (if y0 < 0 then Q (zI 0) (mm_z hi dh nx ns) else mm_Cl 283 [zI y0] (mm_z hi dh nx ns) (fun r h3 => mm_Wp 292 (bk_292_2.drop 2) [zR (40, 0, 0), vx1, zI x2, zI y0, vx4, vx5, vx6, vx7] (mm_push r []) h3 Q)) :=
  (wp_6 (l2 := [zR (40, 0, 0), vx1, zI x2, zI y0, vx4, vx5, vx6, vx7]) rfl).trans ((wp_3_3).trans ((wp_43).trans (mm_ic ((wp_1).trans (wp_90)) (mm_kb bq_292_2 ((wp_3_3).trans ((wp_s1 mm_n_283 (mm_leq mm_m_283 (mm_lb rfl)) (mm_lb rfl)).trans rfl))))))
theorem r_292_2_2 (vx1 : mm_V) (x2 : Int) (x3 : Int) (vx4 : mm_V) (vx5 : mm_V) (vx6 : mm_V) (vx7 : mm_V) (y0 : Int) {hi : mm_Id → Int → Int} {dh : Int → Int} {nx ns : Int} {Q : mm_V → mm_H → Prop} (hy : 5306 ≤ nx) :
    mm_Wp 292 (bk_292_2.drop 2) [zR (40, 0, 0), vx1, zI x2, zI x3, vx4, vx5, vx6, vx7] [zI y0] (mm_z hi dh nx ns) Q =
    mm_Wp 292 (mm_blk 292 3) [zR (40, 0, 0), vx1, zI x2, zI x3, zI y0, zI 0, zI y0, vx7] [] (mm_z hi dh nx ns) Q :=
  (wp_6 (l2 := [zR (40, 0, 0), vx1, zI x2, zI x3, zI y0, vx5, vx6, vx7]) rfl).trans ((wp_1).trans ((wp_6 (l2 := [zR (40, 0, 0), vx1, zI x2, zI x3, zI y0, zI 0, vx6, vx7]) rfl).trans ((wp_3_4).trans ((wp_6 (l2 := [zR (40, 0, 0), vx1, zI x2, zI x3, zI y0, zI 0, zI y0, vx7]) rfl).trans ((wp_0).trans (rfl))))))
theorem r_292_3 (vx1 : mm_V) (x2 : Int) (x3 : Int) (vx4 : mm_V) (x5 : Int) (x6 : Int) (vx7 : mm_V) {hi : mm_Id → Int → Int} {dh : Int → Int} {nx ns : Int} {Q : mm_V → mm_H → Prop} (hy : 5306 ≤ nx) :
    mm_Wp 292 (mm_blk 292 3) [zR (40, 0, 0), vx1, zI x2, zI x3, vx4, zI x5, zI x6, vx7] [] (mm_z hi dh nx ns) Q =
    (if 0 < x6 then mm_Cl 287 [zR (40, 0, 0), zI (hi (40, 0, 0) 45), zI x2] (mm_z hi dh nx ns) (fun r h3 => mm_Wp 292 (bk_292_3.drop 7) [zR (40, 0, 0), vx1, zI x2, zI x3, vx4, zI x5, zI x6, vx7] (mm_push r []) h3 Q) else mm_Cl 287 [zR (40, 0, 0), zI (hi (40, 0, 0) 45), zI x2] (mm_z hi dh nx ns) (fun r h3 => mm_Wp 292 (bk_292_6.drop 5) [zR (40, 0, 0), vx1, zI x2, zI x3, vx4, zI x5, zI x6, vx7] (mm_push r []) h3 Q)) :=
  mm_kb bq_292_3 ((wp_3_6).trans ((wp_45).trans (mm_ic ((wp_5_0).trans ((wp_5_0).trans ((wp_60 (by decide) (mm_o40 hy)).trans ((wp_3_2).trans ((wp_v3 mm_n_287 (mm_leq mm_m_287 (mm_lb rfl)) (mm_lb rfl) (mm_o40 hy)).trans rfl))))) (mm_kb bq_292_6 ((wp_5_0).trans ((wp_5_0).trans ((wp_60 (by decide) (mm_o40 hy)).trans ((wp_3_2).trans ((wp_v3 mm_n_287 (mm_leq mm_m_287 (mm_lb rfl)) (mm_lb rfl) (mm_o40 hy)).trans rfl)))))))))
theorem r_292_6_5 (vx1 : mm_V) (vx2 : mm_V) (x3 : Int) (vx4 : mm_V) (x5 : Int) (vx6 : mm_V) (vx7 : mm_V) (y0 : Int) {hi : mm_Id → Int → Int} {dh : Int → Int} {nx ns : Int} {Q : mm_V → mm_H → Prop} (hy : 5306 ≤ nx) :
    mm_Wp 292 (bk_292_6.drop 5) [zR (40, 0, 0), vx1, vx2, zI x3, vx4, zI x5, vx6, vx7] [zI y0] (mm_z hi dh nx ns) Q =
    (if y0 = 0 then (if x3 < 16 then mm_Cl 284 [zR (40, 0, 0), zI x3] (mm_z hi dh nx ns) (fun r h3 => mm_Wp 292 (bk_292_7.drop 6) [zR (40, 0, 0), vx1, vx2, zI x3, vx4, zI x5, vx6, vx7] (mm_push r []) h3 Q) else (if x3 < 32 then mm_Cl 285 [zR (40, 0, 0), zI x3] (mm_z hi dh nx ns) (fun r h3 => mm_Wp 292 (bk_292_8.drop 6) [zR (40, 0, 0), vx1, vx2, zI x3, vx4, zI x5, vx6, vx7] (mm_push r []) h3 Q) else mm_Cl 286 [zR (40, 0, 0), zI x3] (mm_z hi dh nx ns) (fun r h3 => mm_Wp 292 (bk_292_9.drop 3) [zR (40, 0, 0), vx1, vx2, zI x3, vx4, zI x5, vx6, vx7] (mm_push r []) h3 Q))) else Q (zI (mm_w (x5 + 1))) (mm_z hi dh nx ns)) :=
  (wp_40).trans (mm_ic (mm_kb bq_292_7 ((wp_3_3).trans ((wp_1).trans ((wp_49).trans (mm_ic ((wp_5_0).trans ((wp_3_3).trans ((wp_v2 mm_n_284 (mm_leq mm_m_284 (mm_lb rfl)) (mm_lb rfl) (mm_o40 hy)).trans rfl))) (mm_kb bq_292_8 ((wp_3_3).trans ((wp_1).trans ((wp_49).trans (mm_ic ((wp_5_0).trans ((wp_3_3).trans ((wp_v2 mm_n_285 (mm_leq mm_m_285 (mm_lb rfl)) (mm_lb rfl) (mm_o40 hy)).trans rfl))) (mm_kb bq_292_9 ((wp_5_0).trans ((wp_3_3).trans ((wp_v2 mm_n_286 (mm_leq mm_m_286 (mm_lb rfl)) (mm_lb rfl) (mm_o40 hy)).trans rfl)))))))))))))) ((wp_3_5).trans ((wp_1).trans ((wp_10).trans (wp_90)))))
theorem r_292_3_7 (vx1 : mm_V) (x2 : Int) (x3 : Int) (vx4 : mm_V) (x5 : Int) (x6 : Int) (vx7 : mm_V) (y0 : Int) {hi : mm_Id → Int → Int} {dh : Int → Int} {nx ns : Int} {Q : mm_V → mm_H → Prop} (hy : 5306 ≤ nx) :
    mm_Wp 292 (bk_292_3.drop 7) [zR (40, 0, 0), vx1, zI x2, zI x3, vx4, zI x5, zI x6, vx7] [zI y0] (mm_z hi dh nx ns) Q =
    (if y0 = 0 then mm_Wp 292 (mm_blk 292 4) [zR (40, 0, 0), vx1, zI x2, zI x3, vx4, zI x5, zI x6, vx7] [] (mm_z hi dh nx ns) Q else mm_Cl 290 [zR (40, 0, 0), zI (mm_and x6 3), zI x5] (mm_z hi dh nx ns) (fun r h3 => mm_Wp 292 (bk_292_3.drop 14) [zR (40, 0, 0), vx1, zI x2, zI x3, vx4, zI x5, zI x6, vx7] (mm_push r []) h3 Q)) :=
  (wp_40).trans (mm_ic (rfl) ((wp_5_0).trans ((wp_3_6).trans ((wp_1).trans ((wp_16).trans ((wp_3_5).trans ((wp_v3 mm_n_290 (mm_leq mm_m_290 (mm_lb rfl)) (mm_lb rfl) (mm_o40 hy)).trans rfl)))))))
theorem r_292_9_3 (vx1 : mm_V) (vx2 : mm_V) (vx3 : mm_V) (vx4 : mm_V) (vx5 : mm_V) (vx6 : mm_V) (vx7 : mm_V) (y0 : Int) {hi : mm_Id → Int → Int} {dh : Int → Int} {nx ns : Int} {Q : mm_V → mm_H → Prop} (hy : 5306 ≤ nx) :
    mm_Wp 292 (bk_292_9.drop 3) [zR (40, 0, 0), vx1, vx2, vx3, vx4, vx5, vx6, vx7] [zL y0] (mm_z hi dh nx ns) Q =
    mm_Wp 292 (mm_blk 292 10) [zR (40, 0, 0), vx1, vx2, vx3, vx4, vx5, vx6, vx7] [zL y0] (mm_z hi dh nx ns) Q :=
  (wp_0).trans (rfl)
theorem r_292_8_6 (vx1 : mm_V) (vx2 : mm_V) (vx3 : mm_V) (vx4 : mm_V) (vx5 : mm_V) (vx6 : mm_V) (vx7 : mm_V) (y0 : Int) {hi : mm_Id → Int → Int} {dh : Int → Int} {nx ns : Int} {Q : mm_V → mm_H → Prop} (hy : 5306 ≤ nx) :
    mm_Wp 292 (bk_292_8.drop 6) [zR (40, 0, 0), vx1, vx2, vx3, vx4, vx5, vx6, vx7] [zL y0] (mm_z hi dh nx ns) Q =
    mm_Wp 292 (mm_blk 292 10) [zR (40, 0, 0), vx1, vx2, vx3, vx4, vx5, vx6, vx7] [zL y0] (mm_z hi dh nx ns) Q :=
  (wp_56).trans (rfl)
theorem r_292_7_6 (vx1 : mm_V) (vx2 : mm_V) (vx3 : mm_V) (vx4 : mm_V) (vx5 : mm_V) (vx6 : mm_V) (vx7 : mm_V) (y0 : Int) {hi : mm_Id → Int → Int} {dh : Int → Int} {nx ns : Int} {Q : mm_V → mm_H → Prop} (hy : 5306 ≤ nx) :
    mm_Wp 292 (bk_292_7.drop 6) [zR (40, 0, 0), vx1, vx2, vx3, vx4, vx5, vx6, vx7] [zL y0] (mm_z hi dh nx ns) Q =
    mm_Wp 292 (mm_blk 292 10) [zR (40, 0, 0), vx1, vx2, vx3, vx4, vx5, vx6, vx7] [zL y0] (mm_z hi dh nx ns) Q :=
  (wp_56).trans (rfl)
theorem r_292_4 (vx0 : mm_V) (vx1 : mm_V) (vx2 : mm_V) (vx3 : mm_V) (vx4 : mm_V) (x5 : Int) (vx6 : mm_V) (vx7 : mm_V) {hi : mm_Id → Int → Int} {dh : Int → Int} {nx ns : Int} {Q : mm_V → mm_H → Prop} (hy : 5306 ≤ nx) :
    mm_Wp 292 (mm_blk 292 4) [vx0, vx1, vx2, vx3, vx4, zI x5, vx6, vx7] [] (mm_z hi dh nx ns) Q =
    Q (zI (mm_w (x5 + 1))) (mm_z hi dh nx ns) :=
  mm_kb bq_292_4 ((wp_3_5).trans ((wp_1).trans ((wp_10).trans (wp_90))))
theorem r_292_3_14 (vx1 : mm_V) (x2 : Int) (x3 : Int) (vx4 : mm_V) (x5 : Int) (x6 : Int) (vx7 : mm_V) (y0 : Int) {hi : mm_Id → Int → Int} {dh : Int → Int} {nx ns : Int} {Q : mm_V → mm_H → Prop} (hy : 5306 ≤ nx) :
    mm_Wp 292 (bk_292_3.drop 14) [zR (40, 0, 0), vx1, zI x2, zI x3, vx4, zI x5, zI x6, vx7] [zI y0] (mm_z hi dh nx ns) Q =
    (if y0 = 0 then mm_Wp 292 (mm_blk 292 4) [zR (40, 0, 0), vx1, zI x2, zI x3, vx4, zI x5, zI x6, vx7] [] (mm_z hi dh nx ns) Q else ((0 ≤ x5 ∧ x5 < 5) ∧ mm_Wp 292 (mm_blk 292 3) [zR (40, 0, 0), vx1, zI x2, zI x3, vx4, zI (mm_w (x5 + 1)), zI (mm_shr x6 2), vx7] [] (mm_z (mm_up hi (70, 0, 0) x5 (hi (40, 0, 0) 46)) dh nx ns) Q)) :=
  (wp_41).trans (mm_ic ((wp_0).trans (rfl)) (mm_kb bq_292_5 ((wp_5_0).trans ((wp_62 (by decide) (mm_o40 hy) (mm_r40_47 hy)).trans ((wp_3_5).trans ((wp_5_0).trans ((wp_61 (by decide) (mm_o40 hy)).trans ((wp_76 (mm_q70 hy)).trans (mm_ae ((wp_9 (l2 := [zR (40, 0, 0), vx1, zI x2, zI x3, vx4, zI (mm_w (x5 + 1)), zI x6, vx7]) rfl rfl).trans ((wp_3_6).trans ((wp_1).trans ((wp_17).trans ((wp_6 (l2 := [zR (40, 0, 0), vx1, zI x2, zI x3, vx4, zI (mm_w (x5 + 1)), zI (mm_shr x6 2), vx7]) rfl).trans ((wp_56).trans (rfl))))))))))))))))
theorem r_292_10 (vx1 : mm_V) (vx2 : mm_V) (vx3 : mm_V) (vx4 : mm_V) (vx5 : mm_V) (vx6 : mm_V) (vx7 : mm_V) (y0 : Int) {hi : mm_Id → Int → Int} {dh : Int → Int} {nx ns : Int} {Q : mm_V → mm_H → Prop} (hvx5 : mm_wt vx5 = 1) (hy : 5306 ≤ nx) :
    mm_Wp 292 (mm_blk 292 10) [zR (40, 0, 0), vx1, vx2, vx3, vx4, vx5, vx6, vx7] [zL y0] (mm_z hi dh nx ns) Q =
    ((0 ≤ (hi (40, 0, 0) 42) ∧ (hi (40, 0, 0) 42) < 4000) ∧ mm_Cl 291 [zR (40, 0, 0), zL y0] (mm_z (mm_up (mm_up hi (69, 0, 0) (hi (40, 0, 0) 42) y0) (40, 0, 0) 42 (mm_w (((mm_up hi (69, 0, 0) (hi (40, 0, 0) 42) y0) (40, 0, 0) 42) + 1))) dh nx ns) (fun r h3 => mm_Wp 292 (bk_292_10.drop 16) [zR (40, 0, 0), vx1, vx2, vx3, vx4, vx5, zL y0, zU] (mm_push r []) h3 Q)) :=
  mm_kb bq_292_10 ((wp_7 (l2 := [zR (40, 0, 0), vx1, vx2, vx3, vx4, vx5, zL y0, zU]) ((if_pos (mm_lb rfl)).trans (congrArg (fun z => some (List.set z 7 zU)) (mm_stw rfl hvx5)))).trans ((wp_5_0).trans ((wp_62 (by decide) (mm_o40 hy) (mm_r40_41 hy)).trans ((wp_5_0).trans ((wp_60 (by decide) (mm_o40 hy)).trans ((wp_4_6).trans ((wp_76 (mm_q69 hy)).trans (mm_ae ((wp_5_0).trans ((wp_35r).trans ((wp_60 (by decide) (mm_o40 hy)).trans ((wp_1).trans ((wp_10).trans ((wp_63 (mm_o40 hy)).trans ((wp_5_0).trans ((wp_4_6).trans ((wp_v2 mm_n_291 (mm_leq mm_m_291 (mm_lb rfl)) (mm_lb rfl) (mm_o40 hy)).trans rfl)))))))))))))))))
theorem r_292_10_16 (vx0 : mm_V) (vx1 : mm_V) (vx2 : mm_V) (vx3 : mm_V) (vx4 : mm_V) (vx5 : mm_V) (x6 : Int) {hi : mm_Id → Int → Int} {dh : Int → Int} {nx ns : Int} {Q : mm_V → mm_H → Prop} (hy : 5306 ≤ nx) :
    mm_Wp 292 (bk_292_10.drop 16) [vx0, vx1, vx2, vx3, vx4, vx5, zL x6, zU] [] (mm_z hi dh nx ns) Q =
    Q (zI (-1)) (mm_z hi dh nx ns) :=
  (wp_1).trans (wp_90)
/-- PoolHouseModel.run()I -/
theorem bq_293_0 : mm_blk 293 0 = bk_293_0 := by decide +kernel
theorem bq_293_1 : mm_blk 293 1 = bk_293_1 := by decide +kernel
theorem bq_293_2 : mm_blk 293 2 = bk_293_2 := by decide +kernel
theorem bq_293_3 : mm_blk 293 3 = bk_293_3 := by decide +kernel
theorem bq_293_4 : mm_blk 293 4 = bk_293_4 := by decide +kernel
theorem bq_293_5 : mm_blk 293 5 = bk_293_5 := by decide +kernel
theorem r_293_e  {hi : mm_Id → Int → Int} {dh : Int → Int} {nx ns : Int} {Q : mm_V → mm_H → Prop} (hy : 5306 ≤ nx) :
    mm_Cl 293 [zR (40, 0, 0)] (mm_z hi dh nx ns) Q =
    mm_Wp 293 (mm_blk 293 1) [zR (40, 0, 0), zI ((mm_up (mm_up (mm_up (mm_up hi (40, 0, 0) 0 0) (40, 0, 0) 42 0) (40, 0, 0) 39 0) (40, 0, 0) 43 (-2)) (40, 0, 0) 37), zI 0, zI 0, zI (-1), zU] [] (mm_z (mm_up (mm_up (mm_up (mm_up hi (40, 0, 0) 0 0) (40, 0, 0) 42 0) (40, 0, 0) 39 0) (40, 0, 0) 43 (-2)) dh nx ns) Q :=
  mm_ce (l2 := [zR (40, 0, 0), zU, zU, zU, zU, zU]) rfl (mm_kb bq_293_0 ((wp_5_0).trans ((wp_1).trans ((wp_63 (mm_o40 hy)).trans ((wp_5_0).trans ((wp_1).trans ((wp_63 (mm_o40 hy)).trans ((wp_5_0).trans ((wp_1).trans ((wp_63 (mm_o40 hy)).trans ((wp_5_0).trans ((wp_1).trans ((wp_63 (mm_o40 hy)).trans ((wp_5_0).trans ((wp_60 (by decide) (mm_o40 hy)).trans ((wp_6 (l2 := [zR (40, 0, 0), zI ((mm_up (mm_up (mm_up (mm_up hi (40, 0, 0) 0 0) (40, 0, 0) 42 0) (40, 0, 0) 39 0) (40, 0, 0) 43 (-2)) (40, 0, 0) 37), zU, zU, zU, zU]) rfl).trans ((wp_1).trans ((wp_6 (l2 := [zR (40, 0, 0), zI ((mm_up (mm_up (mm_up (mm_up hi (40, 0, 0) 0 0) (40, 0, 0) 42 0) (40, 0, 0) 39 0) (40, 0, 0) 43 (-2)) (40, 0, 0) 37), zI 0, zU, zU, zU]) rfl).trans ((wp_1).trans ((wp_6 (l2 := [zR (40, 0, 0), zI ((mm_up (mm_up (mm_up (mm_up hi (40, 0, 0) 0 0) (40, 0, 0) 42 0) (40, 0, 0) 39 0) (40, 0, 0) 43 (-2)) (40, 0, 0) 37), zI 0, zI 0, zU, zU]) rfl).trans ((wp_1).trans ((wp_6 (l2 := [zR (40, 0, 0), zI ((mm_up (mm_up (mm_up (mm_up hi (40, 0, 0) 0 0) (40, 0, 0) 42 0) (40, 0, 0) 39 0) (40, 0, 0) 43 (-2)) (40, 0, 0) 37), zI 0, zI 0, zI (-1), zU]) rfl).trans ((wp_0).trans (rfl))))))))))))))))))))))))
theorem r_293_1 (x1 : Int) (x2 : Int) (x3 : Int) (x4 : Int) (vx5 : mm_V) {hi : mm_Id → Int → Int} {dh : Int → Int} {nx ns : Int} {Q : mm_V → mm_H → Prop} (hy : 5306 ≤ nx) :
    mm_Wp 293 (mm_blk 293 1) [zR (40, 0, 0), zI x1, zI x2, zI x3, zI x4, vx5] [] (mm_z hi dh nx ns) Q =
    (if x2 < x1 then (if x4 < 0 then mm_Wp 293 (mm_blk 293 2) [zR (40, 0, 0), zI x1, zI x2, zI x3, zI x4, zI x2] [] (mm_z hi dh nx ns) Q else mm_Wp 293 (mm_blk 293 4) [zR (40, 0, 0), zI x1, zI x2, zI x3, zI x4, vx5] [] (mm_z hi dh nx ns) Q) else mm_Wp 293 (mm_blk 293 4) [zR (40, 0, 0), zI x1, zI x2, zI x3, zI x4, vx5] [] (mm_z hi dh nx ns) Q) :=
  mm_kb bq_293_1 ((wp_3_2).trans ((wp_3_1).trans ((wp_49).trans (mm_ic ((wp_3_4).trans ((wp_43).trans (mm_ic ((wp_3_2).trans ((wp_6 (l2 := [zR (40, 0, 0), zI x1, zI x2, zI x3, zI x4, zI x2]) rfl).trans ((wp_0).trans (rfl)))) (rfl)))) (rfl)))))
theorem r_293_4 (vx1 : mm_V) (vx2 : mm_V) (x3 : Int) (x4 : Int) (vx5 : mm_V) {hi : mm_Id → Int → Int} {dh : Int → Int} {nx ns : Int} {Q : mm_V → mm_H → Prop} (hy : 5306 ≤ nx) :
    mm_Wp 293 (mm_blk 293 4) [zR (40, 0, 0), vx1, vx2, zI x3, zI x4, vx5] [] (mm_z hi dh nx ns) Q =
    (if x4 < 0 then Q (zI ((mm_up (mm_up hi (40, 0, 0) 37 0) (40, 0, 0) 0 0) (40, 0, 0) 42)) (mm_z (mm_up (mm_up hi (40, 0, 0) 37 0) (40, 0, 0) 0 0) dh nx ns) else Q (zI (mm_w ((-10) - (mm_w (x3 - 1))))) (mm_z (mm_up (mm_up (mm_up hi (40, 0, 0) 37 0) (40, 0, 0) 0 0) (40, 0, 0) 43 x4) dh nx ns)) :=
  mm_kb bq_293_4 ((wp_5_0).trans ((wp_1).trans ((wp_63 (mm_o40 hy)).trans ((wp_5_0).trans ((wp_1).trans ((wp_63 (mm_o40 hy)).trans ((wp_3_4).trans ((wp_43).trans (mm_ic ((wp_5_0).trans ((wp_60 (by decide) (mm_o40 hy)).trans (wp_90))) (mm_kb bq_293_5 ((wp_5_0).trans ((wp_3_4).trans ((wp_63 (mm_o40 hy)).trans ((wp_1).trans ((wp_3_3).trans ((wp_1).trans ((wp_11).trans ((wp_11).trans (wp_90)))))))))))))))))))
theorem r_293_2 (x1 : Int) (x2 : Int) (x3 : Int) (vx4 : mm_V) (x5 : Int) {hi : mm_Id → Int → Int} {dh : Int → Int} {nx ns : Int} {Q : mm_V → mm_H → Prop} (hy : 5306 ≤ nx) :
    mm_Wp 293 (mm_blk 293 2) [zR (40, 0, 0), zI x1, zI x2, zI x3, vx4, zI x5] [] (mm_z hi dh nx ns) Q =
    (if x5 < x1 then ((0 ≤ x5 ∧ x5 < 8000) ∧ (if (hi (67, 0, 0) x5) = 10 then mm_Wp 293 (mm_blk 293 3) [zR (40, 0, 0), zI x1, zI x2, zI x3, vx4, zI x5] [] (mm_z hi dh nx ns) Q else mm_Wp 293 (mm_blk 293 2) [zR (40, 0, 0), zI x1, zI x2, zI x3, vx4, zI (mm_w (x5 + 1))] [] (mm_z hi dh nx ns) Q)) else mm_Wp 293 (mm_blk 293 3) [zR (40, 0, 0), zI x1, zI x2, zI x3, vx4, zI x5] [] (mm_z hi dh nx ns) Q) :=
  mm_kb bq_293_2 ((wp_3_5).trans ((wp_3_1).trans ((wp_49).trans (mm_ic ((wp_5_0).trans ((wp_62 (by decide) (mm_o40 hy) (mm_r40_38 hy)).trans ((wp_3_5).trans ((wp_71 (mm_q67 hy)).trans (mm_ae ((wp_1).trans ((wp_46).trans (mm_ic (rfl) ((wp_9 (l2 := [zR (40, 0, 0), zI x1, zI x2, zI x3, vx4, zI (mm_w (x5 + 1))]) rfl rfl).trans ((wp_56).trans (rfl))))))))))) (rfl)))))
theorem r_293_3 (x1 : Int) (x2 : Int) (x3 : Int) (vx4 : mm_V) (x5 : Int) {hi : mm_Id → Int → Int} {dh : Int → Int} {nx ns : Int} {Q : mm_V → mm_H → Prop} (hy : 5306 ≤ nx) :
    mm_Wp 293 (mm_blk 293 3) [zR (40, 0, 0), zI x1, zI x2, zI x3, vx4, zI x5] [] (mm_z hi dh nx ns) Q =
    mm_Cl 292 [zR (40, 0, 0), zI x2, zI x5] (mm_z hi dh nx ns) (fun r h3 => mm_Wp 293 (bk_293_3.drop 4) [zR (40, 0, 0), zI x1, zI x2, zI x3, vx4, zI x5] (mm_push r []) h3 Q) :=
  mm_kb bq_293_3 ((wp_5_0).trans ((wp_3_2).trans ((wp_3_5).trans ((wp_v3 mm_n_292 (mm_leq mm_m_292 (mm_lb rfl)) (mm_lb rfl) (mm_o40 hy)).trans rfl))))
theorem r_293_3_4 (x1 : Int) (vx2 : mm_V) (x3 : Int) (vx4 : mm_V) (x5 : Int) (y0 : Int) {hi : mm_Id → Int → Int} {dh : Int → Int} {nx ns : Int} {Q : mm_V → mm_H → Prop} (hy : 5306 ≤ nx) :
    mm_Wp 293 (bk_293_3.drop 4) [zR (40, 0, 0), zI x1, vx2, zI x3, vx4, zI x5] [zI y0] (mm_z hi dh nx ns) Q =
    mm_Wp 293 (mm_blk 293 1) [zR (40, 0, 0), zI x1, zI (mm_w (x5 + 1)), zI (mm_w (x3 + 1)), zI y0, zI x5] [] (mm_z hi dh nx ns) Q :=
  (wp_6 (l2 := [zR (40, 0, 0), zI x1, vx2, zI x3, zI y0, zI x5]) rfl).trans ((wp_3_5).trans ((wp_1).trans ((wp_10).trans ((wp_6 (l2 := [zR (40, 0, 0), zI x1, zI (mm_w (x5 + 1)), zI x3, zI y0, zI x5]) rfl).trans ((wp_9 (l2 := [zR (40, 0, 0), zI x1, zI (mm_w (x5 + 1)), zI (mm_w (x3 + 1)), zI y0, zI x5]) rfl rfl).trans ((wp_56).trans (rfl)))))))
/-- PoolHouseModel.out(I)I -/
theorem bq_294_0 : mm_blk 294 0 = bk_294_0 := by decide +kernel
theorem bq_294_1 : mm_blk 294 1 = bk_294_1 := by decide +kernel
theorem bq_294_2 : mm_blk 294 2 = bk_294_2 := by decide +kernel
theorem r_294_e (x1 : Int) {hi : mm_Id → Int → Int} {dh : Int → Int} {nx ns : Int} {Q : mm_V → mm_H → Prop} (hy : 5306 ≤ nx) :
    mm_Cl 294 [zR (40, 0, 0), zI x1] (mm_z hi dh nx ns) Q =
    mm_Cl 174 [zL x1, zL 0, zL (mm_w (((mm_up hi (40, 0, 0) 0 0) (40, 0, 0) 39) - 1))] (mm_z (mm_up hi (40, 0, 0) 0 0) dh nx ns) (fun r h3 => mm_Wp 294 (bk_294_0.drop 12) [zR (40, 0, 0), zI x1] (mm_push r []) h3 Q) :=
  mm_ce (l2 := [zR (40, 0, 0), zI x1]) rfl (mm_kb bq_294_0 ((wp_5_0).trans ((wp_1).trans ((wp_63 (mm_o40 hy)).trans ((wp_3_1).trans ((wp_31).trans ((wp_2).trans ((wp_5_0).trans ((wp_60 (by decide) (mm_o40 hy)).trans ((wp_1).trans ((wp_11).trans ((wp_31).trans ((wp_s3 mm_n_174 (mm_leq mm_m_174 (mm_lb rfl)) (mm_lb rfl)).trans rfl)))))))))))))
theorem r_294_0_12 (x1 : Int) (y0 : Int) {hi : mm_Id → Int → Int} {dh : Int → Int} {nx ns : Int} {Q : mm_V → mm_H → Prop} (hy : 5306 ≤ nx) :
    mm_Wp 294 (bk_294_0.drop 12) [zR (40, 0, 0), zI x1] [zI y0] (mm_z hi dh nx ns) Q =
    (if y0 = 0 then mm_Wp 294 (mm_blk 294 2) [zR (40, 0, 0), zI x1] [zI (-2)] (mm_z hi dh nx ns) Q else ((0 ≤ x1 ∧ x1 < 34000) ∧ mm_Wp 294 (mm_blk 294 2) [zR (40, 0, 0), zI x1] [zI (hi (68, 0, 0) x1)] (mm_z hi dh nx ns) Q)) :=
  (wp_40).trans (mm_ic (mm_kb bq_294_1 ((wp_1).trans ((wp_0).trans (rfl)))) ((wp_5_0).trans ((wp_62 (by decide) (mm_o40 hy) (mm_r40_40 hy)).trans ((wp_3_1).trans ((wp_71 (mm_q68 hy)).trans (mm_ae ((wp_56).trans (rfl))))))))
theorem r_294_2 (vx0 : mm_V) (vx1 : mm_V) (y0 : Int) {hi : mm_Id → Int → Int} {dh : Int → Int} {nx ns : Int} {Q : mm_V → mm_H → Prop} (hy : 5306 ≤ nx) :
    mm_Wp 294 (mm_blk 294 2) [vx0, vx1] [zI y0] (mm_z hi dh nx ns) Q =
    Q (zI y0) (mm_z hi dh nx ns) :=
  mm_kb bq_294_2 (wp_90)
/-- PoolHouseModel.line()I -/
theorem bq_295_0 : mm_blk 295 0 = bk_295_0 := by decide +kernel
theorem r_295_e  {hi : mm_Id → Int → Int} {dh : Int → Int} {nx ns : Int} {Q : mm_V → mm_H → Prop} (hy : 5306 ≤ nx) :
    mm_Cl 295 [zR (40, 0, 0)] (mm_z hi dh nx ns) Q =
    Q (zI ((mm_up hi (40, 0, 0) 0 0) (40, 0, 0) 43)) (mm_z (mm_up hi (40, 0, 0) 0 0) dh nx ns) :=
  mm_ce (l2 := [zR (40, 0, 0)]) rfl (mm_kb bq_295_0 ((wp_5_0).trans ((wp_1).trans ((wp_63 (mm_o40 hy)).trans ((wp_5_0).trans ((wp_60 (by decide) (mm_o40 hy)).trans (wp_90)))))))
