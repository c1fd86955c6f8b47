/-! stretches of the code (printed by wip/whole/mkreg.py) -/
/-- PoolHouseModel.open(II)I -/
theorem bq_241_0 : mm_blk 241 0 = bk_241_0 := by decide +kernel
theorem bq_241_1 : mm_blk 241 1 = bk_241_1 := by decide +kernel
theorem bq_241_2 : mm_blk 241 2 = bk_241_2 := by decide +kernel
theorem bq_241_3 : mm_blk 241 3 = bk_241_3 := by decide +kernel
theorem bq_241_4 : mm_blk 241 4 = bk_241_4 := by decide +kernel
theorem bq_241_5 : mm_blk 241 5 = bk_241_5 := by decide +kernel
theorem bq_241_6 : mm_blk 241 6 = bk_241_6 := by decide +kernel
theorem bq_241_7 : mm_blk 241 7 = bk_241_7 := by decide +kernel
theorem r_241_e (x1 : Int) (x2 : Int) {hi : mm_Id → Int → Int} {dh : Int → Int} {nx ns : Int} {Q : mm_V → mm_H → Prop} (hy : 10581 ≤ nx) :
    mm_Cl 241 [zR (40, 0, 0), zI x1, zI x2] (mm_z hi dh nx ns) Q =
    mm_Cl 181 [zR (40, 0, 0), zI x1] (mm_z (mm_up hi (40, 0, 0) 0 0) dh nx ns) (fun r h3 => mm_Wp 241 (bk_241_0.drop 6) [zR (40, 0, 0), zI x1, zI x2, zU, zU] (mm_push r []) h3 Q) :=
  mm_ce (l2 := [zR (40, 0, 0), zI x1, zI x2, zU, zU]) rfl (mm_kb bq_241_0 ((wp_5_0).trans ((wp_1).trans ((wp_63 (mm_o40 hy)).trans ((wp_5_0).trans ((wp_3_1).trans ((wp_v2 mm_n_181 (mm_leq mm_m_181 (mm_lb rfl)) (mm_lb rfl) (mm_o40 hy)).trans rfl)))))))
theorem r_241_0_6 (vx1 : mm_V) (x2 : Int) (vx3 : mm_V) (vx4 : mm_V) (y0 : Int) {hi : mm_Id → Int → Int} {dh : Int → Int} {nx ns : Int} {Q : mm_V → mm_H → Prop} (hy : 10581 ≤ nx) :
    mm_Wp 241 (bk_241_0.drop 6) [zR (40, 0, 0), vx1, zI x2, vx3, vx4] [zI y0] (mm_z hi dh nx ns) Q =
    mm_Cl 210 [zR (40, 0, 0), zI y0, zI x2] (mm_z hi dh nx ns) (fun r h3 => mm_Wp 241 (bk_241_0.drop 11) [zR (40, 0, 0), vx1, zI x2, zI y0, vx4] (mm_push r []) h3 Q) :=
  (wp_6 (l2 := [zR (40, 0, 0), vx1, zI x2, zI y0, vx4]) rfl).trans ((wp_5_0).trans ((wp_3_3).trans ((wp_3_2).trans ((wp_v3 mm_n_210 (mm_leq mm_m_210 (mm_lb rfl)) (mm_lb rfl) (mm_o40 hy)).trans rfl))))
theorem r_241_0_11 (vx1 : mm_V) (x2 : Int) (x3 : Int) (vx4 : mm_V) (y0 : Int) {hi : mm_Id → Int → Int} {dh : Int → Int} {nx ns : Int} {Q : mm_V → mm_H → Prop} (hy : 10581 ≤ nx) :
    mm_Wp 241 (bk_241_0.drop 11) [zR (40, 0, 0), vx1, zI x2, zI x3, vx4] [zI y0] (mm_z hi dh nx ns) Q =
    (if y0 = 0 then Q (zI (-1)) (mm_z hi dh nx ns) else (if x3 < 5 then mm_Cl 177 [zR (40, 0, 0), zI x3, zI x2] (mm_z hi dh nx ns) (fun r h3 => mm_Wp 241 (bk_241_1.drop 7) [zR (40, 0, 0), vx1, zI x2, zI x3, vx4] (mm_push r []) h3 Q) else mm_Wp 241 (mm_blk 241 2) [zR (40, 0, 0), vx1, zI x2, zI x3, vx4] [] (mm_z hi dh nx ns) Q)) :=
  (wp_41).trans (mm_ic ((wp_1).trans (wp_90)) (mm_kb bq_241_1 ((wp_3_3).trans ((wp_1).trans ((wp_49).trans (mm_ic ((wp_5_0).trans ((wp_3_3).trans ((wp_3_2).trans ((wp_v3 mm_n_177 (mm_leq mm_m_177 (mm_lb rfl)) (mm_lb rfl) (mm_o40 hy)).trans rfl)))) (rfl)))))))
theorem r_241_2 (vx0 : mm_V) (vx1 : mm_V) (vx2 : mm_V) (vx3 : mm_V) (vx4 : mm_V) {hi : mm_Id → Int → Int} {dh : Int → Int} {nx ns : Int} {Q : mm_V → mm_H → Prop} (hy : 10581 ≤ nx) :
    mm_Wp 241 (mm_blk 241 2) [vx0, vx1, vx2, vx3, vx4] [] (mm_z hi dh nx ns) Q =
    Q (zI (-3)) (mm_z hi dh nx ns) :=
  mm_kb bq_241_2 ((wp_1).trans (wp_90))
theorem r_241_1_7 (vx1 : mm_V) (x2 : Int) (x3 : Int) (vx4 : mm_V) (y0 : Int) {hi : mm_Id → Int → Int} {dh : Int → Int} {nx ns : Int} {Q : mm_V → mm_H → Prop} (hy : 10581 ≤ nx) :
    mm_Wp 241 (bk_241_1.drop 7) [zR (40, 0, 0), vx1, zI x2, zI x3, vx4] [zI y0] (mm_z hi dh nx ns) Q =
    (if y0 = 0 then mm_Wp 241 (mm_blk 241 2) [zR (40, 0, 0), vx1, zI x2, zI x3, vx4] [] (mm_z hi dh nx ns) Q else mm_Cl 203 [zR (40, 0, 0), zI x3, zI x2, zI 4] (mm_z hi dh nx ns) (fun r h3 => mm_Wp 241 (bk_241_3.drop 5) [zR (40, 0, 0), vx1, zI x2, zI x3, vx4] (mm_push r []) h3 Q)) :=
  (wp_41).trans (mm_ic ((wp_0).trans (rfl)) (mm_kb bq_241_3 ((wp_5_0).trans ((wp_3_3).trans ((wp_3_2).trans ((wp_1).trans ((wp_v4 mm_n_203 (mm_leq mm_m_203 (mm_lb rfl)) (mm_lb rfl) (mm_o40 hy)).trans rfl)))))))
theorem r_241_3_5 (vx1 : mm_V) (x2 : Int) (x3 : Int) (vx4 : mm_V) (y0 : Int) {hi : mm_Id → Int → Int} {dh : Int → Int} {nx ns : Int} {Q : mm_V → mm_H → Prop} (hy : 10581 ≤ nx) :
    mm_Wp 241 (bk_241_3.drop 5) [zR (40, 0, 0), vx1, zI x2, zI x3, vx4] [zI y0] (mm_z hi dh nx ns) Q =
    (if y0 = 0 then mm_Cl 203 [zR (40, 0, 0), zI x3, zI x2, zI 2] (mm_z hi dh nx ns) (fun r h3 => mm_Wp 241 (bk_241_3.drop 11) [zR (40, 0, 0), vx1, zI x2, zI x3, vx4] (mm_push r []) h3 Q) else mm_Wp 241 (mm_blk 241 4) [zR (40, 0, 0), vx1, zI x2, zI x3, vx4] [] (mm_z hi dh nx ns) Q) :=
  (wp_41).trans (mm_ic ((wp_5_0).trans ((wp_3_3).trans ((wp_3_2).trans ((wp_1).trans ((wp_v4 mm_n_203 (mm_leq mm_m_203 (mm_lb rfl)) (mm_lb rfl) (mm_o40 hy)).trans rfl))))) (rfl))
theorem r_241_4 (vx1 : mm_V) (x2 : Int) (x3 : Int) (vx4 : mm_V) {hi : mm_Id → Int → Int} {dh : Int → Int} {nx ns : Int} {Q : mm_V → mm_H → Prop} (hy : 10581 ≤ nx) :
    mm_Wp 241 (mm_blk 241 4) [zR (40, 0, 0), vx1, zI x2, zI x3, vx4] [] (mm_z hi dh nx ns) Q =
    mm_Wp 241 (mm_blk 241 5) [zR (40, 0, 0), vx1, zI x2, zI x3, zI 1] [] (mm_z hi dh nx ns) Q :=
  mm_kb bq_241_4 ((wp_1).trans ((wp_6 (l2 := [zR (40, 0, 0), vx1, zI x2, zI x3, zI 1]) rfl).trans ((wp_0).trans (rfl))))
theorem r_241_3_11 (vx1 : mm_V) (x2 : Int) (x3 : Int) (vx4 : mm_V) (y0 : Int) {hi : mm_Id → Int → Int} {dh : Int → Int} {nx ns : Int} {Q : mm_V → mm_H → Prop} (hy : 10581 ≤ nx) :
    mm_Wp 241 (bk_241_3.drop 11) [zR (40, 0, 0), vx1, zI x2, zI x3, vx4] [zI y0] (mm_z hi dh nx ns) Q =
    (if y0 = 0 then Q (zI (-5)) (mm_z hi dh nx ns) else mm_Wp 241 (mm_blk 241 4) [zR (40, 0, 0), vx1, zI x2, zI x3, vx4] [] (mm_z hi dh nx ns) Q) :=
  (wp_41).trans (mm_ic ((wp_1).trans (wp_90)) (rfl))
theorem r_241_5 (vx1 : mm_V) (x2 : Int) (x3 : Int) (x4 : Int) {hi : mm_Id → Int → Int} {dh : Int → Int} {nx ns : Int} {Q : mm_V → mm_H → Prop} (hy : 10581 ≤ nx) :
    mm_Wp 241 (mm_blk 241 5) [zR (40, 0, 0), vx1, zI x2, zI x3, zI x4] [] (mm_z hi dh nx ns) Q =
    (if 8 < x4 then mm_Wp 241 (mm_blk 241 6) [zR (40, 0, 0), vx1, zI x2, zI x3, zI x4] [] (mm_z hi dh nx ns) Q else ((0 ≤ x4 ∧ x4 < 9) ∧ (if 0 < (hi (63, 0, 0) x4) then mm_Wp 241 (mm_blk 241 5) [zR (40, 0, 0), vx1, zI x2, zI x3, zI (mm_w (x4 + 1))] [] (mm_z hi dh nx ns) Q else mm_Wp 241 (mm_blk 241 6) [zR (40, 0, 0), vx1, zI x2, zI x3, zI x4] [] (mm_z hi dh nx ns) Q))) :=
  mm_kb bq_241_5 ((wp_3_4).trans ((wp_1).trans ((wp_50).trans (mm_ic (rfl) ((wp_5_0).trans ((wp_62 (by decide) (mm_o40 hy) (mm_r40_27 hy)).trans ((wp_3_4).trans ((wp_70 (mm_q63 hy)).trans (mm_ae ((wp_45).trans (mm_ic ((wp_9 (l2 := [zR (40, 0, 0), vx1, zI x2, zI x3, zI (mm_w (x4 + 1))]) rfl rfl).trans ((wp_56).trans (rfl))) (rfl))))))))))))
theorem r_241_6 (vx1 : mm_V) (x2 : Int) (x3 : Int) (x4 : Int) {hi : mm_Id → Int → Int} {dh : Int → Int} {nx ns : Int} {Q : mm_V → mm_H → Prop} (hy : 10581 ≤ nx) :
    mm_Wp 241 (mm_blk 241 6) [zR (40, 0, 0), vx1, zI x2, zI x3, zI x4] [] (mm_z hi dh nx ns) Q =
    (if 8 < x4 then Q (zI (-4)) (mm_z hi dh nx ns) else ((0 ≤ x4 ∧ x4 < 9) ∧ ((0 ≤ x4 ∧ x4 < 9) ∧ Q (zI x4) (mm_z (mm_up (mm_up hi (62, 0, 0) x4 x3) (63, 0, 0) x4 x2) dh nx ns)))) :=
  mm_kb bq_241_6 ((wp_3_4).trans ((wp_1).trans ((wp_51).trans (mm_ic ((wp_1).trans (wp_90)) (mm_kb bq_241_7 ((wp_5_0).trans ((wp_62 (by decide) (mm_o40 hy) (mm_r40_26 hy)).trans ((wp_3_4).trans ((wp_3_3).trans ((wp_74 (mm_q62 hy)).trans (mm_ae ((wp_5_0).trans ((wp_62 (by decide) (mm_o40 hy) (mm_r40_27 hy)).trans ((wp_3_4).trans ((wp_3_2).trans ((wp_74 (mm_q63 hy)).trans (mm_ae ((wp_3_4).trans (wp_90)))))))))))))))))))
/-- PoolHouseModel.isHandle(I)Z -/
theorem bq_242_0 : mm_blk 242 0 = bk_242_0 := by decide +kernel
theorem bq_242_1 : mm_blk 242 1 = bk_242_1 := by decide +kernel
theorem bq_242_2 : mm_blk 242 2 = bk_242_2 := by decide +kernel
theorem r_242_e (x1 : Int) {hi : mm_Id → Int → Int} {dh : Int → Int} {nx ns : Int} {Q : mm_V → mm_H → Prop} (hy : 10581 ≤ nx) :
    mm_Cl 242 [zR (40, 0, 0), zI x1] (mm_z hi dh nx ns) Q =
    mm_Cl 174 [zL x1, zL 1, zL 8] (mm_z hi dh nx ns) (fun r h3 => mm_Wp 242 (bk_242_0.drop 5) [zR (40, 0, 0), zI x1] (mm_push r []) h3 Q) :=
  mm_ce (l2 := [zR (40, 0, 0), zI x1]) rfl (mm_kb bq_242_0 ((wp_3_1).trans ((wp_31).trans ((wp_2).trans ((wp_2).trans ((wp_s3 mm_n_174 (mm_leq mm_m_174 (mm_lb rfl)) (mm_lb rfl)).trans rfl))))))
theorem r_242_0_5 (x1 : Int) (y0 : Int) {hi : mm_Id → Int → Int} {dh : Int → Int} {nx ns : Int} {Q : mm_V → mm_H → Prop} (hy : 10581 ≤ nx) :
    mm_Wp 242 (bk_242_0.drop 5) [zR (40, 0, 0), zI x1] [zI y0] (mm_z hi dh nx ns) Q =
    (if y0 = 0 then mm_Wp 242 (mm_blk 242 1) [zR (40, 0, 0), zI x1] [] (mm_z hi dh nx ns) Q else ((0 ≤ x1 ∧ x1 < 9) ∧ (if 0 < (hi (63, 0, 0) x1) then mm_Wp 242 (mm_blk 242 2) [zR (40, 0, 0), zI x1] [zI 1] (mm_z hi dh nx ns) Q else mm_Wp 242 (mm_blk 242 1) [zR (40, 0, 0), zI x1] [] (mm_z hi dh nx ns) Q))) :=
  (wp_40).trans (mm_ic (rfl) ((wp_5_0).trans ((wp_62 (by decide) (mm_o40 hy) (mm_r40_27 hy)).trans ((wp_3_1).trans ((wp_70 (mm_q63 hy)).trans (mm_ae ((wp_45).trans (mm_ic ((wp_1).trans ((wp_56).trans (rfl))) (rfl)))))))))
theorem r_242_1 (vx0 : mm_V) (vx1 : mm_V) {hi : mm_Id → Int → Int} {dh : Int → Int} {nx ns : Int} {Q : mm_V → mm_H → Prop} (hy : 10581 ≤ nx) :
    mm_Wp 242 (mm_blk 242 1) [vx0, vx1] [] (mm_z hi dh nx ns) Q =
    mm_Wp 242 (mm_blk 242 2) [vx0, vx1] [zI 0] (mm_z hi dh nx ns) Q :=
  mm_kb bq_242_1 ((wp_1).trans ((wp_0).trans (rfl)))
theorem r_242_2 (vx0 : mm_V) (vx1 : mm_V) (y0 : Int) {hi : mm_Id → Int → Int} {dh : Int → Int} {nx ns : Int} {Q : mm_V → mm_H → Prop} (hy : 10581 ≤ nx) :
    mm_Wp 242 (mm_blk 242 2) [vx0, vx1] [zI y0] (mm_z hi dh nx ns) Q =
    ((y0 = 0 ∨ y0 = 1) ∧ Q (zI y0) (mm_z hi dh nx ns)) :=
  mm_kb bq_242_2 (wp_94z)
/-- PoolHouseModel.close(I)I -/
theorem bq_243_0 : mm_blk 243 0 = bk_243_0 := by decide +kernel
theorem bq_243_1 : mm_blk 243 1 = bk_243_1 := by decide +kernel
theorem r_243_e (x1 : Int) {hi : mm_Id → Int → Int} {dh : Int → Int} {nx ns : Int} {Q : mm_V → mm_H → Prop} (hy : 10581 ≤ nx) :
    mm_Cl 243 [zR (40, 0, 0), zI x1] (mm_z hi dh nx ns) Q =
    mm_Cl 242 [zR (40, 0, 0), zI x1] (mm_z (mm_up hi (40, 0, 0) 0 0) dh nx ns) (fun r h3 => mm_Wp 243 (bk_243_0.drop 6) [zR (40, 0, 0), zI x1, zU] (mm_push r []) h3 Q) :=
  mm_ce (l2 := [zR (40, 0, 0), zI x1, zU]) rfl (mm_kb bq_243_0 ((wp_5_0).trans ((wp_1).trans ((wp_63 (mm_o40 hy)).trans ((wp_5_0).trans ((wp_3_1).trans ((wp_v2 mm_n_242 (mm_leq mm_m_242 (mm_lb rfl)) (mm_lb rfl) (mm_o40 hy)).trans rfl)))))))
theorem r_243_0_6 (x1 : Int) (vx2 : mm_V) (y0 : Int) {hi : mm_Id → Int → Int} {dh : Int → Int} {nx ns : Int} {Q : mm_V → mm_H → Prop} (hy : 10581 ≤ nx) :
    mm_Wp 243 (bk_243_0.drop 6) [zR (40, 0, 0), zI x1, vx2] [zI y0] (mm_z hi dh nx ns) Q =
    (if y0 = 0 then Q (zI (-1)) (mm_z hi dh nx ns) else ((0 ≤ x1 ∧ x1 < 9) ∧ mm_Cl 192 [zR (40, 0, 0), zI x1] (mm_z hi dh nx ns) (fun r h3 => mm_Wp 243 (bk_243_1.drop 8) [zR (40, 0, 0), zI x1, zI (hi (63, 0, 0) x1)] (mm_push r []) h3 Q))) :=
  (wp_41).trans (mm_ic ((wp_1).trans (wp_90)) (mm_kb bq_243_1 ((wp_5_0).trans ((wp_62 (by decide) (mm_o40 hy) (mm_r40_27 hy)).trans ((wp_3_1).trans ((wp_70 (mm_q63 hy)).trans (mm_ae ((wp_6 (l2 := [zR (40, 0, 0), zI x1, zI (hi (63, 0, 0) x1)]) rfl).trans ((wp_5_0).trans ((wp_3_1).trans ((wp_v2 mm_n_192 (mm_leq mm_m_192 (mm_lb rfl)) (mm_lb rfl) (mm_o40 hy)).trans rfl)))))))))))
theorem r_243_1_8 (x1 : Int) (x2 : Int) {hi : mm_Id → Int → Int} {dh : Int → Int} {nx ns : Int} {Q : mm_V → mm_H → Prop} (hy : 10581 ≤ nx) :
    mm_Wp 243 (bk_243_1.drop 8) [zR (40, 0, 0), zI x1, zI x2] [] (mm_z hi dh nx ns) Q =
    ((0 ≤ x1 ∧ x1 < 9) ∧ mm_Cl 191 [zR (40, 0, 0), zI (hi (62, 0, 0) x1)] (mm_z hi dh nx ns) (fun r h3 => mm_Wp 243 (bk_243_1.drop 14) [zR (40, 0, 0), zI x1, zI x2] (mm_push r []) h3 Q)) :=
  (wp_5_0).trans ((wp_5_0).trans ((wp_62 (by decide) (mm_o40 hy) (mm_r40_26 hy)).trans ((wp_3_1).trans ((wp_70 (mm_q62 hy)).trans (mm_ae ((wp_v2 mm_n_191 (mm_leq mm_m_191 (mm_lb rfl)) (mm_lb rfl) (mm_o40 hy)).trans rfl))))))
theorem r_243_1_14 (vx1 : mm_V) (x2 : Int) {hi : mm_Id → Int → Int} {dh : Int → Int} {nx ns : Int} {Q : mm_V → mm_H → Prop} (hy : 10581 ≤ nx) :
    mm_Wp 243 (bk_243_1.drop 14) [zR (40, 0, 0), vx1, zI x2] [] (mm_z hi dh nx ns) Q =
    mm_Cl 209 [zR (40, 0, 0)] (mm_z hi dh nx ns) (fun r h3 => mm_Wp 243 (bk_243_1.drop 16) [zR (40, 0, 0), vx1, zI x2] (mm_push r []) h3 Q) :=
  (wp_5_0).trans ((wp_v1 mm_n_209 (mm_leq mm_m_209 (mm_lb rfl)) (mm_lb rfl) (mm_o40 hy)).trans rfl)
theorem r_243_1_16 (vx0 : mm_V) (vx1 : mm_V) (x2 : Int) {hi : mm_Id → Int → Int} {dh : Int → Int} {nx ns : Int} {Q : mm_V → mm_H → Prop} (hy : 10581 ≤ nx) :
    mm_Wp 243 (bk_243_1.drop 16) [vx0, vx1, zI x2] [] (mm_z hi dh nx ns) Q =
    Q (zI x2) (mm_z hi dh nx ns) :=
  (wp_3_2).trans (wp_90)
/-- PoolHouseModel.handle(II)I -/
theorem bq_244_0 : mm_blk 244 0 = bk_244_0 := by decide +kernel
theorem bq_244_1 : mm_blk 244 1 = bk_244_1 := by decide +kernel
theorem bq_244_2 : mm_blk 244 2 = bk_244_2 := by decide +kernel
theorem bq_244_3 : mm_blk 244 3 = bk_244_3 := by decide +kernel
theorem bq_244_4 : mm_blk 244 4 = bk_244_4 := by decide +kernel
theorem r_244_e (x1 : Int) (x2 : Int) {hi : mm_Id → Int → Int} {dh : Int → Int} {nx ns : Int} {Q : mm_V → mm_H → Prop} (hy : 10581 ≤ nx) :
    mm_Cl 244 [zR (40, 0, 0), zI x1, zI x2] (mm_z hi dh nx ns) Q =
    mm_Cl 242 [zR (40, 0, 0), zI x1] (mm_z (mm_up hi (40, 0, 0) 0 0) dh nx ns) (fun r h3 => mm_Wp 244 (bk_244_0.drop 6) [zR (40, 0, 0), zI x1, zI x2] (mm_push r []) h3 Q) :=
  mm_ce (l2 := [zR (40, 0, 0), zI x1, zI x2]) rfl (mm_kb bq_244_0 ((wp_5_0).trans ((wp_1).trans ((wp_63 (mm_o40 hy)).trans ((wp_5_0).trans ((wp_3_1).trans ((wp_v2 mm_n_242 (mm_leq mm_m_242 (mm_lb rfl)) (mm_lb rfl) (mm_o40 hy)).trans rfl)))))))
theorem r_244_0_6 (x1 : Int) (x2 : Int) (y0 : Int) {hi : mm_Id → Int → Int} {dh : Int → Int} {nx ns : Int} {Q : mm_V → mm_H → Prop} (hy : 10581 ≤ nx) :
    mm_Wp 244 (bk_244_0.drop 6) [zR (40, 0, 0), zI x1, zI x2] [zI y0] (mm_z hi dh nx ns) Q =
    (if y0 = 0 then Q (zI (-1)) (mm_z hi dh nx ns) else (if x2 = 0 then ((0 ≤ x1 ∧ x1 < 9) ∧ ((0 ≤ (hi (62, 0, 0) x1) ∧ (hi (62, 0, 0) x1) < 26) ∧ mm_Wp 244 (mm_blk 244 4) [zR (40, 0, 0), zI x1, zI x2] [zI (hi (57, 0, 0) (hi (62, 0, 0) x1))] (mm_z hi dh nx ns) Q)) else (if x2 = 1 then ((0 ≤ x1 ∧ x1 < 9) ∧ mm_Wp 244 (mm_blk 244 4) [zR (40, 0, 0), zI x1, zI x2] [zI (hi (63, 0, 0) x1)] (mm_z hi dh nx ns) Q) else mm_Wp 244 (mm_blk 244 4) [zR (40, 0, 0), zI x1, zI x2] [zI (-2)] (mm_z hi dh nx ns) Q))) :=
  (wp_41).trans (mm_ic ((wp_1).trans (wp_90)) (mm_kb bq_244_1 ((wp_3_2).trans ((wp_41).trans (mm_ic ((wp_5_0).trans ((wp_62 (by decide) (mm_o40 hy) (mm_r40_19 hy)).trans ((wp_5_0).trans ((wp_62 (by decide) (mm_o40 hy) (mm_r40_26 hy)).trans ((wp_3_1).trans ((wp_70 (mm_q62 hy)).trans (mm_ae ((wp_70 (mm_q57 hy)).trans (mm_ae ((wp_56).trans (rfl))))))))))) (mm_kb bq_244_2 ((wp_3_2).trans ((wp_1).trans ((wp_47).trans (mm_ic ((wp_5_0).trans ((wp_62 (by decide) (mm_o40 hy) (mm_r40_27 hy)).trans ((wp_3_1).trans ((wp_70 (mm_q63 hy)).trans (mm_ae ((wp_56).trans (rfl))))))) (mm_kb bq_244_3 ((wp_1).trans ((wp_0).trans (rfl))))))))))))))
theorem r_244_4 (vx0 : mm_V) (vx1 : mm_V) (vx2 : mm_V) (y0 : Int) {hi : mm_Id → Int → Int} {dh : Int → Int} {nx ns : Int} {Q : mm_V → mm_H → Prop} (hy : 10581 ≤ nx) :
    mm_Wp 244 (mm_blk 244 4) [vx0, vx1, vx2] [zI y0] (mm_z hi dh nx ns) Q =
    Q (zI y0) (mm_z hi dh nx ns) :=
  mm_kb bq_244_4 (wp_90)
/-- PoolHouseModel.freePlace(II)I -/
theorem bq_248_0 : mm_blk 248 0 = bk_248_0 := by decide +kernel
theorem bq_248_1 : mm_blk 248 1 = bk_248_1 := by decide +kernel
theorem bq_248_2 : mm_blk 248 2 = bk_248_2 := by decide +kernel
theorem r_248_e (x1 : Int) (x2 : Int) {hi : mm_Id → Int → Int} {dh : Int → Int} {nx ns : Int} {Q : mm_V → mm_H → Prop} (hy : 10581 ≤ nx) :
    mm_Cl 248 [zR (40, 0, 0), zI x1, zI x2] (mm_z hi dh nx ns) Q =
    mm_Wp 248 (mm_blk 248 1) [zR (40, 0, 0), zI x1, zI x2, zI x1] [] (mm_z hi dh nx ns) Q :=
  mm_ce (l2 := [zR (40, 0, 0), zI x1, zI x2, zU]) rfl (mm_kb bq_248_0 ((wp_3_1).trans ((wp_6 (l2 := [zR (40, 0, 0), zI x1, zI x2, zI x1]) rfl).trans ((wp_0).trans (rfl)))))
theorem r_248_1 (vx1 : mm_V) (x2 : Int) (x3 : Int) {hi : mm_Id → Int → Int} {dh : Int → Int} {nx ns : Int} {Q : mm_V → mm_H → Prop} (hy : 10581 ≤ nx) :
    mm_Wp 248 (mm_blk 248 1) [zR (40, 0, 0), vx1, zI x2, zI x3] [] (mm_z hi dh nx ns) Q =
    (if x3 < x2 then ((0 ≤ x3 ∧ x3 < 26) ∧ (if 0 < (hi (57, 0, 0) x3) then mm_Wp 248 (mm_blk 248 1) [zR (40, 0, 0), vx1, zI x2, zI (mm_w (x3 + 1))] [] (mm_z hi dh nx ns) Q else mm_Wp 248 (mm_blk 248 2) [zR (40, 0, 0), vx1, zI x2, zI x3] [] (mm_z hi dh nx ns) Q)) else mm_Wp 248 (mm_blk 248 2) [zR (40, 0, 0), vx1, zI x2, zI x3] [] (mm_z hi dh nx ns) Q) :=
  mm_kb bq_248_1 ((wp_3_3).trans ((wp_3_2).trans ((wp_49).trans (mm_ic ((wp_5_0).trans ((wp_62 (by decide) (mm_o40 hy) (mm_r40_19 hy)).trans ((wp_3_3).trans ((wp_70 (mm_q57 hy)).trans (mm_ae ((wp_45).trans (mm_ic ((wp_9 (l2 := [zR (40, 0, 0), vx1, zI x2, zI (mm_w (x3 + 1))]) rfl rfl).trans ((wp_56).trans (rfl))) (rfl)))))))) (rfl)))))
theorem r_248_2 (vx0 : mm_V) (vx1 : mm_V) (vx2 : mm_V) (x3 : Int) {hi : mm_Id → Int → Int} {dh : Int → Int} {nx ns : Int} {Q : mm_V → mm_H → Prop} (hy : 10581 ≤ nx) :
    mm_Wp 248 (mm_blk 248 2) [vx0, vx1, vx2, zI x3] [] (mm_z hi dh nx ns) Q =
    Q (zI x3) (mm_z hi dh nx ns) :=
  mm_kb bq_248_2 ((wp_3_3).trans (wp_90))
/-- PoolHouseModel.clearTree(I)V -/
theorem bq_249_0 : mm_blk 249 0 = bk_249_0 := by decide +kernel
theorem bq_249_1 : mm_blk 249 1 = bk_249_1 := by decide +kernel
theorem bq_249_2 : mm_blk 249 2 = bk_249_2 := by decide +kernel
theorem r_249_e (x1 : Int) {hi : mm_Id → Int → Int} {dh : Int → Int} {nx ns : Int} {Q : mm_V → mm_H → Prop} (hy : 10581 ≤ nx) :
    mm_Cl 249 [zR (40, 0, 0), zI x1] (mm_z hi dh nx ns) Q =
    mm_Wp 249 (mm_blk 249 1) [zR (40, 0, 0), zI x1, zI 1] [] (mm_z hi dh nx ns) Q :=
  mm_ce (l2 := [zR (40, 0, 0), zI x1, zU]) rfl (mm_kb bq_249_0 ((wp_1).trans ((wp_6 (l2 := [zR (40, 0, 0), zI x1, zI 1]) rfl).trans ((wp_0).trans (rfl)))))
theorem r_249_1 (x1 : Int) (x2 : Int) {hi : mm_Id → Int → Int} {dh : Int → Int} {nx ns : Int} {Q : mm_V → mm_H → Prop} (hy : 10581 ≤ nx) :
    mm_Wp 249 (mm_blk 249 1) [zR (40, 0, 0), zI x1, zI x2] [] (mm_z hi dh nx ns) Q =
    (if 36 < x2 then Q zU (mm_z hi dh nx ns) else mm_Cl 175 [zI x1, zI x2] (mm_z hi dh nx ns) (fun r h3 => mm_Wp 249 (bk_249_1.drop 7) [zR (40, 0, 0), zI x1, zI x2] (mm_push r [zR (40, 0, 0)]) h3 Q)) :=
  mm_kb bq_249_1 ((wp_3_2).trans ((wp_1).trans ((wp_50).trans (mm_ic (mm_kb bq_249_2 (wp_93)) ((wp_5_0).trans ((wp_3_1).trans ((wp_3_2).trans ((wp_s2 mm_n_175 (mm_leq mm_m_175 (mm_lb rfl)) (mm_lb rfl)).trans rfl))))))))
theorem r_249_1_7 (x1 : Int) (x2 : Int) (y0 : Int) {hi : mm_Id → Int → Int} {dh : Int → Int} {nx ns : Int} {Q : mm_V → mm_H → Prop} (hy : 10581 ≤ nx) :
    mm_Wp 249 (bk_249_1.drop 7) [zR (40, 0, 0), zI x1, zI x2] [zI y0, zR (40, 0, 0)] (mm_z hi dh nx ns) Q =
    mm_Cl 180 [zR (40, 0, 0), zI y0] (mm_z hi dh nx ns) (fun r h3 => mm_Wp 249 (bk_249_1.drop 8) [zR (40, 0, 0), zI x1, zI x2] (mm_push r []) h3 Q) :=
  (wp_v2 mm_n_180 (mm_leq mm_m_180 (mm_lb rfl)) (mm_lb rfl) (mm_o40 hy)).trans rfl
theorem r_249_1_8 (x1 : Int) (x2 : Int) {hi : mm_Id → Int → Int} {dh : Int → Int} {nx ns : Int} {Q : mm_V → mm_H → Prop} (hy : 10581 ≤ nx) :
    mm_Wp 249 (bk_249_1.drop 8) [zR (40, 0, 0), zI x1, zI x2] [] (mm_z hi dh nx ns) Q =
    mm_Wp 249 (mm_blk 249 1) [zR (40, 0, 0), zI x1, zI (mm_w (x2 + 1))] [] (mm_z hi dh nx ns) Q :=
  (wp_9 (l2 := [zR (40, 0, 0), zI x1, zI (mm_w (x2 + 1))]) rfl rfl).trans ((wp_56).trans (rfl))
/-- PoolHouseModel.snapshot(I)I -/
theorem bq_250_0 : mm_blk 250 0 = bk_250_0 := by decide +kernel
theorem bq_250_1 : mm_blk 250 1 = bk_250_1 := by decide +kernel
theorem bq_250_2 : mm_blk 250 2 = bk_250_2 := by decide +kernel
theorem bq_250_3 : mm_blk 250 3 = bk_250_3 := by decide +kernel
theorem r_250_e (x1 : Int) {hi : mm_Id → Int → Int} {dh : Int → Int} {nx ns : Int} {Q : mm_V → mm_H → Prop} (hy : 10581 ≤ nx) :
    mm_Cl 250 [zR (40, 0, 0), zI x1] (mm_z hi dh nx ns) Q =
    mm_Cl 182 [zR (40, 0, 0), zI x1] (mm_z (mm_up hi (40, 0, 0) 0 0) dh nx ns) (fun r h3 => mm_Wp 250 (bk_250_0.drop 6) [zR (40, 0, 0), zI x1, zU, zU] (mm_push r []) h3 Q) :=
  mm_ce (l2 := [zR (40, 0, 0), zI x1, zU, zU]) rfl (mm_kb bq_250_0 ((wp_5_0).trans ((wp_1).trans ((wp_63 (mm_o40 hy)).trans ((wp_5_0).trans ((wp_3_1).trans ((wp_v2 mm_n_182 (mm_leq mm_m_182 (mm_lb rfl)) (mm_lb rfl) (mm_o40 hy)).trans rfl)))))))
theorem r_250_0_6 (x1 : Int) (vx2 : mm_V) (vx3 : mm_V) (y0 : Int) {hi : mm_Id → Int → Int} {dh : Int → Int} {nx ns : Int} {Q : mm_V → mm_H → Prop} (hy : 10581 ≤ nx) :
    mm_Wp 250 (bk_250_0.drop 6) [zR (40, 0, 0), zI x1, vx2, vx3] [zI y0] (mm_z hi dh nx ns) Q =
    (if y0 < 0 then Q (zI (-1)) (mm_z hi dh nx ns) else (if (hi (40, 0, 0) 29) = 0 then mm_Cl 248 [zR (40, 0, 0), zI 5, zI 13] (mm_z hi dh nx ns) (fun r h3 => mm_Wp 250 (bk_250_2.drop 4) [zR (40, 0, 0), zI x1, zI y0, vx3] (mm_push r []) h3 Q) else Q (zI (-5)) (mm_z hi dh nx ns))) :=
  (wp_6 (l2 := [zR (40, 0, 0), zI x1, zI y0, vx3]) rfl).trans ((wp_3_2).trans ((wp_43).trans (mm_ic ((wp_1).trans (wp_90)) (mm_kb bq_250_1 ((wp_5_0).trans ((wp_60 (by decide) (mm_o40 hy)).trans ((wp_40).trans (mm_ic (mm_kb bq_250_2 ((wp_5_0).trans ((wp_1).trans ((wp_1).trans ((wp_v3 mm_n_248 (mm_leq mm_m_248 (mm_lb rfl)) (mm_lb rfl) (mm_o40 hy)).trans rfl))))) ((wp_1).trans (wp_90))))))))))
theorem r_250_2_4 (x1 : Int) (x2 : Int) (vx3 : mm_V) (y0 : Int) {hi : mm_Id → Int → Int} {dh : Int → Int} {nx ns : Int} {Q : mm_V → mm_H → Prop} (hy : 10581 ≤ nx) :
    mm_Wp 250 (bk_250_2.drop 4) [zR (40, 0, 0), zI x1, zI x2, vx3] [zI y0] (mm_z hi dh nx ns) Q =
    (if y0 = 13 then Q (zI (-4)) (mm_z hi dh nx ns) else ((0 ≤ y0 ∧ y0 < 26) ∧ ((0 ≤ y0 ∧ y0 < 26) ∧ ((0 ≤ y0 ∧ y0 < 26) ∧ mm_Cl 179 [zR (40, 0, 0), zI x2, zI y0] (mm_z (mm_up (mm_up (mm_up (mm_up hi (40, 0, 0) 25 (mm_w ((hi (40, 0, 0) 25) + 1))) (57, 0, 0) y0 ((mm_up hi (40, 0, 0) 25 (mm_w ((hi (40, 0, 0) 25) + 1))) (40, 0, 0) 25)) (58, 0, 0) y0 x1) (60, 0, 0) y0 0) dh nx ns) (fun r h3 => mm_Wp 250 (bk_250_3.drop 26) [zR (40, 0, 0), zI x1, zI x2, zI y0] (mm_push r []) h3 Q))))) :=
  (wp_6 (l2 := [zR (40, 0, 0), zI x1, zI x2, zI y0]) rfl).trans ((wp_3_3).trans ((wp_1).trans ((wp_47).trans (mm_ic ((wp_1).trans (wp_90)) (mm_kb bq_250_3 ((wp_5_0).trans ((wp_35r).trans ((wp_60 (by decide) (mm_o40 hy)).trans ((wp_1).trans ((wp_10).trans ((wp_63 (mm_o40 hy)).trans ((wp_5_0).trans ((wp_62 (by decide) (mm_o40 hy) (mm_r40_19 hy)).trans ((wp_3_3).trans ((wp_5_0).trans ((wp_60 (by decide) (mm_o40 hy)).trans ((wp_74 (mm_q57 hy)).trans (mm_ae ((wp_5_0).trans ((wp_62 (by decide) (mm_o40 hy) (mm_r40_20 hy)).trans ((wp_3_3).trans ((wp_3_1).trans ((wp_74 (mm_q58 hy)).trans (mm_ae ((wp_5_0).trans ((wp_62 (by decide) (mm_o40 hy) (mm_r40_22 hy)).trans ((wp_3_3).trans ((wp_1).trans ((wp_75z (by decide) (mm_q60 hy)).trans (mm_ae ((wp_5_0).trans ((wp_3_2).trans ((wp_3_3).trans ((wp_v3 mm_n_179 (mm_leq mm_m_179 (mm_lb rfl)) (mm_lb rfl) (mm_o40 hy)).trans rfl))))))))))))))))))))))))))))))))))
theorem r_250_3_26 (vx1 : mm_V) (vx2 : mm_V) (vx3 : mm_V) {hi : mm_Id → Int → Int} {dh : Int → Int} {nx ns : Int} {Q : mm_V → mm_H → Prop} (hy : 10581 ≤ nx) :
    mm_Wp 250 (bk_250_3.drop 26) [zR (40, 0, 0), vx1, vx2, vx3] [] (mm_z hi dh nx ns) Q =
    mm_Cl 208 [zR (40, 0, 0)] (mm_z hi dh nx ns) (fun r h3 => mm_Wp 250 (bk_250_3.drop 28) [zR (40, 0, 0), vx1, vx2, vx3] (mm_push r []) h3 Q) :=
  (wp_5_0).trans ((wp_v1 mm_n_208 (mm_leq mm_m_208 (mm_lb rfl)) (mm_lb rfl) (mm_o40 hy)).trans rfl)
theorem r_250_3_28 (vx1 : mm_V) (vx2 : mm_V) (vx3 : mm_V) {hi : mm_Id → Int → Int} {dh : Int → Int} {nx ns : Int} {Q : mm_V → mm_H → Prop} (hy : 10581 ≤ nx) :
    mm_Wp 250 (bk_250_3.drop 28) [zR (40, 0, 0), vx1, vx2, vx3] [] (mm_z hi dh nx ns) Q =
    Q (zI (hi (40, 0, 0) 25)) (mm_z hi dh nx ns) :=
  (wp_5_0).trans ((wp_60 (by decide) (mm_o40 hy)).trans (wp_90))
/-- PoolHouseModel.clone(I)I -/
theorem bq_251_0 : mm_blk 251 0 = bk_251_0 := by decide +kernel
theorem bq_251_1 : mm_blk 251 1 = bk_251_1 := by decide +kernel
theorem bq_251_2 : mm_blk 251 2 = bk_251_2 := by decide +kernel
theorem bq_251_3 : mm_blk 251 3 = bk_251_3 := by decide +kernel
theorem r_251_e (x1 : Int) {hi : mm_Id → Int → Int} {dh : Int → Int} {nx ns : Int} {Q : mm_V → mm_H → Prop} (hy : 10581 ≤ nx) :
    mm_Cl 251 [zR (40, 0, 0), zI x1] (mm_z hi dh nx ns) Q =
    mm_Cl 183 [zR (40, 0, 0), zI x1] (mm_z (mm_up hi (40, 0, 0) 0 0) dh nx ns) (fun r h3 => mm_Wp 251 (bk_251_0.drop 6) [zR (40, 0, 0), zI x1, zU, zU] (mm_push r []) h3 Q) :=
  mm_ce (l2 := [zR (40, 0, 0), zI x1, zU, zU]) rfl (mm_kb bq_251_0 ((wp_5_0).trans ((wp_1).trans ((wp_63 (mm_o40 hy)).trans ((wp_5_0).trans ((wp_3_1).trans ((wp_v2 mm_n_183 (mm_leq mm_m_183 (mm_lb rfl)) (mm_lb rfl) (mm_o40 hy)).trans rfl)))))))
theorem r_251_0_6 (x1 : Int) (vx2 : mm_V) (vx3 : mm_V) (y0 : Int) {hi : mm_Id → Int → Int} {dh : Int → Int} {nx ns : Int} {Q : mm_V → mm_H → Prop} (hy : 10581 ≤ nx) :
    mm_Wp 251 (bk_251_0.drop 6) [zR (40, 0, 0), zI x1, vx2, vx3] [zI y0] (mm_z hi dh nx ns) Q =
    (if y0 < 0 then Q (zI (-1)) (mm_z hi dh nx ns) else (if (hi (40, 0, 0) 29) = 0 then mm_Cl 248 [zR (40, 0, 0), zI 0, zI 5] (mm_z hi dh nx ns) (fun r h3 => mm_Wp 251 (bk_251_2.drop 4) [zR (40, 0, 0), zI x1, zI y0, vx3] (mm_push r []) h3 Q) else Q (zI (-5)) (mm_z hi dh nx ns))) :=
  (wp_6 (l2 := [zR (40, 0, 0), zI x1, zI y0, vx3]) rfl).trans ((wp_3_2).trans ((wp_43).trans (mm_ic ((wp_1).trans (wp_90)) (mm_kb bq_251_1 ((wp_5_0).trans ((wp_60 (by decide) (mm_o40 hy)).trans ((wp_40).trans (mm_ic (mm_kb bq_251_2 ((wp_5_0).trans ((wp_1).trans ((wp_1).trans ((wp_v3 mm_n_248 (mm_leq mm_m_248 (mm_lb rfl)) (mm_lb rfl) (mm_o40 hy)).trans rfl))))) ((wp_1).trans (wp_90))))))))))
theorem r_251_2_4 (x1 : Int) (x2 : Int) (vx3 : mm_V) (y0 : Int) {hi : mm_Id → Int → Int} {dh : Int → Int} {nx ns : Int} {Q : mm_V → mm_H → Prop} (hy : 10581 ≤ nx) :
    mm_Wp 251 (bk_251_2.drop 4) [zR (40, 0, 0), zI x1, zI x2, vx3] [zI y0] (mm_z hi dh nx ns) Q =
    (if y0 = 5 then Q (zI (-4)) (mm_z hi dh nx ns) else ((0 ≤ y0 ∧ y0 < 26) ∧ ((0 ≤ y0 ∧ y0 < 26) ∧ ((0 ≤ y0 ∧ y0 < 26) ∧ mm_Cl 202 [zR (40, 0, 0), zI y0] (mm_z (mm_up (mm_up (mm_up (mm_up hi (40, 0, 0) 24 (mm_w ((hi (40, 0, 0) 24) + 1))) (57, 0, 0) y0 ((mm_up hi (40, 0, 0) 24 (mm_w ((hi (40, 0, 0) 24) + 1))) (40, 0, 0) 24)) (58, 0, 0) y0 x1) (59, 0, 0) y0 400) dh nx ns) (fun r h3 => mm_Wp 251 (bk_251_3.drop 25) [zR (40, 0, 0), zI x1, zI x2, zI y0] (mm_push r []) h3 Q))))) :=
  (wp_6 (l2 := [zR (40, 0, 0), zI x1, zI x2, zI y0]) rfl).trans ((wp_3_3).trans ((wp_1).trans ((wp_47).trans (mm_ic ((wp_1).trans (wp_90)) (mm_kb bq_251_3 ((wp_5_0).trans ((wp_35r).trans ((wp_60 (by decide) (mm_o40 hy)).trans ((wp_1).trans ((wp_10).trans ((wp_63 (mm_o40 hy)).trans ((wp_5_0).trans ((wp_62 (by decide) (mm_o40 hy) (mm_r40_19 hy)).trans ((wp_3_3).trans ((wp_5_0).trans ((wp_60 (by decide) (mm_o40 hy)).trans ((wp_74 (mm_q57 hy)).trans (mm_ae ((wp_5_0).trans ((wp_62 (by decide) (mm_o40 hy) (mm_r40_20 hy)).trans ((wp_3_3).trans ((wp_3_1).trans ((wp_74 (mm_q58 hy)).trans (mm_ae ((wp_5_0).trans ((wp_62 (by decide) (mm_o40 hy) (mm_r40_21 hy)).trans ((wp_3_3).trans ((wp_1).trans ((wp_74 (mm_q59 hy)).trans (mm_ae ((wp_5_0).trans ((wp_3_3).trans ((wp_v2 mm_n_202 (mm_leq mm_m_202 (mm_lb rfl)) (mm_lb rfl) (mm_o40 hy)).trans rfl)))))))))))))))))))))))))))))))))
theorem r_251_3_25 (vx1 : mm_V) (x2 : Int) (x3 : Int) {hi : mm_Id → Int → Int} {dh : Int → Int} {nx ns : Int} {Q : mm_V → mm_H → Prop} (hy : 10581 ≤ nx) :
    mm_Wp 251 (bk_251_3.drop 25) [zR (40, 0, 0), vx1, zI x2, zI x3] [] (mm_z hi dh nx ns) Q =
    mm_Cl 179 [zR (40, 0, 0), zI x2, zI x3] (mm_z hi dh nx ns) (fun r h3 => mm_Wp 251 (bk_251_3.drop 29) [zR (40, 0, 0), vx1, zI x2, zI x3] (mm_push r []) h3 Q) :=
  (wp_5_0).trans ((wp_3_2).trans ((wp_3_3).trans ((wp_v3 mm_n_179 (mm_leq mm_m_179 (mm_lb rfl)) (mm_lb rfl) (mm_o40 hy)).trans rfl)))
theorem r_251_3_29 (vx1 : mm_V) (vx2 : mm_V) (x3 : Int) {hi : mm_Id → Int → Int} {dh : Int → Int} {nx ns : Int} {Q : mm_V → mm_H → Prop} (hy : 10581 ≤ nx) :
    mm_Wp 251 (bk_251_3.drop 29) [zR (40, 0, 0), vx1, vx2, zI x3] [] (mm_z hi dh nx ns) Q =
    mm_Cl 194 [zR (40, 0, 0), zI x3] (mm_z hi dh nx ns) (fun r h3 => mm_Wp 251 (bk_251_3.drop 32) [zR (40, 0, 0), vx1, vx2, zI x3] (mm_push r []) h3 Q) :=
  (wp_5_0).trans ((wp_3_3).trans ((wp_v2 mm_n_194 (mm_leq mm_m_194 (mm_lb rfl)) (mm_lb rfl) (mm_o40 hy)).trans rfl))
theorem r_251_3_32 (vx1 : mm_V) (vx2 : mm_V) (vx3 : mm_V) {hi : mm_Id → Int → Int} {dh : Int → Int} {nx ns : Int} {Q : mm_V → mm_H → Prop} (hy : 10581 ≤ nx) :
    mm_Wp 251 (bk_251_3.drop 32) [zR (40, 0, 0), vx1, vx2, vx3] [] (mm_z hi dh nx ns) Q =
    mm_Cl 208 [zR (40, 0, 0)] (mm_z hi dh nx ns) (fun r h3 => mm_Wp 251 (bk_251_3.drop 34) [zR (40, 0, 0), vx1, vx2, vx3] (mm_push r []) h3 Q) :=
  (wp_5_0).trans ((wp_v1 mm_n_208 (mm_leq mm_m_208 (mm_lb rfl)) (mm_lb rfl) (mm_o40 hy)).trans rfl)
theorem r_251_3_34 (vx1 : mm_V) (vx2 : mm_V) (vx3 : mm_V) {hi : mm_Id → Int → Int} {dh : Int → Int} {nx ns : Int} {Q : mm_V → mm_H → Prop} (hy : 10581 ≤ nx) :
    mm_Wp 251 (bk_251_3.drop 34) [zR (40, 0, 0), vx1, vx2, vx3] [] (mm_z hi dh nx ns) Q =
    Q (zI (hi (40, 0, 0) 24)) (mm_z hi dh nx ns) :=
  (wp_5_0).trans ((wp_60 (by decide) (mm_o40 hy)).trans (wp_90))
/-- PoolHouseModel.back(II)I -/
theorem bq_252_0 : mm_blk 252 0 = bk_252_0 := by decide +kernel
theorem bq_252_1 : mm_blk 252 1 = bk_252_1 := by decide +kernel
theorem bq_252_2 : mm_blk 252 2 = bk_252_2 := by decide +kernel
theorem bq_252_3 : mm_blk 252 3 = bk_252_3 := by decide +kernel
theorem bq_252_4 : mm_blk 252 4 = bk_252_4 := by decide +kernel
theorem bq_252_5 : mm_blk 252 5 = bk_252_5 := by decide +kernel
theorem bq_252_6 : mm_blk 252 6 = bk_252_6 := by decide +kernel
theorem bq_252_7 : mm_blk 252 7 = bk_252_7 := by decide +kernel
theorem bq_252_8 : mm_blk 252 8 = bk_252_8 := by decide +kernel
theorem bq_252_9 : mm_blk 252 9 = bk_252_9 := by decide +kernel
theorem bq_252_10 : mm_blk 252 10 = bk_252_10 := by decide +kernel
theorem bq_252_11 : mm_blk 252 11 = bk_252_11 := by decide +kernel
theorem bq_252_12 : mm_blk 252 12 = bk_252_12 := by decide +kernel
theorem bq_252_13 : mm_blk 252 13 = bk_252_13 := by decide +kernel
theorem bq_252_14 : mm_blk 252 14 = bk_252_14 := by decide +kernel
theorem r_252_e (x1 : Int) (x2 : Int) {hi : mm_Id → Int → Int} {dh : Int → Int} {nx ns : Int} {Q : mm_V → mm_H → Prop} (hy : 10581 ≤ nx) :
    mm_Cl 252 [zR (40, 0, 0), zI x1, zI x2] (mm_z hi dh nx ns) Q =
    mm_Cl 182 [zR (40, 0, 0), zI x1] (mm_z (mm_up hi (40, 0, 0) 0 0) dh nx ns) (fun r h3 => mm_Wp 252 (bk_252_0.drop 6) [zR (40, 0, 0), zI x1, zI x2, zU, zU, zU, zU] (mm_push r []) h3 Q) :=
  mm_ce (l2 := [zR (40, 0, 0), zI x1, zI x2, zU, zU, zU, zU]) rfl (mm_kb bq_252_0 ((wp_5_0).trans ((wp_1).trans ((wp_63 (mm_o40 hy)).trans ((wp_5_0).trans ((wp_3_1).trans ((wp_v2 mm_n_182 (mm_leq mm_m_182 (mm_lb rfl)) (mm_lb rfl) (mm_o40 hy)).trans rfl)))))))
theorem r_252_0_6 (x1 : Int) (x2 : Int) (vx3 : mm_V) (vx4 : mm_V) (vx5 : mm_V) (vx6 : mm_V) (y0 : Int) {hi : mm_Id → Int → Int} {dh : Int → Int} {nx ns : Int} {Q : mm_V → mm_H → Prop} (hy : 10581 ≤ nx) :
    mm_Wp 252 (bk_252_0.drop 6) [zR (40, 0, 0), zI x1, zI x2, vx3, vx4, vx5, vx6] [zI y0] (mm_z hi dh nx ns) Q =
    mm_Cl 183 [zR (40, 0, 0), zI x2] (mm_z hi dh nx ns) (fun r h3 => mm_Wp 252 (bk_252_0.drop 10) [zR (40, 0, 0), zI x1, zI x2, zI y0, vx4, vx5, vx6] (mm_push r []) h3 Q) :=
  (wp_6 (l2 := [zR (40, 0, 0), zI x1, zI x2, zI y0, vx4, vx5, vx6]) rfl).trans ((wp_5_0).trans ((wp_3_2).trans ((wp_v2 mm_n_183 (mm_leq mm_m_183 (mm_lb rfl)) (mm_lb rfl) (mm_o40 hy)).trans rfl)))
theorem r_252_0_10 (x1 : Int) (x2 : Int) (x3 : Int) (vx4 : mm_V) (vx5 : mm_V) (vx6 : mm_V) (y0 : Int) {hi : mm_Id → Int → Int} {dh : Int → Int} {nx ns : Int} {Q : mm_V → mm_H → Prop} (hy : 10581 ≤ nx) :
    mm_Wp 252 (bk_252_0.drop 10) [zR (40, 0, 0), zI x1, zI x2, zI x3, vx4, vx5, vx6] [zI y0] (mm_z hi dh nx ns) Q =
    (if x3 < 0 then mm_Wp 252 (mm_blk 252 1) [zR (40, 0, 0), zI x1, zI x2, zI x3, zI y0, vx5, vx6] [] (mm_z hi dh nx ns) Q else (if y0 < 0 then mm_Wp 252 (mm_blk 252 1) [zR (40, 0, 0), zI x1, zI x2, zI x3, zI y0, vx5, vx6] [] (mm_z hi dh nx ns) Q else mm_Wp 252 (mm_blk 252 3) [zR (40, 0, 0), zI x1, zI x2, zI x3, zI y0, zI 0, zI 5] [] (mm_z hi dh nx ns) Q)) :=
  (wp_6 (l2 := [zR (40, 0, 0), zI x1, zI x2, zI x3, zI y0, vx5, vx6]) rfl).trans ((wp_3_3).trans ((wp_42).trans (mm_ic (rfl) ((wp_3_4).trans ((wp_43).trans (mm_ic ((wp_0).trans (rfl)) (mm_kb bq_252_2 ((wp_1).trans ((wp_6 (l2 := [zR (40, 0, 0), zI x1, zI x2, zI x3, zI y0, zI 0, vx6]) rfl).trans ((wp_1).trans ((wp_6 (l2 := [zR (40, 0, 0), zI x1, zI x2, zI x3, zI y0, zI 0, zI 5]) rfl).trans ((wp_0).trans (rfl)))))))))))))
theorem r_252_1 (vx0 : mm_V) (vx1 : mm_V) (vx2 : mm_V) (vx3 : mm_V) (vx4 : mm_V) (vx5 : mm_V) (vx6 : mm_V) {hi : mm_Id → Int → Int} {dh : Int → Int} {nx ns : Int} {Q : mm_V → mm_H → Prop} (hy : 10581 ≤ nx) :
    mm_Wp 252 (mm_blk 252 1) [vx0, vx1, vx2, vx3, vx4, vx5, vx6] [] (mm_z hi dh nx ns) Q =
    Q (zI (-1)) (mm_z hi dh nx ns) :=
  mm_kb bq_252_1 ((wp_1).trans (wp_90))
theorem r_252_3 (x1 : Int) (x2 : Int) (x3 : Int) (x4 : Int) (x5 : Int) (x6 : Int) {hi : mm_Id → Int → Int} {dh : Int → Int} {nx ns : Int} {Q : mm_V → mm_H → Prop} (hy : 10581 ≤ nx) :
    mm_Wp 252 (mm_blk 252 3) [zR (40, 0, 0), zI x1, zI x2, zI x3, zI x4, zI x5, zI x6] [] (mm_z hi dh nx ns) Q =
    (if x6 < 13 then (if x5 = 0 then ((0 ≤ x6 ∧ x6 < 26) ∧ (if x2 < (hi (57, 0, 0) x6) then ((0 ≤ x6 ∧ x6 < 26) ∧ (if (hi (58, 0, 0) x6) = x1 then mm_Wp 252 (mm_blk 252 4) [zR (40, 0, 0), zI x1, zI x2, zI x3, zI x4, zI x5, zI x6] [] (mm_z hi dh nx ns) Q else mm_Wp 252 (mm_blk 252 5) [zR (40, 0, 0), zI x1, zI x2, zI x3, zI x4, zI x5, zI x6] [] (mm_z hi dh nx ns) Q)) else mm_Wp 252 (mm_blk 252 5) [zR (40, 0, 0), zI x1, zI x2, zI x3, zI x4, zI x5, zI x6] [] (mm_z hi dh nx ns) Q)) else mm_Wp 252 (mm_blk 252 4) [zR (40, 0, 0), zI x1, zI x2, zI x3, zI x4, zI x5, zI x6] [] (mm_z hi dh nx ns) Q) else ((0 ≤ x4 ∧ x4 < 26) ∧ (if (hi (58, 0, 0) x4) = x1 then (if x5 = 0 then (if (hi (40, 0, 0) 29) = 0 then mm_Cl 179 [zR (40, 0, 0), zI x3, zI 28] (mm_z hi dh nx ns) (fun r h3 => mm_Wp 252 (bk_252_10.drop 4) [zR (40, 0, 0), zI x1, zI x2, zI x3, zI x4, zI x5, zI x6] (mm_push r []) h3 Q) else Q (zI (-5)) (mm_z hi dh nx ns)) else mm_Wp 252 (mm_blk 252 8) [zR (40, 0, 0), zI x1, zI x2, zI x3, zI x4, zI x5, zI x6] [] (mm_z hi dh nx ns) Q) else mm_Wp 252 (mm_blk 252 8) [zR (40, 0, 0), zI x1, zI x2, zI x3, zI x4, zI x5, zI x6] [] (mm_z hi dh nx ns) Q))) :=
  mm_kb bq_252_3 ((wp_3_6).trans ((wp_1).trans ((wp_49).trans (mm_ic ((wp_3_5).trans ((wp_41).trans (mm_ic ((wp_5_0).trans ((wp_62 (by decide) (mm_o40 hy) (mm_r40_19 hy)).trans ((wp_3_6).trans ((wp_70 (mm_q57 hy)).trans (mm_ae ((wp_3_2).trans ((wp_51).trans (mm_ic ((wp_5_0).trans ((wp_62 (by decide) (mm_o40 hy) (mm_r40_20 hy)).trans ((wp_3_6).trans ((wp_70 (mm_q58 hy)).trans (mm_ae ((wp_3_1).trans ((wp_47).trans (mm_ic ((wp_0).trans (rfl)) (rfl))))))))) (rfl))))))))) (rfl)))) (mm_kb bq_252_7 ((wp_5_0).trans ((wp_62 (by decide) (mm_o40 hy) (mm_r40_20 hy)).trans ((wp_3_4).trans ((wp_70 (mm_q58 hy)).trans (mm_ae ((wp_3_1).trans ((wp_47).trans (mm_ic ((wp_3_5).trans ((wp_40).trans (mm_ic (mm_kb bq_252_9 ((wp_5_0).trans ((wp_60 (by decide) (mm_o40 hy)).trans ((wp_40).trans (mm_ic (mm_kb bq_252_10 ((wp_5_0).trans ((wp_3_3).trans ((wp_1).trans ((wp_v3 mm_n_179 (mm_leq mm_m_179 (mm_lb rfl)) (mm_lb rfl) (mm_o40 hy)).trans rfl))))) ((wp_1).trans (wp_90))))))) ((wp_0).trans (rfl))))) (rfl))))))))))))))
theorem r_252_8 (vx0 : mm_V) (vx1 : mm_V) (vx2 : mm_V) (vx3 : mm_V) (vx4 : mm_V) (vx5 : mm_V) (vx6 : mm_V) {hi : mm_Id → Int → Int} {dh : Int → Int} {nx ns : Int} {Q : mm_V → mm_H → Prop} (hy : 10581 ≤ nx) :
    mm_Wp 252 (mm_blk 252 8) [vx0, vx1, vx2, vx3, vx4, vx5, vx6] [] (mm_z hi dh nx ns) Q =
    Q (zI (-3)) (mm_z hi dh nx ns) :=
  mm_kb bq_252_8 ((wp_1).trans (wp_90))
theorem r_252_10_4 (vx1 : mm_V) (vx2 : mm_V) (x3 : Int) (x4 : Int) (vx5 : mm_V) (vx6 : mm_V) {hi : mm_Id → Int → Int} {dh : Int → Int} {nx ns : Int} {Q : mm_V → mm_H → Prop} (hy : 10581 ≤ nx) :
    mm_Wp 252 (bk_252_10.drop 4) [zR (40, 0, 0), vx1, vx2, zI x3, zI x4, vx5, vx6] [] (mm_z hi dh nx ns) Q =
    mm_Cl 179 [zR (40, 0, 0), zI x4, zI x3] (mm_z hi dh nx ns) (fun r h3 => mm_Wp 252 (bk_252_10.drop 8) [zR (40, 0, 0), vx1, vx2, zI x3, zI x4, vx5, vx6] (mm_push r []) h3 Q) :=
  (wp_5_0).trans ((wp_3_4).trans ((wp_3_3).trans ((wp_v3 mm_n_179 (mm_leq mm_m_179 (mm_lb rfl)) (mm_lb rfl) (mm_o40 hy)).trans rfl)))
theorem r_252_4 (x1 : Int) (x2 : Int) (x3 : Int) (x4 : Int) (vx5 : mm_V) (x6 : Int) {hi : mm_Id → Int → Int} {dh : Int → Int} {nx ns : Int} {Q : mm_V → mm_H → Prop} (hy : 10581 ≤ nx) :
    mm_Wp 252 (mm_blk 252 4) [zR (40, 0, 0), zI x1, zI x2, zI x3, zI x4, vx5, zI x6] [] (mm_z hi dh nx ns) Q =
    mm_Wp 252 (mm_blk 252 6) [zR (40, 0, 0), zI x1, zI x2, zI x3, zI x4, vx5, zI x6] [zI 1] (mm_z hi dh nx ns) Q :=
  mm_kb bq_252_4 ((wp_1).trans ((wp_56).trans (rfl)))
theorem r_252_5 (x1 : Int) (x2 : Int) (x3 : Int) (x4 : Int) (vx5 : mm_V) (x6 : Int) {hi : mm_Id → Int → Int} {dh : Int → Int} {nx ns : Int} {Q : mm_V → mm_H → Prop} (hy : 10581 ≤ nx) :
    mm_Wp 252 (mm_blk 252 5) [zR (40, 0, 0), zI x1, zI x2, zI x3, zI x4, vx5, zI x6] [] (mm_z hi dh nx ns) Q =
    mm_Wp 252 (mm_blk 252 6) [zR (40, 0, 0), zI x1, zI x2, zI x3, zI x4, vx5, zI x6] [zI 0] (mm_z hi dh nx ns) Q :=
  mm_kb bq_252_5 ((wp_1).trans ((wp_0).trans (rfl)))
theorem r_252_10_8 (vx1 : mm_V) (vx2 : mm_V) (x3 : Int) (vx4 : mm_V) (vx5 : mm_V) (vx6 : mm_V) {hi : mm_Id → Int → Int} {dh : Int → Int} {nx ns : Int} {Q : mm_V → mm_H → Prop} (hvx5 : mm_wt vx5 = 1) (hy : 10581 ≤ nx) :
    mm_Wp 252 (bk_252_10.drop 8) [zR (40, 0, 0), vx1, vx2, zI x3, vx4, vx5, vx6] [] (mm_z hi dh nx ns) Q =
    mm_Wp 252 (mm_blk 252 11) [zR (40, 0, 0), vx1, vx2, zI x3, vx4, vx5, zI 1] [] (mm_z hi dh nx ns) Q :=
  (wp_1).trans ((wp_6 (l2 := [zR (40, 0, 0), vx1, vx2, zI x3, vx4, vx5, zI 1]) ((if_pos (mm_lb rfl)).trans (congrArg some (mm_stw rfl hvx5)))).trans ((wp_0).trans (rfl)))
theorem r_252_6 (x1 : Int) (x2 : Int) (x3 : Int) (x4 : Int) (vx5 : mm_V) (x6 : Int) (y0 : Int) {hi : mm_Id → Int → Int} {dh : Int → Int} {nx ns : Int} {Q : mm_V → mm_H → Prop} (hy : 10581 ≤ nx) :
    mm_Wp 252 (mm_blk 252 6) [zR (40, 0, 0), zI x1, zI x2, zI x3, zI x4, vx5, zI x6] [zI y0] (mm_z hi dh nx ns) Q =
    mm_Wp 252 (mm_blk 252 3) [zR (40, 0, 0), zI x1, zI x2, zI x3, zI x4, zI y0, zI (mm_w (x6 + 1))] [] (mm_z hi dh nx ns) Q :=
  mm_kb bq_252_6 ((wp_6 (l2 := [zR (40, 0, 0), zI x1, zI x2, zI x3, zI x4, zI y0, zI x6]) rfl).trans ((wp_9 (l2 := [zR (40, 0, 0), zI x1, zI x2, zI x3, zI x4, zI y0, zI (mm_w (x6 + 1))]) rfl rfl).trans ((wp_56).trans (rfl))))
theorem r_252_11 (vx1 : mm_V) (vx2 : mm_V) (x3 : Int) (vx4 : mm_V) (vx5 : mm_V) (x6 : Int) {hi : mm_Id → Int → Int} {dh : Int → Int} {nx ns : Int} {Q : mm_V → mm_H → Prop} (hy : 10581 ≤ nx) :
    mm_Wp 252 (mm_blk 252 11) [zR (40, 0, 0), vx1, vx2, zI x3, vx4, vx5, zI x6] [] (mm_z hi dh nx ns) Q =
    (if 36 < x6 then mm_Cl 201 [zR (40, 0, 0), zI x3] (mm_z hi dh nx ns) (fun r h3 => mm_Wp 252 (bk_252_13.drop 3) [zR (40, 0, 0), vx1, vx2, zI x3, vx4, vx5, zI x6] (mm_push r []) h3 Q) else mm_Cl 177 [zR (40, 0, 0), zI x3, zI x6] (mm_z hi dh nx ns) (fun r h3 => mm_Wp 252 (bk_252_11.drop 7) [zR (40, 0, 0), vx1, vx2, zI x3, vx4, vx5, zI x6] (mm_push r []) h3 Q)) :=
  mm_kb bq_252_11 ((wp_3_6).trans ((wp_1).trans ((wp_50).trans (mm_ic (mm_kb bq_252_13 ((wp_5_0).trans ((wp_3_3).trans ((wp_v2 mm_n_201 (mm_leq mm_m_201 (mm_lb rfl)) (mm_lb rfl) (mm_o40 hy)).trans rfl)))) ((wp_5_0).trans ((wp_3_3).trans ((wp_3_6).trans ((wp_v3 mm_n_177 (mm_leq mm_m_177 (mm_lb rfl)) (mm_lb rfl) (mm_o40 hy)).trans rfl))))))))
theorem r_252_13_3 (vx1 : mm_V) (vx2 : mm_V) (x3 : Int) (vx4 : mm_V) (vx5 : mm_V) (vx6 : mm_V) (y0 : Int) {hi : mm_Id → Int → Int} {dh : Int → Int} {nx ns : Int} {Q : mm_V → mm_H → Prop} (hy : 10581 ≤ nx) :
    mm_Wp 252 (bk_252_13.drop 3) [zR (40, 0, 0), vx1, vx2, zI x3, vx4, vx5, vx6] [zI y0] (mm_z hi dh nx ns) Q =
    (if y0 = 0 then mm_Cl 179 [zR (40, 0, 0), zI 28, zI x3] (mm_z hi dh nx ns) (fun r h3 => mm_Wp 252 (bk_252_13.drop 8) [zR (40, 0, 0), vx1, vx2, zI x3, vx4, vx5, vx6] (mm_push r []) h3 Q) else mm_Cl 194 [zR (40, 0, 0), zI x3] (mm_z hi dh nx ns) (fun r h3 => mm_Wp 252 (bk_252_14.drop 3) [zR (40, 0, 0), vx1, vx2, zI x3, vx4, vx5, vx6] (mm_push r []) h3 Q)) :=
  (wp_41).trans (mm_ic ((wp_5_0).trans ((wp_1).trans ((wp_3_3).trans ((wp_v3 mm_n_179 (mm_leq mm_m_179 (mm_lb rfl)) (mm_lb rfl) (mm_o40 hy)).trans rfl)))) (mm_kb bq_252_14 ((wp_5_0).trans ((wp_3_3).trans ((wp_v2 mm_n_194 (mm_leq mm_m_194 (mm_lb rfl)) (mm_lb rfl) (mm_o40 hy)).trans rfl)))))
theorem r_252_11_7 (vx1 : mm_V) (vx2 : mm_V) (x3 : Int) (vx4 : mm_V) (vx5 : mm_V) (x6 : Int) (y0 : Int) {hi : mm_Id → Int → Int} {dh : Int → Int} {nx ns : Int} {Q : mm_V → mm_H → Prop} (hy : 10581 ≤ nx) :
    mm_Wp 252 (bk_252_11.drop 7) [zR (40, 0, 0), vx1, vx2, zI x3, vx4, vx5, zI x6] [zI y0] (mm_z hi dh nx ns) Q =
    (if y0 = 0 then mm_Wp 252 (mm_blk 252 12) [zR (40, 0, 0), vx1, vx2, zI x3, vx4, vx5, zI x6] [] (mm_z hi dh nx ns) Q else mm_Cl 188 [zR (40, 0, 0), zI x3, zI x6] (mm_z hi dh nx ns) (fun r h3 => mm_Wp 252 (bk_252_11.drop 12) [zR (40, 0, 0), vx1, vx2, zI x3, vx4, vx5, zI x6] (mm_push r []) h3 Q)) :=
  (wp_40).trans (mm_ic (rfl) ((wp_5_0).trans ((wp_3_3).trans ((wp_3_6).trans ((wp_v3 mm_n_188 (mm_leq mm_m_188 (mm_lb rfl)) (mm_lb rfl) (mm_o40 hy)).trans rfl)))))
theorem r_252_14_3 (vx1 : mm_V) (vx2 : mm_V) (vx3 : mm_V) (vx4 : mm_V) (vx5 : mm_V) (vx6 : mm_V) {hi : mm_Id → Int → Int} {dh : Int → Int} {nx ns : Int} {Q : mm_V → mm_H → Prop} (hy : 10581 ≤ nx) :
    mm_Wp 252 (bk_252_14.drop 3) [zR (40, 0, 0), vx1, vx2, vx3, vx4, vx5, vx6] [] (mm_z hi dh nx ns) Q =
    mm_Cl 208 [zR (40, 0, 0)] (mm_z hi dh nx ns) (fun r h3 => mm_Wp 252 (bk_252_14.drop 5) [zR (40, 0, 0), vx1, vx2, vx3, vx4, vx5, vx6] (mm_push r []) h3 Q) :=
  (wp_5_0).trans ((wp_v1 mm_n_208 (mm_leq mm_m_208 (mm_lb rfl)) (mm_lb rfl) (mm_o40 hy)).trans rfl)
theorem r_252_13_8 (vx0 : mm_V) (vx1 : mm_V) (vx2 : mm_V) (vx3 : mm_V) (vx4 : mm_V) (vx5 : mm_V) (vx6 : mm_V) {hi : mm_Id → Int → Int} {dh : Int → Int} {nx ns : Int} {Q : mm_V → mm_H → Prop} (hy : 10581 ≤ nx) :
    mm_Wp 252 (bk_252_13.drop 8) [vx0, vx1, vx2, vx3, vx4, vx5, vx6] [] (mm_z hi dh nx ns) Q =
    Q (zI (-4)) (mm_z hi dh nx ns) :=
  (wp_1).trans (wp_90)
theorem r_252_12 (vx1 : mm_V) (vx2 : mm_V) (x3 : Int) (vx4 : mm_V) (vx5 : mm_V) (x6 : Int) {hi : mm_Id → Int → Int} {dh : Int → Int} {nx ns : Int} {Q : mm_V → mm_H → Prop} (hy : 10581 ≤ nx) :
    mm_Wp 252 (mm_blk 252 12) [zR (40, 0, 0), vx1, vx2, zI x3, vx4, vx5, zI x6] [] (mm_z hi dh nx ns) Q =
    mm_Wp 252 (mm_blk 252 11) [zR (40, 0, 0), vx1, vx2, zI x3, vx4, vx5, zI (mm_w (x6 + 1))] [] (mm_z hi dh nx ns) Q :=
  mm_kb bq_252_12 ((wp_9 (l2 := [zR (40, 0, 0), vx1, vx2, zI x3, vx4, vx5, zI (mm_w (x6 + 1))]) rfl rfl).trans ((wp_56).trans (rfl)))
theorem r_252_11_12 (vx1 : mm_V) (vx2 : mm_V) (x3 : Int) (vx4 : mm_V) (vx5 : mm_V) (x6 : Int) (y0 : Int) {hi : mm_Id → Int → Int} {dh : Int → Int} {nx ns : Int} {Q : mm_V → mm_H → Prop} (hy : 10581 ≤ nx) :
    mm_Wp 252 (bk_252_11.drop 12) [zR (40, 0, 0), vx1, vx2, zI x3, vx4, vx5, zI x6] [zI y0] (mm_z hi dh nx ns) Q =
    (if y0 = 0 then mm_Cl 175 [zI x3, zI x6] (mm_z hi dh nx ns) (fun r h3 => mm_Wp 252 (bk_252_11.drop 17) [zR (40, 0, 0), vx1, vx2, zI x3, vx4, vx5, zI x6] (mm_push r [zR (40, 0, 0)]) h3 Q) else mm_Wp 252 (mm_blk 252 12) [zR (40, 0, 0), vx1, vx2, zI x3, vx4, vx5, zI x6] [] (mm_z hi dh nx ns) Q) :=
  (wp_41).trans (mm_ic ((wp_5_0).trans ((wp_3_3).trans ((wp_3_6).trans ((wp_s2 mm_n_175 (mm_leq mm_m_175 (mm_lb rfl)) (mm_lb rfl)).trans rfl)))) (rfl))
theorem r_252_14_5 (vx0 : mm_V) (vx1 : mm_V) (vx2 : mm_V) (vx3 : mm_V) (vx4 : mm_V) (vx5 : mm_V) (vx6 : mm_V) {hi : mm_Id → Int → Int} {dh : Int → Int} {nx ns : Int} {Q : mm_V → mm_H → Prop} (hy : 10581 ≤ nx) :
    mm_Wp 252 (bk_252_14.drop 5) [vx0, vx1, vx2, vx3, vx4, vx5, vx6] [] (mm_z hi dh nx ns) Q =
    Q (zI 1) (mm_z hi dh nx ns) :=
  (wp_1).trans (wp_90)
theorem r_252_11_17 (vx1 : mm_V) (vx2 : mm_V) (x3 : Int) (vx4 : mm_V) (vx5 : mm_V) (x6 : Int) (y0 : Int) {hi : mm_Id → Int → Int} {dh : Int → Int} {nx ns : Int} {Q : mm_V → mm_H → Prop} (hy : 10581 ≤ nx) :
    mm_Wp 252 (bk_252_11.drop 17) [zR (40, 0, 0), vx1, vx2, zI x3, vx4, vx5, zI x6] [zI y0, zR (40, 0, 0)] (mm_z hi dh nx ns) Q =
    mm_Cl 180 [zR (40, 0, 0), zI y0] (mm_z hi dh nx ns) (fun r h3 => mm_Wp 252 (bk_252_11.drop 18) [zR (40, 0, 0), vx1, vx2, zI x3, vx4, vx5, zI x6] (mm_push r []) h3 Q) :=
  (wp_v2 mm_n_180 (mm_leq mm_m_180 (mm_lb rfl)) (mm_lb rfl) (mm_o40 hy)).trans rfl
theorem r_252_11_18 (vx1 : mm_V) (vx2 : mm_V) (x3 : Int) (vx4 : mm_V) (vx5 : mm_V) (x6 : Int) {hi : mm_Id → Int → Int} {dh : Int → Int} {nx ns : Int} {Q : mm_V → mm_H → Prop} (hy : 10581 ≤ nx) :
    mm_Wp 252 (bk_252_11.drop 18) [zR (40, 0, 0), vx1, vx2, zI x3, vx4, vx5, zI x6] [] (mm_z hi dh nx ns) Q =
    mm_Wp 252 (mm_blk 252 12) [zR (40, 0, 0), vx1, vx2, zI x3, vx4, vx5, zI x6] [] (mm_z hi dh nx ns) Q :=
  (wp_0).trans (rfl)
/-- PoolHouseModel.destroy(I)I -/
theorem bq_253_0 : mm_blk 253 0 = bk_253_0 := by decide +kernel
theorem bq_253_1 : mm_blk 253 1 = bk_253_1 := by decide +kernel
theorem bq_253_2 : mm_blk 253 2 = bk_253_2 := by decide +kernel
theorem bq_253_3 : mm_blk 253 3 = bk_253_3 := by decide +kernel
theorem bq_253_4 : mm_blk 253 4 = bk_253_4 := by decide +kernel
theorem bq_253_5 : mm_blk 253 5 = bk_253_5 := by decide +kernel
theorem bq_253_6 : mm_blk 253 6 = bk_253_6 := by decide +kernel
theorem bq_253_7 : mm_blk 253 7 = bk_253_7 := by decide +kernel
theorem bq_253_8 : mm_blk 253 8 = bk_253_8 := by decide +kernel
theorem bq_253_9 : mm_blk 253 9 = bk_253_9 := by decide +kernel
theorem bq_253_10 : mm_blk 253 10 = bk_253_10 := by decide +kernel
theorem bq_253_11 : mm_blk 253 11 = bk_253_11 := by decide +kernel
theorem bq_253_12 : mm_blk 253 12 = bk_253_12 := by decide +kernel
theorem bq_253_13 : mm_blk 253 13 = bk_253_13 := by decide +kernel
theorem bq_253_14 : mm_blk 253 14 = bk_253_14 := by decide +kernel
theorem bq_253_15 : mm_blk 253 15 = bk_253_15 := by decide +kernel
theorem bq_253_16 : mm_blk 253 16 = bk_253_16 := by decide +kernel
theorem bq_253_17 : mm_blk 253 17 = bk_253_17 := by decide +kernel
theorem bq_253_18 : mm_blk 253 18 = bk_253_18 := by decide +kernel
theorem bq_253_19 : mm_blk 253 19 = bk_253_19 := by decide +kernel
theorem r_253_e (x1 : Int) {hi : mm_Id → Int → Int} {dh : Int → Int} {nx ns : Int} {Q : mm_V → mm_H → Prop} (hy : 10581 ≤ nx) :
    mm_Cl 253 [zR (40, 0, 0), zI x1] (mm_z hi dh nx ns) Q =
    mm_Cl 181 [zR (40, 0, 0), zI x1] (mm_z (mm_up hi (40, 0, 0) 0 0) dh nx ns) (fun r h3 => mm_Wp 253 (bk_253_0.drop 6) [zR (40, 0, 0), zI x1, zU, zU, zU, zU, zU] (mm_push r []) h3 Q) :=
  mm_ce (l2 := [zR (40, 0, 0), zI x1, zU, zU, zU, zU, zU]) rfl (mm_kb bq_253_0 ((wp_5_0).trans ((wp_1).trans ((wp_63 (mm_o40 hy)).trans ((wp_5_0).trans ((wp_3_1).trans ((wp_v2 mm_n_181 (mm_leq mm_m_181 (mm_lb rfl)) (mm_lb rfl) (mm_o40 hy)).trans rfl)))))))
theorem r_253_0_6 (x1 : Int) (vx2 : mm_V) (vx3 : mm_V) (vx4 : mm_V) (vx5 : mm_V) (vx6 : mm_V) (y0 : Int) {hi : mm_Id → Int → Int} {dh : Int → Int} {nx ns : Int} {Q : mm_V → mm_H → Prop} (hy : 10581 ≤ nx) :
    mm_Wp 253 (bk_253_0.drop 6) [zR (40, 0, 0), zI x1, vx2, vx3, vx4, vx5, vx6] [zI y0] (mm_z hi dh nx ns) Q =
    (if y0 < 0 then Q (zI (-1)) (mm_z hi dh nx ns) else mm_Wp 253 (mm_blk 253 2) [zR (40, 0, 0), zI x1, zI y0, zI 0, zI 0, vx5, vx6] [] (mm_z hi dh nx ns) Q) :=
  (wp_6 (l2 := [zR (40, 0, 0), zI x1, zI y0, vx3, vx4, vx5, vx6]) rfl).trans ((wp_3_2).trans ((wp_43).trans (mm_ic ((wp_1).trans (wp_90)) (mm_kb bq_253_1 ((wp_1).trans ((wp_6 (l2 := [zR (40, 0, 0), zI x1, zI y0, zI 0, vx4, vx5, vx6]) rfl).trans ((wp_1).trans ((wp_6 (l2 := [zR (40, 0, 0), zI x1, zI y0, zI 0, zI 0, vx5, vx6]) rfl).trans ((wp_0).trans (rfl))))))))))
theorem r_253_2 (x1 : Int) (x2 : Int) (x3 : Int) (x4 : Int) (vx5 : mm_V) (vx6 : mm_V) {hi : mm_Id → Int → Int} {dh : Int → Int} {nx ns : Int} {Q : mm_V → mm_H → Prop} (hy : 10581 ≤ nx) :
    mm_Wp 253 (mm_blk 253 2) [zR (40, 0, 0), zI x1, zI x2, zI x3, zI x4, vx5, vx6] [] (mm_z hi dh nx ns) Q =
    (if x4 < 5 then ((0 ≤ x4 ∧ x4 < 26) ∧ (if 0 < (hi (57, 0, 0) x4) then mm_Wp 253 (mm_blk 253 4) [zR (40, 0, 0), zI x1, zI x2, zI x3, zI x4, vx5, vx6] [zI 1, zI x3] (mm_z hi dh nx ns) Q else mm_Wp 253 (mm_blk 253 4) [zR (40, 0, 0), zI x1, zI x2, zI x3, zI x4, vx5, vx6] [zI 0, zI x3] (mm_z hi dh nx ns) Q)) else (if x2 < 5 then (if x3 = 1 then mm_Wp 253 (mm_blk 253 8) [zR (40, 0, 0), zI x1, zI x2, zI x3, zI x4, vx5, vx6] [zI 1] (mm_z hi dh nx ns) Q else mm_Wp 253 (mm_blk 253 8) [zR (40, 0, 0), zI x1, zI x2, zI x3, zI x4, vx5, vx6] [zI 0] (mm_z hi dh nx ns) Q) else ((0 ≤ x2 ∧ x2 < 26) ∧ mm_Wp 253 (mm_blk 253 8) [zR (40, 0, 0), zI x1, zI x2, zI x3, zI x4, vx5, vx6] [zI (hi (60, 0, 0) x2)] (mm_z hi dh nx ns) Q))) :=
  mm_kb bq_253_2 ((wp_3_4).trans ((wp_1).trans ((wp_49).trans (mm_ic ((wp_3_3).trans ((wp_5_0).trans ((wp_62 (by decide) (mm_o40 hy) (mm_r40_19 hy)).trans ((wp_3_4).trans ((wp_70 (mm_q57 hy)).trans (mm_ae ((wp_45).trans (mm_ic ((wp_1).trans ((wp_56).trans (rfl))) (mm_kb bq_253_3 ((wp_1).trans ((wp_0).trans (rfl)))))))))))) (mm_kb bq_253_5 ((wp_3_2).trans ((wp_1).trans ((wp_48).trans (mm_ic (mm_kb bq_253_6 ((wp_3_3).trans ((wp_1).trans ((wp_47).trans (mm_ic ((wp_1).trans ((wp_56).trans (rfl))) (mm_kb bq_253_7 ((wp_1).trans ((wp_0).trans (rfl))))))))) ((wp_5_0).trans ((wp_62 (by decide) (mm_o40 hy) (mm_r40_22 hy)).trans ((wp_3_2).trans ((wp_71z (mm_q60 hy)).trans (mm_ae ((wp_56).trans (rfl))))))))))))))))
theorem r_253_8 (x1 : Int) (x2 : Int) (vx3 : mm_V) (vx4 : mm_V) (vx5 : mm_V) (vx6 : mm_V) (y0 : Int) {hi : mm_Id → Int → Int} {dh : Int → Int} {nx ns : Int} {Q : mm_V → mm_H → Prop} (hvx3 : mm_wt vx3 = 1) (hy : 10581 ≤ nx) :
    mm_Wp 253 (mm_blk 253 8) [zR (40, 0, 0), zI x1, zI x2, vx3, vx4, vx5, vx6] [zI y0] (mm_z hi dh nx ns) Q =
    mm_Wp 253 (mm_blk 253 9) [zR (40, 0, 0), zI x1, zI x2, vx3, zI y0, zI 0, vx6] [] (mm_z hi dh nx ns) Q :=
  mm_kb bq_253_8 ((wp_6 (l2 := [zR (40, 0, 0), zI x1, zI x2, vx3, zI y0, vx5, vx6]) ((if_pos (mm_lb rfl)).trans (congrArg some (mm_stw rfl hvx3)))).trans ((wp_1).trans ((wp_6 (l2 := [zR (40, 0, 0), zI x1, zI x2, vx3, zI y0, zI 0, vx6]) rfl).trans ((wp_0).trans (rfl)))))
theorem r_253_4 (x1 : Int) (x2 : Int) (vx3 : mm_V) (x4 : Int) (vx5 : mm_V) (vx6 : mm_V) (y0 : Int) (y1 : Int) {hi : mm_Id → Int → Int} {dh : Int → Int} {nx ns : Int} {Q : mm_V → mm_H → Prop} (hy : 10581 ≤ nx) :
    mm_Wp 253 (mm_blk 253 4) [zR (40, 0, 0), zI x1, zI x2, vx3, zI x4, vx5, vx6] [zI y0, zI y1] (mm_z hi dh nx ns) Q =
    mm_Wp 253 (mm_blk 253 2) [zR (40, 0, 0), zI x1, zI x2, zI (mm_w (y1 + y0)), zI (mm_w (x4 + 1)), vx5, vx6] [] (mm_z hi dh nx ns) Q :=
  mm_kb bq_253_4 ((wp_10).trans ((wp_6 (l2 := [zR (40, 0, 0), zI x1, zI x2, zI (mm_w (y1 + y0)), zI x4, vx5, vx6]) rfl).trans ((wp_9 (l2 := [zR (40, 0, 0), zI x1, zI x2, zI (mm_w (y1 + y0)), zI (mm_w (x4 + 1)), vx5, vx6]) rfl rfl).trans ((wp_56).trans (rfl)))))
theorem r_253_9 (x1 : Int) (x2 : Int) (vx3 : mm_V) (x4 : Int) (x5 : Int) (vx6 : mm_V) {hi : mm_Id → Int → Int} {dh : Int → Int} {nx ns : Int} {Q : mm_V → mm_H → Prop} (hy : 10581 ≤ nx) :
    mm_Wp 253 (mm_blk 253 9) [zR (40, 0, 0), zI x1, zI x2, vx3, zI x4, zI x5, vx6] [] (mm_z hi dh nx ns) Q =
    (if x5 < 13 then ((0 ≤ x5 ∧ x5 < 26) ∧ (if 0 < (hi (57, 0, 0) x5) then (if x2 < 5 then (if x5 < 5 then mm_Wp 253 (mm_blk 253 12) [zR (40, 0, 0), zI x1, zI x2, vx3, zI x4, zI x5, vx6] [] (mm_z hi dh nx ns) Q else ((0 ≤ x5 ∧ x5 < 26) ∧ (if (hi (58, 0, 0) x5) = x1 then mm_Wp 253 (mm_blk 253 11) [zR (40, 0, 0), zI x1, zI x2, vx3, zI x4, zI x5, vx6] [] (mm_z hi dh nx ns) Q else mm_Wp 253 (mm_blk 253 12) [zR (40, 0, 0), zI x1, zI x2, vx3, zI x4, zI x5, vx6] [] (mm_z hi dh nx ns) Q))) else (if x5 < 5 then ((0 ≤ x5 ∧ x5 < 26) ∧ (if (hi (58, 0, 0) x5) = (mm_w (-x1)) then mm_Wp 253 (mm_blk 253 11) [zR (40, 0, 0), zI x1, zI x2, vx3, zI x4, zI x5, vx6] [] (mm_z hi dh nx ns) Q else mm_Wp 253 (mm_blk 253 12) [zR (40, 0, 0), zI x1, zI x2, vx3, zI x4, zI x5, vx6] [] (mm_z hi dh nx ns) Q)) else mm_Wp 253 (mm_blk 253 12) [zR (40, 0, 0), zI x1, zI x2, vx3, zI x4, zI x5, vx6] [] (mm_z hi dh nx ns) Q)) else mm_Wp 253 (mm_blk 253 12) [zR (40, 0, 0), zI x1, zI x2, vx3, zI x4, zI x5, vx6] [] (mm_z hi dh nx ns) Q)) else (if x4 = 0 then (if (hi (40, 0, 0) 29) = 0 then mm_Cl 199 [zR (40, 0, 0), zI (-1)] (mm_z hi dh nx ns) (fun r h3 => mm_Wp 253 (bk_253_19.drop 3) [zR (40, 0, 0), zI x1, zI x2, vx3, zI x4, zI x5, vx6] (mm_push r []) h3 Q) else Q (zI (-5)) (mm_z hi dh nx ns)) else Q (zI (-3)) (mm_z hi dh nx ns))) :=
  mm_kb bq_253_9 ((wp_3_5).trans ((wp_1).trans ((wp_49).trans (mm_ic ((wp_5_0).trans ((wp_62 (by decide) (mm_o40 hy) (mm_r40_19 hy)).trans ((wp_3_5).trans ((wp_70 (mm_q57 hy)).trans (mm_ae ((wp_45).trans (mm_ic ((wp_3_2).trans ((wp_1).trans ((wp_49).trans (mm_ic ((wp_3_5).trans ((wp_1).trans ((wp_48).trans (mm_ic (rfl) ((wp_5_0).trans ((wp_62 (by decide) (mm_o40 hy) (mm_r40_20 hy)).trans ((wp_3_5).trans ((wp_70 (mm_q58 hy)).trans (mm_ae ((wp_3_1).trans ((wp_47).trans (mm_ic ((wp_56).trans (rfl)) (rfl))))))))))))) (mm_kb bq_253_10 ((wp_3_5).trans ((wp_1).trans ((wp_49).trans (mm_ic ((wp_5_0).trans ((wp_62 (by decide) (mm_o40 hy) (mm_r40_20 hy)).trans ((wp_3_5).trans ((wp_70 (mm_q58 hy)).trans (mm_ae ((wp_3_1).trans ((wp_15).trans ((wp_47).trans (mm_ic ((wp_0).trans (rfl)) (rfl)))))))))) (rfl)))))))))) (rfl)))))))) (mm_kb bq_253_17 ((wp_3_4).trans ((wp_40).trans (mm_ic (mm_kb bq_253_18 ((wp_5_0).trans ((wp_60 (by decide) (mm_o40 hy)).trans ((wp_40).trans (mm_ic (mm_kb bq_253_19 ((wp_5_0).trans ((wp_1).trans ((wp_v2 mm_n_199 (mm_leq mm_m_199 (mm_lb rfl)) (mm_lb rfl) (mm_o40 hy)).trans rfl)))) ((wp_1).trans (wp_90))))))) ((wp_1).trans (wp_90))))))))))
theorem r_253_19_3 (vx1 : mm_V) (x2 : Int) (vx3 : mm_V) (vx4 : mm_V) (vx5 : mm_V) (vx6 : mm_V) (y0 : Int) {hi : mm_Id → Int → Int} {dh : Int → Int} {nx ns : Int} {Q : mm_V → mm_H → Prop} (hvx4 : mm_wt vx4 = 1) (hy : 10581 ≤ nx) :
    mm_Wp 253 (bk_253_19.drop 3) [zR (40, 0, 0), vx1, zI x2, vx3, vx4, vx5, vx6] [zI y0] (mm_z hi dh nx ns) Q =
    mm_Cl 193 [zR (40, 0, 0), zI x2] (mm_z hi dh nx ns) (fun r h3 => mm_Wp 253 (bk_253_19.drop 7) [zR (40, 0, 0), vx1, zI x2, vx3, vx4, zI y0, vx6] (mm_push r []) h3 Q) :=
  (wp_6 (l2 := [zR (40, 0, 0), vx1, zI x2, vx3, vx4, zI y0, vx6]) ((if_pos (mm_lb rfl)).trans (congrArg some (mm_stw rfl hvx4)))).trans ((wp_5_0).trans ((wp_3_2).trans ((wp_v2 mm_n_193 (mm_leq mm_m_193 (mm_lb rfl)) (mm_lb rfl) (mm_o40 hy)).trans rfl)))
theorem r_253_12 (x1 : Int) (x2 : Int) (vx3 : mm_V) (x4 : Int) (x5 : Int) (vx6 : mm_V) {hi : mm_Id → Int → Int} {dh : Int → Int} {nx ns : Int} {Q : mm_V → mm_H → Prop} (hy : 10581 ≤ nx) :
    mm_Wp 253 (mm_blk 253 12) [zR (40, 0, 0), zI x1, zI x2, vx3, zI x4, zI x5, vx6] [] (mm_z hi dh nx ns) Q =
    mm_Wp 253 (mm_blk 253 13) [zR (40, 0, 0), zI x1, zI x2, vx3, zI x4, zI x5, vx6] [zI 0] (mm_z hi dh nx ns) Q :=
  mm_kb bq_253_12 ((wp_1).trans ((wp_0).trans (rfl)))
theorem r_253_11 (x1 : Int) (x2 : Int) (vx3 : mm_V) (x4 : Int) (x5 : Int) (vx6 : mm_V) {hi : mm_Id → Int → Int} {dh : Int → Int} {nx ns : Int} {Q : mm_V → mm_H → Prop} (hy : 10581 ≤ nx) :
    mm_Wp 253 (mm_blk 253 11) [zR (40, 0, 0), zI x1, zI x2, vx3, zI x4, zI x5, vx6] [] (mm_z hi dh nx ns) Q =
    mm_Wp 253 (mm_blk 253 13) [zR (40, 0, 0), zI x1, zI x2, vx3, zI x4, zI x5, vx6] [zI 1] (mm_z hi dh nx ns) Q :=
  mm_kb bq_253_11 ((wp_1).trans ((wp_56).trans (rfl)))
theorem r_253_19_7 (vx1 : mm_V) (x2 : Int) (vx3 : mm_V) (vx4 : mm_V) (x5 : Int) (vx6 : mm_V) {hi : mm_Id → Int → Int} {dh : Int → Int} {nx ns : Int} {Q : mm_V → mm_H → Prop} (hy : 10581 ≤ nx) :
    mm_Wp 253 (bk_253_19.drop 7) [zR (40, 0, 0), vx1, zI x2, vx3, vx4, zI x5, vx6] [] (mm_z hi dh nx ns) Q =
    ((0 ≤ x2 ∧ x2 < 26) ∧ mm_Cl 249 [zR (40, 0, 0), zI x2] (mm_z (mm_up hi (57, 0, 0) x2 0) dh nx ns) (fun r h3 => mm_Wp 253 (bk_253_19.drop 15) [zR (40, 0, 0), vx1, zI x2, vx3, vx4, zI x5, vx6] (mm_push r []) h3 Q)) :=
  (wp_5_0).trans ((wp_62 (by decide) (mm_o40 hy) (mm_r40_19 hy)).trans ((wp_3_2).trans ((wp_1).trans ((wp_74 (mm_q57 hy)).trans (mm_ae ((wp_5_0).trans ((wp_3_2).trans ((wp_v2 mm_n_249 (mm_leq mm_m_249 (mm_lb rfl)) (mm_lb rfl) (mm_o40 hy)).trans rfl))))))))
theorem r_253_13 (x1 : Int) (x2 : Int) (vx3 : mm_V) (x4 : Int) (x5 : Int) (vx6 : mm_V) (y0 : Int) {hi : mm_Id → Int → Int} {dh : Int → Int} {nx ns : Int} {Q : mm_V → mm_H → Prop} (hy : 10581 ≤ nx) :
    mm_Wp 253 (mm_blk 253 13) [zR (40, 0, 0), zI x1, zI x2, vx3, zI x4, zI x5, vx6] [zI y0] (mm_z hi dh nx ns) Q =
    (if x4 = 0 then (if y0 = 0 then mm_Wp 253 (mm_blk 253 16) [zR (40, 0, 0), zI x1, zI x2, vx3, zI x4, zI x5, zI y0] [zI 0] (mm_z hi dh nx ns) Q else mm_Wp 253 (mm_blk 253 14) [zR (40, 0, 0), zI x1, zI x2, vx3, zI x4, zI x5, zI y0] [] (mm_z hi dh nx ns) Q) else mm_Wp 253 (mm_blk 253 14) [zR (40, 0, 0), zI x1, zI x2, vx3, zI x4, zI x5, zI y0] [] (mm_z hi dh nx ns) Q) :=
  mm_kb bq_253_13 ((wp_6 (l2 := [zR (40, 0, 0), zI x1, zI x2, vx3, zI x4, zI x5, zI y0]) rfl).trans ((wp_3_4).trans ((wp_41).trans (mm_ic ((wp_3_6).trans ((wp_40).trans (mm_ic (mm_kb bq_253_15 ((wp_1).trans ((wp_0).trans (rfl)))) ((wp_0).trans (rfl))))) (rfl)))))
theorem r_253_19_15 (vx1 : mm_V) (vx2 : mm_V) (vx3 : mm_V) (vx4 : mm_V) (x5 : Int) (vx6 : mm_V) {hi : mm_Id → Int → Int} {dh : Int → Int} {nx ns : Int} {Q : mm_V → mm_H → Prop} (hy : 10581 ≤ nx) :
    mm_Wp 253 (bk_253_19.drop 15) [zR (40, 0, 0), vx1, vx2, vx3, vx4, zI x5, vx6] [] (mm_z hi dh nx ns) Q =
    mm_Cl 199 [zR (40, 0, 0), zI (-1)] (mm_z hi dh nx ns) (fun r h3 => mm_Wp 253 (bk_253_19.drop 18) [zR (40, 0, 0), vx1, vx2, vx3, vx4, zI x5, vx6] (mm_push r []) h3 Q) :=
  (wp_5_0).trans ((wp_1).trans ((wp_v2 mm_n_199 (mm_leq mm_m_199 (mm_lb rfl)) (mm_lb rfl) (mm_o40 hy)).trans rfl))
theorem r_253_14 (x1 : Int) (x2 : Int) (vx3 : mm_V) (vx4 : mm_V) (x5 : Int) (vx6 : mm_V) {hi : mm_Id → Int → Int} {dh : Int → Int} {nx ns : Int} {Q : mm_V → mm_H → Prop} (hy : 10581 ≤ nx) :
    mm_Wp 253 (mm_blk 253 14) [zR (40, 0, 0), zI x1, zI x2, vx3, vx4, zI x5, vx6] [] (mm_z hi dh nx ns) Q =
    mm_Wp 253 (mm_blk 253 16) [zR (40, 0, 0), zI x1, zI x2, vx3, vx4, zI x5, vx6] [zI 1] (mm_z hi dh nx ns) Q :=
  mm_kb bq_253_14 ((wp_1).trans ((wp_56).trans (rfl)))
theorem r_253_16 (x1 : Int) (x2 : Int) (vx3 : mm_V) (vx4 : mm_V) (x5 : Int) (vx6 : mm_V) (y0 : Int) {hi : mm_Id → Int → Int} {dh : Int → Int} {nx ns : Int} {Q : mm_V → mm_H → Prop} (hvx3 : mm_wt vx3 = 1) (hy : 10581 ≤ nx) :
    mm_Wp 253 (mm_blk 253 16) [zR (40, 0, 0), zI x1, zI x2, vx3, vx4, zI x5, vx6] [zI y0] (mm_z hi dh nx ns) Q =
    mm_Wp 253 (mm_blk 253 9) [zR (40, 0, 0), zI x1, zI x2, vx3, zI y0, zI (mm_w (x5 + 1)), vx6] [] (mm_z hi dh nx ns) Q :=
  mm_kb bq_253_16 ((wp_6 (l2 := [zR (40, 0, 0), zI x1, zI x2, vx3, zI y0, zI x5, vx6]) ((if_pos (mm_lb rfl)).trans (congrArg some (mm_stw rfl hvx3)))).trans ((wp_9 (l2 := [zR (40, 0, 0), zI x1, zI x2, vx3, zI y0, zI (mm_w (x5 + 1)), vx6]) rfl rfl).trans ((wp_56).trans (rfl))))
theorem r_253_19_18 (vx1 : mm_V) (vx2 : mm_V) (vx3 : mm_V) (vx4 : mm_V) (x5 : Int) (vx6 : mm_V) (y0 : Int) {hi : mm_Id → Int → Int} {dh : Int → Int} {nx ns : Int} {Q : mm_V → mm_H → Prop} (hy : 10581 ≤ nx) :
    mm_Wp 253 (bk_253_19.drop 18) [zR (40, 0, 0), vx1, vx2, vx3, vx4, zI x5, vx6] [zI y0] (mm_z hi dh nx ns) Q =
    mm_Cl 208 [zR (40, 0, 0)] (mm_z hi dh nx ns) (fun r h3 => mm_Wp 253 (bk_253_19.drop 21) [zR (40, 0, 0), vx1, vx2, vx3, vx4, zI x5, zI y0] (mm_push r []) h3 Q) :=
  (wp_6 (l2 := [zR (40, 0, 0), vx1, vx2, vx3, vx4, zI x5, zI y0]) rfl).trans ((wp_5_0).trans ((wp_v1 mm_n_208 (mm_leq mm_m_208 (mm_lb rfl)) (mm_lb rfl) (mm_o40 hy)).trans rfl))
theorem r_253_19_21 (vx0 : mm_V) (vx1 : mm_V) (vx2 : mm_V) (vx3 : mm_V) (vx4 : mm_V) (x5 : Int) (x6 : Int) {hi : mm_Id → Int → Int} {dh : Int → Int} {nx ns : Int} {Q : mm_V → mm_H → Prop} (hy : 10581 ≤ nx) :
    mm_Wp 253 (bk_253_19.drop 21) [vx0, vx1, vx2, vx3, vx4, zI x5, zI x6] [] (mm_z hi dh nx ns) Q =
    Q (zI (mm_w (x5 - x6))) (mm_z hi dh nx ns) :=
  (wp_3_5).trans ((wp_3_6).trans ((wp_11).trans (wp_90)))
/-- PoolHouseModel.hold(IZ)I -/
theorem bq_254_0 : mm_blk 254 0 = bk_254_0 := by decide +kernel
theorem bq_254_1 : mm_blk 254 1 = bk_254_1 := by decide +kernel
theorem bq_254_2 : mm_blk 254 2 = bk_254_2 := by decide +kernel
theorem bq_254_3 : mm_blk 254 3 = bk_254_3 := by decide +kernel
theorem bq_254_4 : mm_blk 254 4 = bk_254_4 := by decide +kernel
theorem r_254_e (x1 : Int) (x2 : Int) {hi : mm_Id → Int → Int} {dh : Int → Int} {nx ns : Int} {Q : mm_V → mm_H → Prop} (hy : 10581 ≤ nx) :
    mm_Cl 254 [zR (40, 0, 0), zI x1, zI x2] (mm_z hi dh nx ns) Q =
    mm_Cl 183 [zR (40, 0, 0), zI x1] (mm_z (mm_up hi (40, 0, 0) 0 0) dh nx ns) (fun r h3 => mm_Wp 254 (bk_254_0.drop 6) [zR (40, 0, 0), zI x1, zI x2, zU, zU] (mm_push r []) h3 Q) :=
  mm_ce (l2 := [zR (40, 0, 0), zI x1, zI x2, zU, zU]) rfl (mm_kb bq_254_0 ((wp_5_0).trans ((wp_1).trans ((wp_63 (mm_o40 hy)).trans ((wp_5_0).trans ((wp_3_1).trans ((wp_v2 mm_n_183 (mm_leq mm_m_183 (mm_lb rfl)) (mm_lb rfl) (mm_o40 hy)).trans rfl)))))))
theorem r_254_0_6 (vx1 : mm_V) (x2 : Int) (vx3 : mm_V) (vx4 : mm_V) (y0 : Int) {hi : mm_Id → Int → Int} {dh : Int → Int} {nx ns : Int} {Q : mm_V → mm_H → Prop} (hy : 10581 ≤ nx) :
    mm_Wp 254 (bk_254_0.drop 6) [zR (40, 0, 0), vx1, zI x2, vx3, vx4] [zI y0] (mm_z hi dh nx ns) Q =
    (if y0 < 0 then Q (zI (-1)) (mm_z hi dh nx ns) else (if (hi (40, 0, 0) 29) = 0 then ((0 ≤ y0 ∧ y0 < 26) ∧ (if (hi (60, 0, 0) y0) = 0 then mm_Wp 254 (mm_blk 254 4) [zR (40, 0, 0), vx1, zI x2, zI y0, vx4] [zI 0] (mm_z hi dh nx ns) Q else mm_Wp 254 (mm_blk 254 4) [zR (40, 0, 0), vx1, zI x2, zI y0, vx4] [zI 1] (mm_z hi dh nx ns) Q)) else Q (zI (-5)) (mm_z hi dh nx ns))) :=
  (wp_6 (l2 := [zR (40, 0, 0), vx1, zI x2, zI y0, vx4]) rfl).trans ((wp_3_3).trans ((wp_43).trans (mm_ic ((wp_1).trans (wp_90)) (mm_kb bq_254_1 ((wp_5_0).trans ((wp_60 (by decide) (mm_o40 hy)).trans ((wp_40).trans (mm_ic (mm_kb bq_254_2 ((wp_5_0).trans ((wp_62 (by decide) (mm_o40 hy) (mm_r40_22 hy)).trans ((wp_3_3).trans ((wp_71z (mm_q60 hy)).trans (mm_ae ((wp_40).trans (mm_ic (mm_kb bq_254_3 ((wp_1).trans ((wp_0).trans (rfl)))) ((wp_1).trans ((wp_56).trans (rfl))))))))))) ((wp_1).trans (wp_90))))))))))
theorem r_254_4 (vx1 : mm_V) (x2 : Int) (x3 : Int) (vx4 : mm_V) (y0 : Int) {hi : mm_Id → Int → Int} {dh : Int → Int} {nx ns : Int} {Q : mm_V → mm_H → Prop} (hy : 10581 ≤ nx) :
    mm_Wp 254 (mm_blk 254 4) [zR (40, 0, 0), vx1, zI x2, zI x3, vx4] [zI y0] (mm_z hi dh nx ns) Q =
    (((x2 = 0 ∨ x2 = 1) ∧ 0 ≤ x3 ∧ x3 < 26) ∧ mm_Cl 208 [zR (40, 0, 0)] (mm_z (mm_up hi (60, 0, 0) x3 x2) dh nx ns) (fun r h3 => mm_Wp 254 (bk_254_4.drop 8) [zR (40, 0, 0), vx1, zI x2, zI x3, zI y0] (mm_push r []) h3 Q)) :=
  mm_kb bq_254_4 ((wp_6 (l2 := [zR (40, 0, 0), vx1, zI x2, zI x3, zI y0]) rfl).trans ((wp_5_0).trans ((wp_62 (by decide) (mm_o40 hy) (mm_r40_22 hy)).trans ((wp_3_3).trans ((wp_3_2).trans ((wp_75zv (mm_q60 hy)).trans (mm_ae ((wp_5_0).trans ((wp_v1 mm_n_208 (mm_leq mm_m_208 (mm_lb rfl)) (mm_lb rfl) (mm_o40 hy)).trans rfl)))))))))
theorem r_254_4_8 (vx0 : mm_V) (vx1 : mm_V) (vx2 : mm_V) (vx3 : mm_V) (x4 : Int) {hi : mm_Id → Int → Int} {dh : Int → Int} {nx ns : Int} {Q : mm_V → mm_H → Prop} (hy : 10581 ≤ nx) :
    mm_Wp 254 (bk_254_4.drop 8) [vx0, vx1, vx2, vx3, zI x4] [] (mm_z hi dh nx ns) Q =
    Q (zI x4) (mm_z hi dh nx ns) :=
  (wp_3_4).trans (wp_90)
/-- PoolHouseModel.quota(II)I -/
theorem bq_255_0 : mm_blk 255 0 = bk_255_0 := by decide +kernel
theorem bq_255_1 : mm_blk 255 1 = bk_255_1 := by decide +kernel
theorem bq_255_2 : mm_blk 255 2 = bk_255_2 := by decide +kernel
theorem bq_255_3 : mm_blk 255 3 = bk_255_3 := by decide +kernel
theorem bq_255_4 : mm_blk 255 4 = bk_255_4 := by decide +kernel
theorem r_255_e (x1 : Int) (x2 : Int) {hi : mm_Id → Int → Int} {dh : Int → Int} {nx ns : Int} {Q : mm_V → mm_H → Prop} (hy : 10581 ≤ nx) :
    mm_Cl 255 [zR (40, 0, 0), zI x1, zI x2] (mm_z hi dh nx ns) Q =
    mm_Cl 182 [zR (40, 0, 0), zI x1] (mm_z (mm_up hi (40, 0, 0) 0 0) dh nx ns) (fun r h3 => mm_Wp 255 (bk_255_0.drop 6) [zR (40, 0, 0), zI x1, zI x2, zU, zU] (mm_push r []) h3 Q) :=
  mm_ce (l2 := [zR (40, 0, 0), zI x1, zI x2, zU, zU]) rfl (mm_kb bq_255_0 ((wp_5_0).trans ((wp_1).trans ((wp_63 (mm_o40 hy)).trans ((wp_5_0).trans ((wp_3_1).trans ((wp_v2 mm_n_182 (mm_leq mm_m_182 (mm_lb rfl)) (mm_lb rfl) (mm_o40 hy)).trans rfl)))))))
theorem r_255_0_6 (vx1 : mm_V) (x2 : Int) (vx3 : mm_V) (vx4 : mm_V) (y0 : Int) {hi : mm_Id → Int → Int} {dh : Int → Int} {nx ns : Int} {Q : mm_V → mm_H → Prop} (hy : 10581 ≤ nx) :
    mm_Wp 255 (bk_255_0.drop 6) [zR (40, 0, 0), vx1, zI x2, vx3, vx4] [zI y0] (mm_z hi dh nx ns) Q =
    (if y0 < 0 then Q (zI (-1)) (mm_z hi dh nx ns) else mm_Cl 174 [zL x2, zL 0, zL 400] (mm_z hi dh nx ns) (fun r h3 => mm_Wp 255 (bk_255_1.drop 5) [zR (40, 0, 0), vx1, zI x2, zI y0, vx4] (mm_push r []) h3 Q)) :=
  (wp_6 (l2 := [zR (40, 0, 0), vx1, zI x2, zI y0, vx4]) rfl).trans ((wp_3_3).trans ((wp_43).trans (mm_ic ((wp_1).trans (wp_90)) (mm_kb bq_255_1 ((wp_3_2).trans ((wp_31).trans ((wp_2).trans ((wp_2).trans ((wp_s3 mm_n_174 (mm_leq mm_m_174 (mm_lb rfl)) (mm_lb rfl)).trans rfl)))))))))
theorem r_255_1_5 (vx1 : mm_V) (x2 : Int) (x3 : Int) (vx4 : mm_V) (y0 : Int) {hi : mm_Id → Int → Int} {dh : Int → Int} {nx ns : Int} {Q : mm_V → mm_H → Prop} (hy : 10581 ≤ nx) :
    mm_Wp 255 (bk_255_1.drop 5) [zR (40, 0, 0), vx1, zI x2, zI x3, vx4] [zI y0] (mm_z hi dh nx ns) Q =
    (if y0 = 0 then Q (zI (-2)) (mm_z hi dh nx ns) else mm_Cl 200 [zR (40, 0, 0), zI x3] (mm_z hi dh nx ns) (fun r h3 => mm_Wp 255 (bk_255_2.drop 3) [zR (40, 0, 0), vx1, zI x2, zI x3, vx4] (mm_push r []) h3 Q)) :=
  (wp_41).trans (mm_ic ((wp_1).trans (wp_90)) (mm_kb bq_255_2 ((wp_5_0).trans ((wp_3_3).trans ((wp_v2 mm_n_200 (mm_leq mm_m_200 (mm_lb rfl)) (mm_lb rfl) (mm_o40 hy)).trans rfl)))))
theorem r_255_2_3 (vx1 : mm_V) (x2 : Int) (x3 : Int) (vx4 : mm_V) (y0 : Int) {hi : mm_Id → Int → Int} {dh : Int → Int} {nx ns : Int} {Q : mm_V → mm_H → Prop} (hy : 10581 ≤ nx) :
    mm_Wp 255 (bk_255_2.drop 3) [zR (40, 0, 0), vx1, zI x2, zI x3, vx4] [zI y0] (mm_z hi dh nx ns) Q =
    (if x2 < y0 then Q (zI (-3)) (mm_z hi dh nx ns) else (if (hi (40, 0, 0) 29) = 0 then ((0 ≤ x3 ∧ x3 < 26) ∧ ((0 ≤ x3 ∧ x3 < 26) ∧ mm_Cl 208 [zR (40, 0, 0)] (mm_z (mm_up hi (59, 0, 0) x3 x2) dh nx ns) (fun r h3 => mm_Wp 255 (bk_255_4.drop 12) [zR (40, 0, 0), vx1, zI x2, zI x3, zI (hi (59, 0, 0) x3)] (mm_push r []) h3 Q))) else Q (zI (-5)) (mm_z hi dh nx ns))) :=
  (wp_3_2).trans ((wp_51).trans (mm_ic ((wp_1).trans (wp_90)) (mm_kb bq_255_3 ((wp_5_0).trans ((wp_60 (by decide) (mm_o40 hy)).trans ((wp_40).trans (mm_ic (mm_kb bq_255_4 ((wp_5_0).trans ((wp_62 (by decide) (mm_o40 hy) (mm_r40_21 hy)).trans ((wp_3_3).trans ((wp_70 (mm_q59 hy)).trans (mm_ae ((wp_6 (l2 := [zR (40, 0, 0), vx1, zI x2, zI x3, zI (hi (59, 0, 0) x3)]) rfl).trans ((wp_5_0).trans ((wp_62 (by decide) (mm_o40 hy) (mm_r40_21 hy)).trans ((wp_3_3).trans ((wp_3_2).trans ((wp_74 (mm_q59 hy)).trans (mm_ae ((wp_5_0).trans ((wp_v1 mm_n_208 (mm_leq mm_m_208 (mm_lb rfl)) (mm_lb rfl) (mm_o40 hy)).trans rfl))))))))))))))) ((wp_1).trans (wp_90)))))))))
theorem r_255_4_12 (vx0 : mm_V) (vx1 : mm_V) (vx2 : mm_V) (vx3 : mm_V) (x4 : Int) {hi : mm_Id → Int → Int} {dh : Int → Int} {nx ns : Int} {Q : mm_V → mm_H → Prop} (hy : 10581 ≤ nx) :
    mm_Wp 255 (bk_255_4.drop 12) [vx0, vx1, vx2, vx3, zI x4] [] (mm_z hi dh nx ns) Q =
    Q (zI x4) (mm_z hi dh nx ns) :=
  (wp_3_4).trans (wp_90)
/-- PoolHouseModel.held(IZ)I -/
theorem bq_256_0 : mm_blk 256 0 = bk_256_0 := by decide +kernel
theorem bq_256_1 : mm_blk 256 1 = bk_256_1 := by decide +kernel
theorem bq_256_2 : mm_blk 256 2 = bk_256_2 := by decide +kernel
theorem bq_256_3 : mm_blk 256 3 = bk_256_3 := by decide +kernel
theorem bq_256_4 : mm_blk 256 4 = bk_256_4 := by decide +kernel
theorem bq_256_5 : mm_blk 256 5 = bk_256_5 := by decide +kernel
theorem r_256_e (x1 : Int) (x2 : Int) {hi : mm_Id → Int → Int} {dh : Int → Int} {nx ns : Int} {Q : mm_V → mm_H → Prop} (hy : 10581 ≤ nx) :
    mm_Cl 256 [zR (40, 0, 0), zI x1, zI x2] (mm_z hi dh nx ns) Q =
    (if x1 = 0 then (if x2 = 0 then mm_Cl 199 [zR (40, 0, 0), zI (-1)] (mm_z (mm_up hi (40, 0, 0) 0 0) dh nx ns) (fun r h3 => mm_Wp 256 (bk_256_1.drop 3) [zR (40, 0, 0), zI x1, zI x2, zU, zU] (mm_push r []) h3 Q) else mm_Wp 256 (mm_blk 256 2) [zR (40, 0, 0), zI x1, zI x2, zU, zU] [zI (-2)] (mm_z (mm_up hi (40, 0, 0) 0 0) dh nx ns) Q) else mm_Cl 181 [zR (40, 0, 0), zI x1] (mm_z (mm_up hi (40, 0, 0) 0 0) dh nx ns) (fun r h3 => mm_Wp 256 (bk_256_3.drop 3) [zR (40, 0, 0), zI x1, zI x2, zU, zU] (mm_push r []) h3 Q)) :=
  mm_ce (l2 := [zR (40, 0, 0), zI x1, zI x2, zU, zU]) rfl (mm_kb bq_256_0 ((wp_5_0).trans ((wp_1).trans ((wp_63 (mm_o40 hy)).trans ((wp_3_1).trans ((wp_41).trans (mm_ic ((wp_3_2).trans ((wp_40).trans (mm_ic (mm_kb bq_256_1 ((wp_5_0).trans ((wp_1).trans ((wp_v2 mm_n_199 (mm_leq mm_m_199 (mm_lb rfl)) (mm_lb rfl) (mm_o40 hy)).trans rfl)))) ((wp_1).trans ((wp_56).trans (rfl)))))) (mm_kb bq_256_3 ((wp_5_0).trans ((wp_3_1).trans ((wp_v2 mm_n_181 (mm_leq mm_m_181 (mm_lb rfl)) (mm_lb rfl) (mm_o40 hy)).trans rfl)))))))))))
theorem r_256_3_3 (vx1 : mm_V) (x2 : Int) (vx3 : mm_V) (vx4 : mm_V) (y0 : Int) {hi : mm_Id → Int → Int} {dh : Int → Int} {nx ns : Int} {Q : mm_V → mm_H → Prop} (hy : 10581 ≤ nx) :
    mm_Wp 256 (bk_256_3.drop 3) [zR (40, 0, 0), vx1, zI x2, vx3, vx4] [zI y0] (mm_z hi dh nx ns) Q =
    (if y0 < 0 then Q (zI (-1)) (mm_z hi dh nx ns) else (if x2 = 0 then mm_Cl 200 [zR (40, 0, 0), zI y0] (mm_z hi dh nx ns) (fun r h3 => mm_Wp 256 (bk_256_4.drop 5) [zR (40, 0, 0), vx1, zI x2, zI y0, vx4] (mm_push r []) h3 Q) else mm_Cl 199 [zR (40, 0, 0), zI y0] (mm_z hi dh nx ns) (fun r h3 => mm_Wp 256 (bk_256_5.drop 3) [zR (40, 0, 0), vx1, zI x2, zI y0, vx4] (mm_push r []) h3 Q))) :=
  (wp_6 (l2 := [zR (40, 0, 0), vx1, zI x2, zI y0, vx4]) rfl).trans ((wp_3_3).trans ((wp_43).trans (mm_ic ((wp_1).trans (wp_90)) (mm_kb bq_256_4 ((wp_3_2).trans ((wp_41).trans (mm_ic ((wp_5_0).trans ((wp_3_3).trans ((wp_v2 mm_n_200 (mm_leq mm_m_200 (mm_lb rfl)) (mm_lb rfl) (mm_o40 hy)).trans rfl))) (mm_kb bq_256_5 ((wp_5_0).trans ((wp_3_3).trans ((wp_v2 mm_n_199 (mm_leq mm_m_199 (mm_lb rfl)) (mm_lb rfl) (mm_o40 hy)).trans rfl)))))))))))
theorem r_256_1_3 (vx0 : mm_V) (vx1 : mm_V) (vx2 : mm_V) (vx3 : mm_V) (vx4 : mm_V) (y0 : Int) {hi : mm_Id → Int → Int} {dh : Int → Int} {nx ns : Int} {Q : mm_V → mm_H → Prop} (hy : 10581 ≤ nx) :
    mm_Wp 256 (bk_256_1.drop 3) [vx0, vx1, vx2, vx3, vx4] [zI y0] (mm_z hi dh nx ns) Q =
    mm_Wp 256 (mm_blk 256 2) [vx0, vx1, vx2, vx3, vx4] [zI y0] (mm_z hi dh nx ns) Q :=
  (wp_0).trans (rfl)
theorem r_256_2 (vx0 : mm_V) (vx1 : mm_V) (vx2 : mm_V) (vx3 : mm_V) (vx4 : mm_V) (y0 : Int) {hi : mm_Id → Int → Int} {dh : Int → Int} {nx ns : Int} {Q : mm_V → mm_H → Prop} (hy : 10581 ≤ nx) :
    mm_Wp 256 (mm_blk 256 2) [vx0, vx1, vx2, vx3, vx4] [zI y0] (mm_z hi dh nx ns) Q =
    Q (zI y0) (mm_z hi dh nx ns) :=
  mm_kb bq_256_2 (wp_90)
theorem r_256_5_3 (vx1 : mm_V) (vx2 : mm_V) (x3 : Int) (vx4 : mm_V) (y0 : Int) {hi : mm_Id → Int → Int} {dh : Int → Int} {nx ns : Int} {Q : mm_V → mm_H → Prop} (hy : 10581 ≤ nx) :
    mm_Wp 256 (bk_256_5.drop 3) [zR (40, 0, 0), vx1, vx2, zI x3, vx4] [zI y0] (mm_z hi dh nx ns) Q =
    mm_Cl 197 [zR (40, 0, 0), zI x3] (mm_z hi dh nx ns) (fun r h3 => mm_Wp 256 (bk_256_5.drop 7) [zR (40, 0, 0), vx1, vx2, zI x3, zI y0] (mm_push r []) h3 Q) :=
  (wp_6 (l2 := [zR (40, 0, 0), vx1, vx2, zI x3, zI y0]) rfl).trans ((wp_5_0).trans ((wp_3_3).trans ((wp_v2 mm_n_197 (mm_leq mm_m_197 (mm_lb rfl)) (mm_lb rfl) (mm_o40 hy)).trans rfl)))
theorem r_256_4_5 (vx0 : mm_V) (vx1 : mm_V) (vx2 : mm_V) (vx3 : mm_V) (vx4 : mm_V) (y0 : Int) {hi : mm_Id → Int → Int} {dh : Int → Int} {nx ns : Int} {Q : mm_V → mm_H → Prop} (hy : 10581 ≤ nx) :
    mm_Wp 256 (bk_256_4.drop 5) [vx0, vx1, vx2, vx3, vx4] [zI y0] (mm_z hi dh nx ns) Q =
    Q (zI y0) (mm_z hi dh nx ns) :=
  wp_90
theorem r_256_5_7 (vx0 : mm_V) (vx1 : mm_V) (vx2 : mm_V) (vx3 : mm_V) (vx4 : mm_V) (y0 : Int) {hi : mm_Id → Int → Int} {dh : Int → Int} {nx ns : Int} {Q : mm_V → mm_H → Prop} (hy : 10581 ≤ nx) :
    mm_Wp 256 (bk_256_5.drop 7) [vx0, vx1, vx2, vx3, vx4] [zI y0] (mm_z hi dh nx ns) Q =
    Q (zI y0) (mm_z hi dh nx ns) :=
  wp_90
/-- PoolHouseModel.told(II)I -/
theorem bq_257_0 : mm_blk 257 0 = bk_257_0 := by decide +kernel
theorem bq_257_1 : mm_blk 257 1 = bk_257_1 := by decide +kernel
theorem bq_257_2 : mm_blk 257 2 = bk_257_2 := by decide +kernel
theorem bq_257_3 : mm_blk 257 3 = bk_257_3 := by decide +kernel
theorem bq_257_4 : mm_blk 257 4 = bk_257_4 := by decide +kernel
theorem bq_257_5 : mm_blk 257 5 = bk_257_5 := by decide +kernel
theorem bq_257_6 : mm_blk 257 6 = bk_257_6 := by decide +kernel
theorem bq_257_7 : mm_blk 257 7 = bk_257_7 := by decide +kernel
theorem bq_257_8 : mm_blk 257 8 = bk_257_8 := by decide +kernel
theorem bq_257_9 : mm_blk 257 9 = bk_257_9 := by decide +kernel
theorem bq_257_10 : mm_blk 257 10 = bk_257_10 := by decide +kernel
theorem bq_257_11 : mm_blk 257 11 = bk_257_11 := by decide +kernel
theorem bq_257_12 : mm_blk 257 12 = bk_257_12 := by decide +kernel
theorem bq_257_13 : mm_blk 257 13 = bk_257_13 := by decide +kernel
theorem bq_257_14 : mm_blk 257 14 = bk_257_14 := by decide +kernel
theorem bq_257_15 : mm_blk 257 15 = bk_257_15 := by decide +kernel
theorem bq_257_16 : mm_blk 257 16 = bk_257_16 := by decide +kernel
theorem bq_257_17 : mm_blk 257 17 = bk_257_17 := by decide +kernel
theorem r_257_e (x1 : Int) (x2 : Int) {hi : mm_Id → Int → Int} {dh : Int → Int} {nx ns : Int} {Q : mm_V → mm_H → Prop} (hy : 10581 ≤ nx) :
    mm_Cl 257 [zR (40, 0, 0), zI x1, zI x2] (mm_z hi dh nx ns) Q =
    mm_Cl 181 [zR (40, 0, 0), zI x1] (mm_z (mm_up hi (40, 0, 0) 0 0) dh nx ns) (fun r h3 => mm_Wp 257 (bk_257_0.drop 6) [zR (40, 0, 0), zI x1, zI x2, zU, zU, zU] (mm_push r []) h3 Q) :=
  mm_ce (l2 := [zR (40, 0, 0), zI x1, zI x2, zU, zU, zU]) rfl (mm_kb bq_257_0 ((wp_5_0).trans ((wp_1).trans ((wp_63 (mm_o40 hy)).trans ((wp_5_0).trans ((wp_3_1).trans ((wp_v2 mm_n_181 (mm_leq mm_m_181 (mm_lb rfl)) (mm_lb rfl) (mm_o40 hy)).trans rfl)))))))
theorem r_257_0_6 (x1 : Int) (x2 : Int) (vx3 : mm_V) (vx4 : mm_V) (vx5 : mm_V) (y0 : Int) {hi : mm_Id → Int → Int} {dh : Int → Int} {nx ns : Int} {Q : mm_V → mm_H → Prop} (hy : 10581 ≤ nx) :
    mm_Wp 257 (bk_257_0.drop 6) [zR (40, 0, 0), zI x1, zI x2, vx3, vx4, vx5] [zI y0] (mm_z hi dh nx ns) Q =
    (if y0 < 0 then Q (zI (-1)) (mm_z hi dh nx ns) else mm_Wp 257 (mm_blk 257 (mm_sw 4 x2)) [zR (40, 0, 0), zI x1, zI x2, zI y0, zI 0, vx5] [] (mm_z hi dh nx ns) Q) :=
  (wp_6 (l2 := [zR (40, 0, 0), zI x1, zI x2, zI y0, vx4, vx5]) rfl).trans ((wp_3_3).trans ((wp_43).trans (mm_ic ((wp_1).trans (wp_90)) (mm_kb bq_257_1 ((wp_1).trans ((wp_6 (l2 := [zR (40, 0, 0), zI x1, zI x2, zI y0, zI 0, vx5]) rfl).trans ((wp_3_2).trans (wp_57 rfl))))))))
theorem r_257_2 (vx1 : mm_V) (vx2 : mm_V) (x3 : Int) (vx4 : mm_V) (vx5 : mm_V) {hi : mm_Id → Int → Int} {dh : Int → Int} {nx ns : Int} {Q : mm_V → mm_H → Prop} (hy : 10581 ≤ nx) :
    mm_Wp 257 (mm_blk 257 2) [zR (40, 0, 0), vx1, vx2, zI x3, vx4, vx5] [] (mm_z hi dh nx ns) Q =
    ((0 ≤ x3 ∧ x3 < 26) ∧ Q (zI (hi (58, 0, 0) x3)) (mm_z hi dh nx ns)) :=
  mm_kb bq_257_2 ((wp_5_0).trans ((wp_62 (by decide) (mm_o40 hy) (mm_r40_20 hy)).trans ((wp_3_3).trans ((wp_70 (mm_q58 hy)).trans (mm_ae (wp_90))))))
theorem r_257_3 (x1 : Int) (vx2 : mm_V) (x3 : Int) (x4 : Int) (vx5 : mm_V) {hi : mm_Id → Int → Int} {dh : Int → Int} {nx ns : Int} {Q : mm_V → mm_H → Prop} (hy : 10581 ≤ nx) :
    mm_Wp 257 (mm_blk 257 3) [zR (40, 0, 0), zI x1, vx2, zI x3, zI x4, vx5] [] (mm_z hi dh nx ns) Q =
    mm_Wp 257 (mm_blk 257 4) [zR (40, 0, 0), zI x1, vx2, zI x3, zI x4, zI 5] [] (mm_z hi dh nx ns) Q :=
  mm_kb bq_257_3 ((wp_1).trans ((wp_6 (l2 := [zR (40, 0, 0), zI x1, vx2, zI x3, zI x4, zI 5]) rfl).trans ((wp_0).trans (rfl))))
theorem r_257_8 (vx1 : mm_V) (vx2 : mm_V) (x3 : Int) (vx4 : mm_V) (vx5 : mm_V) {hi : mm_Id → Int → Int} {dh : Int → Int} {nx ns : Int} {Q : mm_V → mm_H → Prop} (hy : 10581 ≤ nx) :
    mm_Wp 257 (mm_blk 257 8) [zR (40, 0, 0), vx1, vx2, zI x3, vx4, vx5] [] (mm_z hi dh nx ns) Q =
    (if x3 < 5 then ((0 ≤ x3 ∧ x3 < 26) ∧ mm_Wp 257 (mm_blk 257 11) [zR (40, 0, 0), vx1, vx2, zI x3, vx4, vx5] [zI (hi (59, 0, 0) x3)] (mm_z hi dh nx ns) Q) else ((0 ≤ x3 ∧ x3 < 26) ∧ (if (hi (60, 0, 0) x3) = 0 then mm_Wp 257 (mm_blk 257 11) [zR (40, 0, 0), vx1, vx2, zI x3, vx4, vx5] [zI 0] (mm_z hi dh nx ns) Q else mm_Wp 257 (mm_blk 257 11) [zR (40, 0, 0), vx1, vx2, zI x3, vx4, vx5] [zI 1] (mm_z hi dh nx ns) Q))) :=
  mm_kb bq_257_8 ((wp_3_3).trans ((wp_1).trans ((wp_49).trans (mm_ic ((wp_5_0).trans ((wp_62 (by decide) (mm_o40 hy) (mm_r40_21 hy)).trans ((wp_3_3).trans ((wp_70 (mm_q59 hy)).trans (mm_ae ((wp_56).trans (rfl))))))) (mm_kb bq_257_9 ((wp_5_0).trans ((wp_62 (by decide) (mm_o40 hy) (mm_r40_22 hy)).trans ((wp_3_3).trans ((wp_71z (mm_q60 hy)).trans (mm_ae ((wp_40).trans (mm_ic (mm_kb bq_257_10 ((wp_1).trans ((wp_0).trans (rfl)))) ((wp_1).trans ((wp_56).trans (rfl)))))))))))))))
theorem r_257_12 (vx1 : mm_V) (vx2 : mm_V) (x3 : Int) (x4 : Int) (vx5 : mm_V) {hi : mm_Id → Int → Int} {dh : Int → Int} {nx ns : Int} {Q : mm_V → mm_H → Prop} (hy : 10581 ≤ nx) :
    mm_Wp 257 (mm_blk 257 12) [zR (40, 0, 0), vx1, vx2, zI x3, zI x4, vx5] [] (mm_z hi dh nx ns) Q =
    mm_Cl 175 [zI x3, zI 1] (mm_z hi dh nx ns) (fun r h3 => mm_Wp 257 (bk_257_12.drop 3) [zR (40, 0, 0), vx1, vx2, zI x3, zI x4, vx5] (mm_push r []) h3 Q) :=
  mm_kb bq_257_12 ((wp_3_3).trans ((wp_1).trans ((wp_s2 mm_n_175 (mm_leq mm_m_175 (mm_lb rfl)) (mm_lb rfl)).trans rfl)))
theorem r_257_17 (vx0 : mm_V) (vx1 : mm_V) (vx2 : mm_V) (vx3 : mm_V) (vx4 : mm_V) (vx5 : mm_V) {hi : mm_Id → Int → Int} {dh : Int → Int} {nx ns : Int} {Q : mm_V → mm_H → Prop} (hy : 10581 ≤ nx) :
    mm_Wp 257 (mm_blk 257 17) [vx0, vx1, vx2, vx3, vx4, vx5] [] (mm_z hi dh nx ns) Q =
    Q (zI (-2)) (mm_z hi dh nx ns) :=
  mm_kb bq_257_17 ((wp_1).trans (wp_90))
theorem r_257_4 (x1 : Int) (vx2 : mm_V) (x3 : Int) (x4 : Int) (x5 : Int) {hi : mm_Id → Int → Int} {dh : Int → Int} {nx ns : Int} {Q : mm_V → mm_H → Prop} (hy : 10581 ≤ nx) :
    mm_Wp 257 (mm_blk 257 4) [zR (40, 0, 0), zI x1, vx2, zI x3, zI x4, zI x5] [] (mm_z hi dh nx ns) Q =
    (if x5 < 13 then (if x3 < 5 then ((0 ≤ x5 ∧ x5 < 26) ∧ (if 0 < (hi (57, 0, 0) x5) then ((0 ≤ x5 ∧ x5 < 26) ∧ (if (hi (58, 0, 0) x5) = x1 then mm_Wp 257 (mm_blk 257 6) [zR (40, 0, 0), zI x1, vx2, zI x3, zI x4, zI x5] [zI 1, zI x4] (mm_z hi dh nx ns) Q else mm_Wp 257 (mm_blk 257 5) [zR (40, 0, 0), zI x1, vx2, zI x3, zI x4, zI x5] [zI x4] (mm_z hi dh nx ns) Q)) else mm_Wp 257 (mm_blk 257 5) [zR (40, 0, 0), zI x1, vx2, zI x3, zI x4, zI x5] [zI x4] (mm_z hi dh nx ns) Q)) else mm_Wp 257 (mm_blk 257 5) [zR (40, 0, 0), zI x1, vx2, zI x3, zI x4, zI x5] [zI x4] (mm_z hi dh nx ns) Q) else Q (zI x4) (mm_z hi dh nx ns)) :=
  mm_kb bq_257_4 ((wp_3_5).trans ((wp_1).trans ((wp_49).trans (mm_ic ((wp_3_4).trans ((wp_3_3).trans ((wp_1).trans ((wp_49).trans (mm_ic ((wp_5_0).trans ((wp_62 (by decide) (mm_o40 hy) (mm_r40_19 hy)).trans ((wp_3_5).trans ((wp_70 (mm_q57 hy)).trans (mm_ae ((wp_45).trans (mm_ic ((wp_5_0).trans ((wp_62 (by decide) (mm_o40 hy) (mm_r40_20 hy)).trans ((wp_3_5).trans ((wp_70 (mm_q58 hy)).trans (mm_ae ((wp_3_1).trans ((wp_47).trans (mm_ic ((wp_1).trans ((wp_56).trans (rfl))) (rfl))))))))) (rfl)))))))) (rfl)))))) (mm_kb bq_257_7 ((wp_3_4).trans (wp_90)))))))
theorem r_257_11 (vx0 : mm_V) (vx1 : mm_V) (vx2 : mm_V) (vx3 : mm_V) (vx4 : mm_V) (vx5 : mm_V) (y0 : Int) {hi : mm_Id → Int → Int} {dh : Int → Int} {nx ns : Int} {Q : mm_V → mm_H → Prop} (hy : 10581 ≤ nx) :
    mm_Wp 257 (mm_blk 257 11) [vx0, vx1, vx2, vx3, vx4, vx5] [zI y0] (mm_z hi dh nx ns) Q =
    Q (zI y0) (mm_z hi dh nx ns) :=
  mm_kb bq_257_11 (wp_90)
theorem r_257_12_3 (vx1 : mm_V) (vx2 : mm_V) (x3 : Int) (x4 : Int) (vx5 : mm_V) (y0 : Int) {hi : mm_Id → Int → Int} {dh : Int → Int} {nx ns : Int} {Q : mm_V → mm_H → Prop} (hy : 10581 ≤ nx) :
    mm_Wp 257 (bk_257_12.drop 3) [zR (40, 0, 0), vx1, vx2, zI x3, zI x4, vx5] [zI y0] (mm_z hi dh nx ns) Q =
    mm_Wp 257 (mm_blk 257 13) [zR (40, 0, 0), vx1, vx2, zI x3, zI x4, zI y0] [] (mm_z hi dh nx ns) Q :=
  (wp_6 (l2 := [zR (40, 0, 0), vx1, vx2, zI x3, zI x4, zI y0]) rfl).trans ((wp_0).trans (rfl))
theorem r_257_5 (x1 : Int) (vx2 : mm_V) (x3 : Int) (vx4 : mm_V) (x5 : Int) (y0 : Int) {hi : mm_Id → Int → Int} {dh : Int → Int} {nx ns : Int} {Q : mm_V → mm_H → Prop} (hy : 10581 ≤ nx) :
    mm_Wp 257 (mm_blk 257 5) [zR (40, 0, 0), zI x1, vx2, zI x3, vx4, zI x5] [zI y0] (mm_z hi dh nx ns) Q =
    mm_Wp 257 (mm_blk 257 6) [zR (40, 0, 0), zI x1, vx2, zI x3, vx4, zI x5] [zI 0, zI y0] (mm_z hi dh nx ns) Q :=
  mm_kb bq_257_5 ((wp_1).trans ((wp_0).trans (rfl)))
theorem r_257_6 (x1 : Int) (vx2 : mm_V) (x3 : Int) (vx4 : mm_V) (x5 : Int) (y0 : Int) (y1 : Int) {hi : mm_Id → Int → Int} {dh : Int → Int} {nx ns : Int} {Q : mm_V → mm_H → Prop} (hy : 10581 ≤ nx) :
    mm_Wp 257 (mm_blk 257 6) [zR (40, 0, 0), zI x1, vx2, zI x3, vx4, zI x5] [zI y0, zI y1] (mm_z hi dh nx ns) Q =
    mm_Wp 257 (mm_blk 257 4) [zR (40, 0, 0), zI x1, vx2, zI x3, zI (mm_w (y1 + y0)), zI (mm_w (x5 + 1))] [] (mm_z hi dh nx ns) Q :=
  mm_kb bq_257_6 ((wp_10).trans ((wp_6 (l2 := [zR (40, 0, 0), zI x1, vx2, zI x3, zI (mm_w (y1 + y0)), zI x5]) rfl).trans ((wp_9 (l2 := [zR (40, 0, 0), zI x1, vx2, zI x3, zI (mm_w (y1 + y0)), zI (mm_w (x5 + 1))]) rfl rfl).trans ((wp_56).trans (rfl)))))
theorem r_257_13 (vx1 : mm_V) (vx2 : mm_V) (x3 : Int) (x4 : Int) (x5 : Int) {hi : mm_Id → Int → Int} {dh : Int → Int} {nx ns : Int} {Q : mm_V → mm_H → Prop} (hy : 10581 ≤ nx) :
    mm_Wp 257 (mm_blk 257 13) [zR (40, 0, 0), vx1, vx2, zI x3, zI x4, zI x5] [] (mm_z hi dh nx ns) Q =
    mm_Cl 175 [zI x3, zI 36] (mm_z hi dh nx ns) (fun r h3 => mm_Wp 257 (bk_257_13.drop 4) [zR (40, 0, 0), vx1, vx2, zI x3, zI x4, zI x5] (mm_push r [zI x5]) h3 Q) :=
  mm_kb bq_257_13 ((wp_3_5).trans ((wp_3_3).trans ((wp_1).trans ((wp_s2 mm_n_175 (mm_leq mm_m_175 (mm_lb rfl)) (mm_lb rfl)).trans rfl))))
theorem r_257_13_4 (vx1 : mm_V) (vx2 : mm_V) (x3 : Int) (x4 : Int) (x5 : Int) (y0 : Int) (y1 : Int) {hi : mm_Id → Int → Int} {dh : Int → Int} {nx ns : Int} {Q : mm_V → mm_H → Prop} (hy : 10581 ≤ nx) :
    mm_Wp 257 (bk_257_13.drop 4) [zR (40, 0, 0), vx1, vx2, zI x3, zI x4, zI x5] [zI y0, zI y1] (mm_z hi dh nx ns) Q =
    (if y0 < y1 then Q (zI x4) (mm_z hi dh nx ns) else ((0 ≤ x5 ∧ x5 < 1044) ∧ (if 0 < (hi (41, 0, 0) x5) then mm_Wp 257 (mm_blk 257 15) [zR (40, 0, 0), vx1, vx2, zI x3, zI x4, zI x5] [zI 1, zI x4] (mm_z hi dh nx ns) Q else mm_Wp 257 (mm_blk 257 15) [zR (40, 0, 0), vx1, vx2, zI x3, zI x4, zI x5] [zI 0, zI x4] (mm_z hi dh nx ns) Q))) :=
  (wp_50).trans (mm_ic (mm_kb bq_257_16 ((wp_3_4).trans (wp_90))) ((wp_3_4).trans ((wp_5_0).trans ((wp_62 (by decide) (mm_o40 hy) (mm_r40_2 hy)).trans ((wp_3_5).trans ((wp_70 (mm_q41 hy)).trans (mm_ae ((wp_45).trans (mm_ic ((wp_1).trans ((wp_56).trans (rfl))) (mm_kb bq_257_14 ((wp_1).trans ((wp_0).trans (rfl)))))))))))))
theorem r_257_15 (vx1 : mm_V) (vx2 : mm_V) (x3 : Int) (vx4 : mm_V) (x5 : Int) (y0 : Int) (y1 : Int) {hi : mm_Id → Int → Int} {dh : Int → Int} {nx ns : Int} {Q : mm_V → mm_H → Prop} (hy : 10581 ≤ nx) :
    mm_Wp 257 (mm_blk 257 15) [zR (40, 0, 0), vx1, vx2, zI x3, vx4, zI x5] [zI y0, zI y1] (mm_z hi dh nx ns) Q =
    mm_Wp 257 (mm_blk 257 13) [zR (40, 0, 0), vx1, vx2, zI x3, zI (mm_w (y1 + y0)), zI (mm_w (x5 + 1))] [] (mm_z hi dh nx ns) Q :=
  mm_kb bq_257_15 ((wp_10).trans ((wp_6 (l2 := [zR (40, 0, 0), vx1, vx2, zI x3, zI (mm_w (y1 + y0)), zI x5]) rfl).trans ((wp_9 (l2 := [zR (40, 0, 0), vx1, vx2, zI x3, zI (mm_w (y1 + y0)), zI (mm_w (x5 + 1))]) rfl rfl).trans ((wp_56).trans (rfl)))))
/-- PoolHouseModel.isAlike(III)Z -/
theorem bq_258_0 : mm_blk 258 0 = bk_258_0 := by decide +kernel
theorem bq_258_1 : mm_blk 258 1 = bk_258_1 := by decide +kernel
theorem bq_258_2 : mm_blk 258 2 = bk_258_2 := by decide +kernel
theorem bq_258_3 : mm_blk 258 3 = bk_258_3 := by decide +kernel
theorem bq_258_4 : mm_blk 258 4 = bk_258_4 := by decide +kernel
theorem bq_258_5 : mm_blk 258 5 = bk_258_5 := by decide +kernel
theorem bq_258_6 : mm_blk 258 6 = bk_258_6 := by decide +kernel
theorem bq_258_7 : mm_blk 258 7 = bk_258_7 := by decide +kernel
theorem bq_258_8 : mm_blk 258 8 = bk_258_8 := by decide +kernel
theorem bq_258_9 : mm_blk 258 9 = bk_258_9 := by decide +kernel
theorem bq_258_10 : mm_blk 258 10 = bk_258_10 := by decide +kernel
theorem bq_258_11 : mm_blk 258 11 = bk_258_11 := by decide +kernel
theorem bq_258_12 : mm_blk 258 12 = bk_258_12 := by decide +kernel
theorem bq_258_13 : mm_blk 258 13 = bk_258_13 := by decide +kernel
theorem bq_258_14 : mm_blk 258 14 = bk_258_14 := by decide +kernel
theorem bq_258_15 : mm_blk 258 15 = bk_258_15 := by decide +kernel
theorem bq_258_16 : mm_blk 258 16 = bk_258_16 := by decide +kernel
theorem bq_258_17 : mm_blk 258 17 = bk_258_17 := by decide +kernel
theorem bq_258_18 : mm_blk 258 18 = bk_258_18 := by decide +kernel
theorem bq_258_19 : mm_blk 258 19 = bk_258_19 := by decide +kernel
theorem bq_258_20 : mm_blk 258 20 = bk_258_20 := by decide +kernel
theorem bq_258_21 : mm_blk 258 21 = bk_258_21 := by decide +kernel
theorem bq_258_22 : mm_blk 258 22 = bk_258_22 := by decide +kernel
theorem bq_258_23 : mm_blk 258 23 = bk_258_23 := by decide +kernel
theorem bq_258_24 : mm_blk 258 24 = bk_258_24 := by decide +kernel
theorem bq_258_25 : mm_blk 258 25 = bk_258_25 := by decide +kernel
theorem bq_258_26 : mm_blk 258 26 = bk_258_26 := by decide +kernel
theorem bq_258_27 : mm_blk 258 27 = bk_258_27 := by decide +kernel
theorem bq_258_28 : mm_blk 258 28 = bk_258_28 := by decide +kernel
theorem bq_258_29 : mm_blk 258 29 = bk_258_29 := by decide +kernel
theorem bq_258_30 : mm_blk 258 30 = bk_258_30 := by decide +kernel
theorem bq_258_31 : mm_blk 258 31 = bk_258_31 := by decide +kernel
theorem r_258_e (x1 : Int) (x2 : Int) (x3 : Int) {hi : mm_Id → Int → Int} {dh : Int → Int} {nx ns : Int} {Q : mm_V → mm_H → Prop} (hy : 10581 ≤ nx) :
    mm_Cl 258 [zR (40, 0, 0), zI x1, zI x2, zI x3] (mm_z hi dh nx ns) Q =
    mm_Cl 175 [zI x1, zI x3] (mm_z hi dh nx ns) (fun r h3 => mm_Wp 258 (bk_258_0.drop 3) [zR (40, 0, 0), zI x1, zI x2, zI x3, zU, zU, zU, zU] (mm_push r []) h3 Q) :=
  mm_ce (l2 := [zR (40, 0, 0), zI x1, zI x2, zI x3, zU, zU, zU, zU]) rfl (mm_kb bq_258_0 ((wp_3_1).trans ((wp_3_3).trans ((wp_s2 mm_n_175 (mm_leq mm_m_175 (mm_lb rfl)) (mm_lb rfl)).trans rfl))))
theorem r_258_0_3 (x1 : Int) (x2 : Int) (x3 : Int) (vx4 : mm_V) (vx5 : mm_V) (vx6 : mm_V) (vx7 : mm_V) (y0 : Int) {hi : mm_Id → Int → Int} {dh : Int → Int} {nx ns : Int} {Q : mm_V → mm_H → Prop} (hy : 10581 ≤ nx) :
    mm_Wp 258 (bk_258_0.drop 3) [zR (40, 0, 0), zI x1, zI x2, zI x3, vx4, vx5, vx6, vx7] [zI y0] (mm_z hi dh nx ns) Q =
    mm_Cl 175 [zI x2, zI x3] (mm_z hi dh nx ns) (fun r h3 => mm_Wp 258 (bk_258_0.drop 7) [zR (40, 0, 0), zI x1, zI x2, zI x3, zI y0, vx5, vx6, vx7] (mm_push r []) h3 Q) :=
  (wp_6 (l2 := [zR (40, 0, 0), zI x1, zI x2, zI x3, zI y0, vx5, vx6, vx7]) rfl).trans ((wp_3_2).trans ((wp_3_3).trans ((wp_s2 mm_n_175 (mm_leq mm_m_175 (mm_lb rfl)) (mm_lb rfl)).trans rfl)))
theorem r_258_0_7 (x1 : Int) (x2 : Int) (x3 : Int) (x4 : Int) (vx5 : mm_V) (vx6 : mm_V) (vx7 : mm_V) (y0 : Int) {hi : mm_Id → Int → Int} {dh : Int → Int} {nx ns : Int} {Q : mm_V → mm_H → Prop} (hy : 10581 ≤ nx) :
    mm_Wp 258 (bk_258_0.drop 7) [zR (40, 0, 0), zI x1, zI x2, zI x3, zI x4, vx5, vx6, vx7] [zI y0] (mm_z hi dh nx ns) Q =
    ((0 ≤ x4 ∧ x4 < 1044) ∧ ((0 ≤ y0 ∧ y0 < 1044) ∧ (if (hi (41, 0, 0) x4) = (hi (41, 0, 0) y0) then mm_Wp 258 (mm_blk 258 2) [zR (40, 0, 0), zI x1, zI x2, zI x3, zI x4, zI y0, vx6, vx7] [zI 1] (mm_z hi dh nx ns) Q else mm_Wp 258 (mm_blk 258 2) [zR (40, 0, 0), zI x1, zI x2, zI x3, zI x4, zI y0, vx6, vx7] [zI 0] (mm_z hi dh nx ns) Q))) :=
  (wp_6 (l2 := [zR (40, 0, 0), zI x1, zI x2, zI x3, zI x4, zI y0, vx6, vx7]) rfl).trans ((wp_5_0).trans ((wp_62 (by decide) (mm_o40 hy) (mm_r40_2 hy)).trans ((wp_3_4).trans ((wp_70 (mm_q41 hy)).trans (mm_ae ((wp_5_0).trans ((wp_62 (by decide) (mm_o40 hy) (mm_r40_2 hy)).trans ((wp_3_5).trans ((wp_70 (mm_q41 hy)).trans (mm_ae ((wp_47).trans (mm_ic ((wp_1).trans ((wp_56).trans (rfl))) (mm_kb bq_258_1 ((wp_1).trans ((wp_0).trans (rfl))))))))))))))))
theorem r_258_2 (x1 : Int) (x2 : Int) (x3 : Int) (x4 : Int) (x5 : Int) (vx6 : mm_V) (vx7 : mm_V) (y0 : Int) {hi : mm_Id → Int → Int} {dh : Int → Int} {nx ns : Int} {Q : mm_V → mm_H → Prop} (hy : 10581 ≤ nx) :
    mm_Wp 258 (mm_blk 258 2) [zR (40, 0, 0), zI x1, zI x2, zI x3, zI x4, zI x5, vx6, vx7] [zI y0] (mm_z hi dh nx ns) Q =
    (if y0 = 0 then mm_Wp 258 (mm_blk 258 3) [zR (40, 0, 0), zI x1, zI x2, zI x3, zI x4, zI x5, zI y0, vx7] [] (mm_z hi dh nx ns) Q else ((0 ≤ x4 ∧ x4 < 1044) ∧ (if (hi (41, 0, 0) x4) = 0 then mm_Wp 258 (mm_blk 258 3) [zR (40, 0, 0), zI x1, zI x2, zI x3, zI x4, zI x5, zI y0, vx7] [] (mm_z hi dh nx ns) Q else ((0 ≤ x4 ∧ x4 < 1044) ∧ ((0 ≤ x5 ∧ x5 < 1044) ∧ (if (hi (47, 0, 0) x4) = (hi (47, 0, 0) x5) then ((0 ≤ x4 ∧ x4 < 1044) ∧ ((0 ≤ x5 ∧ x5 < 1044) ∧ (if (hi (48, 0, 0) x4) = (hi (48, 0, 0) x5) then ((0 ≤ x4 ∧ x4 < 1044) ∧ ((0 ≤ x5 ∧ x5 < 1044) ∧ (if (hi (49, 0, 0) x4) = (hi (49, 0, 0) x5) then mm_Wp 258 (mm_blk 258 6) [zR (40, 0, 0), zI x1, zI x2, zI x3, zI x4, zI x5, zI y0, vx7] [zI 1] (mm_z hi dh nx ns) Q else mm_Wp 258 (mm_blk 258 5) [zR (40, 0, 0), zI x1, zI x2, zI x3, zI x4, zI x5, zI y0, vx7] [] (mm_z hi dh nx ns) Q))) else mm_Wp 258 (mm_blk 258 5) [zR (40, 0, 0), zI x1, zI x2, zI x3, zI x4, zI x5, zI y0, vx7] [] (mm_z hi dh nx ns) Q))) else mm_Wp 258 (mm_blk 258 5) [zR (40, 0, 0), zI x1, zI x2, zI x3, zI x4, zI x5, zI y0, vx7] [] (mm_z hi dh nx ns) Q)))))) :=
  mm_kb bq_258_2 ((wp_6 (l2 := [zR (40, 0, 0), zI x1, zI x2, zI x3, zI x4, zI x5, zI y0, vx7]) rfl).trans ((wp_3_6).trans ((wp_40).trans (mm_ic (rfl) ((wp_5_0).trans ((wp_62 (by decide) (mm_o40 hy) (mm_r40_2 hy)).trans ((wp_3_4).trans ((wp_70 (mm_q41 hy)).trans (mm_ae ((wp_41).trans (mm_ic ((wp_0).trans (rfl)) (mm_kb bq_258_4 ((wp_5_0).trans ((wp_62 (by decide) (mm_o40 hy) (mm_r40_8 hy)).trans ((wp_3_4).trans ((wp_70 (mm_q47 hy)).trans (mm_ae ((wp_5_0).trans ((wp_62 (by decide) (mm_o40 hy) (mm_r40_8 hy)).trans ((wp_3_5).trans ((wp_70 (mm_q47 hy)).trans (mm_ae ((wp_47).trans (mm_ic ((wp_5_0).trans ((wp_62 (by decide) (mm_o40 hy) (mm_r40_9 hy)).trans ((wp_3_4).trans ((wp_70 (mm_q48 hy)).trans (mm_ae ((wp_5_0).trans ((wp_62 (by decide) (mm_o40 hy) (mm_r40_9 hy)).trans ((wp_3_5).trans ((wp_70 (mm_q48 hy)).trans (mm_ae ((wp_47).trans (mm_ic ((wp_5_0).trans ((wp_62 (by decide) (mm_o40 hy) (mm_r40_10 hy)).trans ((wp_3_4).trans ((wp_70 (mm_q49 hy)).trans (mm_ae ((wp_5_0).trans ((wp_62 (by decide) (mm_o40 hy) (mm_r40_10 hy)).trans ((wp_3_5).trans ((wp_70 (mm_q49 hy)).trans (mm_ae ((wp_47).trans (mm_ic ((wp_1).trans ((wp_56).trans (rfl))) (rfl))))))))))))) (rfl))))))))))))) (rfl)))))))))))))))))))))))))
theorem r_258_3 (vx0 : mm_V) (vx1 : mm_V) (vx2 : mm_V) (vx3 : mm_V) (vx4 : mm_V) (vx5 : mm_V) (x6 : Int) (vx7 : mm_V) {hi : mm_Id → Int → Int} {dh : Int → Int} {nx ns : Int} {Q : mm_V → mm_H → Prop} (hy : 10581 ≤ nx) :
    mm_Wp 258 (mm_blk 258 3) [vx0, vx1, vx2, vx3, vx4, vx5, zI x6, vx7] [] (mm_z hi dh nx ns) Q =
    ((x6 = 0 ∨ x6 = 1) ∧ Q (zI x6) (mm_z hi dh nx ns)) :=
  mm_kb bq_258_3 ((wp_3_6).trans (wp_94z))
theorem r_258_5 (x1 : Int) (x2 : Int) (x3 : Int) (x4 : Int) (x5 : Int) (vx6 : mm_V) (vx7 : mm_V) {hi : mm_Id → Int → Int} {dh : Int → Int} {nx ns : Int} {Q : mm_V → mm_H → Prop} (hy : 10581 ≤ nx) :
    mm_Wp 258 (mm_blk 258 5) [zR (40, 0, 0), zI x1, zI x2, zI x3, zI x4, zI x5, vx6, vx7] [] (mm_z hi dh nx ns) Q =
    mm_Wp 258 (mm_blk 258 6) [zR (40, 0, 0), zI x1, zI x2, zI x3, zI x4, zI x5, vx6, vx7] [zI 0] (mm_z hi dh nx ns) Q :=
  mm_kb bq_258_5 ((wp_1).trans ((wp_0).trans (rfl)))
theorem r_258_6 (x1 : Int) (x2 : Int) (x3 : Int) (x4 : Int) (x5 : Int) (vx6 : mm_V) (vx7 : mm_V) (y0 : Int) {hi : mm_Id → Int → Int} {dh : Int → Int} {nx ns : Int} {Q : mm_V → mm_H → Prop} (hy : 10581 ≤ nx) :
    mm_Wp 258 (mm_blk 258 6) [zR (40, 0, 0), zI x1, zI x2, zI x3, zI x4, zI x5, vx6, vx7] [zI y0] (mm_z hi dh nx ns) Q =
    mm_Wp 258 (mm_blk 258 7) [zR (40, 0, 0), zI x1, zI x2, zI x3, zI x4, zI x5, zI y0, zI 0] [] (mm_z hi dh nx ns) Q :=
  mm_kb bq_258_6 ((wp_6 (l2 := [zR (40, 0, 0), zI x1, zI x2, zI x3, zI x4, zI x5, zI y0, vx7]) rfl).trans ((wp_1).trans ((wp_6 (l2 := [zR (40, 0, 0), zI x1, zI x2, zI x3, zI x4, zI x5, zI y0, zI 0]) rfl).trans ((wp_0).trans (rfl)))))
theorem r_258_7 (x1 : Int) (x2 : Int) (x3 : Int) (x4 : Int) (x5 : Int) (x6 : Int) (x7 : Int) {hi : mm_Id → Int → Int} {dh : Int → Int} {nx ns : Int} {Q : mm_V → mm_H → Prop} (hy : 10581 ≤ nx) :
    mm_Wp 258 (mm_blk 258 7) [zR (40, 0, 0), zI x1, zI x2, zI x3, zI x4, zI x5, zI x6, zI x7] [] (mm_z hi dh nx ns) Q =
    ((0 ≤ x4 ∧ x4 < 1044) ∧ (if x7 < (hi (49, 0, 0) x4) then (if x6 = 0 then mm_Wp 258 (mm_blk 258 10) [zR (40, 0, 0), zI x1, zI x2, zI x3, zI x4, zI x5, zI x6, zI x7] [] (mm_z hi dh nx ns) Q else ((0 ≤ (mm_w ((mm_w (4 * x4)) + x7)) ∧ (mm_w ((mm_w (4 * x4)) + x7)) < 4176) ∧ ((0 ≤ (mm_w ((mm_w (4 * x5)) + x7)) ∧ (mm_w ((mm_w (4 * x5)) + x7)) < 4176) ∧ (if (hi (50, 0, 0) (mm_w ((mm_w (4 * x4)) + x7))) = (hi (50, 0, 0) (mm_w ((mm_w (4 * x5)) + x7))) then ((0 ≤ (mm_w ((mm_w (4 * x4)) + x7)) ∧ (mm_w ((mm_w (4 * x4)) + x7)) < 4176) ∧ ((0 ≤ (mm_w ((mm_w (4 * x5)) + x7)) ∧ (mm_w ((mm_w (4 * x5)) + x7)) < 4176) ∧ (if (mm_cmp (hi (51, 0, 0) (mm_w ((mm_w (4 * x4)) + x7))) (hi (51, 0, 0) (mm_w ((mm_w (4 * x5)) + x7)))) = 0 then mm_Wp 258 (mm_blk 258 9) [zR (40, 0, 0), zI x1, zI x2, zI x3, zI x4, zI x5, zI x6, zI x7] [zI 1] (mm_z hi dh nx ns) Q else mm_Wp 258 (mm_blk 258 8) [zR (40, 0, 0), zI x1, zI x2, zI x3, zI x4, zI x5, zI x6, zI x7] [] (mm_z hi dh nx ns) Q))) else mm_Wp 258 (mm_blk 258 8) [zR (40, 0, 0), zI x1, zI x2, zI x3, zI x4, zI x5, zI x6, zI x7] [] (mm_z hi dh nx ns) Q)))) else mm_Wp 258 (mm_blk 258 10) [zR (40, 0, 0), zI x1, zI x2, zI x3, zI x4, zI x5, zI x6, zI x7] [] (mm_z hi dh nx ns) Q)) :=
  mm_kb bq_258_7 ((wp_3_7).trans ((wp_5_0).trans ((wp_62 (by decide) (mm_o40 hy) (mm_r40_10 hy)).trans ((wp_3_4).trans ((wp_70 (mm_q49 hy)).trans (mm_ae ((wp_49).trans (mm_ic ((wp_3_6).trans ((wp_40).trans (mm_ic (rfl) ((wp_5_0).trans ((wp_62 (by decide) (mm_o40 hy) (mm_r40_11 hy)).trans ((wp_1).trans ((wp_3_4).trans ((wp_12).trans ((wp_3_7).trans ((wp_10).trans ((wp_70 (mm_q50 hy)).trans (mm_ae ((wp_5_0).trans ((wp_62 (by decide) (mm_o40 hy) (mm_r40_11 hy)).trans ((wp_1).trans ((wp_3_5).trans ((wp_12).trans ((wp_3_7).trans ((wp_10).trans ((wp_70 (mm_q50 hy)).trans (mm_ae ((wp_47).trans (mm_ic ((wp_5_0).trans ((wp_62 (by decide) (mm_o40 hy) (mm_r40_12 hy)).trans ((wp_1).trans ((wp_3_4).trans ((wp_12).trans ((wp_3_7).trans ((wp_10).trans ((wp_72 (mm_q51 hy)).trans (mm_ae ((wp_5_0).trans ((wp_62 (by decide) (mm_o40 hy) (mm_r40_12 hy)).trans ((wp_1).trans ((wp_3_5).trans ((wp_12).trans ((wp_3_7).trans ((wp_10).trans ((wp_72 (mm_q51 hy)).trans (mm_ae ((wp_34).trans ((wp_41).trans (mm_ic ((wp_1).trans ((wp_56).trans (rfl))) (rfl)))))))))))))))))))))) (rfl)))))))))))))))))))))))) (rfl)))))))))
theorem r_258_10 (x1 : Int) (x2 : Int) (x3 : Int) (x4 : Int) (x5 : Int) (x6 : Int) (vx7 : mm_V) {hi : mm_Id → Int → Int} {dh : Int → Int} {nx ns : Int} {Q : mm_V → mm_H → Prop} (hy : 10581 ≤ nx) :
    mm_Wp 258 (mm_blk 258 10) [zR (40, 0, 0), zI x1, zI x2, zI x3, zI x4, zI x5, zI x6, vx7] [] (mm_z hi dh nx ns) Q =
    (if x6 = 0 then Q (zI 0) (mm_z hi dh nx ns) else ((0 ≤ x4 ∧ x4 < 1044) ∧ (if (hi (41, 0, 0) x4) = 3 then ((0 ≤ x4 ∧ x4 < 1044) ∧ ((0 ≤ x5 ∧ x5 < 1044) ∧ (if (hi (42, 0, 0) x4) = (hi (42, 0, 0) x5) then ((0 ≤ x4 ∧ x4 < 1044) ∧ ((0 ≤ x5 ∧ x5 < 1044) ∧ (if (hi (53, 0, 0) x4) = (hi (53, 0, 0) x5) then mm_Wp 258 (mm_blk 258 13) [zR (40, 0, 0), zI x1, zI x2, zI x3, zI x4, zI x5, zI x6, vx7] [zI 1] (mm_z hi dh nx ns) Q else mm_Wp 258 (mm_blk 258 12) [zR (40, 0, 0), zI x1, zI x2, zI x3, zI x4, zI x5, zI x6, vx7] [] (mm_z hi dh nx ns) Q))) else mm_Wp 258 (mm_blk 258 12) [zR (40, 0, 0), zI x1, zI x2, zI x3, zI x4, zI x5, zI x6, vx7] [] (mm_z hi dh nx ns) Q))) else ((0 ≤ x4 ∧ x4 < 1044) ∧ (if (hi (41, 0, 0) x4) = 2 then ((0 ≤ x4 ∧ x4 < 1044) ∧ ((0 ≤ x5 ∧ x5 < 1044) ∧ (if (hi (44, 0, 0) x4) = (hi (44, 0, 0) x5) then mm_Wp 258 (mm_blk 258 20) [zR (40, 0, 0), zI x1, zI x2, zI x3, zI x4, zI x5, zI x6, vx7] [zI 1] (mm_z hi dh nx ns) Q else mm_Wp 258 (mm_blk 258 20) [zR (40, 0, 0), zI x1, zI x2, zI x3, zI x4, zI x5, zI x6, vx7] [zI 0] (mm_z hi dh nx ns) Q))) else ((0 ≤ x4 ∧ x4 < 1044) ∧ ((0 ≤ x5 ∧ x5 < 1044) ∧ (if (hi (42, 0, 0) x4) = (hi (42, 0, 0) x5) then mm_Wp 258 (mm_blk 258 27) [zR (40, 0, 0), zI x1, zI x2, zI x3, zI x4, zI x5, zI x6, vx7] [zI 1] (mm_z hi dh nx ns) Q else mm_Wp 258 (mm_blk 258 27) [zR (40, 0, 0), zI x1, zI x2, zI x3, zI x4, zI x5, zI x6, vx7] [zI 0] (mm_z hi dh nx ns) Q)))))))) :=
  mm_kb bq_258_10 ((wp_3_6).trans ((wp_41).trans (mm_ic ((wp_1).trans (wp_94k (by decide))) (mm_kb bq_258_11 ((wp_5_0).trans ((wp_62 (by decide) (mm_o40 hy) (mm_r40_2 hy)).trans ((wp_3_4).trans ((wp_70 (mm_q41 hy)).trans (mm_ae ((wp_1).trans ((wp_47).trans (mm_ic ((wp_5_0).trans ((wp_62 (by decide) (mm_o40 hy) (mm_r40_3 hy)).trans ((wp_3_4).trans ((wp_70 (mm_q42 hy)).trans (mm_ae ((wp_5_0).trans ((wp_62 (by decide) (mm_o40 hy) (mm_r40_3 hy)).trans ((wp_3_5).trans ((wp_70 (mm_q42 hy)).trans (mm_ae ((wp_47).trans (mm_ic ((wp_5_0).trans ((wp_62 (by decide) (mm_o40 hy) (mm_r40_14 hy)).trans ((wp_3_4).trans ((wp_71z (mm_q53 hy)).trans (mm_ae ((wp_5_0).trans ((wp_62 (by decide) (mm_o40 hy) (mm_r40_14 hy)).trans ((wp_3_5).trans ((wp_71z (mm_q53 hy)).trans (mm_ae ((wp_47).trans (mm_ic ((wp_1).trans ((wp_56).trans (rfl))) (rfl))))))))))))) (rfl))))))))))))) (mm_kb bq_258_18 ((wp_5_0).trans ((wp_62 (by decide) (mm_o40 hy) (mm_r40_2 hy)).trans ((wp_3_4).trans ((wp_70 (mm_q41 hy)).trans (mm_ae ((wp_1).trans ((wp_47).trans (mm_ic ((wp_5_0).trans ((wp_62 (by decide) (mm_o40 hy) (mm_r40_5 hy)).trans ((wp_3_4).trans ((wp_70 (mm_q44 hy)).trans (mm_ae ((wp_5_0).trans ((wp_62 (by decide) (mm_o40 hy) (mm_r40_5 hy)).trans ((wp_3_5).trans ((wp_70 (mm_q44 hy)).trans (mm_ae ((wp_47).trans (mm_ic ((wp_1).trans ((wp_56).trans (rfl))) (mm_kb bq_258_19 ((wp_1).trans ((wp_0).trans (rfl)))))))))))))))) (mm_kb bq_258_25 ((wp_5_0).trans ((wp_62 (by decide) (mm_o40 hy) (mm_r40_3 hy)).trans ((wp_3_4).trans ((wp_70 (mm_q42 hy)).trans (mm_ae ((wp_5_0).trans ((wp_62 (by decide) (mm_o40 hy) (mm_r40_3 hy)).trans ((wp_3_5).trans ((wp_70 (mm_q42 hy)).trans (mm_ae ((wp_47).trans (mm_ic ((wp_1).trans ((wp_56).trans (rfl))) (mm_kb bq_258_26 ((wp_1).trans ((wp_0).trans (rfl))))))))))))))))))))))))))))))))))))))
theorem r_258_8 (x1 : Int) (x2 : Int) (x3 : Int) (x4 : Int) (x5 : Int) (vx6 : mm_V) (x7 : Int) {hi : mm_Id → Int → Int} {dh : Int → Int} {nx ns : Int} {Q : mm_V → mm_H → Prop} (hy : 10581 ≤ nx) :
    mm_Wp 258 (mm_blk 258 8) [zR (40, 0, 0), zI x1, zI x2, zI x3, zI x4, zI x5, vx6, zI x7] [] (mm_z hi dh nx ns) Q =
    mm_Wp 258 (mm_blk 258 9) [zR (40, 0, 0), zI x1, zI x2, zI x3, zI x4, zI x5, vx6, zI x7] [zI 0] (mm_z hi dh nx ns) Q :=
  mm_kb bq_258_8 ((wp_1).trans ((wp_0).trans (rfl)))
theorem r_258_9 (x1 : Int) (x2 : Int) (x3 : Int) (x4 : Int) (x5 : Int) (vx6 : mm_V) (x7 : Int) (y0 : Int) {hi : mm_Id → Int → Int} {dh : Int → Int} {nx ns : Int} {Q : mm_V → mm_H → Prop} (hy : 10581 ≤ nx) :
    mm_Wp 258 (mm_blk 258 9) [zR (40, 0, 0), zI x1, zI x2, zI x3, zI x4, zI x5, vx6, zI x7] [zI y0] (mm_z hi dh nx ns) Q =
    mm_Wp 258 (mm_blk 258 7) [zR (40, 0, 0), zI x1, zI x2, zI x3, zI x4, zI x5, zI y0, zI (mm_w (x7 + 1))] [] (mm_z hi dh nx ns) Q :=
  mm_kb bq_258_9 ((wp_6 (l2 := [zR (40, 0, 0), zI x1, zI x2, zI x3, zI x4, zI x5, zI y0, zI x7]) rfl).trans ((wp_9 (l2 := [zR (40, 0, 0), zI x1, zI x2, zI x3, zI x4, zI x5, zI y0, zI (mm_w (x7 + 1))]) rfl rfl).trans ((wp_56).trans (rfl))))
theorem r_258_27 (x1 : Int) (x2 : Int) (x3 : Int) (x4 : Int) (vx5 : mm_V) (vx6 : mm_V) (vx7 : mm_V) (y0 : Int) {hi : mm_Id → Int → Int} {dh : Int → Int} {nx ns : Int} {Q : mm_V → mm_H → Prop} (hvx5 : mm_wt vx5 = 1) (hy : 10581 ≤ nx) :
    mm_Wp 258 (mm_blk 258 27) [zR (40, 0, 0), zI x1, zI x2, zI x3, zI x4, vx5, vx6, vx7] [zI y0] (mm_z hi dh nx ns) Q =
    mm_Wp 258 (mm_blk 258 28) [zR (40, 0, 0), zI x1, zI x2, zI x3, zI x4, vx5, zI y0, zI 0] [] (mm_z hi dh nx ns) Q :=
  mm_kb bq_258_27 ((wp_6 (l2 := [zR (40, 0, 0), zI x1, zI x2, zI x3, zI x4, vx5, zI y0, vx7]) ((if_pos (mm_lb rfl)).trans (congrArg some (mm_stw rfl hvx5)))).trans ((wp_1).trans ((wp_6 (l2 := [zR (40, 0, 0), zI x1, zI x2, zI x3, zI x4, vx5, zI y0, zI 0]) rfl).trans ((wp_0).trans (rfl)))))
theorem r_258_20 (vx1 : mm_V) (vx2 : mm_V) (vx3 : mm_V) (x4 : Int) (x5 : Int) (vx6 : mm_V) (vx7 : mm_V) (y0 : Int) {hi : mm_Id → Int → Int} {dh : Int → Int} {nx ns : Int} {Q : mm_V → mm_H → Prop} (hy : 10581 ≤ nx) :
    mm_Wp 258 (mm_blk 258 20) [zR (40, 0, 0), vx1, vx2, vx3, zI x4, zI x5, vx6, vx7] [zI y0] (mm_z hi dh nx ns) Q =
    mm_Wp 258 (mm_blk 258 21) [zR (40, 0, 0), vx1, vx2, vx3, zI x4, zI x5, zI y0, zI 0] [] (mm_z hi dh nx ns) Q :=
  mm_kb bq_258_20 ((wp_6 (l2 := [zR (40, 0, 0), vx1, vx2, vx3, zI x4, zI x5, zI y0, vx7]) rfl).trans ((wp_1).trans ((wp_6 (l2 := [zR (40, 0, 0), vx1, vx2, vx3, zI x4, zI x5, zI y0, zI 0]) rfl).trans ((wp_0).trans (rfl)))))
theorem r_258_12 (vx1 : mm_V) (vx2 : mm_V) (vx3 : mm_V) (x4 : Int) (x5 : Int) (vx6 : mm_V) (vx7 : mm_V) {hi : mm_Id → Int → Int} {dh : Int → Int} {nx ns : Int} {Q : mm_V → mm_H → Prop} (hy : 10581 ≤ nx) :
    mm_Wp 258 (mm_blk 258 12) [zR (40, 0, 0), vx1, vx2, vx3, zI x4, zI x5, vx6, vx7] [] (mm_z hi dh nx ns) Q =
    mm_Wp 258 (mm_blk 258 13) [zR (40, 0, 0), vx1, vx2, vx3, zI x4, zI x5, vx6, vx7] [zI 0] (mm_z hi dh nx ns) Q :=
  mm_kb bq_258_12 ((wp_1).trans ((wp_0).trans (rfl)))
theorem r_258_13 (vx1 : mm_V) (vx2 : mm_V) (vx3 : mm_V) (x4 : Int) (x5 : Int) (vx6 : mm_V) (vx7 : mm_V) (y0 : Int) {hi : mm_Id → Int → Int} {dh : Int → Int} {nx ns : Int} {Q : mm_V → mm_H → Prop} (hy : 10581 ≤ nx) :
    mm_Wp 258 (mm_blk 258 13) [zR (40, 0, 0), vx1, vx2, vx3, zI x4, zI x5, vx6, vx7] [zI y0] (mm_z hi dh nx ns) Q =
    mm_Wp 258 (mm_blk 258 14) [zR (40, 0, 0), vx1, vx2, vx3, zI x4, zI x5, zI y0, zI 0] [] (mm_z hi dh nx ns) Q :=
  mm_kb bq_258_13 ((wp_6 (l2 := [zR (40, 0, 0), vx1, vx2, vx3, zI x4, zI x5, zI y0, vx7]) rfl).trans ((wp_1).trans ((wp_6 (l2 := [zR (40, 0, 0), vx1, vx2, vx3, zI x4, zI x5, zI y0, zI 0]) rfl).trans ((wp_0).trans (rfl)))))
theorem r_258_28 (x1 : Int) (x2 : Int) (x3 : Int) (x4 : Int) (vx5 : mm_V) (x6 : Int) (x7 : Int) {hi : mm_Id → Int → Int} {dh : Int → Int} {nx ns : Int} {Q : mm_V → mm_H → Prop} (hy : 10581 ≤ nx) :
    mm_Wp 258 (mm_blk 258 28) [zR (40, 0, 0), zI x1, zI x2, zI x3, zI x4, vx5, zI x6, zI x7] [] (mm_z hi dh nx ns) Q =
    ((0 ≤ x4 ∧ x4 < 1044) ∧ (if x7 < (hi (42, 0, 0) x4) then (if x6 = 0 then mm_Wp 258 (mm_blk 258 31) [zR (40, 0, 0), zI x1, zI x2, zI x3, zI x4, vx5, zI x6, zI x7] [] (mm_z hi dh nx ns) Q else mm_Cl 207 [zR (40, 0, 0), zI x1, zI x3, zI x7] (mm_z hi dh nx ns) (fun r h3 => mm_Wp 258 (bk_258_28.drop 13) [zR (40, 0, 0), zI x1, zI x2, zI x3, zI x4, vx5, zI x6, zI x7] (mm_push r []) h3 Q)) else mm_Wp 258 (mm_blk 258 31) [zR (40, 0, 0), zI x1, zI x2, zI x3, zI x4, vx5, zI x6, zI x7] [] (mm_z hi dh nx ns) Q)) :=
  mm_kb bq_258_28 ((wp_3_7).trans ((wp_5_0).trans ((wp_62 (by decide) (mm_o40 hy) (mm_r40_3 hy)).trans ((wp_3_4).trans ((wp_70 (mm_q42 hy)).trans (mm_ae ((wp_49).trans (mm_ic ((wp_3_6).trans ((wp_40).trans (mm_ic (rfl) ((wp_5_0).trans ((wp_3_1).trans ((wp_3_3).trans ((wp_3_7).trans ((wp_v4 mm_n_207 (mm_leq mm_m_207 (mm_lb rfl)) (mm_lb rfl) (mm_o40 hy)).trans rfl)))))))) (rfl)))))))))
theorem r_258_21 (vx1 : mm_V) (vx2 : mm_V) (vx3 : mm_V) (x4 : Int) (x5 : Int) (x6 : Int) (x7 : Int) {hi : mm_Id → Int → Int} {dh : Int → Int} {nx ns : Int} {Q : mm_V → mm_H → Prop} (hy : 10581 ≤ nx) :
    mm_Wp 258 (mm_blk 258 21) [zR (40, 0, 0), vx1, vx2, vx3, zI x4, zI x5, zI x6, zI x7] [] (mm_z hi dh nx ns) Q =
    ((0 ≤ x4 ∧ x4 < 1044) ∧ (if x7 < (hi (44, 0, 0) x4) then (if x6 = 0 then mm_Wp 258 (mm_blk 258 24) [zR (40, 0, 0), vx1, vx2, vx3, zI x4, zI x5, zI x6, zI x7] [] (mm_z hi dh nx ns) Q else ((0 ≤ (mm_w ((mm_w (24 * x4)) + x7)) ∧ (mm_w ((mm_w (24 * x4)) + x7)) < 25056) ∧ ((0 ≤ (mm_w ((mm_w (24 * x5)) + x7)) ∧ (mm_w ((mm_w (24 * x5)) + x7)) < 25056) ∧ (if (hi (45, 0, 0) (mm_w ((mm_w (24 * x4)) + x7))) = (hi (45, 0, 0) (mm_w ((mm_w (24 * x5)) + x7))) then ((0 ≤ (mm_w ((mm_w (24 * x4)) + x7)) ∧ (mm_w ((mm_w (24 * x4)) + x7)) < 25056) ∧ ((0 ≤ (mm_w ((mm_w (24 * x5)) + x7)) ∧ (mm_w ((mm_w (24 * x5)) + x7)) < 25056) ∧ (if (hi (46, 0, 0) (mm_w ((mm_w (24 * x4)) + x7))) = (hi (46, 0, 0) (mm_w ((mm_w (24 * x5)) + x7))) then mm_Wp 258 (mm_blk 258 23) [zR (40, 0, 0), vx1, vx2, vx3, zI x4, zI x5, zI x6, zI x7] [zI 1] (mm_z hi dh nx ns) Q else mm_Wp 258 (mm_blk 258 22) [zR (40, 0, 0), vx1, vx2, vx3, zI x4, zI x5, zI x6, zI x7] [] (mm_z hi dh nx ns) Q))) else mm_Wp 258 (mm_blk 258 22) [zR (40, 0, 0), vx1, vx2, vx3, zI x4, zI x5, zI x6, zI x7] [] (mm_z hi dh nx ns) Q)))) else mm_Wp 258 (mm_blk 258 24) [zR (40, 0, 0), vx1, vx2, vx3, zI x4, zI x5, zI x6, zI x7] [] (mm_z hi dh nx ns) Q)) :=
  mm_kb bq_258_21 ((wp_3_7).trans ((wp_5_0).trans ((wp_62 (by decide) (mm_o40 hy) (mm_r40_5 hy)).trans ((wp_3_4).trans ((wp_70 (mm_q44 hy)).trans (mm_ae ((wp_49).trans (mm_ic ((wp_3_6).trans ((wp_40).trans (mm_ic (rfl) ((wp_5_0).trans ((wp_62 (by decide) (mm_o40 hy) (mm_r40_6 hy)).trans ((wp_1).trans ((wp_3_4).trans ((wp_12).trans ((wp_3_7).trans ((wp_10).trans ((wp_70 (mm_q45 hy)).trans (mm_ae ((wp_5_0).trans ((wp_62 (by decide) (mm_o40 hy) (mm_r40_6 hy)).trans ((wp_1).trans ((wp_3_5).trans ((wp_12).trans ((wp_3_7).trans ((wp_10).trans ((wp_70 (mm_q45 hy)).trans (mm_ae ((wp_47).trans (mm_ic ((wp_5_0).trans ((wp_62 (by decide) (mm_o40 hy) (mm_r40_7 hy)).trans ((wp_1).trans ((wp_3_4).trans ((wp_12).trans ((wp_3_7).trans ((wp_10).trans ((wp_70 (mm_q46 hy)).trans (mm_ae ((wp_5_0).trans ((wp_62 (by decide) (mm_o40 hy) (mm_r40_7 hy)).trans ((wp_1).trans ((wp_3_5).trans ((wp_12).trans ((wp_3_7).trans ((wp_10).trans ((wp_70 (mm_q46 hy)).trans (mm_ae ((wp_47).trans (mm_ic ((wp_1).trans ((wp_56).trans (rfl))) (rfl))))))))))))))))))))) (rfl)))))))))))))))))))))))) (rfl)))))))))
theorem r_258_14 (vx1 : mm_V) (vx2 : mm_V) (vx3 : mm_V) (x4 : Int) (x5 : Int) (x6 : Int) (x7 : Int) {hi : mm_Id → Int → Int} {dh : Int → Int} {nx ns : Int} {Q : mm_V → mm_H → Prop} (hy : 10581 ≤ nx) :
    mm_Wp 258 (mm_blk 258 14) [zR (40, 0, 0), vx1, vx2, vx3, zI x4, zI x5, zI x6, zI x7] [] (mm_z hi dh nx ns) Q =
    ((0 ≤ x4 ∧ x4 < 1044) ∧ (if x7 < (hi (42, 0, 0) x4) then (if x6 = 0 then mm_Wp 258 (mm_blk 258 17) [zR (40, 0, 0), vx1, vx2, vx3, zI x4, zI x5, zI x6, zI x7] [] (mm_z hi dh nx ns) Q else ((0 ≤ (mm_w ((mm_w (8 * x4)) + x7)) ∧ (mm_w ((mm_w (8 * x4)) + x7)) < 8352) ∧ ((0 ≤ (mm_w ((mm_w (8 * x5)) + x7)) ∧ (mm_w ((mm_w (8 * x5)) + x7)) < 8352) ∧ (if (hi (52, 0, 0) (mm_w ((mm_w (8 * x4)) + x7))) = (hi (52, 0, 0) (mm_w ((mm_w (8 * x5)) + x7))) then mm_Wp 258 (mm_blk 258 16) [zR (40, 0, 0), vx1, vx2, vx3, zI x4, zI x5, zI x6, zI x7] [zI 1] (mm_z hi dh nx ns) Q else mm_Wp 258 (mm_blk 258 16) [zR (40, 0, 0), vx1, vx2, vx3, zI x4, zI x5, zI x6, zI x7] [zI 0] (mm_z hi dh nx ns) Q)))) else mm_Wp 258 (mm_blk 258 17) [zR (40, 0, 0), vx1, vx2, vx3, zI x4, zI x5, zI x6, zI x7] [] (mm_z hi dh nx ns) Q)) :=
  mm_kb bq_258_14 ((wp_3_7).trans ((wp_5_0).trans ((wp_62 (by decide) (mm_o40 hy) (mm_r40_3 hy)).trans ((wp_3_4).trans ((wp_70 (mm_q42 hy)).trans (mm_ae ((wp_49).trans (mm_ic ((wp_3_6).trans ((wp_40).trans (mm_ic (rfl) ((wp_5_0).trans ((wp_62 (by decide) (mm_o40 hy) (mm_r40_13 hy)).trans ((wp_1).trans ((wp_3_4).trans ((wp_12).trans ((wp_3_7).trans ((wp_10).trans ((wp_70 (mm_q52 hy)).trans (mm_ae ((wp_5_0).trans ((wp_62 (by decide) (mm_o40 hy) (mm_r40_13 hy)).trans ((wp_1).trans ((wp_3_5).trans ((wp_12).trans ((wp_3_7).trans ((wp_10).trans ((wp_70 (mm_q52 hy)).trans (mm_ae ((wp_47).trans (mm_ic ((wp_1).trans ((wp_56).trans (rfl))) (mm_kb bq_258_15 ((wp_1).trans ((wp_0).trans (rfl))))))))))))))))))))))))))) (rfl)))))))))
theorem r_258_31 (vx0 : mm_V) (vx1 : mm_V) (vx2 : mm_V) (vx3 : mm_V) (vx4 : mm_V) (vx5 : mm_V) (x6 : Int) (vx7 : mm_V) {hi : mm_Id → Int → Int} {dh : Int → Int} {nx ns : Int} {Q : mm_V → mm_H → Prop} (hy : 10581 ≤ nx) :
    mm_Wp 258 (mm_blk 258 31) [vx0, vx1, vx2, vx3, vx4, vx5, zI x6, vx7] [] (mm_z hi dh nx ns) Q =
    ((x6 = 0 ∨ x6 = 1) ∧ Q (zI x6) (mm_z hi dh nx ns)) :=
  mm_kb bq_258_31 ((wp_3_6).trans (wp_94z))
theorem r_258_28_13 (x1 : Int) (x2 : Int) (x3 : Int) (x4 : Int) (vx5 : mm_V) (vx6 : mm_V) (x7 : Int) (y0 : Int) {hi : mm_Id → Int → Int} {dh : Int → Int} {nx ns : Int} {Q : mm_V → mm_H → Prop} (hy : 10581 ≤ nx) :
    mm_Wp 258 (bk_258_28.drop 13) [zR (40, 0, 0), zI x1, zI x2, zI x3, zI x4, vx5, vx6, zI x7] [zI y0] (mm_z hi dh nx ns) Q =
    mm_Cl 207 [zR (40, 0, 0), zI x2, zI x3, zI x7] (mm_z hi dh nx ns) (fun r h3 => mm_Wp 258 (bk_258_28.drop 18) [zR (40, 0, 0), zI x1, zI x2, zI x3, zI x4, vx5, vx6, zI x7] (mm_push r [zI y0]) h3 Q) :=
  (wp_5_0).trans ((wp_3_2).trans ((wp_3_3).trans ((wp_3_7).trans ((wp_v4 mm_n_207 (mm_leq mm_m_207 (mm_lb rfl)) (mm_lb rfl) (mm_o40 hy)).trans rfl))))
theorem r_258_24 (vx0 : mm_V) (vx1 : mm_V) (vx2 : mm_V) (vx3 : mm_V) (vx4 : mm_V) (vx5 : mm_V) (x6 : Int) (vx7 : mm_V) {hi : mm_Id → Int → Int} {dh : Int → Int} {nx ns : Int} {Q : mm_V → mm_H → Prop} (hy : 10581 ≤ nx) :
    mm_Wp 258 (mm_blk 258 24) [vx0, vx1, vx2, vx3, vx4, vx5, zI x6, vx7] [] (mm_z hi dh nx ns) Q =
    ((x6 = 0 ∨ x6 = 1) ∧ Q (zI x6) (mm_z hi dh nx ns)) :=
  mm_kb bq_258_24 ((wp_3_6).trans (wp_94z))
theorem r_258_22 (vx1 : mm_V) (vx2 : mm_V) (vx3 : mm_V) (x4 : Int) (x5 : Int) (vx6 : mm_V) (x7 : Int) {hi : mm_Id → Int → Int} {dh : Int → Int} {nx ns : Int} {Q : mm_V → mm_H → Prop} (hy : 10581 ≤ nx) :
    mm_Wp 258 (mm_blk 258 22) [zR (40, 0, 0), vx1, vx2, vx3, zI x4, zI x5, vx6, zI x7] [] (mm_z hi dh nx ns) Q =
    mm_Wp 258 (mm_blk 258 23) [zR (40, 0, 0), vx1, vx2, vx3, zI x4, zI x5, vx6, zI x7] [zI 0] (mm_z hi dh nx ns) Q :=
  mm_kb bq_258_22 ((wp_1).trans ((wp_0).trans (rfl)))
theorem r_258_23 (vx1 : mm_V) (vx2 : mm_V) (vx3 : mm_V) (x4 : Int) (x5 : Int) (vx6 : mm_V) (x7 : Int) (y0 : Int) {hi : mm_Id → Int → Int} {dh : Int → Int} {nx ns : Int} {Q : mm_V → mm_H → Prop} (hy : 10581 ≤ nx) :
    mm_Wp 258 (mm_blk 258 23) [zR (40, 0, 0), vx1, vx2, vx3, zI x4, zI x5, vx6, zI x7] [zI y0] (mm_z hi dh nx ns) Q =
    mm_Wp 258 (mm_blk 258 21) [zR (40, 0, 0), vx1, vx2, vx3, zI x4, zI x5, zI y0, zI (mm_w (x7 + 1))] [] (mm_z hi dh nx ns) Q :=
  mm_kb bq_258_23 ((wp_6 (l2 := [zR (40, 0, 0), vx1, vx2, vx3, zI x4, zI x5, zI y0, zI x7]) rfl).trans ((wp_9 (l2 := [zR (40, 0, 0), vx1, vx2, vx3, zI x4, zI x5, zI y0, zI (mm_w (x7 + 1))]) rfl rfl).trans ((wp_56).trans (rfl))))
theorem r_258_17 (vx0 : mm_V) (vx1 : mm_V) (vx2 : mm_V) (vx3 : mm_V) (vx4 : mm_V) (vx5 : mm_V) (x6 : Int) (vx7 : mm_V) {hi : mm_Id → Int → Int} {dh : Int → Int} {nx ns : Int} {Q : mm_V → mm_H → Prop} (hy : 10581 ≤ nx) :
    mm_Wp 258 (mm_blk 258 17) [vx0, vx1, vx2, vx3, vx4, vx5, zI x6, vx7] [] (mm_z hi dh nx ns) Q =
    ((x6 = 0 ∨ x6 = 1) ∧ Q (zI x6) (mm_z hi dh nx ns)) :=
  mm_kb bq_258_17 ((wp_3_6).trans (wp_94z))
theorem r_258_16 (vx1 : mm_V) (vx2 : mm_V) (vx3 : mm_V) (x4 : Int) (x5 : Int) (vx6 : mm_V) (x7 : Int) (y0 : Int) {hi : mm_Id → Int → Int} {dh : Int → Int} {nx ns : Int} {Q : mm_V → mm_H → Prop} (hy : 10581 ≤ nx) :
    mm_Wp 258 (mm_blk 258 16) [zR (40, 0, 0), vx1, vx2, vx3, zI x4, zI x5, vx6, zI x7] [zI y0] (mm_z hi dh nx ns) Q =
    mm_Wp 258 (mm_blk 258 14) [zR (40, 0, 0), vx1, vx2, vx3, zI x4, zI x5, zI y0, zI (mm_w (x7 + 1))] [] (mm_z hi dh nx ns) Q :=
  mm_kb bq_258_16 ((wp_6 (l2 := [zR (40, 0, 0), vx1, vx2, vx3, zI x4, zI x5, zI y0, zI x7]) rfl).trans ((wp_9 (l2 := [zR (40, 0, 0), vx1, vx2, vx3, zI x4, zI x5, zI y0, zI (mm_w (x7 + 1))]) rfl rfl).trans ((wp_56).trans (rfl))))
theorem r_258_28_18 (x1 : Int) (x2 : Int) (x3 : Int) (x4 : Int) (vx5 : mm_V) (vx6 : mm_V) (x7 : Int) (y0 : Int) (y1 : Int) {hi : mm_Id → Int → Int} {dh : Int → Int} {nx ns : Int} {Q : mm_V → mm_H → Prop} (hy : 10581 ≤ nx) :
    mm_Wp 258 (bk_258_28.drop 18) [zR (40, 0, 0), zI x1, zI x2, zI x3, zI x4, vx5, vx6, zI x7] [zI y0, zI y1] (mm_z hi dh nx ns) Q =
    (if y1 = y0 then mm_Wp 258 (mm_blk 258 30) [zR (40, 0, 0), zI x1, zI x2, zI x3, zI x4, vx5, vx6, zI x7] [zI 1] (mm_z hi dh nx ns) Q else mm_Wp 258 (mm_blk 258 30) [zR (40, 0, 0), zI x1, zI x2, zI x3, zI x4, vx5, vx6, zI x7] [zI 0] (mm_z hi dh nx ns) Q) :=
  (wp_47).trans (mm_ic ((wp_1).trans ((wp_56).trans (rfl))) (mm_kb bq_258_29 ((wp_1).trans ((wp_0).trans (rfl)))))
theorem r_258_30 (x1 : Int) (x2 : Int) (x3 : Int) (x4 : Int) (vx5 : mm_V) (vx6 : mm_V) (x7 : Int) (y0 : Int) {hi : mm_Id → Int → Int} {dh : Int → Int} {nx ns : Int} {Q : mm_V → mm_H → Prop} (hvx5 : mm_wt vx5 = 1) (hy : 10581 ≤ nx) :
    mm_Wp 258 (mm_blk 258 30) [zR (40, 0, 0), zI x1, zI x2, zI x3, zI x4, vx5, vx6, zI x7] [zI y0] (mm_z hi dh nx ns) Q =
    mm_Wp 258 (mm_blk 258 28) [zR (40, 0, 0), zI x1, zI x2, zI x3, zI x4, vx5, zI y0, zI (mm_w (x7 + 1))] [] (mm_z hi dh nx ns) Q :=
  mm_kb bq_258_30 ((wp_6 (l2 := [zR (40, 0, 0), zI x1, zI x2, zI x3, zI x4, vx5, zI y0, zI x7]) ((if_pos (mm_lb rfl)).trans (congrArg some (mm_stw rfl hvx5)))).trans ((wp_9 (l2 := [zR (40, 0, 0), zI x1, zI x2, zI x3, zI x4, vx5, zI y0, zI (mm_w (x7 + 1))]) rfl rfl).trans ((wp_56).trans (rfl))))
/-- PoolHouseModel.differs(III)I -/
theorem bq_259_0 : mm_blk 259 0 = bk_259_0 := by decide +kernel
theorem bq_259_1 : mm_blk 259 1 = bk_259_1 := by decide +kernel
theorem bq_259_2 : mm_blk 259 2 = bk_259_2 := by decide +kernel
theorem bq_259_3 : mm_blk 259 3 = bk_259_3 := by decide +kernel
theorem bq_259_4 : mm_blk 259 4 = bk_259_4 := by decide +kernel
theorem bq_259_5 : mm_blk 259 5 = bk_259_5 := by decide +kernel
theorem bq_259_6 : mm_blk 259 6 = bk_259_6 := by decide +kernel
theorem bq_259_7 : mm_blk 259 7 = bk_259_7 := by decide +kernel
theorem r_259_e (x1 : Int) (x2 : Int) (x3 : Int) {hi : mm_Id → Int → Int} {dh : Int → Int} {nx ns : Int} {Q : mm_V → mm_H → Prop} (hy : 10581 ≤ nx) :
    mm_Cl 259 [zR (40, 0, 0), zI x1, zI x2, zI x3] (mm_z hi dh nx ns) Q =
    mm_Cl 181 [zR (40, 0, 0), zI x1] (mm_z (mm_up hi (40, 0, 0) 0 0) dh nx ns) (fun r h3 => mm_Wp 259 (bk_259_0.drop 6) [zR (40, 0, 0), zI x1, zI x2, zI x3, zU, zU, zU, zU] (mm_push r []) h3 Q) :=
  mm_ce (l2 := [zR (40, 0, 0), zI x1, zI x2, zI x3, zU, zU, zU, zU]) rfl (mm_kb bq_259_0 ((wp_5_0).trans ((wp_1).trans ((wp_63 (mm_o40 hy)).trans ((wp_5_0).trans ((wp_3_1).trans ((wp_v2 mm_n_181 (mm_leq mm_m_181 (mm_lb rfl)) (mm_lb rfl) (mm_o40 hy)).trans rfl)))))))
theorem r_259_0_6 (vx1 : mm_V) (x2 : Int) (x3 : Int) (vx4 : mm_V) (vx5 : mm_V) (vx6 : mm_V) (vx7 : mm_V) (y0 : Int) {hi : mm_Id → Int → Int} {dh : Int → Int} {nx ns : Int} {Q : mm_V → mm_H → Prop} (hy : 10581 ≤ nx) :
    mm_Wp 259 (bk_259_0.drop 6) [zR (40, 0, 0), vx1, zI x2, zI x3, vx4, vx5, vx6, vx7] [zI y0] (mm_z hi dh nx ns) Q =
    mm_Cl 181 [zR (40, 0, 0), zI x2] (mm_z hi dh nx ns) (fun r h3 => mm_Wp 259 (bk_259_0.drop 10) [zR (40, 0, 0), vx1, zI x2, zI x3, zI y0, vx5, vx6, vx7] (mm_push r []) h3 Q) :=
  (wp_6 (l2 := [zR (40, 0, 0), vx1, zI x2, zI x3, zI y0, vx5, vx6, vx7]) rfl).trans ((wp_5_0).trans ((wp_3_2).trans ((wp_v2 mm_n_181 (mm_leq mm_m_181 (mm_lb rfl)) (mm_lb rfl) (mm_o40 hy)).trans rfl)))
theorem r_259_0_10 (vx1 : mm_V) (vx2 : mm_V) (x3 : Int) (x4 : Int) (vx5 : mm_V) (vx6 : mm_V) (vx7 : mm_V) (y0 : Int) {hi : mm_Id → Int → Int} {dh : Int → Int} {nx ns : Int} {Q : mm_V → mm_H → Prop} (hy : 10581 ≤ nx) :
    mm_Wp 259 (bk_259_0.drop 10) [zR (40, 0, 0), vx1, vx2, zI x3, zI x4, vx5, vx6, vx7] [zI y0] (mm_z hi dh nx ns) Q =
    (if x4 < 0 then mm_Wp 259 (mm_blk 259 1) [zR (40, 0, 0), vx1, vx2, zI x3, zI x4, zI y0, vx6, vx7] [] (mm_z hi dh nx ns) Q else (if y0 < 0 then mm_Wp 259 (mm_blk 259 1) [zR (40, 0, 0), vx1, vx2, zI x3, zI x4, zI y0, vx6, vx7] [] (mm_z hi dh nx ns) Q else mm_Wp 259 (mm_blk 259 3) [zR (40, 0, 0), vx1, vx2, zI x3, zI x4, zI y0, zI x3, zI 1] [] (mm_z hi dh nx ns) Q)) :=
  (wp_6 (l2 := [zR (40, 0, 0), vx1, vx2, zI x3, zI x4, zI y0, vx6, vx7]) rfl).trans ((wp_3_4).trans ((wp_42).trans (mm_ic (rfl) ((wp_3_5).trans ((wp_43).trans (mm_ic ((wp_0).trans (rfl)) (mm_kb bq_259_2 ((wp_3_3).trans ((wp_6 (l2 := [zR (40, 0, 0), vx1, vx2, zI x3, zI x4, zI y0, zI x3, vx7]) rfl).trans ((wp_1).trans ((wp_6 (l2 := [zR (40, 0, 0), vx1, vx2, zI x3, zI x4, zI y0, zI x3, zI 1]) rfl).trans ((wp_0).trans (rfl)))))))))))))
theorem r_259_1 (vx0 : mm_V) (vx1 : mm_V) (vx2 : mm_V) (vx3 : mm_V) (vx4 : mm_V) (vx5 : mm_V) (vx6 : mm_V) (vx7 : mm_V) {hi : mm_Id → Int → Int} {dh : Int → Int} {nx ns : Int} {Q : mm_V → mm_H → Prop} (hy : 10581 ≤ nx) :
    mm_Wp 259 (mm_blk 259 1) [vx0, vx1, vx2, vx3, vx4, vx5, vx6, vx7] [] (mm_z hi dh nx ns) Q =
    Q (zI (-1)) (mm_z hi dh nx ns) :=
  mm_kb bq_259_1 ((wp_1).trans (wp_90))
theorem r_259_3 (vx1 : mm_V) (vx2 : mm_V) (x3 : Int) (x4 : Int) (x5 : Int) (x6 : Int) (x7 : Int) {hi : mm_Id → Int → Int} {dh : Int → Int} {nx ns : Int} {Q : mm_V → mm_H → Prop} (hy : 10581 ≤ nx) :
    mm_Wp 259 (mm_blk 259 3) [zR (40, 0, 0), vx1, vx2, zI x3, zI x4, zI x5, zI x6, zI x7] [] (mm_z hi dh nx ns) Q =
    (if 36 < x7 then mm_Wp 259 (mm_blk 259 7) [zR (40, 0, 0), vx1, vx2, zI x3, zI x4, zI x5, zI x6, zI x7] [] (mm_z hi dh nx ns) Q else (if x3 < 0 then mm_Wp 259 (mm_blk 259 7) [zR (40, 0, 0), vx1, vx2, zI x3, zI x4, zI x5, zI x6, zI x7] [] (mm_z hi dh nx ns) Q else mm_Cl 258 [zR (40, 0, 0), zI x4, zI x5, zI x7] (mm_z hi dh nx ns) (fun r h3 => mm_Wp 259 (bk_259_3.drop 10) [zR (40, 0, 0), vx1, vx2, zI x3, zI x4, zI x5, zI x6, zI x7] (mm_push r []) h3 Q))) :=
  mm_kb bq_259_3 ((wp_3_7).trans ((wp_1).trans ((wp_50).trans (mm_ic (rfl) ((wp_3_3).trans ((wp_42).trans (mm_ic (rfl) ((wp_5_0).trans ((wp_3_4).trans ((wp_3_5).trans ((wp_3_7).trans ((wp_v4 mm_n_258 (mm_leq mm_m_258 (mm_lb rfl)) (mm_lb rfl) (mm_o40 hy)).trans rfl))))))))))))
theorem r_259_7 (vx0 : mm_V) (vx1 : mm_V) (vx2 : mm_V) (vx3 : mm_V) (vx4 : mm_V) (vx5 : mm_V) (vx6 : mm_V) (vx7 : mm_V) {hi : mm_Id → Int → Int} {dh : Int → Int} {nx ns : Int} {Q : mm_V → mm_H → Prop} (hy : 10581 ≤ nx) :
    mm_Wp 259 (mm_blk 259 7) [vx0, vx1, vx2, vx3, vx4, vx5, vx6, vx7] [] (mm_z hi dh nx ns) Q =
    Q (zI (-2)) (mm_z hi dh nx ns) :=
  mm_kb bq_259_7 ((wp_1).trans (wp_90))
theorem r_259_3_10 (vx1 : mm_V) (vx2 : mm_V) (x3 : Int) (x4 : Int) (x5 : Int) (x6 : Int) (x7 : Int) (y0 : Int) {hi : mm_Id → Int → Int} {dh : Int → Int} {nx ns : Int} {Q : mm_V → mm_H → Prop} (hy : 10581 ≤ nx) :
    mm_Wp 259 (bk_259_3.drop 10) [zR (40, 0, 0), vx1, vx2, zI x3, zI x4, zI x5, zI x6, zI x7] [zI y0] (mm_z hi dh nx ns) Q =
    (if y0 = 0 then (if x6 = 0 then Q (zI x7) (mm_z hi dh nx ns) else mm_Wp 259 (mm_blk 259 6) [zR (40, 0, 0), vx1, vx2, zI x3, zI x4, zI x5, zI (mm_w (x6 + (-1))), zI x7] [] (mm_z hi dh nx ns) Q) else mm_Wp 259 (mm_blk 259 6) [zR (40, 0, 0), vx1, vx2, zI x3, zI x4, zI x5, zI x6, zI x7] [] (mm_z hi dh nx ns) Q) :=
  (wp_40).trans (mm_ic (mm_kb bq_259_4 ((wp_3_6).trans ((wp_41).trans (mm_ic ((wp_3_7).trans (wp_90)) (mm_kb bq_259_5 ((wp_9 (l2 := [zR (40, 0, 0), vx1, vx2, zI x3, zI x4, zI x5, zI (mm_w (x6 + (-1))), zI x7]) rfl rfl).trans ((wp_0).trans (rfl)))))))) ((wp_56).trans (rfl)))
theorem r_259_6 (vx1 : mm_V) (vx2 : mm_V) (x3 : Int) (x4 : Int) (x5 : Int) (x6 : Int) (x7 : Int) {hi : mm_Id → Int → Int} {dh : Int → Int} {nx ns : Int} {Q : mm_V → mm_H → Prop} (hy : 10581 ≤ nx) :
    mm_Wp 259 (mm_blk 259 6) [zR (40, 0, 0), vx1, vx2, zI x3, zI x4, zI x5, zI x6, zI x7] [] (mm_z hi dh nx ns) Q =
    mm_Wp 259 (mm_blk 259 3) [zR (40, 0, 0), vx1, vx2, zI x3, zI x4, zI x5, zI x6, zI (mm_w (x7 + 1))] [] (mm_z hi dh nx ns) Q :=
  mm_kb bq_259_6 ((wp_9 (l2 := [zR (40, 0, 0), vx1, vx2, zI x3, zI x4, zI x5, zI x6, zI (mm_w (x7 + 1))]) rfl rfl).trans ((wp_56).trans (rfl)))
/-- PoolHouseModel.send(II)I -/
theorem bq_260_0 : mm_blk 260 0 = bk_260_0 := by decide +kernel
theorem bq_260_1 : mm_blk 260 1 = bk_260_1 := by decide +kernel
theorem bq_260_2 : mm_blk 260 2 = bk_260_2 := by decide +kernel
theorem bq_260_3 : mm_blk 260 3 = bk_260_3 := by decide +kernel
theorem bq_260_4 : mm_blk 260 4 = bk_260_4 := by decide +kernel
theorem r_260_e (x1 : Int) (x2 : Int) {hi : mm_Id → Int → Int} {dh : Int → Int} {nx ns : Int} {Q : mm_V → mm_H → Prop} (hy : 10581 ≤ nx) :
    mm_Cl 260 [zR (40, 0, 0), zI x1, zI x2] (mm_z hi dh nx ns) Q =
    mm_Cl 183 [zR (40, 0, 0), zI x1] (mm_z (mm_up hi (40, 0, 0) 0 0) dh nx ns) (fun r h3 => mm_Wp 260 (bk_260_0.drop 6) [zR (40, 0, 0), zI x1, zI x2, zU, zU] (mm_push r []) h3 Q) :=
  mm_ce (l2 := [zR (40, 0, 0), zI x1, zI x2, zU, zU]) rfl (mm_kb bq_260_0 ((wp_5_0).trans ((wp_1).trans ((wp_63 (mm_o40 hy)).trans ((wp_5_0).trans ((wp_3_1).trans ((wp_v2 mm_n_183 (mm_leq mm_m_183 (mm_lb rfl)) (mm_lb rfl) (mm_o40 hy)).trans rfl)))))))
theorem r_260_0_6 (vx1 : mm_V) (x2 : Int) (vx3 : mm_V) (vx4 : mm_V) (y0 : Int) {hi : mm_Id → Int → Int} {dh : Int → Int} {nx ns : Int} {Q : mm_V → mm_H → Prop} (hy : 10581 ≤ nx) :
    mm_Wp 260 (bk_260_0.drop 6) [zR (40, 0, 0), vx1, zI x2, vx3, vx4] [zI y0] (mm_z hi dh nx ns) Q =
    mm_Cl 183 [zR (40, 0, 0), zI x2] (mm_z hi dh nx ns) (fun r h3 => mm_Wp 260 (bk_260_0.drop 10) [zR (40, 0, 0), vx1, zI x2, zI y0, vx4] (mm_push r []) h3 Q) :=
  (wp_6 (l2 := [zR (40, 0, 0), vx1, zI x2, zI y0, vx4]) rfl).trans ((wp_5_0).trans ((wp_3_2).trans ((wp_v2 mm_n_183 (mm_leq mm_m_183 (mm_lb rfl)) (mm_lb rfl) (mm_o40 hy)).trans rfl)))
theorem r_260_0_10 (vx1 : mm_V) (vx2 : mm_V) (x3 : Int) (vx4 : mm_V) (y0 : Int) {hi : mm_Id → Int → Int} {dh : Int → Int} {nx ns : Int} {Q : mm_V → mm_H → Prop} (hy : 10581 ≤ nx) :
    mm_Wp 260 (bk_260_0.drop 10) [zR (40, 0, 0), vx1, vx2, zI x3, vx4] [zI y0] (mm_z hi dh nx ns) Q =
    (if x3 < 0 then mm_Wp 260 (mm_blk 260 1) [zR (40, 0, 0), vx1, vx2, zI x3, zI y0] [] (mm_z hi dh nx ns) Q else (if y0 < 0 then mm_Wp 260 (mm_blk 260 1) [zR (40, 0, 0), vx1, vx2, zI x3, zI y0] [] (mm_z hi dh nx ns) Q else ((0 ≤ x3 ∧ x3 < 26) ∧ ((0 ≤ y0 ∧ y0 < 26) ∧ (if (hi (58, 0, 0) x3) = (hi (58, 0, 0) y0) then (if (hi (40, 0, 0) 29) = 0 then mm_Cl 179 [zR (40, 0, 0), zI x3, zI 26] (mm_z hi dh nx ns) (fun r h3 => mm_Wp 260 (bk_260_4.drop 4) [zR (40, 0, 0), vx1, vx2, zI x3, zI y0] (mm_push r []) h3 Q) else Q (zI (-5)) (mm_z hi dh nx ns)) else Q (zI (-3)) (mm_z hi dh nx ns)))))) :=
  (wp_6 (l2 := [zR (40, 0, 0), vx1, vx2, zI x3, zI y0]) rfl).trans ((wp_3_3).trans ((wp_42).trans (mm_ic (rfl) ((wp_3_4).trans ((wp_43).trans (mm_ic ((wp_0).trans (rfl)) (mm_kb bq_260_2 ((wp_5_0).trans ((wp_62 (by decide) (mm_o40 hy) (mm_r40_20 hy)).trans ((wp_3_3).trans ((wp_70 (mm_q58 hy)).trans (mm_ae ((wp_5_0).trans ((wp_62 (by decide) (mm_o40 hy) (mm_r40_20 hy)).trans ((wp_3_4).trans ((wp_70 (mm_q58 hy)).trans (mm_ae ((wp_46).trans (mm_ic (mm_kb bq_260_3 ((wp_5_0).trans ((wp_60 (by decide) (mm_o40 hy)).trans ((wp_40).trans (mm_ic (mm_kb bq_260_4 ((wp_5_0).trans ((wp_3_3).trans ((wp_1).trans ((wp_v3 mm_n_179 (mm_leq mm_m_179 (mm_lb rfl)) (mm_lb rfl) (mm_o40 hy)).trans rfl))))) ((wp_1).trans (wp_90))))))) ((wp_1).trans (wp_90)))))))))))))))))))))
theorem r_260_1 (vx0 : mm_V) (vx1 : mm_V) (vx2 : mm_V) (vx3 : mm_V) (vx4 : mm_V) {hi : mm_Id → Int → Int} {dh : Int → Int} {nx ns : Int} {Q : mm_V → mm_H → Prop} (hy : 10581 ≤ nx) :
    mm_Wp 260 (mm_blk 260 1) [vx0, vx1, vx2, vx3, vx4] [] (mm_z hi dh nx ns) Q =
    Q (zI (-1)) (mm_z hi dh nx ns) :=
  mm_kb bq_260_1 ((wp_1).trans (wp_90))
theorem r_260_4_4 (vx1 : mm_V) (vx2 : mm_V) (vx3 : mm_V) (x4 : Int) {hi : mm_Id → Int → Int} {dh : Int → Int} {nx ns : Int} {Q : mm_V → mm_H → Prop} (hy : 10581 ≤ nx) :
    mm_Wp 260 (bk_260_4.drop 4) [zR (40, 0, 0), vx1, vx2, vx3, zI x4] [] (mm_z hi dh nx ns) Q =
    mm_Cl 179 [zR (40, 0, 0), zI x4, zI 27] (mm_z hi dh nx ns) (fun r h3 => mm_Wp 260 (bk_260_4.drop 8) [zR (40, 0, 0), vx1, vx2, vx3, zI x4] (mm_push r []) h3 Q) :=
  (wp_5_0).trans ((wp_3_4).trans ((wp_1).trans ((wp_v3 mm_n_179 (mm_leq mm_m_179 (mm_lb rfl)) (mm_lb rfl) (mm_o40 hy)).trans rfl)))
theorem r_260_4_8 (vx1 : mm_V) (vx2 : mm_V) (vx3 : mm_V) (vx4 : mm_V) {hi : mm_Id → Int → Int} {dh : Int → Int} {nx ns : Int} {Q : mm_V → mm_H → Prop} (hy : 10581 ≤ nx) :
    mm_Wp 260 (bk_260_4.drop 8) [zR (40, 0, 0), vx1, vx2, vx3, vx4] [] (mm_z hi dh nx ns) Q =
    Q (zI 1) (mm_z (mm_up hi (40, 0, 0) 34 1) dh nx ns) :=
  (wp_5_0).trans ((wp_1).trans ((wp_64k (mm_o40 hy) (by decide)).trans ((wp_1).trans (wp_90))))
/-- PoolHouseModel.counts(II)Z -/
theorem bq_261_0 : mm_blk 261 0 = bk_261_0 := by decide +kernel
theorem bq_261_1 : mm_blk 261 1 = bk_261_1 := by decide +kernel
theorem bq_261_2 : mm_blk 261 2 = bk_261_2 := by decide +kernel
theorem bq_261_3 : mm_blk 261 3 = bk_261_3 := by decide +kernel
theorem r_261_e (x1 : Int) (x2 : Int) {hi : mm_Id → Int → Int} {dh : Int → Int} {nx ns : Int} {Q : mm_V → mm_H → Prop} (hy : 10581 ≤ nx) :
    mm_Cl 261 [zR (40, 0, 0), zI x1, zI x2] (mm_z hi dh nx ns) Q =
    mm_Cl 175 [zI x1, zI x2] (mm_z hi dh nx ns) (fun r h3 => mm_Wp 261 (bk_261_0.drop 5) [zR (40, 0, 0), zI x1, zI x2] (mm_push r [zR (41, 0, 0)]) h3 Q) :=
  mm_ce (l2 := [zR (40, 0, 0), zI x1, zI x2]) rfl (mm_kb bq_261_0 ((wp_5_0).trans ((wp_62 (by decide) (mm_o40 hy) (mm_r40_2 hy)).trans ((wp_3_1).trans ((wp_3_2).trans ((wp_s2 mm_n_175 (mm_leq mm_m_175 (mm_lb rfl)) (mm_lb rfl)).trans rfl))))))
theorem r_261_0_5 (x1 : Int) (x2 : Int) (y0 : Int) {hi : mm_Id → Int → Int} {dh : Int → Int} {nx ns : Int} {Q : mm_V → mm_H → Prop} (hy : 10581 ≤ nx) :
    mm_Wp 261 (bk_261_0.drop 5) [zR (40, 0, 0), zI x1, zI x2] [zI y0, zR (41, 0, 0)] (mm_z hi dh nx ns) Q =
    ((0 ≤ y0 ∧ y0 < 1044) ∧ (if 0 < (hi (41, 0, 0) y0) then mm_Cl 175 [zI x1, zI x2] (mm_z hi dh nx ns) (fun r h3 => mm_Wp 261 (bk_261_0.drop 12) [zR (40, 0, 0), zI x1, zI x2] (mm_push r [zR (41, 0, 0)]) h3 Q) else mm_Wp 261 (mm_blk 261 2) [zR (40, 0, 0), zI x1, zI x2] [] (mm_z hi dh nx ns) Q)) :=
  (wp_70 (mm_q41 hy)).trans (mm_ae ((wp_45).trans (mm_ic ((wp_5_0).trans ((wp_62 (by decide) (mm_o40 hy) (mm_r40_2 hy)).trans ((wp_3_1).trans ((wp_3_2).trans ((wp_s2 mm_n_175 (mm_leq mm_m_175 (mm_lb rfl)) (mm_lb rfl)).trans rfl))))) (rfl))))
theorem r_261_2 (vx0 : mm_V) (vx1 : mm_V) (vx2 : mm_V) {hi : mm_Id → Int → Int} {dh : Int → Int} {nx ns : Int} {Q : mm_V → mm_H → Prop} (hy : 10581 ≤ nx) :
    mm_Wp 261 (mm_blk 261 2) [vx0, vx1, vx2] [] (mm_z hi dh nx ns) Q =
    mm_Wp 261 (mm_blk 261 3) [vx0, vx1, vx2] [zI 0] (mm_z hi dh nx ns) Q :=
  mm_kb bq_261_2 ((wp_1).trans ((wp_0).trans (rfl)))
theorem r_261_0_12 (x1 : Int) (x2 : Int) (y0 : Int) {hi : mm_Id → Int → Int} {dh : Int → Int} {nx ns : Int} {Q : mm_V → mm_H → Prop} (hy : 10581 ≤ nx) :
    mm_Wp 261 (bk_261_0.drop 12) [zR (40, 0, 0), zI x1, zI x2] [zI y0, zR (41, 0, 0)] (mm_z hi dh nx ns) Q =
    ((0 ≤ y0 ∧ y0 < 1044) ∧ (if (hi (41, 0, 0) y0) = 1 then mm_Cl 188 [zR (40, 0, 0), zI x1, zI x2] (mm_z hi dh nx ns) (fun r h3 => mm_Wp 261 (bk_261_0.drop 19) [zR (40, 0, 0), zI x1, zI x2] (mm_push r []) h3 Q) else mm_Wp 261 (mm_blk 261 1) [zR (40, 0, 0), zI x1, zI x2] [] (mm_z hi dh nx ns) Q)) :=
  (wp_70 (mm_q41 hy)).trans (mm_ae ((wp_1).trans ((wp_47).trans (mm_ic ((wp_5_0).trans ((wp_3_1).trans ((wp_3_2).trans ((wp_v3 mm_n_188 (mm_leq mm_m_188 (mm_lb rfl)) (mm_lb rfl) (mm_o40 hy)).trans rfl)))) (rfl)))))
theorem r_261_3 (vx0 : mm_V) (vx1 : mm_V) (vx2 : mm_V) (y0 : Int) {hi : mm_Id → Int → Int} {dh : Int → Int} {nx ns : Int} {Q : mm_V → mm_H → Prop} (hy : 10581 ≤ nx) :
    mm_Wp 261 (mm_blk 261 3) [vx0, vx1, vx2] [zI y0] (mm_z hi dh nx ns) Q =
    ((y0 = 0 ∨ y0 = 1) ∧ Q (zI y0) (mm_z hi dh nx ns)) :=
  mm_kb bq_261_3 (wp_94z)
theorem r_261_1 (vx0 : mm_V) (vx1 : mm_V) (vx2 : mm_V) {hi : mm_Id → Int → Int} {dh : Int → Int} {nx ns : Int} {Q : mm_V → mm_H → Prop} (hy : 10581 ≤ nx) :
    mm_Wp 261 (mm_blk 261 1) [vx0, vx1, vx2] [] (mm_z hi dh nx ns) Q =
    mm_Wp 261 (mm_blk 261 3) [vx0, vx1, vx2] [zI 1] (mm_z hi dh nx ns) Q :=
  mm_kb bq_261_1 ((wp_1).trans ((wp_56).trans (rfl)))
theorem r_261_0_19 (vx0 : mm_V) (vx1 : mm_V) (vx2 : mm_V) (y0 : Int) {hi : mm_Id → Int → Int} {dh : Int → Int} {nx ns : Int} {Q : mm_V → mm_H → Prop} (hy : 10581 ≤ nx) :
    mm_Wp 261 (bk_261_0.drop 19) [vx0, vx1, vx2] [zI y0] (mm_z hi dh nx ns) Q =
    (if 0 < y0 then mm_Wp 261 (mm_blk 261 1) [vx0, vx1, vx2] [] (mm_z hi dh nx ns) Q else mm_Wp 261 (mm_blk 261 2) [vx0, vx1, vx2] [] (mm_z hi dh nx ns) Q) :=
  (wp_45).trans (mm_ic ((wp_0).trans (rfl)) (rfl))
/-- PoolHouseModel.isFrom(I)Z -/
theorem bq_262_0 : mm_blk 262 0 = bk_262_0 := by decide +kernel
theorem bq_262_1 : mm_blk 262 1 = bk_262_1 := by decide +kernel
theorem bq_262_2 : mm_blk 262 2 = bk_262_2 := by decide +kernel
theorem bq_262_3 : mm_blk 262 3 = bk_262_3 := by decide +kernel
theorem bq_262_4 : mm_blk 262 4 = bk_262_4 := by decide +kernel
theorem bq_262_5 : mm_blk 262 5 = bk_262_5 := by decide +kernel
theorem r_262_e (x1 : Int) {hi : mm_Id → Int → Int} {dh : Int → Int} {nx ns : Int} {Q : mm_V → mm_H → Prop} (hy : 10581 ≤ nx) :
    mm_Cl 262 [zR (40, 0, 0), zI x1] (mm_z hi dh nx ns) Q =
    mm_Wp 262 (mm_blk 262 1) [zR (40, 0, 0), zI x1, zI (hi (40, 0, 0) 34), zI 1, zU] [] (mm_z hi dh nx ns) Q :=
  mm_ce (l2 := [zR (40, 0, 0), zI x1, zU, zU, zU]) rfl (mm_kb bq_262_0 ((wp_5_0).trans ((wp_60 (by decide) (mm_o40 hy)).trans ((wp_6 (l2 := [zR (40, 0, 0), zI x1, zI (hi (40, 0, 0) 34), zU, zU]) rfl).trans ((wp_1).trans ((wp_6 (l2 := [zR (40, 0, 0), zI x1, zI (hi (40, 0, 0) 34), zI 1, zU]) rfl).trans ((wp_0).trans (rfl))))))))
theorem r_262_1 (x1 : Int) (x2 : Int) (x3 : Int) (vx4 : mm_V) {hi : mm_Id → Int → Int} {dh : Int → Int} {nx ns : Int} {Q : mm_V → mm_H → Prop} (hy : 10581 ≤ nx) :
    mm_Wp 262 (mm_blk 262 1) [zR (40, 0, 0), zI x1, zI x2, zI x3, vx4] [] (mm_z hi dh nx ns) Q =
    (if 36 < x3 then mm_Wp 262 (mm_blk 262 5) [zR (40, 0, 0), zI x1, zI x2, zI x3, vx4] [] (mm_z hi dh nx ns) Q else (if x2 = 0 then mm_Wp 262 (mm_blk 262 5) [zR (40, 0, 0), zI x1, zI x2, zI x3, vx4] [] (mm_z hi dh nx ns) Q else mm_Cl 261 [zR (40, 0, 0), zI x1, zI x3] (mm_z hi dh nx ns) (fun r h3 => mm_Wp 262 (bk_262_1.drop 9) [zR (40, 0, 0), zI x1, zI x2, zI x3, vx4] (mm_push r []) h3 Q))) :=
  mm_kb bq_262_1 ((wp_3_3).trans ((wp_1).trans ((wp_50).trans (mm_ic (rfl) ((wp_3_2).trans ((wp_40).trans (mm_ic (rfl) ((wp_5_0).trans ((wp_3_1).trans ((wp_3_3).trans ((wp_v3 mm_n_261 (mm_leq mm_m_261 (mm_lb rfl)) (mm_lb rfl) (mm_o40 hy)).trans rfl)))))))))))
theorem r_262_5 (vx0 : mm_V) (vx1 : mm_V) (x2 : Int) (vx3 : mm_V) (vx4 : mm_V) {hi : mm_Id → Int → Int} {dh : Int → Int} {nx ns : Int} {Q : mm_V → mm_H → Prop} (hy : 10581 ≤ nx) :
    mm_Wp 262 (mm_blk 262 5) [vx0, vx1, zI x2, vx3, vx4] [] (mm_z hi dh nx ns) Q =
    ((x2 = 0 ∨ x2 = 1) ∧ Q (zI x2) (mm_z hi dh nx ns)) :=
  mm_kb bq_262_5 ((wp_3_2).trans (wp_94z))
theorem r_262_1_9 (x1 : Int) (vx2 : mm_V) (x3 : Int) (vx4 : mm_V) (y0 : Int) {hi : mm_Id → Int → Int} {dh : Int → Int} {nx ns : Int} {Q : mm_V → mm_H → Prop} (hy : 10581 ≤ nx) :
    mm_Wp 262 (bk_262_1.drop 9) [zR (40, 0, 0), zI x1, vx2, zI x3, vx4] [zI y0] (mm_z hi dh nx ns) Q =
    mm_Cl 261 [zR (40, 0, 0), zI 26, zI x3] (mm_z hi dh nx ns) (fun r h3 => mm_Wp 262 (bk_262_1.drop 15) [zR (40, 0, 0), zI x1, vx2, zI x3, zI y0] (mm_push r [zI y0]) h3 Q) :=
  (wp_6 (l2 := [zR (40, 0, 0), zI x1, vx2, zI x3, zI y0]) rfl).trans ((wp_3_4).trans ((wp_5_0).trans ((wp_1).trans ((wp_3_3).trans ((wp_v3 mm_n_261 (mm_leq mm_m_261 (mm_lb rfl)) (mm_lb rfl) (mm_o40 hy)).trans rfl)))))
theorem r_262_1_15 (x1 : Int) (vx2 : mm_V) (x3 : Int) (x4 : Int) (y0 : Int) (y1 : Int) {hi : mm_Id → Int → Int} {dh : Int → Int} {nx ns : Int} {Q : mm_V → mm_H → Prop} (hy : 10581 ≤ nx) :
    mm_Wp 262 (bk_262_1.drop 15) [zR (40, 0, 0), zI x1, vx2, zI x3, zI x4] [zI y0, zI y1] (mm_z hi dh nx ns) Q =
    (if y1 = y0 then (if x4 = 0 then mm_Wp 262 (mm_blk 262 2) [zR (40, 0, 0), zI x1, vx2, zI x3, zI x4] [] (mm_z hi dh nx ns) Q else mm_Cl 258 [zR (40, 0, 0), zI x1, zI 26, zI x3] (mm_z hi dh nx ns) (fun r h3 => mm_Wp 262 (bk_262_1.drop 23) [zR (40, 0, 0), zI x1, vx2, zI x3, zI x4] (mm_push r []) h3 Q)) else mm_Wp 262 (mm_blk 262 3) [zR (40, 0, 0), zI x1, vx2, zI x3, zI x4] [] (mm_z hi dh nx ns) Q) :=
  (wp_47).trans (mm_ic ((wp_3_4).trans ((wp_40).trans (mm_ic (rfl) ((wp_5_0).trans ((wp_3_1).trans ((wp_1).trans ((wp_3_3).trans ((wp_v4 mm_n_258 (mm_leq mm_m_258 (mm_lb rfl)) (mm_lb rfl) (mm_o40 hy)).trans rfl)))))))) (rfl))
theorem r_262_3 (x1 : Int) (vx2 : mm_V) (x3 : Int) (vx4 : mm_V) {hi : mm_Id → Int → Int} {dh : Int → Int} {nx ns : Int} {Q : mm_V → mm_H → Prop} (hy : 10581 ≤ nx) :
    mm_Wp 262 (mm_blk 262 3) [zR (40, 0, 0), zI x1, vx2, zI x3, vx4] [] (mm_z hi dh nx ns) Q =
    mm_Wp 262 (mm_blk 262 4) [zR (40, 0, 0), zI x1, vx2, zI x3, vx4] [zI 0] (mm_z hi dh nx ns) Q :=
  mm_kb bq_262_3 ((wp_1).trans ((wp_0).trans (rfl)))
theorem r_262_2 (x1 : Int) (vx2 : mm_V) (x3 : Int) (vx4 : mm_V) {hi : mm_Id → Int → Int} {dh : Int → Int} {nx ns : Int} {Q : mm_V → mm_H → Prop} (hy : 10581 ≤ nx) :
    mm_Wp 262 (mm_blk 262 2) [zR (40, 0, 0), zI x1, vx2, zI x3, vx4] [] (mm_z hi dh nx ns) Q =
    mm_Wp 262 (mm_blk 262 4) [zR (40, 0, 0), zI x1, vx2, zI x3, vx4] [zI 1] (mm_z hi dh nx ns) Q :=
  mm_kb bq_262_2 ((wp_1).trans ((wp_56).trans (rfl)))
theorem r_262_1_23 (x1 : Int) (vx2 : mm_V) (x3 : Int) (vx4 : mm_V) (y0 : Int) {hi : mm_Id → Int → Int} {dh : Int → Int} {nx ns : Int} {Q : mm_V → mm_H → Prop} (hy : 10581 ≤ nx) :
    mm_Wp 262 (bk_262_1.drop 23) [zR (40, 0, 0), zI x1, vx2, zI x3, vx4] [zI y0] (mm_z hi dh nx ns) Q =
    (if y0 = 0 then mm_Wp 262 (mm_blk 262 3) [zR (40, 0, 0), zI x1, vx2, zI x3, vx4] [] (mm_z hi dh nx ns) Q else mm_Wp 262 (mm_blk 262 2) [zR (40, 0, 0), zI x1, vx2, zI x3, vx4] [] (mm_z hi dh nx ns) Q) :=
  (wp_40).trans (mm_ic (rfl) ((wp_0).trans (rfl)))
theorem r_262_4 (x1 : Int) (vx2 : mm_V) (x3 : Int) (vx4 : mm_V) (y0 : Int) {hi : mm_Id → Int → Int} {dh : Int → Int} {nx ns : Int} {Q : mm_V → mm_H → Prop} (hy : 10581 ≤ nx) :
    mm_Wp 262 (mm_blk 262 4) [zR (40, 0, 0), zI x1, vx2, zI x3, vx4] [zI y0] (mm_z hi dh nx ns) Q =
    mm_Wp 262 (mm_blk 262 1) [zR (40, 0, 0), zI x1, zI y0, zI (mm_w (x3 + 1)), vx4] [] (mm_z hi dh nx ns) Q :=
  mm_kb bq_262_4 ((wp_6 (l2 := [zR (40, 0, 0), zI x1, zI y0, zI x3, vx4]) rfl).trans ((wp_9 (l2 := [zR (40, 0, 0), zI x1, zI y0, zI (mm_w (x3 + 1)), vx4]) rfl rfl).trans ((wp_56).trans (rfl))))
/-- PoolHouseModel.isPieceLike(II)Z -/
theorem bq_263_0 : mm_blk 263 0 = bk_263_0 := by decide +kernel
theorem bq_263_1 : mm_blk 263 1 = bk_263_1 := by decide +kernel
theorem bq_263_2 : mm_blk 263 2 = bk_263_2 := by decide +kernel
theorem bq_263_3 : mm_blk 263 3 = bk_263_3 := by decide +kernel
theorem bq_263_4 : mm_blk 263 4 = bk_263_4 := by decide +kernel
theorem r_263_e (x1 : Int) (x2 : Int) {hi : mm_Id → Int → Int} {dh : Int → Int} {nx ns : Int} {Q : mm_V → mm_H → Prop} (hy : 10581 ≤ nx) :
    mm_Cl 263 [zR (40, 0, 0), zI x1, zI x2] (mm_z hi dh nx ns) Q =
    mm_Wp 263 (mm_blk 263 1) [zR (40, 0, 0), zI x1, zI x2, zI 1, zI 0] [] (mm_z hi dh nx ns) Q :=
  mm_ce (l2 := [zR (40, 0, 0), zI x1, zI x2, zU, zU]) rfl (mm_kb bq_263_0 ((wp_1).trans ((wp_6 (l2 := [zR (40, 0, 0), zI x1, zI x2, zI 1, zU]) rfl).trans ((wp_1).trans ((wp_6 (l2 := [zR (40, 0, 0), zI x1, zI x2, zI 1, zI 0]) rfl).trans ((wp_0).trans (rfl)))))))
theorem r_263_1 (x1 : Int) (x2 : Int) (x3 : Int) (x4 : Int) {hi : mm_Id → Int → Int} {dh : Int → Int} {nx ns : Int} {Q : mm_V → mm_H → Prop} (hy : 10581 ≤ nx) :
    mm_Wp 263 (mm_blk 263 1) [zR (40, 0, 0), zI x1, zI x2, zI x3, zI x4] [] (mm_z hi dh nx ns) Q =
    (if x4 < 60 then (if x3 = 0 then mm_Wp 263 (mm_blk 263 4) [zR (40, 0, 0), zI x1, zI x2, zI x3, zI x4] [] (mm_z hi dh nx ns) Q else ((0 ≤ (mm_w ((mm_w (60 * x1)) + x4)) ∧ (mm_w ((mm_w (60 * x1)) + x4)) < 180060) ∧ ((0 ≤ (mm_w ((mm_w (60 * x2)) + x4)) ∧ (mm_w ((mm_w (60 * x2)) + x4)) < 180060) ∧ (if (hi (54, 0, 0) (mm_w ((mm_w (60 * x1)) + x4))) = (hi (54, 0, 0) (mm_w ((mm_w (60 * x2)) + x4))) then mm_Wp 263 (mm_blk 263 3) [zR (40, 0, 0), zI x1, zI x2, zI x3, zI x4] [zI 1] (mm_z hi dh nx ns) Q else mm_Wp 263 (mm_blk 263 3) [zR (40, 0, 0), zI x1, zI x2, zI x3, zI x4] [zI 0] (mm_z hi dh nx ns) Q)))) else mm_Wp 263 (mm_blk 263 4) [zR (40, 0, 0), zI x1, zI x2, zI x3, zI x4] [] (mm_z hi dh nx ns) Q) :=
  mm_kb bq_263_1 ((wp_3_4).trans ((wp_1).trans ((wp_49).trans (mm_ic ((wp_3_3).trans ((wp_40).trans (mm_ic (rfl) ((wp_5_0).trans ((wp_62 (by decide) (mm_o40 hy) (mm_r40_15 hy)).trans ((wp_1).trans ((wp_3_1).trans ((wp_12).trans ((wp_3_4).trans ((wp_10).trans ((wp_71 (mm_q54 hy)).trans (mm_ae ((wp_5_0).trans ((wp_62 (by decide) (mm_o40 hy) (mm_r40_15 hy)).trans ((wp_1).trans ((wp_3_2).trans ((wp_12).trans ((wp_3_4).trans ((wp_10).trans ((wp_71 (mm_q54 hy)).trans (mm_ae ((wp_47).trans (mm_ic ((wp_1).trans ((wp_56).trans (rfl))) (mm_kb bq_263_2 ((wp_1).trans ((wp_0).trans (rfl))))))))))))))))))))))))))) (rfl)))))
theorem r_263_4 (vx0 : mm_V) (vx1 : mm_V) (vx2 : mm_V) (x3 : Int) (vx4 : mm_V) {hi : mm_Id → Int → Int} {dh : Int → Int} {nx ns : Int} {Q : mm_V → mm_H → Prop} (hy : 10581 ≤ nx) :
    mm_Wp 263 (mm_blk 263 4) [vx0, vx1, vx2, zI x3, vx4] [] (mm_z hi dh nx ns) Q =
    ((x3 = 0 ∨ x3 = 1) ∧ Q (zI x3) (mm_z hi dh nx ns)) :=
  mm_kb bq_263_4 ((wp_3_3).trans (wp_94z))
theorem r_263_3 (x1 : Int) (x2 : Int) (vx3 : mm_V) (x4 : Int) (y0 : Int) {hi : mm_Id → Int → Int} {dh : Int → Int} {nx ns : Int} {Q : mm_V → mm_H → Prop} (hy : 10581 ≤ nx) :
    mm_Wp 263 (mm_blk 263 3) [zR (40, 0, 0), zI x1, zI x2, vx3, zI x4] [zI y0] (mm_z hi dh nx ns) Q =
    mm_Wp 263 (mm_blk 263 1) [zR (40, 0, 0), zI x1, zI x2, zI y0, zI (mm_w (x4 + 1))] [] (mm_z hi dh nx ns) Q :=
  mm_kb bq_263_3 ((wp_6 (l2 := [zR (40, 0, 0), zI x1, zI x2, zI y0, zI x4]) rfl).trans ((wp_9 (l2 := [zR (40, 0, 0), zI x1, zI x2, zI y0, zI (mm_w (x4 + 1))]) rfl rfl).trans ((wp_56).trans (rfl))))
/-- PoolHouseModel.receive(I)I -/
theorem bq_264_0 : mm_blk 264 0 = bk_264_0 := by decide +kernel
theorem bq_264_1 : mm_blk 264 1 = bk_264_1 := by decide +kernel
theorem bq_264_2 : mm_blk 264 2 = bk_264_2 := by decide +kernel
theorem bq_264_3 : mm_blk 264 3 = bk_264_3 := by decide +kernel
theorem bq_264_4 : mm_blk 264 4 = bk_264_4 := by decide +kernel
theorem bq_264_5 : mm_blk 264 5 = bk_264_5 := by decide +kernel
theorem bq_264_6 : mm_blk 264 6 = bk_264_6 := by decide +kernel
theorem bq_264_7 : mm_blk 264 7 = bk_264_7 := by decide +kernel
theorem bq_264_8 : mm_blk 264 8 = bk_264_8 := by decide +kernel
theorem bq_264_9 : mm_blk 264 9 = bk_264_9 := by decide +kernel
theorem bq_264_10 : mm_blk 264 10 = bk_264_10 := by decide +kernel
theorem bq_264_11 : mm_blk 264 11 = bk_264_11 := by decide +kernel
theorem bq_264_12 : mm_blk 264 12 = bk_264_12 := by decide +kernel
theorem bq_264_13 : mm_blk 264 13 = bk_264_13 := by decide +kernel
theorem bq_264_14 : mm_blk 264 14 = bk_264_14 := by decide +kernel
theorem bq_264_15 : mm_blk 264 15 = bk_264_15 := by decide +kernel
theorem bq_264_16 : mm_blk 264 16 = bk_264_16 := by decide +kernel
theorem bq_264_17 : mm_blk 264 17 = bk_264_17 := by decide +kernel
theorem bq_264_18 : mm_blk 264 18 = bk_264_18 := by decide +kernel
theorem bq_264_19 : mm_blk 264 19 = bk_264_19 := by decide +kernel
theorem r_264_e (x1 : Int) {hi : mm_Id → Int → Int} {dh : Int → Int} {nx ns : Int} {Q : mm_V → mm_H → Prop} (hy : 10581 ≤ nx) :
    mm_Cl 264 [zR (40, 0, 0), zI x1] (mm_z hi dh nx ns) Q =
    mm_Cl 182 [zR (40, 0, 0), zI x1] (mm_z (mm_up hi (40, 0, 0) 0 0) dh nx ns) (fun r h3 => mm_Wp 264 (bk_264_0.drop 6) [zR (40, 0, 0), zI x1, zU, zU, zU, zU, zU, zU, zU, zU, zU, zU] (mm_push r []) h3 Q) :=
  mm_ce (l2 := [zR (40, 0, 0), zI x1, zU, zU, zU, zU, zU, zU, zU, zU, zU, zU]) rfl (mm_kb bq_264_0 ((wp_5_0).trans ((wp_1).trans ((wp_63 (mm_o40 hy)).trans ((wp_5_0).trans ((wp_3_1).trans ((wp_v2 mm_n_182 (mm_leq mm_m_182 (mm_lb rfl)) (mm_lb rfl) (mm_o40 hy)).trans rfl)))))))
theorem r_264_0_6 (vx1 : mm_V) (vx2 : mm_V) (vx3 : mm_V) (vx4 : mm_V) (vx5 : mm_V) (vx6 : mm_V) (vx7 : mm_V) (vx8 : mm_V) (vx9 : mm_V) (vx10 : mm_V) (vx11 : mm_V) (y0 : Int) {hi : mm_Id → Int → Int} {dh : Int → Int} {nx ns : Int} {Q : mm_V → mm_H → Prop} (hvx1 : mm_wt vx1 = 1) (hy : 10581 ≤ nx) :
    mm_Wp 264 (bk_264_0.drop 6) [zR (40, 0, 0), vx1, vx2, vx3, vx4, vx5, vx6, vx7, vx8, vx9, vx10, vx11] [zI y0] (mm_z hi dh nx ns) Q =
    (if y0 < 0 then Q (zI (-1)) (mm_z hi dh nx ns) else mm_Cl 262 [zR (40, 0, 0), zI y0] (mm_z hi dh nx ns) (fun r h3 => mm_Wp 264 (bk_264_1.drop 3) [zR (40, 0, 0), vx1, zI y0, vx3, vx4, vx5, vx6, vx7, vx8, vx9, vx10, vx11] (mm_push r []) h3 Q)) :=
  (wp_6 (l2 := [zR (40, 0, 0), vx1, zI y0, vx3, vx4, vx5, vx6, vx7, vx8, vx9, vx10, vx11]) ((if_pos (mm_lb rfl)).trans (congrArg some (mm_stw rfl hvx1)))).trans ((wp_3_2).trans ((wp_43).trans (mm_ic ((wp_1).trans (wp_90)) (mm_kb bq_264_1 ((wp_5_0).trans ((wp_3_2).trans ((wp_v2 mm_n_262 (mm_leq mm_m_262 (mm_lb rfl)) (mm_lb rfl) (mm_o40 hy)).trans rfl)))))))
theorem r_264_1_3 (vx1 : mm_V) (x2 : Int) (vx3 : mm_V) (vx4 : mm_V) (vx5 : mm_V) (vx6 : mm_V) (vx7 : mm_V) (vx8 : mm_V) (vx9 : mm_V) (vx10 : mm_V) (vx11 : mm_V) (y0 : Int) {hi : mm_Id → Int → Int} {dh : Int → Int} {nx ns : Int} {Q : mm_V → mm_H → Prop} (hy : 10581 ≤ nx) :
    mm_Wp 264 (bk_264_1.drop 3) [zR (40, 0, 0), vx1, zI x2, vx3, vx4, vx5, vx6, vx7, vx8, vx9, vx10, vx11] [zI y0] (mm_z hi dh nx ns) Q =
    (if y0 = 0 then Q (zI (-3)) (mm_z hi dh nx ns) else (if (hi (40, 0, 0) 29) = 0 then mm_Cl 179 [zR (40, 0, 0), zI x2, zI 28] (mm_z hi dh nx ns) (fun r h3 => mm_Wp 264 (bk_264_3.drop 4) [zR (40, 0, 0), vx1, zI x2, vx3, vx4, vx5, vx6, vx7, vx8, vx9, vx10, vx11] (mm_push r []) h3 Q) else Q (zI (-5)) (mm_z hi dh nx ns))) :=
  (wp_41).trans (mm_ic ((wp_1).trans (wp_90)) (mm_kb bq_264_2 ((wp_5_0).trans ((wp_60 (by decide) (mm_o40 hy)).trans ((wp_40).trans (mm_ic (mm_kb bq_264_3 ((wp_5_0).trans ((wp_3_2).trans ((wp_1).trans ((wp_v3 mm_n_179 (mm_leq mm_m_179 (mm_lb rfl)) (mm_lb rfl) (mm_o40 hy)).trans rfl))))) ((wp_1).trans (wp_90))))))))
theorem r_264_3_4 (vx1 : mm_V) (x2 : Int) (vx3 : mm_V) (vx4 : mm_V) (vx5 : mm_V) (vx6 : mm_V) (vx7 : mm_V) (vx8 : mm_V) (vx9 : mm_V) (vx10 : mm_V) (vx11 : mm_V) {hi : mm_Id → Int → Int} {dh : Int → Int} {nx ns : Int} {Q : mm_V → mm_H → Prop} (hy : 10581 ≤ nx) :
    mm_Wp 264 (bk_264_3.drop 4) [zR (40, 0, 0), vx1, zI x2, vx3, vx4, vx5, vx6, vx7, vx8, vx9, vx10, vx11] [] (mm_z hi dh nx ns) Q =
    mm_Wp 264 (mm_blk 264 4) [zR (40, 0, 0), vx1, zI x2, zI 0, zI 1, vx5, vx6, vx7, vx8, vx9, vx10, vx11] [] (mm_z hi dh nx ns) Q :=
  (wp_1).trans ((wp_6 (l2 := [zR (40, 0, 0), vx1, zI x2, zI 0, vx4, vx5, vx6, vx7, vx8, vx9, vx10, vx11]) rfl).trans ((wp_1).trans ((wp_6 (l2 := [zR (40, 0, 0), vx1, zI x2, zI 0, zI 1, vx5, vx6, vx7, vx8, vx9, vx10, vx11]) rfl).trans ((wp_0).trans (rfl)))))
theorem r_264_4 (vx1 : mm_V) (x2 : Int) (x3 : Int) (x4 : Int) (vx5 : mm_V) (vx6 : mm_V) (vx7 : mm_V) (vx8 : mm_V) (vx9 : mm_V) (vx10 : mm_V) (vx11 : mm_V) {hi : mm_Id → Int → Int} {dh : Int → Int} {nx ns : Int} {Q : mm_V → mm_H → Prop} (hy : 10581 ≤ nx) :
    mm_Wp 264 (mm_blk 264 4) [zR (40, 0, 0), vx1, zI x2, zI x3, zI x4, vx5, vx6, vx7, vx8, vx9, vx10, vx11] [] (mm_z hi dh nx ns) Q =
    (if 36 < x4 then mm_Cl 201 [zR (40, 0, 0), zI x2] (mm_z hi dh nx ns) (fun r h3 => mm_Wp 264 (bk_264_18.drop 3) [zR (40, 0, 0), vx1, zI x2, zI x3, zI x4, vx5, vx6, vx7, vx8, vx9, vx10, vx11] (mm_push r []) h3 Q) else mm_Cl 175 [zI x2, zI x4] (mm_z hi dh nx ns) (fun r h3 => mm_Wp 264 (bk_264_4.drop 6) [zR (40, 0, 0), vx1, zI x2, zI x3, zI x4, vx5, vx6, vx7, vx8, vx9, vx10, vx11] (mm_push r []) h3 Q)) :=
  mm_kb bq_264_4 ((wp_3_4).trans ((wp_1).trans ((wp_50).trans (mm_ic (mm_kb bq_264_18 ((wp_5_0).trans ((wp_3_2).trans ((wp_v2 mm_n_201 (mm_leq mm_m_201 (mm_lb rfl)) (mm_lb rfl) (mm_o40 hy)).trans rfl)))) ((wp_3_2).trans ((wp_3_4).trans ((wp_s2 mm_n_175 (mm_leq mm_m_175 (mm_lb rfl)) (mm_lb rfl)).trans rfl)))))))
theorem r_264_18_3 (vx1 : mm_V) (x2 : Int) (x3 : Int) (vx4 : mm_V) (vx5 : mm_V) (vx6 : mm_V) (vx7 : mm_V) (vx8 : mm_V) (vx9 : mm_V) (vx10 : mm_V) (vx11 : mm_V) (y0 : Int) {hi : mm_Id → Int → Int} {dh : Int → Int} {nx ns : Int} {Q : mm_V → mm_H → Prop} (hy : 10581 ≤ nx) :
    mm_Wp 264 (bk_264_18.drop 3) [zR (40, 0, 0), vx1, zI x2, zI x3, vx4, vx5, vx6, vx7, vx8, vx9, vx10, vx11] [zI y0] (mm_z hi dh nx ns) Q =
    (if y0 = 0 then mm_Cl 179 [zR (40, 0, 0), zI 28, zI x2] (mm_z hi dh nx ns) (fun r h3 => mm_Wp 264 (bk_264_18.drop 8) [zR (40, 0, 0), vx1, zI x2, zI x3, vx4, vx5, vx6, vx7, vx8, vx9, vx10, vx11] (mm_push r []) h3 Q) else mm_Cl 194 [zR (40, 0, 0), zI x2] (mm_z hi dh nx ns) (fun r h3 => mm_Wp 264 (bk_264_19.drop 3) [zR (40, 0, 0), vx1, zI x2, zI x3, vx4, vx5, vx6, vx7, vx8, vx9, vx10, vx11] (mm_push r []) h3 Q)) :=
  (wp_41).trans (mm_ic ((wp_5_0).trans ((wp_1).trans ((wp_3_2).trans ((wp_v3 mm_n_179 (mm_leq mm_m_179 (mm_lb rfl)) (mm_lb rfl) (mm_o40 hy)).trans rfl)))) (mm_kb bq_264_19 ((wp_5_0).trans ((wp_3_2).trans ((wp_v2 mm_n_194 (mm_leq mm_m_194 (mm_lb rfl)) (mm_lb rfl) (mm_o40 hy)).trans rfl)))))
theorem r_264_4_6 (vx1 : mm_V) (x2 : Int) (x3 : Int) (x4 : Int) (vx5 : mm_V) (vx6 : mm_V) (vx7 : mm_V) (vx8 : mm_V) (vx9 : mm_V) (vx10 : mm_V) (vx11 : mm_V) (y0 : Int) {hi : mm_Id → Int → Int} {dh : Int → Int} {nx ns : Int} {Q : mm_V → mm_H → Prop} (hy : 10581 ≤ nx) :
    mm_Wp 264 (bk_264_4.drop 6) [zR (40, 0, 0), vx1, zI x2, zI x3, zI x4, vx5, vx6, vx7, vx8, vx9, vx10, vx11] [zI y0] (mm_z hi dh nx ns) Q =
    mm_Cl 261 [zR (40, 0, 0), zI 27, zI x4] (mm_z hi dh nx ns) (fun r h3 => mm_Wp 264 (bk_264_4.drop 11) [zR (40, 0, 0), vx1, zI x2, zI x3, zI x4, zI y0, vx6, vx7, vx8, vx9, vx10, vx11] (mm_push r []) h3 Q) :=
  (wp_6 (l2 := [zR (40, 0, 0), vx1, zI x2, zI x3, zI x4, zI y0, vx6, vx7, vx8, vx9, vx10, vx11]) rfl).trans ((wp_5_0).trans ((wp_1).trans ((wp_3_4).trans ((wp_v3 mm_n_261 (mm_leq mm_m_261 (mm_lb rfl)) (mm_lb rfl) (mm_o40 hy)).trans rfl))))
theorem r_264_19_3 (vx1 : mm_V) (vx2 : mm_V) (x3 : Int) (vx4 : mm_V) (vx5 : mm_V) (vx6 : mm_V) (vx7 : mm_V) (vx8 : mm_V) (vx9 : mm_V) (vx10 : mm_V) (vx11 : mm_V) {hi : mm_Id → Int → Int} {dh : Int → Int} {nx ns : Int} {Q : mm_V → mm_H → Prop} (hy : 10581 ≤ nx) :
    mm_Wp 264 (bk_264_19.drop 3) [zR (40, 0, 0), vx1, vx2, zI x3, vx4, vx5, vx6, vx7, vx8, vx9, vx10, vx11] [] (mm_z hi dh nx ns) Q =
    mm_Cl 208 [zR (40, 0, 0)] (mm_z hi dh nx ns) (fun r h3 => mm_Wp 264 (bk_264_19.drop 5) [zR (40, 0, 0), vx1, vx2, zI x3, vx4, vx5, vx6, vx7, vx8, vx9, vx10, vx11] (mm_push r []) h3 Q) :=
  (wp_5_0).trans ((wp_v1 mm_n_208 (mm_leq mm_m_208 (mm_lb rfl)) (mm_lb rfl) (mm_o40 hy)).trans rfl)
theorem r_264_18_8 (vx0 : mm_V) (vx1 : mm_V) (vx2 : mm_V) (vx3 : mm_V) (vx4 : mm_V) (vx5 : mm_V) (vx6 : mm_V) (vx7 : mm_V) (vx8 : mm_V) (vx9 : mm_V) (vx10 : mm_V) (vx11 : mm_V) {hi : mm_Id → Int → Int} {dh : Int → Int} {nx ns : Int} {Q : mm_V → mm_H → Prop} (hy : 10581 ≤ nx) :
    mm_Wp 264 (bk_264_18.drop 8) [vx0, vx1, vx2, vx3, vx4, vx5, vx6, vx7, vx8, vx9, vx10, vx11] [] (mm_z hi dh nx ns) Q =
    Q (zI (-4)) (mm_z hi dh nx ns) :=
  (wp_1).trans (wp_90)
theorem r_264_4_11 (vx1 : mm_V) (x2 : Int) (x3 : Int) (x4 : Int) (x5 : Int) (vx6 : mm_V) (vx7 : mm_V) (vx8 : mm_V) (vx9 : mm_V) (vx10 : mm_V) (vx11 : mm_V) (y0 : Int) {hi : mm_Id → Int → Int} {dh : Int → Int} {nx ns : Int} {Q : mm_V → mm_H → Prop} (hy : 10581 ≤ nx) :
    mm_Wp 264 (bk_264_4.drop 11) [zR (40, 0, 0), vx1, zI x2, zI x3, zI x4, zI x5, vx6, vx7, vx8, vx9, vx10, vx11] [zI y0] (mm_z hi dh nx ns) Q =
    (if y0 = 0 then mm_Cl 180 [zR (40, 0, 0), zI x5] (mm_z hi dh nx ns) (fun r h3 => mm_Wp 264 (bk_264_4.drop 15) [zR (40, 0, 0), vx1, zI x2, zI x3, zI x4, zI x5, vx6, vx7, vx8, vx9, vx10, vx11] (mm_push r []) h3 Q) else mm_Cl 175 [zI 27, zI x4] (mm_z hi dh nx ns) (fun r h3 => mm_Wp 264 (bk_264_5.drop 4) [zR (40, 0, 0), vx1, zI x2, zI x3, zI x4, zI x5, vx6, vx7, vx8, vx9, vx10, vx11] (mm_push r [zR (40, 0, 0)]) h3 Q)) :=
  (wp_41).trans (mm_ic ((wp_5_0).trans ((wp_3_5).trans ((wp_v2 mm_n_180 (mm_leq mm_m_180 (mm_lb rfl)) (mm_lb rfl) (mm_o40 hy)).trans rfl))) (mm_kb bq_264_5 ((wp_5_0).trans ((wp_1).trans ((wp_3_4).trans ((wp_s2 mm_n_175 (mm_leq mm_m_175 (mm_lb rfl)) (mm_lb rfl)).trans rfl))))))
theorem r_264_19_5 (vx0 : mm_V) (vx1 : mm_V) (vx2 : mm_V) (x3 : Int) (vx4 : mm_V) (vx5 : mm_V) (vx6 : mm_V) (vx7 : mm_V) (vx8 : mm_V) (vx9 : mm_V) (vx10 : mm_V) (vx11 : mm_V) {hi : mm_Id → Int → Int} {dh : Int → Int} {nx ns : Int} {Q : mm_V → mm_H → Prop} (hy : 10581 ≤ nx) :
    mm_Wp 264 (bk_264_19.drop 5) [vx0, vx1, vx2, zI x3, vx4, vx5, vx6, vx7, vx8, vx9, vx10, vx11] [] (mm_z hi dh nx ns) Q =
    Q (zI x3) (mm_z hi dh nx ns) :=
  (wp_3_3).trans (wp_90)
theorem r_264_5_4 (vx1 : mm_V) (x2 : Int) (x3 : Int) (x4 : Int) (x5 : Int) (vx6 : mm_V) (vx7 : mm_V) (vx8 : mm_V) (vx9 : mm_V) (vx10 : mm_V) (vx11 : mm_V) (y0 : Int) {hi : mm_Id → Int → Int} {dh : Int → Int} {nx ns : Int} {Q : mm_V → mm_H → Prop} (hy : 10581 ≤ nx) :
    mm_Wp 264 (bk_264_5.drop 4) [zR (40, 0, 0), vx1, zI x2, zI x3, zI x4, zI x5, vx6, vx7, vx8, vx9, vx10, vx11] [zI y0, zR (40, 0, 0)] (mm_z hi dh nx ns) Q =
    mm_Cl 178 [zR (40, 0, 0), zI y0, zI x5] (mm_z hi dh nx ns) (fun r h3 => mm_Wp 264 (bk_264_5.drop 6) [zR (40, 0, 0), vx1, zI x2, zI x3, zI x4, zI x5, vx6, vx7, vx8, vx9, vx10, vx11] (mm_push r []) h3 Q) :=
  (wp_3_5).trans ((wp_v3 mm_n_178 (mm_leq mm_m_178 (mm_lb rfl)) (mm_lb rfl) (mm_o40 hy)).trans rfl)
theorem r_264_4_15 (vx1 : mm_V) (x2 : Int) (x3 : Int) (x4 : Int) (vx5 : mm_V) (vx6 : mm_V) (vx7 : mm_V) (vx8 : mm_V) (vx9 : mm_V) (vx10 : mm_V) (vx11 : mm_V) {hi : mm_Id → Int → Int} {dh : Int → Int} {nx ns : Int} {Q : mm_V → mm_H → Prop} (hy : 10581 ≤ nx) :
    mm_Wp 264 (bk_264_4.drop 15) [zR (40, 0, 0), vx1, zI x2, zI x3, zI x4, vx5, vx6, vx7, vx8, vx9, vx10, vx11] [] (mm_z hi dh nx ns) Q =
    mm_Wp 264 (mm_blk 264 17) [zR (40, 0, 0), vx1, zI x2, zI x3, zI x4, vx5, vx6, vx7, vx8, vx9, vx10, vx11] [] (mm_z hi dh nx ns) Q :=
  (wp_56).trans (rfl)
theorem r_264_5_6 (vx1 : mm_V) (x2 : Int) (x3 : Int) (x4 : Int) (x5 : Int) (vx6 : mm_V) (vx7 : mm_V) (vx8 : mm_V) (vx9 : mm_V) (vx10 : mm_V) (vx11 : mm_V) {hi : mm_Id → Int → Int} {dh : Int → Int} {nx ns : Int} {Q : mm_V → mm_H → Prop} (hy : 10581 ≤ nx) :
    mm_Wp 264 (bk_264_5.drop 6) [zR (40, 0, 0), vx1, zI x2, zI x3, zI x4, zI x5, vx6, vx7, vx8, vx9, vx10, vx11] [] (mm_z hi dh nx ns) Q =
    ((0 ≤ x5 ∧ x5 < 1044) ∧ (if (hi (41, 0, 0) x5) = 1 then mm_Cl 175 [zI 28, zI x4] (mm_z hi dh nx ns) (fun r h3 => mm_Wp 264 (bk_264_6.drop 5) [zR (40, 0, 0), vx1, zI x2, zI x3, zI x4, zI x5, vx6, vx7, vx8, vx9, vx10, vx11] (mm_push r [zR (41, 0, 0)]) h3 Q) else mm_Wp 264 (mm_blk 264 17) [zR (40, 0, 0), vx1, zI x2, zI x3, zI x4, zI x5, vx6, vx7, vx8, vx9, vx10, vx11] [] (mm_z hi dh nx ns) Q)) :=
  (wp_5_0).trans ((wp_62 (by decide) (mm_o40 hy) (mm_r40_2 hy)).trans ((wp_3_5).trans ((wp_70 (mm_q41 hy)).trans (mm_ae ((wp_1).trans ((wp_46).trans (mm_ic (mm_kb bq_264_6 ((wp_5_0).trans ((wp_62 (by decide) (mm_o40 hy) (mm_r40_2 hy)).trans ((wp_1).trans ((wp_3_4).trans ((wp_s2 mm_n_175 (mm_leq mm_m_175 (mm_lb rfl)) (mm_lb rfl)).trans rfl)))))) ((wp_56).trans (rfl)))))))))
theorem r_264_17 (vx1 : mm_V) (x2 : Int) (x3 : Int) (x4 : Int) (vx5 : mm_V) (vx6 : mm_V) (vx7 : mm_V) (vx8 : mm_V) (vx9 : mm_V) (vx10 : mm_V) (vx11 : mm_V) {hi : mm_Id → Int → Int} {dh : Int → Int} {nx ns : Int} {Q : mm_V → mm_H → Prop} (hy : 10581 ≤ nx) :
    mm_Wp 264 (mm_blk 264 17) [zR (40, 0, 0), vx1, zI x2, zI x3, zI x4, vx5, vx6, vx7, vx8, vx9, vx10, vx11] [] (mm_z hi dh nx ns) Q =
    mm_Wp 264 (mm_blk 264 4) [zR (40, 0, 0), vx1, zI x2, zI x3, zI (mm_w (x4 + 1)), vx5, vx6, vx7, vx8, vx9, vx10, vx11] [] (mm_z hi dh nx ns) Q :=
  mm_kb bq_264_17 ((wp_9 (l2 := [zR (40, 0, 0), vx1, zI x2, zI x3, zI (mm_w (x4 + 1)), vx5, vx6, vx7, vx8, vx9, vx10, vx11]) rfl rfl).trans ((wp_56).trans (rfl)))
theorem r_264_6_5 (vx1 : mm_V) (x2 : Int) (x3 : Int) (x4 : Int) (x5 : Int) (vx6 : mm_V) (vx7 : mm_V) (vx8 : mm_V) (vx9 : mm_V) (vx10 : mm_V) (vx11 : mm_V) (y0 : Int) {hi : mm_Id → Int → Int} {dh : Int → Int} {nx ns : Int} {Q : mm_V → mm_H → Prop} (hy : 10581 ≤ nx) :
    mm_Wp 264 (bk_264_6.drop 5) [zR (40, 0, 0), vx1, zI x2, zI x3, zI x4, zI x5, vx6, vx7, vx8, vx9, vx10, vx11] [zI y0, zR (41, 0, 0)] (mm_z hi dh nx ns) Q =
    ((0 ≤ y0 ∧ y0 < 1044) ∧ (if (hi (41, 0, 0) y0) = 1 then mm_Cl 261 [zR (40, 0, 0), zI 28, zI x4] (mm_z hi dh nx ns) (fun r h3 => mm_Wp 264 (bk_264_6.drop 12) [zR (40, 0, 0), vx1, zI x2, zI x3, zI x4, zI x5, vx6, vx7, vx8, vx9, vx10, vx11] (mm_push r []) h3 Q) else mm_Wp 264 (mm_blk 264 7) [zR (40, 0, 0), vx1, zI x2, zI x3, zI x4, zI x5, vx6, vx7, vx8, vx9, vx10, vx11] [] (mm_z hi dh nx ns) Q)) :=
  (wp_70 (mm_q41 hy)).trans (mm_ae ((wp_1).trans ((wp_47).trans (mm_ic ((wp_5_0).trans ((wp_1).trans ((wp_3_4).trans ((wp_v3 mm_n_261 (mm_leq mm_m_261 (mm_lb rfl)) (mm_lb rfl) (mm_o40 hy)).trans rfl)))) (rfl)))))
theorem r_264_7 (vx1 : mm_V) (x2 : Int) (x3 : Int) (x4 : Int) (x5 : Int) (vx6 : mm_V) (vx7 : mm_V) (vx8 : mm_V) (vx9 : mm_V) (vx10 : mm_V) (vx11 : mm_V) {hi : mm_Id → Int → Int} {dh : Int → Int} {nx ns : Int} {Q : mm_V → mm_H → Prop} (hy : 10581 ≤ nx) :
    mm_Wp 264 (mm_blk 264 7) [zR (40, 0, 0), vx1, zI x2, zI x3, zI x4, zI x5, vx6, vx7, vx8, vx9, vx10, vx11] [] (mm_z hi dh nx ns) Q =
    mm_Wp 264 (mm_blk 264 8) [zR (40, 0, 0), vx1, zI x2, zI x3, zI x4, zI x5, vx6, vx7, vx8, vx9, vx10, vx11] [zI 0] (mm_z hi dh nx ns) Q :=
  mm_kb bq_264_7 ((wp_1).trans ((wp_0).trans (rfl)))
theorem r_264_6_12 (vx1 : mm_V) (x2 : Int) (x3 : Int) (x4 : Int) (x5 : Int) (vx6 : mm_V) (vx7 : mm_V) (vx8 : mm_V) (vx9 : mm_V) (vx10 : mm_V) (vx11 : mm_V) (y0 : Int) {hi : mm_Id → Int → Int} {dh : Int → Int} {nx ns : Int} {Q : mm_V → mm_H → Prop} (hy : 10581 ≤ nx) :
    mm_Wp 264 (bk_264_6.drop 12) [zR (40, 0, 0), vx1, zI x2, zI x3, zI x4, zI x5, vx6, vx7, vx8, vx9, vx10, vx11] [zI y0] (mm_z hi dh nx ns) Q =
    (if y0 = 0 then mm_Wp 264 (mm_blk 264 7) [zR (40, 0, 0), vx1, zI x2, zI x3, zI x4, zI x5, vx6, vx7, vx8, vx9, vx10, vx11] [] (mm_z hi dh nx ns) Q else mm_Wp 264 (mm_blk 264 8) [zR (40, 0, 0), vx1, zI x2, zI x3, zI x4, zI x5, vx6, vx7, vx8, vx9, vx10, vx11] [zI 1] (mm_z hi dh nx ns) Q) :=
  (wp_40).trans (mm_ic (rfl) ((wp_1).trans ((wp_56).trans (rfl))))
theorem r_264_8 (vx1 : mm_V) (x2 : Int) (x3 : Int) (x4 : Int) (x5 : Int) (vx6 : mm_V) (vx7 : mm_V) (vx8 : mm_V) (vx9 : mm_V) (vx10 : mm_V) (vx11 : mm_V) (y0 : Int) {hi : mm_Id → Int → Int} {dh : Int → Int} {nx ns : Int} {Q : mm_V → mm_H → Prop} (hy : 10581 ≤ nx) :
    mm_Wp 264 (mm_blk 264 8) [zR (40, 0, 0), vx1, zI x2, zI x3, zI x4, zI x5, vx6, vx7, vx8, vx9, vx10, vx11] [zI y0] (mm_z hi dh nx ns) Q =
    mm_Wp 264 (mm_blk 264 9) [zR (40, 0, 0), vx1, zI x2, zI x3, zI x4, zI x5, zI y0, zI 0, vx8, vx9, vx10, vx11] [] (mm_z hi dh nx ns) Q :=
  mm_kb bq_264_8 ((wp_6 (l2 := [zR (40, 0, 0), vx1, zI x2, zI x3, zI x4, zI x5, zI y0, vx7, vx8, vx9, vx10, vx11]) rfl).trans ((wp_1).trans ((wp_6 (l2 := [zR (40, 0, 0), vx1, zI x2, zI x3, zI x4, zI x5, zI y0, zI 0, vx8, vx9, vx10, vx11]) rfl).trans ((wp_0).trans (rfl)))))
theorem r_264_9 (vx1 : mm_V) (x2 : Int) (x3 : Int) (x4 : Int) (x5 : Int) (x6 : Int) (x7 : Int) (vx8 : mm_V) (vx9 : mm_V) (vx10 : mm_V) (vx11 : mm_V) {hi : mm_Id → Int → Int} {dh : Int → Int} {nx ns : Int} {Q : mm_V → mm_H → Prop} (hy : 10581 ≤ nx) :
    mm_Wp 264 (mm_blk 264 9) [zR (40, 0, 0), vx1, zI x2, zI x3, zI x4, zI x5, zI x6, zI x7, vx8, vx9, vx10, vx11] [] (mm_z hi dh nx ns) Q =
    (if x7 < 36 then (if x6 = 0 then mm_Wp 264 (mm_blk 264 11) [zR (40, 0, 0), vx1, zI x2, zI x3, zI x4, zI x5, zI x6, zI x7, vx8, vx9, vx10, vx11] [zI 0] (mm_z hi dh nx ns) Q else mm_Cl 175 [zI 28, zI x4] (mm_z hi dh nx ns) (fun r h3 => mm_Wp 264 (bk_264_9.drop 11) [zR (40, 0, 0), vx1, zI x2, zI x3, zI x4, zI x5, zI x6, zI x7, vx8, vx9, vx10, vx11] (mm_push r [zI 36, zR (43, 0, 0)]) h3 Q)) else mm_Wp 264 (mm_blk 264 17) [zR (40, 0, 0), vx1, zI x2, zI x3, zI x4, zI x5, zI x6, zI x7, vx8, vx9, vx10, vx11] [] (mm_z hi dh nx ns) Q) :=
  mm_kb bq_264_9 ((wp_3_7).trans ((wp_1).trans ((wp_49).trans (mm_ic ((wp_3_6).trans ((wp_40).trans (mm_ic (mm_kb bq_264_10 ((wp_1).trans ((wp_0).trans (rfl)))) ((wp_5_0).trans ((wp_62 (by decide) (mm_o40 hy) (mm_r40_4 hy)).trans ((wp_1).trans ((wp_1).trans ((wp_3_4).trans ((wp_s2 mm_n_175 (mm_leq mm_m_175 (mm_lb rfl)) (mm_lb rfl)).trans rfl))))))))) (rfl)))))
theorem r_264_11 (vx1 : mm_V) (x2 : Int) (x3 : Int) (x4 : Int) (x5 : Int) (x6 : Int) (x7 : Int) (vx8 : mm_V) (vx9 : mm_V) (vx10 : mm_V) (vx11 : mm_V) (y0 : Int) {hi : mm_Id → Int → Int} {dh : Int → Int} {nx ns : Int} {Q : mm_V → mm_H → Prop} (hy : 10581 ≤ nx) :
    mm_Wp 264 (mm_blk 264 11) [zR (40, 0, 0), vx1, zI x2, zI x3, zI x4, zI x5, zI x6, zI x7, vx8, vx9, vx10, vx11] [zI y0] (mm_z hi dh nx ns) Q =
    ((0 ≤ (mm_w ((mm_w (36 * x5)) + x7)) ∧ (mm_w ((mm_w (36 * x5)) + x7)) < 37584) ∧ (if (hi (43, 0, 0) (mm_w ((mm_w (36 * x5)) + x7))) = 0 then mm_Wp 264 (mm_blk 264 16) [zR (40, 0, 0), vx1, zI x2, zI x3, zI x4, zI x5, zI x6, zI x7, zI y0, zI (hi (43, 0, 0) (mm_w ((mm_w (36 * x5)) + x7))), vx10, vx11] [] (mm_z hi dh nx ns) Q else (if 0 < y0 then mm_Cl 263 [zR (40, 0, 0), zI y0, zI (hi (43, 0, 0) (mm_w ((mm_w (36 * x5)) + x7)))] (mm_z hi dh nx ns) (fun r h3 => mm_Wp 264 (bk_264_12.drop 6) [zR (40, 0, 0), vx1, zI x2, zI x3, zI x4, zI x5, zI x6, zI x7, zI y0, zI (hi (43, 0, 0) (mm_w ((mm_w (36 * x5)) + x7))), vx10, vx11] (mm_push r []) h3 Q) else mm_Wp 264 (mm_blk 264 13) [zR (40, 0, 0), vx1, zI x2, zI x3, zI x4, zI x5, zI x6, zI x7, zI y0, zI (hi (43, 0, 0) (mm_w ((mm_w (36 * x5)) + x7))), vx10, vx11] [] (mm_z hi dh nx ns) Q))) :=
  mm_kb bq_264_11 ((wp_6 (l2 := [zR (40, 0, 0), vx1, zI x2, zI x3, zI x4, zI x5, zI x6, zI x7, zI y0, vx9, vx10, vx11]) rfl).trans ((wp_5_0).trans ((wp_62 (by decide) (mm_o40 hy) (mm_r40_4 hy)).trans ((wp_1).trans ((wp_3_5).trans ((wp_12).trans ((wp_3_7).trans ((wp_10).trans ((wp_70 (mm_q43 hy)).trans (mm_ae ((wp_6 (l2 := [zR (40, 0, 0), vx1, zI x2, zI x3, zI x4, zI x5, zI x6, zI x7, zI y0, zI (hi (43, 0, 0) (mm_w ((mm_w (36 * x5)) + x7))), vx10, vx11]) rfl).trans ((wp_3_9).trans ((wp_41).trans (mm_ic ((wp_56).trans (rfl)) (mm_kb bq_264_12 ((wp_3_8).trans ((wp_45).trans (mm_ic ((wp_5_0).trans ((wp_3_8).trans ((wp_3_9).trans ((wp_v3 mm_n_263 (mm_leq mm_m_263 (mm_lb rfl)) (mm_lb rfl) (mm_o40 hy)).trans rfl)))) (rfl)))))))))))))))))))
theorem r_264_9_11 (vx1 : mm_V) (x2 : Int) (x3 : Int) (x4 : Int) (x5 : Int) (x6 : Int) (x7 : Int) (vx8 : mm_V) (vx9 : mm_V) (vx10 : mm_V) (vx11 : mm_V) (y0 : Int) (y1 : Int) {hi : mm_Id → Int → Int} {dh : Int → Int} {nx ns : Int} {Q : mm_V → mm_H → Prop} (hy : 10581 ≤ nx) :
    mm_Wp 264 (bk_264_9.drop 11) [zR (40, 0, 0), vx1, zI x2, zI x3, zI x4, zI x5, zI x6, zI x7, vx8, vx9, vx10, vx11] [zI y0, zI y1, zR (43, 0, 0)] (mm_z hi dh nx ns) Q =
    ((0 ≤ (mm_w ((mm_w (y1 * y0)) + x7)) ∧ (mm_w ((mm_w (y1 * y0)) + x7)) < 37584) ∧ mm_Wp 264 (mm_blk 264 11) [zR (40, 0, 0), vx1, zI x2, zI x3, zI x4, zI x5, zI x6, zI x7, vx8, vx9, vx10, vx11] [zI (hi (43, 0, 0) (mm_w ((mm_w (y1 * y0)) + x7)))] (mm_z hi dh nx ns) Q) :=
  (wp_12).trans ((wp_3_7).trans ((wp_10).trans ((wp_70 (mm_q43 hy)).trans (mm_ae ((wp_56).trans (rfl))))))
theorem r_264_13 (vx1 : mm_V) (x2 : Int) (x3 : Int) (x4 : Int) (x5 : Int) (x6 : Int) (x7 : Int) (vx8 : mm_V) (x9 : Int) (vx10 : mm_V) (vx11 : mm_V) {hi : mm_Id → Int → Int} {dh : Int → Int} {nx ns : Int} {Q : mm_V → mm_H → Prop} (hy : 10581 ≤ nx) :
    mm_Wp 264 (mm_blk 264 13) [zR (40, 0, 0), vx1, zI x2, zI x3, zI x4, zI x5, zI x6, zI x7, vx8, zI x9, vx10, vx11] [] (mm_z hi dh nx ns) Q =
    mm_Cl 196 [zR (40, 0, 0)] (mm_z hi dh nx ns) (fun r h3 => mm_Wp 264 (bk_264_13.drop 2) [zR (40, 0, 0), vx1, zI x2, zI x3, zI x4, zI x5, zI x6, zI x7, vx8, zI x9, vx10, vx11] (mm_push r []) h3 Q) :=
  mm_kb bq_264_13 ((wp_5_0).trans ((wp_v1 mm_n_196 (mm_leq mm_m_196 (mm_lb rfl)) (mm_lb rfl) (mm_o40 hy)).trans rfl))
theorem r_264_12_6 (vx1 : mm_V) (x2 : Int) (x3 : Int) (x4 : Int) (x5 : Int) (x6 : Int) (x7 : Int) (x8 : Int) (x9 : Int) (vx10 : mm_V) (vx11 : mm_V) (y0 : Int) {hi : mm_Id → Int → Int} {dh : Int → Int} {nx ns : Int} {Q : mm_V → mm_H → Prop} (hy : 10581 ≤ nx) :
    mm_Wp 264 (bk_264_12.drop 6) [zR (40, 0, 0), vx1, zI x2, zI x3, zI x4, zI x5, zI x6, zI x7, zI x8, zI x9, vx10, vx11] [zI y0] (mm_z hi dh nx ns) Q =
    (if y0 = 0 then mm_Wp 264 (mm_blk 264 13) [zR (40, 0, 0), vx1, zI x2, zI x3, zI x4, zI x5, zI x6, zI x7, zI x8, zI x9, vx10, vx11] [] (mm_z hi dh nx ns) Q else ((0 ≤ (mm_w ((mm_w (36 * x5)) + x7)) ∧ (mm_w ((mm_w (36 * x5)) + x7)) < 37584) ∧ mm_Wp 264 (mm_blk 264 16) [zR (40, 0, 0), vx1, zI x2, zI x3, zI x4, zI x5, zI x6, zI x7, zI x8, zI x9, vx10, vx11] [] (mm_z (mm_up hi (43, 0, 0) (mm_w ((mm_w (36 * x5)) + x7)) x8) dh nx ns) Q)) :=
  (wp_40).trans (mm_ic (rfl) ((wp_5_0).trans ((wp_62 (by decide) (mm_o40 hy) (mm_r40_4 hy)).trans ((wp_1).trans ((wp_3_5).trans ((wp_12).trans ((wp_3_7).trans ((wp_10).trans ((wp_3_8).trans ((wp_74 (mm_q43 hy)).trans (mm_ae ((wp_56).trans (rfl)))))))))))))
theorem r_264_16 (vx1 : mm_V) (x2 : Int) (x3 : Int) (x4 : Int) (x5 : Int) (x6 : Int) (x7 : Int) (vx8 : mm_V) (vx9 : mm_V) (vx10 : mm_V) (vx11 : mm_V) {hi : mm_Id → Int → Int} {dh : Int → Int} {nx ns : Int} {Q : mm_V → mm_H → Prop} (hy : 10581 ≤ nx) :
    mm_Wp 264 (mm_blk 264 16) [zR (40, 0, 0), vx1, zI x2, zI x3, zI x4, zI x5, zI x6, zI x7, vx8, vx9, vx10, vx11] [] (mm_z hi dh nx ns) Q =
    mm_Wp 264 (mm_blk 264 9) [zR (40, 0, 0), vx1, zI x2, zI x3, zI x4, zI x5, zI x6, zI (mm_w (x7 + 1)), vx8, vx9, vx10, vx11] [] (mm_z hi dh nx ns) Q :=
  mm_kb bq_264_16 ((wp_9 (l2 := [zR (40, 0, 0), vx1, zI x2, zI x3, zI x4, zI x5, zI x6, zI (mm_w (x7 + 1)), vx8, vx9, vx10, vx11]) rfl rfl).trans ((wp_56).trans (rfl)))
theorem r_264_13_2 (vx1 : mm_V) (x2 : Int) (x3 : Int) (x4 : Int) (x5 : Int) (x6 : Int) (x7 : Int) (vx8 : mm_V) (x9 : Int) (vx10 : mm_V) (vx11 : mm_V) (y0 : Int) {hi : mm_Id → Int → Int} {dh : Int → Int} {nx ns : Int} {Q : mm_V → mm_H → Prop} (hy : 10581 ≤ nx) :
    mm_Wp 264 (bk_264_13.drop 2) [zR (40, 0, 0), vx1, zI x2, zI x3, zI x4, zI x5, zI x6, zI x7, vx8, zI x9, vx10, vx11] [zI y0] (mm_z hi dh nx ns) Q =
    mm_Wp 264 (mm_blk 264 14) [zR (40, 0, 0), vx1, zI x2, zI x3, zI x4, zI x5, zI x6, zI x7, vx8, zI x9, zI y0, zI 0] [] (mm_z hi dh nx ns) Q :=
  (wp_6 (l2 := [zR (40, 0, 0), vx1, zI x2, zI x3, zI x4, zI x5, zI x6, zI x7, vx8, zI x9, zI y0, vx11]) rfl).trans ((wp_1).trans ((wp_6 (l2 := [zR (40, 0, 0), vx1, zI x2, zI x3, zI x4, zI x5, zI x6, zI x7, vx8, zI x9, zI y0, zI 0]) rfl).trans ((wp_0).trans (rfl))))
theorem r_264_14 (vx1 : mm_V) (x2 : Int) (x3 : Int) (x4 : Int) (x5 : Int) (x6 : Int) (x7 : Int) (vx8 : mm_V) (x9 : Int) (x10 : Int) (x11 : Int) {hi : mm_Id → Int → Int} {dh : Int → Int} {nx ns : Int} {Q : mm_V → mm_H → Prop} (hy : 10581 ≤ nx) :
    mm_Wp 264 (mm_blk 264 14) [zR (40, 0, 0), vx1, zI x2, zI x3, zI x4, zI x5, zI x6, zI x7, vx8, zI x9, zI x10, zI x11] [] (mm_z hi dh nx ns) Q =
    (if x11 < 60 then ((0 ≤ (mm_w ((mm_w (60 * x9)) + x11)) ∧ (mm_w ((mm_w (60 * x9)) + x11)) < 180060) ∧ ((0 ≤ (mm_w ((mm_w (60 * x10)) + x11)) ∧ (mm_w ((mm_w (60 * x10)) + x11)) < 180060) ∧ mm_Wp 264 (mm_blk 264 14) [zR (40, 0, 0), vx1, zI x2, zI x3, zI x4, zI x5, zI x6, zI x7, vx8, zI x9, zI x10, zI (mm_w (x11 + 1))] [] (mm_z (mm_up hi (54, 0, 0) (mm_w ((mm_w (60 * x10)) + x11)) (mm_b (hi (54, 0, 0) (mm_w ((mm_w (60 * x9)) + x11))))) dh nx ns) Q)) else ((0 ≤ (mm_w ((mm_w (36 * x5)) + x7)) ∧ (mm_w ((mm_w (36 * x5)) + x7)) < 37584) ∧ mm_Wp 264 (mm_blk 264 16) [zR (40, 0, 0), vx1, zI x2, zI (mm_w (x3 + 1)), zI x4, zI x5, zI x6, zI x7, vx8, zI x9, zI x10, zI x11] [] (mm_z (mm_up hi (43, 0, 0) (mm_w ((mm_w (36 * x5)) + x7)) x10) dh nx ns) Q)) :=
  mm_kb bq_264_14 ((wp_3_11).trans ((wp_1).trans ((wp_49).trans (mm_ic ((wp_5_0).trans ((wp_62 (by decide) (mm_o40 hy) (mm_r40_15 hy)).trans ((wp_1).trans ((wp_3_10).trans ((wp_12).trans ((wp_3_11).trans ((wp_10).trans ((wp_5_0).trans ((wp_62 (by decide) (mm_o40 hy) (mm_r40_15 hy)).trans ((wp_1).trans ((wp_3_9).trans ((wp_12).trans ((wp_3_11).trans ((wp_10).trans ((wp_71 (mm_q54 hy)).trans (mm_ae ((wp_75 (mm_q54 hy)).trans (mm_ae ((wp_9 (l2 := [zR (40, 0, 0), vx1, zI x2, zI x3, zI x4, zI x5, zI x6, zI x7, vx8, zI x9, zI x10, zI (mm_w (x11 + 1))]) rfl rfl).trans ((wp_56).trans (rfl))))))))))))))))))))) (mm_kb bq_264_15 ((wp_5_0).trans ((wp_62 (by decide) (mm_o40 hy) (mm_r40_4 hy)).trans ((wp_1).trans ((wp_3_5).trans ((wp_12).trans ((wp_3_7).trans ((wp_10).trans ((wp_3_10).trans ((wp_74 (mm_q43 hy)).trans (mm_ae ((wp_9 (l2 := [zR (40, 0, 0), vx1, zI x2, zI (mm_w (x3 + 1)), zI x4, zI x5, zI x6, zI x7, vx8, zI x9, zI x10, zI x11]) rfl rfl).trans ((wp_0).trans (rfl))))))))))))))))))
/-- PoolHouseModel.commit()I -/
theorem bq_265_0 : mm_blk 265 0 = bk_265_0 := by decide +kernel
theorem r_265_e  {hi : mm_Id → Int → Int} {dh : Int → Int} {nx ns : Int} {Q : mm_V → mm_H → Prop} (hy : 10581 ≤ nx) :
    mm_Cl 265 [zR (40, 0, 0)] (mm_z hi dh nx ns) Q =
    mm_Cl 208 [zR (40, 0, 0)] (mm_z (mm_up hi (40, 0, 0) 0 0) dh nx ns) (fun r h3 => mm_Wp 265 (bk_265_0.drop 8) [zR (40, 0, 0), zI ((mm_up hi (40, 0, 0) 0 0) (40, 0, 0) 33)] (mm_push r []) h3 Q) :=
  mm_ce (l2 := [zR (40, 0, 0), zU]) rfl (mm_kb bq_265_0 ((wp_5_0).trans ((wp_1).trans ((wp_63 (mm_o40 hy)).trans ((wp_5_0).trans ((wp_60 (by decide) (mm_o40 hy)).trans ((wp_6 (l2 := [zR (40, 0, 0), zI ((mm_up hi (40, 0, 0) 0 0) (40, 0, 0) 33)]) rfl).trans ((wp_5_0).trans ((wp_v1 mm_n_208 (mm_leq mm_m_208 (mm_lb rfl)) (mm_lb rfl) (mm_o40 hy)).trans rfl)))))))))
theorem r_265_0_8 (vx0 : mm_V) (x1 : Int) {hi : mm_Id → Int → Int} {dh : Int → Int} {nx ns : Int} {Q : mm_V → mm_H → Prop} (hy : 10581 ≤ nx) :
    mm_Wp 265 (bk_265_0.drop 8) [vx0, zI x1] [] (mm_z hi dh nx ns) Q =
    Q (zI x1) (mm_z hi dh nx ns) :=
  (wp_3_1).trans (wp_90)
/-- PoolHouseModel.sync()I -/
theorem bq_266_0 : mm_blk 266 0 = bk_266_0 := by decide +kernel
theorem r_266_e  {hi : mm_Id → Int → Int} {dh : Int → Int} {nx ns : Int} {Q : mm_V → mm_H → Prop} (hy : 10581 ≤ nx) :
    mm_Cl 266 [zR (40, 0, 0)] (mm_z hi dh nx ns) Q =
    mm_Cl 208 [zR (40, 0, 0)] (mm_z (mm_up hi (40, 0, 0) 0 0) dh nx ns) (fun r h3 => mm_Wp 266 (bk_266_0.drop 8) [zR (40, 0, 0), zI ((mm_up hi (40, 0, 0) 0 0) (40, 0, 0) 33)] (mm_push r []) h3 Q) :=
  mm_ce (l2 := [zR (40, 0, 0), zU]) rfl (mm_kb bq_266_0 ((wp_5_0).trans ((wp_1).trans ((wp_63 (mm_o40 hy)).trans ((wp_5_0).trans ((wp_60 (by decide) (mm_o40 hy)).trans ((wp_6 (l2 := [zR (40, 0, 0), zI ((mm_up hi (40, 0, 0) 0 0) (40, 0, 0) 33)]) rfl).trans ((wp_5_0).trans ((wp_v1 mm_n_208 (mm_leq mm_m_208 (mm_lb rfl)) (mm_lb rfl) (mm_o40 hy)).trans rfl)))))))))
theorem r_266_0_8 (vx0 : mm_V) (x1 : Int) {hi : mm_Id → Int → Int} {dh : Int → Int} {nx ns : Int} {Q : mm_V → mm_H → Prop} (hy : 10581 ≤ nx) :
    mm_Wp 266 (bk_266_0.drop 8) [vx0, zI x1] [] (mm_z hi dh nx ns) Q =
    Q (zI x1) (mm_z hi dh nx ns) :=
  (wp_3_1).trans (wp_90)
/-- PoolHouseModel.crash(I)I -/
theorem bq_267_0 : mm_blk 267 0 = bk_267_0 := by decide +kernel
theorem bq_267_1 : mm_blk 267 1 = bk_267_1 := by decide +kernel
theorem bq_267_2 : mm_blk 267 2 = bk_267_2 := by decide +kernel
theorem bq_267_3 : mm_blk 267 3 = bk_267_3 := by decide +kernel
theorem bq_267_4 : mm_blk 267 4 = bk_267_4 := by decide +kernel
theorem bq_267_5 : mm_blk 267 5 = bk_267_5 := by decide +kernel
theorem bq_267_6 : mm_blk 267 6 = bk_267_6 := by decide +kernel
theorem bq_267_7 : mm_blk 267 7 = bk_267_7 := by decide +kernel
theorem bq_267_8 : mm_blk 267 8 = bk_267_8 := by decide +kernel
theorem bq_267_9 : mm_blk 267 9 = bk_267_9 := by decide +kernel
theorem bq_267_10 : mm_blk 267 10 = bk_267_10 := by decide +kernel
theorem r_267_e (x1 : Int) {hi : mm_Id → Int → Int} {dh : Int → Int} {nx ns : Int} {Q : mm_V → mm_H → Prop} (hy : 10581 ≤ nx) :
    mm_Cl 267 [zR (40, 0, 0), zI x1] (mm_z hi dh nx ns) Q =
    mm_Cl 174 [zL x1, zL 0, zL 4] (mm_z (mm_up hi (40, 0, 0) 0 0) dh nx ns) (fun r h3 => mm_Wp 267 (bk_267_0.drop 8) [zR (40, 0, 0), zI x1, zU, zU, zU] (mm_push r []) h3 Q) :=
  mm_ce (l2 := [zR (40, 0, 0), zI x1, zU, zU, zU]) rfl (mm_kb bq_267_0 ((wp_5_0).trans ((wp_1).trans ((wp_63 (mm_o40 hy)).trans ((wp_3_1).trans ((wp_31).trans ((wp_2).trans ((wp_2).trans ((wp_s3 mm_n_174 (mm_leq mm_m_174 (mm_lb rfl)) (mm_lb rfl)).trans rfl)))))))))
theorem r_267_0_8 (x1 : Int) (vx2 : mm_V) (vx3 : mm_V) (vx4 : mm_V) (y0 : Int) {hi : mm_Id → Int → Int} {dh : Int → Int} {nx ns : Int} {Q : mm_V → mm_H → Prop} (hy : 10581 ≤ nx) :
    mm_Wp 267 (bk_267_0.drop 8) [zR (40, 0, 0), zI x1, vx2, vx3, vx4] [zI y0] (mm_z hi dh nx ns) Q =
    (if y0 = 0 then Q (zI (-2)) (mm_z hi dh nx ns) else (if x1 = 4 then mm_Cl 208 [zR (40, 0, 0)] (mm_z hi dh nx ns) (fun r h3 => mm_Wp 267 (bk_267_1.drop 5) [zR (40, 0, 0), zI x1, vx2, vx3, vx4] (mm_push r []) h3 Q) else mm_Wp 267 (mm_blk 267 2) [zR (40, 0, 0), zI x1, vx2, vx3, vx4] [] (mm_z hi dh nx ns) Q)) :=
  (wp_41).trans (mm_ic ((wp_1).trans (wp_90)) (mm_kb bq_267_1 ((wp_3_1).trans ((wp_1).trans ((wp_47).trans (mm_ic ((wp_5_0).trans ((wp_v1 mm_n_208 (mm_leq mm_m_208 (mm_lb rfl)) (mm_lb rfl) (mm_o40 hy)).trans rfl)) (rfl)))))))
theorem r_267_2 (vx1 : mm_V) (vx2 : mm_V) (vx3 : mm_V) (vx4 : mm_V) {hi : mm_Id → Int → Int} {dh : Int → Int} {nx ns : Int} {Q : mm_V → mm_H → Prop} (hvx1 : mm_wt vx1 = 1) (hy : 10581 ≤ nx) :
    mm_Wp 267 (mm_blk 267 2) [zR (40, 0, 0), vx1, vx2, vx3, vx4] [] (mm_z hi dh nx ns) Q =
    mm_Wp 267 (mm_blk 267 3) [zR (40, 0, 0), vx1, zI (hi (40, 0, 0) 33), zI 0, vx4] [] (mm_z hi dh nx ns) Q :=
  mm_kb bq_267_2 ((wp_5_0).trans ((wp_60 (by decide) (mm_o40 hy)).trans ((wp_6 (l2 := [zR (40, 0, 0), vx1, zI (hi (40, 0, 0) 33), vx3, vx4]) ((if_pos (mm_lb rfl)).trans (congrArg some (mm_stw rfl hvx1)))).trans ((wp_1).trans ((wp_6 (l2 := [zR (40, 0, 0), vx1, zI (hi (40, 0, 0) 33), zI 0, vx4]) rfl).trans ((wp_0).trans (rfl)))))))
theorem r_267_1_5 (vx1 : mm_V) (vx2 : mm_V) (vx3 : mm_V) (vx4 : mm_V) {hi : mm_Id → Int → Int} {dh : Int → Int} {nx ns : Int} {Q : mm_V → mm_H → Prop} (hy : 10581 ≤ nx) :
    mm_Wp 267 (bk_267_1.drop 5) [zR (40, 0, 0), vx1, vx2, vx3, vx4] [] (mm_z hi dh nx ns) Q =
    mm_Wp 267 (mm_blk 267 2) [zR (40, 0, 0), vx1, vx2, vx3, vx4] [] (mm_z hi dh nx ns) Q :=
  (wp_0).trans (rfl)
theorem r_267_3 (vx1 : mm_V) (x2 : Int) (x3 : Int) (vx4 : mm_V) {hi : mm_Id → Int → Int} {dh : Int → Int} {nx ns : Int} {Q : mm_V → mm_H → Prop} (hy : 10581 ≤ nx) :
    mm_Wp 267 (mm_blk 267 3) [zR (40, 0, 0), vx1, zI x2, zI x3, vx4] [] (mm_z hi dh nx ns) Q =
    (if x3 < 13 then ((0 ≤ (mm_w (13 + x3)) ∧ (mm_w (13 + x3)) < 26) ∧ ((0 ≤ x3 ∧ x3 < 26) ∧ ((0 ≤ (mm_w (13 + x3)) ∧ (mm_w (13 + x3)) < 26) ∧ ((0 ≤ x3 ∧ x3 < 26) ∧ ((0 ≤ (mm_w (13 + x3)) ∧ (mm_w (13 + x3)) < 26) ∧ ((0 ≤ x3 ∧ x3 < 26) ∧ ((0 ≤ (mm_w (13 + x3)) ∧ (mm_w (13 + x3)) < 26) ∧ (((((mm_up (mm_up (mm_up hi (57, 0, 0) x3 (hi (57, 0, 0) (mm_w (13 + x3)))) (58, 0, 0) x3 ((mm_up hi (57, 0, 0) x3 (hi (57, 0, 0) (mm_w (13 + x3)))) (58, 0, 0) (mm_w (13 + x3)))) (59, 0, 0) x3 ((mm_up (mm_up hi (57, 0, 0) x3 (hi (57, 0, 0) (mm_w (13 + x3)))) (58, 0, 0) x3 ((mm_up hi (57, 0, 0) x3 (hi (57, 0, 0) (mm_w (13 + x3)))) (58, 0, 0) (mm_w (13 + x3)))) (59, 0, 0) (mm_w (13 + x3)))) (60, 0, 0) (mm_w (13 + x3))) = 0 ∨ ((mm_up (mm_up (mm_up hi (57, 0, 0) x3 (hi (57, 0, 0) (mm_w (13 + x3)))) (58, 0, 0) x3 ((mm_up hi (57, 0, 0) x3 (hi (57, 0, 0) (mm_w (13 + x3)))) (58, 0, 0) (mm_w (13 + x3)))) (59, 0, 0) x3 ((mm_up (mm_up hi (57, 0, 0) x3 (hi (57, 0, 0) (mm_w (13 + x3)))) (58, 0, 0) x3 ((mm_up hi (57, 0, 0) x3 (hi (57, 0, 0) (mm_w (13 + x3)))) (58, 0, 0) (mm_w (13 + x3)))) (59, 0, 0) (mm_w (13 + x3)))) (60, 0, 0) (mm_w (13 + x3))) = 1) ∧ 0 ≤ x3 ∧ x3 < 26) ∧ mm_Wp 267 (mm_blk 267 4) [zR (40, 0, 0), vx1, zI x2, zI x3, zI 0] [] (mm_z (mm_up (mm_up (mm_up (mm_up hi (57, 0, 0) x3 (hi (57, 0, 0) (mm_w (13 + x3)))) (58, 0, 0) x3 ((mm_up hi (57, 0, 0) x3 (hi (57, 0, 0) (mm_w (13 + x3)))) (58, 0, 0) (mm_w (13 + x3)))) (59, 0, 0) x3 ((mm_up (mm_up hi (57, 0, 0) x3 (hi (57, 0, 0) (mm_w (13 + x3)))) (58, 0, 0) x3 ((mm_up hi (57, 0, 0) x3 (hi (57, 0, 0) (mm_w (13 + x3)))) (58, 0, 0) (mm_w (13 + x3)))) (59, 0, 0) (mm_w (13 + x3)))) (60, 0, 0) x3 ((mm_up (mm_up (mm_up hi (57, 0, 0) x3 (hi (57, 0, 0) (mm_w (13 + x3)))) (58, 0, 0) x3 ((mm_up hi (57, 0, 0) x3 (hi (57, 0, 0) (mm_w (13 + x3)))) (58, 0, 0) (mm_w (13 + x3)))) (59, 0, 0) x3 ((mm_up (mm_up hi (57, 0, 0) x3 (hi (57, 0, 0) (mm_w (13 + x3)))) (58, 0, 0) x3 ((mm_up hi (57, 0, 0) x3 (hi (57, 0, 0) (mm_w (13 + x3)))) (58, 0, 0) (mm_w (13 + x3)))) (59, 0, 0) (mm_w (13 + x3)))) (60, 0, 0) (mm_w (13 + x3)))) dh nx ns) Q)))))))) else mm_Wp 267 (mm_blk 267 7) [zR (40, 0, 0), vx1, zI x2, zI 1, vx4] [] (mm_z hi dh nx ns) Q) :=
  mm_kb bq_267_3 ((wp_3_3).trans ((wp_1).trans ((wp_49).trans (mm_ic ((wp_5_0).trans ((wp_62 (by decide) (mm_o40 hy) (mm_r40_19 hy)).trans ((wp_3_3).trans ((wp_5_0).trans ((wp_62 (by decide) (mm_o40 hy) (mm_r40_19 hy)).trans ((wp_1).trans ((wp_3_3).trans ((wp_10).trans ((wp_70 (mm_q57 hy)).trans (mm_ae ((wp_74 (mm_q57 hy)).trans (mm_ae ((wp_5_0).trans ((wp_62 (by decide) (mm_o40 hy) (mm_r40_20 hy)).trans ((wp_3_3).trans ((wp_5_0).trans ((wp_62 (by decide) (mm_o40 hy) (mm_r40_20 hy)).trans ((wp_1).trans ((wp_3_3).trans ((wp_10).trans ((wp_70 (mm_q58 hy)).trans (mm_ae ((wp_74 (mm_q58 hy)).trans (mm_ae ((wp_5_0).trans ((wp_62 (by decide) (mm_o40 hy) (mm_r40_21 hy)).trans ((wp_3_3).trans ((wp_5_0).trans ((wp_62 (by decide) (mm_o40 hy) (mm_r40_21 hy)).trans ((wp_1).trans ((wp_3_3).trans ((wp_10).trans ((wp_70 (mm_q59 hy)).trans (mm_ae ((wp_74 (mm_q59 hy)).trans (mm_ae ((wp_5_0).trans ((wp_62 (by decide) (mm_o40 hy) (mm_r40_22 hy)).trans ((wp_3_3).trans ((wp_5_0).trans ((wp_62 (by decide) (mm_o40 hy) (mm_r40_22 hy)).trans ((wp_1).trans ((wp_3_3).trans ((wp_10).trans ((wp_71z (mm_q60 hy)).trans (mm_ae ((wp_75zv (mm_q60 hy)).trans (mm_ae ((wp_1).trans ((wp_6 (l2 := [zR (40, 0, 0), vx1, zI x2, zI x3, zI 0]) rfl).trans ((wp_0).trans (rfl)))))))))))))))))))))))))))))))))))))))))))))))))))) (mm_kb bq_267_6 ((wp_1).trans ((wp_6 (l2 := [zR (40, 0, 0), vx1, zI x2, zI 1, vx4]) rfl).trans ((wp_0).trans (rfl)))))))))
theorem r_267_7 (vx1 : mm_V) (x2 : Int) (x3 : Int) (vx4 : mm_V) {hi : mm_Id → Int → Int} {dh : Int → Int} {nx ns : Int} {Q : mm_V → mm_H → Prop} (hy : 10581 ≤ nx) :
    mm_Wp 267 (mm_blk 267 7) [zR (40, 0, 0), vx1, zI x2, zI x3, vx4] [] (mm_z hi dh nx ns) Q =
    (if 8 < x3 then mm_Wp 267 (mm_blk 267 9) [zR (40, 0, 0), vx1, zI x2, zI 0, vx4] [] (mm_z (mm_up (mm_up hi (40, 0, 0) 29 0) (40, 0, 0) 30 0) dh nx ns) Q else mm_Cl 192 [zR (40, 0, 0), zI x3] (mm_z hi dh nx ns) (fun r h3 => mm_Wp 267 (bk_267_7.drop 6) [zR (40, 0, 0), vx1, zI x2, zI x3, vx4] (mm_push r []) h3 Q)) :=
  mm_kb bq_267_7 ((wp_3_3).trans ((wp_1).trans ((wp_50).trans (mm_ic (mm_kb bq_267_8 ((wp_5_0).trans ((wp_1).trans ((wp_63 (mm_o40 hy)).trans ((wp_5_0).trans ((wp_1).trans ((wp_63 (mm_o40 hy)).trans ((wp_1).trans ((wp_6 (l2 := [zR (40, 0, 0), vx1, zI x2, zI 0, vx4]) rfl).trans ((wp_0).trans (rfl))))))))))) ((wp_5_0).trans ((wp_3_3).trans ((wp_v2 mm_n_192 (mm_leq mm_m_192 (mm_lb rfl)) (mm_lb rfl) (mm_o40 hy)).trans rfl)))))))
theorem r_267_4 (vx1 : mm_V) (x2 : Int) (x3 : Int) (x4 : Int) {hi : mm_Id → Int → Int} {dh : Int → Int} {nx ns : Int} {Q : mm_V → mm_H → Prop} (hy : 10581 ≤ nx) :
    mm_Wp 267 (mm_blk 267 4) [zR (40, 0, 0), vx1, zI x2, zI x3, zI x4] [] (mm_z hi dh nx ns) Q =
    (if x4 < 8 then ((0 ≤ (mm_w ((mm_w (8 * (mm_w (13 + x3)))) + x4)) ∧ (mm_w ((mm_w (8 * (mm_w (13 + x3)))) + x4)) < 208) ∧ ((0 ≤ (mm_w ((mm_w (8 * x3)) + x4)) ∧ (mm_w ((mm_w (8 * x3)) + x4)) < 208) ∧ mm_Wp 267 (mm_blk 267 4) [zR (40, 0, 0), vx1, zI x2, zI x3, zI (mm_w (x4 + 1))] [] (mm_z (mm_up hi (61, 0, 0) (mm_w ((mm_w (8 * x3)) + x4)) (hi (61, 0, 0) (mm_w ((mm_w (8 * (mm_w (13 + x3)))) + x4)))) dh nx ns) Q)) else mm_Cl 179 [zR (40, 0, 0), zI (mm_w (13 + x3)), zI x3] (mm_z hi dh nx ns) (fun r h3 => mm_Wp 267 (bk_267_5.drop 6) [zR (40, 0, 0), vx1, zI x2, zI x3, zI x4] (mm_push r []) h3 Q)) :=
  mm_kb bq_267_4 ((wp_3_4).trans ((wp_1).trans ((wp_49).trans (mm_ic ((wp_5_0).trans ((wp_62 (by decide) (mm_o40 hy) (mm_r40_23 hy)).trans ((wp_1).trans ((wp_3_3).trans ((wp_12).trans ((wp_3_4).trans ((wp_10).trans ((wp_5_0).trans ((wp_62 (by decide) (mm_o40 hy) (mm_r40_23 hy)).trans ((wp_1).trans ((wp_1).trans ((wp_3_3).trans ((wp_10).trans ((wp_12).trans ((wp_3_4).trans ((wp_10).trans ((wp_70 (mm_q61 hy)).trans (mm_ae ((wp_74 (mm_q61 hy)).trans (mm_ae ((wp_9 (l2 := [zR (40, 0, 0), vx1, zI x2, zI x3, zI (mm_w (x4 + 1))]) rfl rfl).trans ((wp_56).trans (rfl))))))))))))))))))))))) (mm_kb bq_267_5 ((wp_5_0).trans ((wp_1).trans ((wp_3_3).trans ((wp_10).trans ((wp_3_3).trans ((wp_v3 mm_n_179 (mm_leq mm_m_179 (mm_lb rfl)) (mm_lb rfl) (mm_o40 hy)).trans rfl)))))))))))
theorem r_267_9 (vx1 : mm_V) (x2 : Int) (x3 : Int) (vx4 : mm_V) {hi : mm_Id → Int → Int} {dh : Int → Int} {nx ns : Int} {Q : mm_V → mm_H → Prop} (hy : 10581 ≤ nx) :
    mm_Wp 267 (mm_blk 267 9) [zR (40, 0, 0), vx1, zI x2, zI x3, vx4] [] (mm_z hi dh nx ns) Q =
    (if x3 < 5 then mm_Cl 194 [zR (40, 0, 0), zI x3] (mm_z hi dh nx ns) (fun r h3 => mm_Wp 267 (bk_267_9.drop 6) [zR (40, 0, 0), vx1, zI x2, zI x3, vx4] (mm_push r []) h3 Q) else mm_Cl 249 [zR (40, 0, 0), zI 26] (mm_z (mm_up hi (40, 0, 0) 34 0) dh nx ns) (fun r h3 => mm_Wp 267 (bk_267_10.drop 6) [zR (40, 0, 0), vx1, zI x2, zI x3, vx4] (mm_push r []) h3 Q)) :=
  mm_kb bq_267_9 ((wp_3_3).trans ((wp_1).trans ((wp_49).trans (mm_ic ((wp_5_0).trans ((wp_3_3).trans ((wp_v2 mm_n_194 (mm_leq mm_m_194 (mm_lb rfl)) (mm_lb rfl) (mm_o40 hy)).trans rfl))) (mm_kb bq_267_10 ((wp_5_0).trans ((wp_1).trans ((wp_64k (mm_o40 hy) (by decide)).trans ((wp_5_0).trans ((wp_1).trans ((wp_v2 mm_n_249 (mm_leq mm_m_249 (mm_lb rfl)) (mm_lb rfl) (mm_o40 hy)).trans rfl)))))))))))
theorem r_267_7_6 (vx1 : mm_V) (x2 : Int) (x3 : Int) (vx4 : mm_V) {hi : mm_Id → Int → Int} {dh : Int → Int} {nx ns : Int} {Q : mm_V → mm_H → Prop} (hy : 10581 ≤ nx) :
    mm_Wp 267 (bk_267_7.drop 6) [zR (40, 0, 0), vx1, zI x2, zI x3, vx4] [] (mm_z hi dh nx ns) Q =
    mm_Wp 267 (mm_blk 267 7) [zR (40, 0, 0), vx1, zI x2, zI (mm_w (x3 + 1)), vx4] [] (mm_z hi dh nx ns) Q :=
  (wp_9 (l2 := [zR (40, 0, 0), vx1, zI x2, zI (mm_w (x3 + 1)), vx4]) rfl rfl).trans ((wp_56).trans (rfl))
theorem r_267_5_6 (vx1 : mm_V) (x2 : Int) (x3 : Int) (vx4 : mm_V) {hi : mm_Id → Int → Int} {dh : Int → Int} {nx ns : Int} {Q : mm_V → mm_H → Prop} (hy : 10581 ≤ nx) :
    mm_Wp 267 (bk_267_5.drop 6) [zR (40, 0, 0), vx1, zI x2, zI x3, vx4] [] (mm_z hi dh nx ns) Q =
    mm_Wp 267 (mm_blk 267 3) [zR (40, 0, 0), vx1, zI x2, zI (mm_w (x3 + 1)), vx4] [] (mm_z hi dh nx ns) Q :=
  (wp_9 (l2 := [zR (40, 0, 0), vx1, zI x2, zI (mm_w (x3 + 1)), vx4]) rfl rfl).trans ((wp_56).trans (rfl))
theorem r_267_10_6 (vx1 : mm_V) (x2 : Int) (vx3 : mm_V) (vx4 : mm_V) {hi : mm_Id → Int → Int} {dh : Int → Int} {nx ns : Int} {Q : mm_V → mm_H → Prop} (hy : 10581 ≤ nx) :
    mm_Wp 267 (bk_267_10.drop 6) [zR (40, 0, 0), vx1, zI x2, vx3, vx4] [] (mm_z hi dh nx ns) Q =
    mm_Cl 249 [zR (40, 0, 0), zI 27] (mm_z hi dh nx ns) (fun r h3 => mm_Wp 267 (bk_267_10.drop 9) [zR (40, 0, 0), vx1, zI x2, vx3, vx4] (mm_push r []) h3 Q) :=
  (wp_5_0).trans ((wp_1).trans ((wp_v2 mm_n_249 (mm_leq mm_m_249 (mm_lb rfl)) (mm_lb rfl) (mm_o40 hy)).trans rfl))
theorem r_267_9_6 (vx1 : mm_V) (x2 : Int) (x3 : Int) (vx4 : mm_V) {hi : mm_Id → Int → Int} {dh : Int → Int} {nx ns : Int} {Q : mm_V → mm_H → Prop} (hy : 10581 ≤ nx) :
    mm_Wp 267 (bk_267_9.drop 6) [zR (40, 0, 0), vx1, zI x2, zI x3, vx4] [] (mm_z hi dh nx ns) Q =
    mm_Wp 267 (mm_blk 267 9) [zR (40, 0, 0), vx1, zI x2, zI (mm_w (x3 + 1)), vx4] [] (mm_z hi dh nx ns) Q :=
  (wp_9 (l2 := [zR (40, 0, 0), vx1, zI x2, zI (mm_w (x3 + 1)), vx4]) rfl rfl).trans ((wp_56).trans (rfl))
theorem r_267_10_9 (vx1 : mm_V) (x2 : Int) (vx3 : mm_V) (vx4 : mm_V) {hi : mm_Id → Int → Int} {dh : Int → Int} {nx ns : Int} {Q : mm_V → mm_H → Prop} (hy : 10581 ≤ nx) :
    mm_Wp 267 (bk_267_10.drop 9) [zR (40, 0, 0), vx1, zI x2, vx3, vx4] [] (mm_z hi dh nx ns) Q =
    mm_Cl 208 [zR (40, 0, 0)] (mm_z hi dh nx ns) (fun r h3 => mm_Wp 267 (bk_267_10.drop 11) [zR (40, 0, 0), vx1, zI x2, vx3, vx4] (mm_push r []) h3 Q) :=
  (wp_5_0).trans ((wp_v1 mm_n_208 (mm_leq mm_m_208 (mm_lb rfl)) (mm_lb rfl) (mm_o40 hy)).trans rfl)
theorem r_267_10_11 (vx0 : mm_V) (vx1 : mm_V) (x2 : Int) (vx3 : mm_V) (vx4 : mm_V) {hi : mm_Id → Int → Int} {dh : Int → Int} {nx ns : Int} {Q : mm_V → mm_H → Prop} (hy : 10581 ≤ nx) :
    mm_Wp 267 (bk_267_10.drop 11) [vx0, vx1, zI x2, vx3, vx4] [] (mm_z hi dh nx ns) Q =
    Q (zI x2) (mm_z hi dh nx ns) :=
  (wp_3_2).trans (wp_90)
/-- PoolHouseModel.oddities()I -/
theorem bq_275_0 : mm_blk 275 0 = bk_275_0 := by decide +kernel
theorem r_275_e  {hi : mm_Id → Int → Int} {dh : Int → Int} {nx ns : Int} {Q : mm_V → mm_H → Prop} (hy : 10581 ≤ nx) :
    mm_Cl 275 [zR (40, 0, 0)] (mm_z hi dh nx ns) Q =
    Q (zI 0) (mm_z (mm_up hi (40, 0, 0) 0 0) dh nx ns) :=
  mm_ce (l2 := [zR (40, 0, 0)]) rfl (mm_kb bq_275_0 ((wp_5_0).trans ((wp_1).trans ((wp_63 (mm_o40 hy)).trans ((wp_1).trans (wp_90))))))
