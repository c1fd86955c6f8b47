/-! stretches of the code (printed by wip/whole/mkreg.py) -/
/-- PoolHouse.added(LPoolHouse$Dataset;III)I -/
theorem bq_67_0 : mm_blk 67 0 = bk_67_0 := by decide +kernel
theorem bq_67_1 : mm_blk 67 1 = bk_67_1 := by decide +kernel
theorem bq_67_2 : mm_blk 67 2 = bk_67_2 := by decide +kernel
theorem bq_67_3 : mm_blk 67 3 = bk_67_3 := by decide +kernel
theorem bq_67_4 : mm_blk 67 4 = bk_67_4 := by decide +kernel
theorem bq_67_5 : mm_blk 67 5 = bk_67_5 := by decide +kernel
theorem bq_67_6 : mm_blk 67 6 = bk_67_6 := by decide +kernel
theorem bq_67_7 : mm_blk 67 7 = bk_67_7 := by decide +kernel
theorem bq_67_8 : mm_blk 67 8 = bk_67_8 := by decide +kernel
theorem r_67_e {tx1 : Int} (x2 : Int) (x3 : Int) (x4 : Int) {hi : mm_Id → Int → Int} {dh : Int → Int} {nx ns : Int} {Q : mm_V → mm_H → Prop} (htx1 : mm_isD tx1) (hx : 5275 ≤ nx) :
    mm_Cl 67 [zR (1, 0, 0), zR (31, tx1, 0), zI x2, zI x3, zI x4] (mm_z hi dh nx ns) Q =
    mm_Cl 157 [zR (22, tx1, 0), zI x2] (mm_z hi dh nx ns) (fun r h3 => mm_Wp 67 (bk_67_0.drop 4) [zR (1, 0, 0), zR (31, tx1, 0), zI x2, zI x3, zI x4, zU, zU, zU] (mm_push r []) h3 Q) :=
  mm_ce (l2 := [zR (1, 0, 0), zR (31, tx1, 0), zI x2, zI x3, zI x4, zU, zU, zU]) rfl (mm_kb bq_67_0 ((wp_5_1).trans ((wp_62 (by decide) (mm_o31 htx1 hx) (mm_r31_0 htx1)).trans ((wp_3_2).trans ((wp_v2 mm_n_157 (mm_leq mm_m_157 (mm_lb rfl)) (mm_lb rfl) (mm_o22 (mm_td htx1) hx)).trans rfl)))))
theorem r_67_0_4a {tx1 : Int} (x2 : Int) (x3 : Int) (x4 : Int) (vx5 : mm_V) (vx6 : mm_V) (vx7 : mm_V) {ty0 ny0 : Int} {hi : mm_Id → Int → Int} {dh : Int → Int} {nx ns : Int} {Q : mm_V → mm_H → Prop} (htx1 : mm_isD tx1) (hty0 : mm_isT ty0) (hny0 : mm_isN ny0) (hx : 5275 ≤ nx) :
    mm_Wp 67 (bk_67_0.drop 4) [zR (1, 0, 0), zR (31, tx1, 0), zI x2, zI x3, zI x4, vx5, vx6, vx7] [zR (24, ty0, ny0)] (mm_z hi dh nx ns) Q =
    (if (hi (24, ty0, ny0) 0) = 2 then mm_Cl 61 [zR (1, 0, 0), zR (24, ty0, ny0)] (mm_z hi dh nx ns) (fun r h3 => mm_Wp 67 (bk_67_2.drop 3) [zR (1, 0, 0), zR (31, tx1, 0), zI x2, zI x3, zI x4, zR (24, ty0, ny0), vx6, vx7] (mm_push r []) h3 Q) else mm_Wp 67 (mm_blk 67 1) [zR (1, 0, 0), zR (31, tx1, 0), zI x2, zI x3, zI x4, zR (24, ty0, ny0), vx6, vx7] [] (mm_z hi dh nx ns) Q) :=
  (wp_8 (l2 := [zR (1, 0, 0), zR (31, tx1, 0), zI x2, zI x3, zI x4, zR (24, ty0, ny0), vx6, vx7]) rfl).trans ((wp_5_5).trans ((wp_54 (by decide)).trans ((wp_5_5).trans ((wp_60 (by decide) (mm_o24 hty0 hny0 hx)).trans ((wp_1).trans ((wp_46).trans (mm_ic (mm_kb bq_67_2 ((wp_5_0).trans ((wp_5_5).trans ((wp_v2 mm_n_61 (mm_leq mm_m_61 (mm_lb rfl)) (mm_lb rfl) (mm_o1 hx)).trans rfl)))) ((wp_0).trans (rfl)))))))))
theorem r_67_1 (vx0 : mm_V) (vx1 : mm_V) (vx2 : mm_V) (vx3 : mm_V) (vx4 : mm_V) (vx5 : mm_V) (vx6 : mm_V) (vx7 : mm_V) {hi : mm_Id → Int → Int} {dh : Int → Int} {nx ns : Int} {Q : mm_V → mm_H → Prop} (hx : 5275 ≤ nx) :
    mm_Wp 67 (mm_blk 67 1) [vx0, vx1, vx2, vx3, vx4, vx5, vx6, vx7] [] (mm_z hi dh nx ns) Q =
    Q (zI (-3)) (mm_z hi dh nx ns) :=
  mm_kb bq_67_1 ((wp_1).trans (wp_90))
theorem r_67_2_3 {tx1 : Int} (x2 : Int) (x3 : Int) (x4 : Int) {tx5 nx5 : Int} (vx6 : mm_V) (vx7 : mm_V) (y0 : Int) {hi : mm_Id → Int → Int} {dh : Int → Int} {nx ns : Int} {Q : mm_V → mm_H → Prop} (htx1 : mm_isD tx1) (htx5 : mm_isT tx5) (hnx5 : mm_isN nx5) (hx : 5275 ≤ nx) :
    mm_Wp 67 (bk_67_2.drop 3) [zR (1, 0, 0), zR (31, tx1, 0), zI x2, zI x3, zI x4, zR (24, tx5, nx5), vx6, vx7] [zI y0] (mm_z hi dh nx ns) Q =
    (if y0 = 0 then Q (zI (-5)) (mm_z hi dh nx ns) else mm_Cl 99 [zR (24, tx5, nx5), zI x3] (mm_z hi dh nx ns) (fun r h3 => mm_Wp 67 (bk_67_3.drop 3) [zR (1, 0, 0), zR (31, tx1, 0), zI x2, zI x3, zI x4, zR (24, tx5, nx5), vx6, vx7] (mm_push r []) h3 Q)) :=
  (wp_41).trans (mm_ic ((wp_1).trans (wp_90)) (mm_kb bq_67_3 ((wp_5_5).trans ((wp_3_3).trans ((wp_v2 mm_n_99 (mm_leq mm_m_99 (mm_lb rfl)) (mm_lb rfl) (mm_o24 htx5 hnx5 hx)).trans rfl)))))
theorem r_67_3_3 {tx1 : Int} (x2 : Int) (x3 : Int) (x4 : Int) {tx5 nx5 : Int} (vx6 : mm_V) (vx7 : mm_V) (y0 : Int) {hi : mm_Id → Int → Int} {dh : Int → Int} {nx ns : Int} {Q : mm_V → mm_H → Prop} (htx1 : mm_isD tx1) (htx5 : mm_isT tx5) (hnx5 : mm_isN nx5) (hx : 5275 ≤ nx) :
    mm_Wp 67 (bk_67_3.drop 3) [zR (1, 0, 0), zR (31, tx1, 0), zI x2, zI x3, zI x4, zR (24, tx5, nx5), vx6, vx7] [zI y0] (mm_z hi dh nx ns) Q =
    (if y0 = 0 then mm_Cl 158 [zR (22, tx1, 0)] (mm_z hi dh nx ns) (fun r h3 => mm_Wp 67 (bk_67_4.drop 3) [zR (1, 0, 0), zR (31, tx1, 0), zI x2, zI x3, zI x4, zR (24, tx5, nx5), vx6, vx7] (mm_push r []) h3 Q) else Q (zI (-3)) (mm_z hi dh nx ns)) :=
  (wp_40).trans (mm_ic (mm_kb bq_67_4 ((wp_5_1).trans ((wp_62 (by decide) (mm_o31 htx1 hx) (mm_r31_0 htx1)).trans ((wp_v1 mm_n_158 (mm_leq mm_m_158 (mm_lb rfl)) (mm_lb rfl) (mm_o22 (mm_td htx1) hx)).trans rfl)))) ((wp_1).trans (wp_90)))
theorem r_67_4_3 {tx1 : Int} (x2 : Int) (x3 : Int) (x4 : Int) {tx5 nx5 : Int} (vx6 : mm_V) (vx7 : mm_V) (y0 : Int) {hi : mm_Id → Int → Int} {dh : Int → Int} {nx ns : Int} {Q : mm_V → mm_H → Prop} (htx1 : mm_isD tx1) (htx5 : mm_isT tx5) (hnx5 : mm_isN nx5) (hx : 5275 ≤ nx) :
    mm_Wp 67 (bk_67_4.drop 3) [zR (1, 0, 0), zR (31, tx1, 0), zI x2, zI x3, zI x4, zR (24, tx5, nx5), vx6, vx7] [zI y0] (mm_z hi dh nx ns) Q =
    (if (hi (24, tx5, nx5) 6) < 24 then (if y0 = 0 then mm_Wp 67 (mm_blk 67 5) [zR (1, 0, 0), zR (31, tx1, 0), zI x2, zI x3, zI x4, zR (24, tx5, nx5), zI y0, vx7] [] (mm_z hi dh nx ns) Q else ((0 ≤ y0 ∧ y0 < 37) ∧ mm_Cl 95 [zR (24, tx1, y0), zI x4, zI (hi (1, 0, 0) 12)] (mm_z hi dh nx ns) (fun r h3 => mm_Wp 67 (bk_67_6.drop 11) [zR (1, 0, 0), zR (31, tx1, 0), zI x2, zI x3, zI x4, zR (24, tx5, nx5), zI y0, zR (24, tx1, y0)] (mm_push r []) h3 Q))) else mm_Wp 67 (mm_blk 67 5) [zR (1, 0, 0), zR (31, tx1, 0), zI x2, zI x3, zI x4, zR (24, tx5, nx5), zI y0, vx7] [] (mm_z hi dh nx ns) Q) :=
  (wp_6 (l2 := [zR (1, 0, 0), zR (31, tx1, 0), zI x2, zI x3, zI x4, zR (24, tx5, nx5), zI y0, vx7]) rfl).trans ((wp_5_5).trans ((wp_60 (by decide) (mm_o24 htx5 hnx5 hx)).trans ((wp_1).trans ((wp_49).trans (mm_ic ((wp_3_6).trans ((wp_41).trans (mm_ic ((wp_0).trans (rfl)) (mm_kb bq_67_6 ((wp_5_1).trans ((wp_62 (by decide) (mm_o31 htx1 hx) (mm_r31_0 htx1)).trans ((wp_62 (by decide) (mm_o22 (mm_td htx1) hx) (mm_r22_0 (mm_td htx1))).trans ((wp_3_6).trans ((wp_73 (mm_q23 (mm_td htx1) hx) (by decide) (fun q => mm_a23 (mm_td htx1) q)).trans (mm_acd fun h1 => (wp_8 (l2 := [zR (1, 0, 0), zR (31, tx1, 0), zI x2, zI x3, zI x4, zR (24, tx5, nx5), zI y0, zR (24, tx1, y0)]) rfl).trans ((wp_5_7).trans ((wp_3_4).trans ((wp_5_0).trans ((wp_60 (by decide) (mm_o1 hx)).trans ((wp_v3 mm_n_95 (mm_leq mm_m_95 (mm_lb rfl)) (mm_lb rfl) (mm_o24 (mm_td htx1) h1 hx)).trans rfl))))))))))))))) (rfl))))))
theorem r_67_5 (vx0 : mm_V) (vx1 : mm_V) (vx2 : mm_V) (vx3 : mm_V) (vx4 : mm_V) (vx5 : mm_V) (vx6 : mm_V) (vx7 : mm_V) {hi : mm_Id → Int → Int} {dh : Int → Int} {nx ns : Int} {Q : mm_V → mm_H → Prop} (hx : 5275 ≤ nx) :
    mm_Wp 67 (mm_blk 67 5) [vx0, vx1, vx2, vx3, vx4, vx5, vx6, vx7] [] (mm_z hi dh nx ns) Q =
    Q (zI (-4)) (mm_z hi dh nx ns) :=
  mm_kb bq_67_5 ((wp_1).trans (wp_90))
theorem r_67_6_11 (vx0 : mm_V) (vx1 : mm_V) (x2 : Int) (x3 : Int) (x4 : Int) {tx5 nx5 : Int} (x6 : Int) {tx7 nx7 : Int} {hi : mm_Id → Int → Int} {dh : Int → Int} {nx ns : Int} {Q : mm_V → mm_H → Prop} (htx5 : mm_isT tx5) (hnx5 : mm_isN nx5) (htx7 : mm_isT tx7) (hnx7 : mm_isN nx7) (hx : 5275 ≤ nx) :
    mm_Wp 67 (bk_67_6.drop 11) [vx0, vx1, zI x2, zI x3, zI x4, zR (24, tx5, nx5), zI x6, zR (24, tx7, nx7)] [] (mm_z hi dh nx ns) Q =
    (if x4 = 1 then mm_Wp 67 (mm_blk 67 8) [vx0, vx1, zI x2, zI x3, zI x4, zR (24, tx5, nx5), zI x6, zR (24, tx7, nx7)] [zI 0, zR (24, tx7, nx7)] (mm_z (mm_up hi (24, tx7, nx7) 5 1) dh nx ns) Q else mm_Wp 67 (mm_blk 67 8) [vx0, vx1, zI x2, zI x3, zI x4, zR (24, tx5, nx5), zI x6, zR (24, tx7, nx7)] [zI x2, zR (24, tx7, nx7)] (mm_z (mm_up hi (24, tx7, nx7) 5 1) dh nx ns) Q) :=
  (wp_5_7).trans ((wp_1).trans ((wp_63 (mm_o24 htx7 hnx7 hx)).trans ((wp_5_7).trans ((wp_3_4).trans ((wp_1).trans ((wp_47).trans (mm_ic ((wp_1).trans ((wp_56).trans (rfl))) (mm_kb bq_67_7 ((wp_3_2).trans ((wp_0).trans (rfl)))))))))))
theorem r_67_8 (vx0 : mm_V) (vx1 : mm_V) (vx2 : mm_V) (x3 : Int) (vx4 : mm_V) {tx5 nx5 : Int} (x6 : Int) (vx7 : mm_V) (y0 : Int) {ty1 ny1 : Int} {hi : mm_Id → Int → Int} {dh : Int → Int} {nx ns : Int} {Q : mm_V → mm_H → Prop} (htx5 : mm_isT tx5) (hnx5 : mm_isN nx5) (hty1 : mm_isT ty1) (hny1 : mm_isN ny1) (hx : 5275 ≤ nx) :
    mm_Wp 67 (mm_blk 67 8) [vx0, vx1, vx2, zI x3, vx4, zR (24, tx5, nx5), zI x6, vx7] [zI y0, zR (24, ty1, ny1)] (mm_z hi dh nx ns) Q =
    mm_Cl 100 [zR (24, tx5, nx5), zI x3, zI x6] (mm_z (mm_up hi (24, ty1, ny1) 4 y0) dh nx ns) (fun r h3 => mm_Wp 67 (bk_67_8.drop 5) [vx0, vx1, vx2, zI x3, vx4, zR (24, tx5, nx5), zI x6, vx7] (mm_push r []) h3 Q) :=
  mm_kb bq_67_8 ((wp_63 (mm_o24 hty1 hny1 hx)).trans ((wp_5_5).trans ((wp_3_3).trans ((wp_3_6).trans ((wp_v3 mm_n_100 (mm_leq mm_m_100 (mm_lb rfl)) (mm_lb rfl) (mm_o24 htx5 hnx5 hx)).trans rfl)))))
theorem r_67_8_5 (vx0 : mm_V) (vx1 : mm_V) (vx2 : mm_V) (vx3 : mm_V) (vx4 : mm_V) (vx5 : mm_V) (x6 : Int) (vx7 : mm_V) {hi : mm_Id → Int → Int} {dh : Int → Int} {nx ns : Int} {Q : mm_V → mm_H → Prop} (hx : 5275 ≤ nx) :
    mm_Wp 67 (bk_67_8.drop 5) [vx0, vx1, vx2, vx3, vx4, vx5, zI x6, vx7] [] (mm_z hi dh nx ns) Q =
    Q (zI x6) (mm_z hi dh nx ns) :=
  (wp_3_6).trans (wp_90)
/-- PoolHouse.whyNotMoved(LPoolHouse$Tree;IIII)I -/
theorem bq_69_0 : mm_blk 69 0 = bk_69_0 := by decide +kernel
theorem bq_69_2 : mm_blk 69 2 = bk_69_2 := by decide +kernel
theorem bq_69_3 : mm_blk 69 3 = bk_69_3 := by decide +kernel
theorem bq_69_4 : mm_blk 69 4 = bk_69_4 := by decide +kernel
theorem bq_69_5 : mm_blk 69 5 = bk_69_5 := by decide +kernel
theorem bq_69_6 : mm_blk 69 6 = bk_69_6 := by decide +kernel
theorem bq_69_7 : mm_blk 69 7 = bk_69_7 := by decide +kernel
theorem bq_69_8 : mm_blk 69 8 = bk_69_8 := by decide +kernel
theorem bq_69_9 : mm_blk 69 9 = bk_69_9 := by decide +kernel
theorem r_69_e {tx1 : Int} (x2 : Int) (x3 : Int) (x4 : Int) (x5 : Int) {hi : mm_Id → Int → Int} {dh : Int → Int} {nx ns : Int} {Q : mm_V → mm_H → Prop} (htx1 : mm_isT tx1) (hx : 5275 ≤ nx) :
    mm_Cl 69 [zR (1, 0, 0), zR (22, tx1, 0), zI x2, zI x3, zI x4, zI x5] (mm_z hi dh nx ns) Q =
    mm_Cl 56 [zR (1, 0, 0), zR (22, tx1, 0), zI x2] (mm_z hi dh nx ns) (fun r h3 => mm_Wp 69 (bk_69_0.drop 4) [zR (1, 0, 0), zR (22, tx1, 0), zI x2, zI x3, zI x4, zI x5, zU, zU, zU, zU] (mm_push r []) h3 Q) :=
  mm_ce (l2 := [zR (1, 0, 0), zR (22, tx1, 0), zI x2, zI x3, zI x4, zI x5, zU, zU, zU, zU]) rfl (mm_kb bq_69_0 ((wp_5_0).trans ((wp_5_1).trans ((wp_3_2).trans ((wp_v3 mm_n_56 (mm_leq mm_m_56 (mm_lb rfl)) (mm_lb rfl) (mm_o1 hx)).trans rfl)))))
theorem r_69_0_4a {tx1 : Int} (x2 : Int) (x3 : Int) (x4 : Int) (x5 : Int) (vx6 : mm_V) (vx7 : mm_V) (vx8 : mm_V) (vx9 : mm_V) {ty0 ny0 : Int} {hi : mm_Id → Int → Int} {dh : Int → Int} {nx ns : Int} {Q : mm_V → mm_H → Prop} (htx1 : mm_isT tx1) (hty0 : mm_isT ty0) (hny0 : mm_isN ny0) (hx : 5275 ≤ nx) :
    mm_Wp 69 (bk_69_0.drop 4) [zR (1, 0, 0), zR (22, tx1, 0), zI x2, zI x3, zI x4, zI x5, vx6, vx7, vx8, vx9] [zR (24, ty0, ny0)] (mm_z hi dh nx ns) Q =
    mm_Cl 56 [zR (1, 0, 0), zR (22, tx1, 0), zI x4] (mm_z hi dh nx ns) (fun r h3 => mm_Wp 69 (bk_69_0.drop 9) [zR (1, 0, 0), zR (22, tx1, 0), zI x2, zI x3, zI x4, zI x5, zR (24, ty0, ny0), vx7, vx8, vx9] (mm_push r []) h3 Q) :=
  (wp_8 (l2 := [zR (1, 0, 0), zR (22, tx1, 0), zI x2, zI x3, zI x4, zI x5, zR (24, ty0, ny0), vx7, vx8, vx9]) rfl).trans ((wp_5_0).trans ((wp_5_1).trans ((wp_3_4).trans ((wp_v3 mm_n_56 (mm_leq mm_m_56 (mm_lb rfl)) (mm_lb rfl) (mm_o1 hx)).trans rfl))))
theorem r_69_0_9c {tx1 : Int} (x2 : Int) (x3 : Int) (x4 : Int) (x5 : Int) {tx6 nx6 : Int} (vx7 : mm_V) (vx8 : mm_V) (vx9 : mm_V) {ty0 ny0 : Int} {hi : mm_Id → Int → Int} {dh : Int → Int} {nx ns : Int} {Q : mm_V → mm_H → Prop} (htx1 : mm_isT tx1) (htx6 : mm_isT tx6) (hnx6 : mm_isN nx6) (hty0 : mm_isT ty0) (hny0 : mm_isN ny0) (hx : 5275 ≤ nx) :
    mm_Wp 69 (bk_69_0.drop 9) [zR (1, 0, 0), zR (22, tx1, 0), zI x2, zI x3, zI x4, zI x5, zR (24, tx6, nx6), vx7, vx8, vx9] [zR (24, ty0, ny0)] (mm_z hi dh nx ns) Q =
    (if (hi (24, tx6, nx6) 0) = 2 then mm_Wp 69 (mm_blk 69 4) [zR (1, 0, 0), zR (22, tx1, 0), zI x2, zI x3, zI x4, zI x5, zR (24, tx6, nx6), zR (24, ty0, ny0), vx8, vx9] [zI 1] (mm_z hi dh nx ns) Q else mm_Wp 69 (mm_blk 69 4) [zR (1, 0, 0), zR (22, tx1, 0), zI x2, zI x3, zI x4, zI x5, zR (24, tx6, nx6), zR (24, ty0, ny0), vx8, vx9] [zI 0] (mm_z hi dh nx ns) Q) :=
  (wp_8 (l2 := [zR (1, 0, 0), zR (22, tx1, 0), zI x2, zI x3, zI x4, zI x5, zR (24, tx6, nx6), zR (24, ty0, ny0), vx8, vx9]) rfl).trans ((wp_5_6).trans ((wp_54 (by decide)).trans ((wp_5_7).trans ((wp_55 (by decide)).trans (mm_kb bq_69_2 ((wp_5_6).trans ((wp_60 (by decide) (mm_o24 htx6 hnx6 hx)).trans ((wp_1).trans ((wp_47).trans (mm_ic ((wp_1).trans ((wp_56).trans (rfl))) (mm_kb bq_69_3 ((wp_1).trans ((wp_0).trans (rfl))))))))))))))
theorem r_69_4 {tx1 : Int} (x2 : Int) (x3 : Int) (x4 : Int) (x5 : Int) (vx6 : mm_V) {tx7 nx7 : Int} (vx8 : mm_V) (vx9 : mm_V) (y0 : Int) {hi : mm_Id → Int → Int} {dh : Int → Int} {nx ns : Int} {Q : mm_V → mm_H → Prop} (htx1 : mm_isT tx1) (htx7 : mm_isT tx7) (hnx7 : mm_isN nx7) (hx : 5275 ≤ nx) :
    mm_Wp 69 (mm_blk 69 4) [zR (1, 0, 0), zR (22, tx1, 0), zI x2, zI x3, zI x4, zI x5, vx6, zR (24, tx7, nx7), vx8, vx9] [zI y0] (mm_z hi dh nx ns) Q =
    (if y0 = 0 then mm_Wp 69 (mm_blk 69 5) [zR (1, 0, 0), zR (22, tx1, 0), zI x2, zI x3, zI x4, zI x5, vx6, zR (24, tx7, nx7), zI y0, vx9] [] (mm_z hi dh nx ns) Q else mm_Cl 164 [zR (22, tx1, 0), zI x4, zI x2] (mm_z hi dh nx ns) (fun r h3 => mm_Wp 69 (bk_69_4.drop 7) [zR (1, 0, 0), zR (22, tx1, 0), zI x2, zI x3, zI x4, zI x5, vx6, zR (24, tx7, nx7), zI y0, vx9] (mm_push r []) h3 Q)) :=
  mm_kb bq_69_4 ((wp_6 (l2 := [zR (1, 0, 0), zR (22, tx1, 0), zI x2, zI x3, zI x4, zI x5, vx6, zR (24, tx7, nx7), zI y0, vx9]) rfl).trans ((wp_3_8).trans ((wp_40).trans (mm_ic (rfl) ((wp_5_1).trans ((wp_3_4).trans ((wp_3_2).trans ((wp_v3 mm_n_164 (mm_leq mm_m_164 (mm_lb rfl)) (mm_lb rfl) (mm_o22 htx1 hx)).trans rfl))))))))
theorem r_69_5 {tx1 : Int} (vx2 : mm_V) (x3 : Int) (x4 : Int) (x5 : Int) (vx6 : mm_V) {tx7 nx7 : Int} (x8 : Int) (vx9 : mm_V) {hi : mm_Id → Int → Int} {dh : Int → Int} {nx ns : Int} {Q : mm_V → mm_H → Prop} (htx1 : mm_isT tx1) (htx7 : mm_isT tx7) (hnx7 : mm_isN nx7) (hx : 5275 ≤ nx) :
    mm_Wp 69 (mm_blk 69 5) [zR (1, 0, 0), zR (22, tx1, 0), vx2, zI x3, zI x4, zI x5, vx6, zR (24, tx7, nx7), zI x8, vx9] [] (mm_z hi dh nx ns) Q =
    mm_Cl 99 [zR (24, tx7, nx7), zI x5] (mm_z hi dh nx ns) (fun r h3 => mm_Wp 69 (bk_69_5.drop 5) [zR (1, 0, 0), zR (22, tx1, 0), vx2, zI x3, zI x4, zI x5, vx6, zR (24, tx7, nx7), zI x8, vx9] (mm_push r [zR (22, tx1, 0), zR (1, 0, 0)]) h3 Q) :=
  mm_kb bq_69_5 ((wp_5_0).trans ((wp_5_1).trans ((wp_5_7).trans ((wp_3_5).trans ((wp_v2 mm_n_99 (mm_leq mm_m_99 (mm_lb rfl)) (mm_lb rfl) (mm_o24 htx7 hnx7 hx)).trans rfl)))))
theorem r_69_4_7 {tx1 : Int} (vx2 : mm_V) (x3 : Int) (x4 : Int) (x5 : Int) (vx6 : mm_V) {tx7 nx7 : Int} (x8 : Int) (vx9 : mm_V) (y0 : Int) {hi : mm_Id → Int → Int} {dh : Int → Int} {nx ns : Int} {Q : mm_V → mm_H → Prop} (htx1 : mm_isT tx1) (htx7 : mm_isT tx7) (hnx7 : mm_isN nx7) (hx : 5275 ≤ nx) :
    mm_Wp 69 (bk_69_4.drop 7) [zR (1, 0, 0), zR (22, tx1, 0), vx2, zI x3, zI x4, zI x5, vx6, zR (24, tx7, nx7), zI x8, vx9] [zI y0] (mm_z hi dh nx ns) Q =
    (if y0 = 0 then mm_Wp 69 (mm_blk 69 5) [zR (1, 0, 0), zR (22, tx1, 0), vx2, zI x3, zI x4, zI x5, vx6, zR (24, tx7, nx7), zI x8, vx9] [] (mm_z hi dh nx ns) Q else Q (zI (-3)) (mm_z hi dh nx ns)) :=
  (wp_40).trans (mm_ic (rfl) ((wp_1).trans (wp_90)))
theorem r_69_5_5 (vx0 : mm_V) (vx1 : mm_V) (vx2 : mm_V) (x3 : Int) (x4 : Int) (vx5 : mm_V) (vx6 : mm_V) {tx7 nx7 : Int} (x8 : Int) (vx9 : mm_V) (y0 : Int) {ty1 : Int} {hi : mm_Id → Int → Int} {dh : Int → Int} {nx ns : Int} {Q : mm_V → mm_H → Prop} (htx7 : mm_isT tx7) (hnx7 : mm_isN nx7) (hty1 : mm_isT ty1) (hx : 5275 ≤ nx) :
    mm_Wp 69 (bk_69_5.drop 5) [vx0, vx1, vx2, zI x3, zI x4, vx5, vx6, zR (24, tx7, nx7), zI x8, vx9] [zI y0, zR (22, ty1, 0), zR (1, 0, 0)] (mm_z hi dh nx ns) Q =
    mm_Cl 56 [zR (1, 0, 0), zR (22, ty1, 0), zI y0] (mm_z hi dh nx ns) (fun r h3 => mm_Wp 69 (bk_69_5.drop 6) [vx0, vx1, vx2, zI x3, zI x4, vx5, vx6, zR (24, tx7, nx7), zI x8, vx9] (mm_push r []) h3 Q) :=
  (wp_v3 mm_n_56 (mm_leq mm_m_56 (mm_lb rfl)) (mm_lb rfl) (mm_o1 hx)).trans rfl
theorem r_69_5_6 (vx0 : mm_V) (vx1 : mm_V) (vx2 : mm_V) (x3 : Int) (x4 : Int) (vx5 : mm_V) (vx6 : mm_V) {tx7 nx7 : Int} (x8 : Int) (vx9 : mm_V) {hi : mm_Id → Int → Int} {dh : Int → Int} {nx ns : Int} {Q : mm_V → mm_H → Prop} (htx7 : mm_isT tx7) (hnx7 : mm_isN nx7) (hx : 5275 ≤ nx) :
    mm_Wp 69 (bk_69_5.drop 6) [vx0, vx1, vx2, zI x3, zI x4, vx5, vx6, zR (24, tx7, nx7), zI x8, vx9] [zR mm_nul] (mm_z hi dh nx ns) Q =
    mm_Wp 69 (mm_blk 69 7) [vx0, vx1, vx2, zI x3, zI x4, vx5, vx6, zR (24, tx7, nx7), zI x8, zR mm_nul] [] (mm_z hi dh nx ns) Q :=
  (wp_8 (l2 := [vx0, vx1, vx2, zI x3, zI x4, vx5, vx6, zR (24, tx7, nx7), zI x8, zR mm_nul]) rfl).trans ((wp_5_9).trans ((wp_54n).trans (rfl)))
theorem r_69_5_6a (vx0 : mm_V) (vx1 : mm_V) (vx2 : mm_V) (x3 : Int) (x4 : Int) (vx5 : mm_V) (vx6 : mm_V) {tx7 nx7 : Int} (x8 : Int) (vx9 : mm_V) {ty0 ny0 : Int} {hi : mm_Id → Int → Int} {dh : Int → Int} {nx ns : Int} {Q : mm_V → mm_H → Prop} (htx7 : mm_isT tx7) (hnx7 : mm_isN nx7) (hty0 : mm_isT ty0) (hny0 : mm_isN ny0) (hx : 5275 ≤ nx) :
    mm_Wp 69 (bk_69_5.drop 6) [vx0, vx1, vx2, zI x3, zI x4, vx5, vx6, zR (24, tx7, nx7), zI x8, vx9] [zR (24, ty0, ny0)] (mm_z hi dh nx ns) Q =
    (if x8 = 0 then (if (hi (24, ty0, ny0) 0) = 2 then mm_Wp 69 (mm_blk 69 6) [vx0, vx1, vx2, zI x3, zI x4, vx5, vx6, zR (24, tx7, nx7), zI x8, zR (24, ty0, ny0)] [] (mm_z hi dh nx ns) Q else mm_Wp 69 (mm_blk 69 7) [vx0, vx1, vx2, zI x3, zI x4, vx5, vx6, zR (24, tx7, nx7), zI x8, zR (24, ty0, ny0)] [] (mm_z hi dh nx ns) Q) else mm_Wp 69 (mm_blk 69 6) [vx0, vx1, vx2, zI x3, zI x4, vx5, vx6, zR (24, tx7, nx7), zI x8, zR (24, ty0, ny0)] [] (mm_z hi dh nx ns) Q) :=
  (wp_8 (l2 := [vx0, vx1, vx2, zI x3, zI x4, vx5, vx6, zR (24, tx7, nx7), zI x8, zR (24, ty0, ny0)]) rfl).trans ((wp_5_9).trans ((wp_54 (by decide)).trans ((wp_3_8).trans ((wp_41).trans (mm_ic ((wp_5_9).trans ((wp_60 (by decide) (mm_o24 hty0 hny0 hx)).trans ((wp_1).trans ((wp_47).trans (mm_ic ((wp_0).trans (rfl)) (rfl)))))) (rfl))))))
theorem r_69_7 (vx0 : mm_V) (vx1 : mm_V) (vx2 : mm_V) (x3 : Int) (x4 : Int) (vx5 : mm_V) (vx6 : mm_V) {tx7 nx7 : Int} (vx8 : mm_V) {hi : mm_Id → Int → Int} {dh : Int → Int} {nx ns : Int} {Q : mm_V → mm_H → Prop} (htx7 : mm_isT tx7) (hnx7 : mm_isN nx7) (hx : 5275 ≤ nx) :
    mm_Wp 69 (mm_blk 69 7) [vx0, vx1, vx2, zI x3, zI x4, vx5, vx6, zR (24, tx7, nx7), vx8, zR mm_nul] [] (mm_z hi dh nx ns) Q =
    (if x3 = x4 then mm_Wp 69 (mm_blk 69 8) [vx0, vx1, vx2, zI x3, zI x4, vx5, vx6, zR (24, tx7, nx7), vx8, zR mm_nul] [] (mm_z hi dh nx ns) Q else (if (hi (24, tx7, nx7) 6) < 24 then mm_Wp 69 (mm_blk 69 8) [vx0, vx1, vx2, zI x3, zI x4, vx5, vx6, zR (24, tx7, nx7), vx8, zR mm_nul] [] (mm_z hi dh nx ns) Q else mm_Wp 69 (mm_blk 69 9) [vx0, vx1, vx2, zI x3, zI x4, vx5, vx6, zR (24, tx7, nx7), vx8, zR mm_nul] [zI (-4)] (mm_z hi dh nx ns) Q)) :=
  mm_kb bq_69_7 ((wp_5_9).trans ((wp_55n).trans ((wp_3_3).trans ((wp_3_4).trans ((wp_46).trans (mm_ic (rfl) ((wp_5_7).trans ((wp_60 (by decide) (mm_o24 htx7 hnx7 hx)).trans ((wp_1).trans ((wp_48).trans (mm_ic (rfl) ((wp_1).trans ((wp_56).trans (rfl))))))))))))))
theorem r_69_6 (vx0 : mm_V) (vx1 : mm_V) (vx2 : mm_V) (vx3 : mm_V) (vx4 : mm_V) (vx5 : mm_V) (vx6 : mm_V) (vx7 : mm_V) (vx8 : mm_V) (vx9 : mm_V) {hi : mm_Id → Int → Int} {dh : Int → Int} {nx ns : Int} {Q : mm_V → mm_H → Prop} (hx : 5275 ≤ nx) :
    mm_Wp 69 (mm_blk 69 6) [vx0, vx1, vx2, vx3, vx4, vx5, vx6, vx7, vx8, vx9] [] (mm_z hi dh nx ns) Q =
    Q (zI (-3)) (mm_z hi dh nx ns) :=
  mm_kb bq_69_6 ((wp_1).trans (wp_90))
theorem r_69_7a (vx0 : mm_V) (vx1 : mm_V) (vx2 : mm_V) (x3 : Int) (x4 : Int) (vx5 : mm_V) (vx6 : mm_V) {tx7 nx7 : Int} (vx8 : mm_V) {tx9 nx9 : Int} {hi : mm_Id → Int → Int} {dh : Int → Int} {nx ns : Int} {Q : mm_V → mm_H → Prop} (htx7 : mm_isT tx7) (hnx7 : mm_isN nx7) (htx9 : mm_isT tx9) (hnx9 : mm_isN nx9) (hx : 5275 ≤ nx) :
    mm_Wp 69 (mm_blk 69 7) [vx0, vx1, vx2, zI x3, zI x4, vx5, vx6, zR (24, tx7, nx7), vx8, zR (24, tx9, nx9)] [] (mm_z hi dh nx ns) Q =
    mm_Wp 69 (mm_blk 69 8) [vx0, vx1, vx2, zI x3, zI x4, vx5, vx6, zR (24, tx7, nx7), vx8, zR (24, tx9, nx9)] [] (mm_z hi dh nx ns) Q :=
  mm_kb bq_69_7 ((wp_5_9).trans ((wp_55 (by decide)).trans (rfl)))
theorem r_69_8 (vx0 : mm_V) (vx1 : mm_V) (vx2 : mm_V) (vx3 : mm_V) (vx4 : mm_V) (vx5 : mm_V) (vx6 : mm_V) (vx7 : mm_V) (vx8 : mm_V) (vx9 : mm_V) {hi : mm_Id → Int → Int} {dh : Int → Int} {nx ns : Int} {Q : mm_V → mm_H → Prop} (hx : 5275 ≤ nx) :
    mm_Wp 69 (mm_blk 69 8) [vx0, vx1, vx2, vx3, vx4, vx5, vx6, vx7, vx8, vx9] [] (mm_z hi dh nx ns) Q =
    mm_Wp 69 (mm_blk 69 9) [vx0, vx1, vx2, vx3, vx4, vx5, vx6, vx7, vx8, vx9] [zI 0] (mm_z hi dh nx ns) Q :=
  mm_kb bq_69_8 ((wp_1).trans ((wp_0).trans (rfl)))
theorem r_69_9 (vx0 : mm_V) (vx1 : mm_V) (vx2 : mm_V) (vx3 : mm_V) (vx4 : mm_V) (vx5 : mm_V) (vx6 : mm_V) (vx7 : mm_V) (vx8 : mm_V) (vx9 : mm_V) (y0 : Int) {hi : mm_Id → Int → Int} {dh : Int → Int} {nx ns : Int} {Q : mm_V → mm_H → Prop} (hx : 5275 ≤ nx) :
    mm_Wp 69 (mm_blk 69 9) [vx0, vx1, vx2, vx3, vx4, vx5, vx6, vx7, vx8, vx9] [zI y0] (mm_z hi dh nx ns) Q =
    Q (zI y0) (mm_z hi dh nx ns) :=
  mm_kb bq_69_9 (wp_90)
/-- PoolHouse.move(LPoolHouse$Tree;LPoolHouse$Node;III)I -/
theorem bq_70_0 : mm_blk 70 0 = bk_70_0 := by decide +kernel
theorem bq_70_2 : mm_blk 70 2 = bk_70_2 := by decide +kernel
theorem bq_70_3 : mm_blk 70 3 = bk_70_3 := by decide +kernel
theorem bq_70_4 : mm_blk 70 4 = bk_70_4 := by decide +kernel
theorem bq_70_5 : mm_blk 70 5 = bk_70_5 := by decide +kernel
theorem bq_70_6 : mm_blk 70 6 = bk_70_6 := by decide +kernel
theorem r_70_e {tx1 : Int} {tx2 nx2 : Int} (x3 : Int) (x4 : Int) (x5 : Int) {hi : mm_Id → Int → Int} {dh : Int → Int} {nx ns : Int} {Q : mm_V → mm_H → Prop} (htx1 : mm_isT tx1) (htx2 : mm_isT tx2) (hnx2 : mm_isN nx2) (hx : 5275 ≤ nx) :
    mm_Cl 70 [zR (1, 0, 0), zR (22, tx1, 0), zR (24, tx2, nx2), zI x3, zI x4, zI x5] (mm_z hi dh nx ns) Q =
    mm_Cl 99 [zR (24, tx2, nx2), zI x3] (mm_z hi dh nx ns) (fun r h3 => mm_Wp 70 (bk_70_0.drop 3) [zR (1, 0, 0), zR (22, tx1, 0), zR (24, tx2, nx2), zI x3, zI x4, zI x5, zU, zU, zU, zU, zU] (mm_push r []) h3 Q) :=
  mm_ce (l2 := [zR (1, 0, 0), zR (22, tx1, 0), zR (24, tx2, nx2), zI x3, zI x4, zI x5, zU, zU, zU, zU, zU]) rfl (mm_kb bq_70_0 ((wp_5_2).trans ((wp_3_3).trans ((wp_v2 mm_n_99 (mm_leq mm_m_99 (mm_lb rfl)) (mm_lb rfl) (mm_o24 htx2 hnx2 hx)).trans rfl))))
theorem r_70_0_3 {tx1 : Int} {tx2 nx2 : Int} (x3 : Int) (x4 : Int) (x5 : Int) (vx6 : mm_V) (vx7 : mm_V) (vx8 : mm_V) (vx9 : mm_V) (vx10 : mm_V) (y0 : Int) {hi : mm_Id → Int → Int} {dh : Int → Int} {nx ns : Int} {Q : mm_V → mm_H → Prop} (htx1 : mm_isT tx1) (htx2 : mm_isT tx2) (hnx2 : mm_isN nx2) (hx : 5275 ≤ nx) :
    mm_Wp 70 (bk_70_0.drop 3) [zR (1, 0, 0), zR (22, tx1, 0), zR (24, tx2, nx2), zI x3, zI x4, zI x5, vx6, vx7, vx8, vx9, vx10] [zI y0] (mm_z hi dh nx ns) Q =
    mm_Cl 56 [zR (1, 0, 0), zR (22, tx1, 0), zI y0] (mm_z hi dh nx ns) (fun r h3 => mm_Wp 70 (bk_70_0.drop 8) [zR (1, 0, 0), zR (22, tx1, 0), zR (24, tx2, nx2), zI x3, zI x4, zI x5, zI y0, vx7, vx8, vx9, vx10] (mm_push r []) h3 Q) :=
  (wp_6 (l2 := [zR (1, 0, 0), zR (22, tx1, 0), zR (24, tx2, nx2), zI x3, zI x4, zI x5, zI y0, vx7, vx8, vx9, vx10]) rfl).trans ((wp_5_0).trans ((wp_5_1).trans ((wp_3_6).trans ((wp_v3 mm_n_56 (mm_leq mm_m_56 (mm_lb rfl)) (mm_lb rfl) (mm_o1 hx)).trans rfl))))
theorem r_70_0_8a {tx1 : Int} {tx2 nx2 : Int} (x3 : Int) (x4 : Int) (x5 : Int) (x6 : Int) (vx7 : mm_V) (vx8 : mm_V) (vx9 : mm_V) (vx10 : mm_V) {ty0 ny0 : Int} {hi : mm_Id → Int → Int} {dh : Int → Int} {nx ns : Int} {Q : mm_V → mm_H → Prop} (htx1 : mm_isT tx1) (htx2 : mm_isT tx2) (hnx2 : mm_isN nx2) (hty0 : mm_isT ty0) (hny0 : mm_isN ny0) (hx : 5275 ≤ nx) :
    mm_Wp 70 (bk_70_0.drop 8) [zR (1, 0, 0), zR (22, tx1, 0), zR (24, tx2, nx2), zI x3, zI x4, zI x5, zI x6, vx7, vx8, vx9, vx10] [zR (24, ty0, ny0)] (mm_z hi dh nx ns) Q =
    mm_Cl 56 [zR (1, 0, 0), zR (22, tx1, 0), zI x4] (mm_z hi dh nx ns) (fun r h3 => mm_Wp 70 (bk_70_0.drop 13) [zR (1, 0, 0), zR (22, tx1, 0), zR (24, tx2, nx2), zI x3, zI x4, zI x5, zI x6, zR (24, ty0, ny0), vx8, vx9, vx10] (mm_push r []) h3 Q) :=
  (wp_8 (l2 := [zR (1, 0, 0), zR (22, tx1, 0), zR (24, tx2, nx2), zI x3, zI x4, zI x5, zI x6, zR (24, ty0, ny0), vx8, vx9, vx10]) rfl).trans ((wp_5_0).trans ((wp_5_1).trans ((wp_3_4).trans ((wp_v3 mm_n_56 (mm_leq mm_m_56 (mm_lb rfl)) (mm_lb rfl) (mm_o1 hx)).trans rfl))))
theorem r_70_0_13c {tx1 : Int} {tx2 nx2 : Int} (x3 : Int) (x4 : Int) (x5 : Int) (x6 : Int) {tx7 nx7 : Int} (vx8 : mm_V) (vx9 : mm_V) (vx10 : mm_V) {ty0 ny0 : Int} {hi : mm_Id → Int → Int} {dh : Int → Int} {nx ns : Int} {Q : mm_V → mm_H → Prop} (htx1 : mm_isT tx1) (htx2 : mm_isT tx2) (hnx2 : mm_isN nx2) (htx7 : mm_isT tx7) (hnx7 : mm_isN nx7) (hty0 : mm_isT ty0) (hny0 : mm_isN ny0) (hx : 5275 ≤ nx) :
    mm_Wp 70 (bk_70_0.drop 13) [zR (1, 0, 0), zR (22, tx1, 0), zR (24, tx2, nx2), zI x3, zI x4, zI x5, zI x6, zR (24, tx7, nx7), vx8, vx9, vx10] [zR (24, ty0, ny0)] (mm_z hi dh nx ns) Q =
    mm_Cl 99 [zR (24, ty0, ny0), zI x5] (mm_z hi dh nx ns) (fun r h3 => mm_Wp 70 (bk_70_2.drop 3) [zR (1, 0, 0), zR (22, tx1, 0), zR (24, tx2, nx2), zI x3, zI x4, zI x5, zI x6, zR (24, tx7, nx7), zR (24, ty0, ny0), vx9, vx10] (mm_push r []) h3 Q) :=
  (wp_8 (l2 := [zR (1, 0, 0), zR (22, tx1, 0), zR (24, tx2, nx2), zI x3, zI x4, zI x5, zI x6, zR (24, tx7, nx7), zR (24, ty0, ny0), vx9, vx10]) rfl).trans ((wp_5_7).trans ((wp_54 (by decide)).trans ((wp_5_8).trans ((wp_55 (by decide)).trans (mm_kb bq_70_2 ((wp_5_8).trans ((wp_3_5).trans ((wp_v2 mm_n_99 (mm_leq mm_m_99 (mm_lb rfl)) (mm_lb rfl) (mm_o24 hty0 hny0 hx)).trans rfl))))))))
theorem r_70_2_3 {tx1 : Int} {tx2 nx2 : Int} (x3 : Int) (x4 : Int) (x5 : Int) (x6 : Int) {tx7 nx7 : Int} {tx8 nx8 : Int} (vx9 : mm_V) (vx10 : mm_V) (y0 : Int) {hi : mm_Id → Int → Int} {dh : Int → Int} {nx ns : Int} {Q : mm_V → mm_H → Prop} (htx1 : mm_isT tx1) (htx2 : mm_isT tx2) (hnx2 : mm_isN nx2) (htx7 : mm_isT tx7) (hnx7 : mm_isN nx7) (htx8 : mm_isT tx8) (hnx8 : mm_isN nx8) (hx : 5275 ≤ nx) :
    mm_Wp 70 (bk_70_2.drop 3) [zR (1, 0, 0), zR (22, tx1, 0), zR (24, tx2, nx2), zI x3, zI x4, zI x5, zI x6, zR (24, tx7, nx7), zR (24, tx8, nx8), vx9, vx10] [zI y0] (mm_z hi dh nx ns) Q =
    mm_Cl 101 [zR (24, tx2, nx2), zI x3] (mm_z hi dh nx ns) (fun r h3 => mm_Wp 70 (bk_70_2.drop 7) [zR (1, 0, 0), zR (22, tx1, 0), zR (24, tx2, nx2), zI x3, zI x4, zI x5, zI x6, zR (24, tx7, nx7), zR (24, tx8, nx8), zI y0, vx10] (mm_push r []) h3 Q) :=
  (wp_6 (l2 := [zR (1, 0, 0), zR (22, tx1, 0), zR (24, tx2, nx2), zI x3, zI x4, zI x5, zI x6, zR (24, tx7, nx7), zR (24, tx8, nx8), zI y0, vx10]) rfl).trans ((wp_5_2).trans ((wp_3_3).trans ((wp_v2 mm_n_101 (mm_leq mm_m_101 (mm_lb rfl)) (mm_lb rfl) (mm_o24 htx2 hnx2 hx)).trans rfl)))
theorem r_70_2_7 {tx1 : Int} (vx2 : mm_V) (vx3 : mm_V) (x4 : Int) (x5 : Int) (x6 : Int) {tx7 nx7 : Int} {tx8 nx8 : Int} (x9 : Int) (vx10 : mm_V) {hi : mm_Id → Int → Int} {dh : Int → Int} {nx ns : Int} {Q : mm_V → mm_H → Prop} (htx1 : mm_isT tx1) (htx7 : mm_isT tx7) (hnx7 : mm_isN nx7) (htx8 : mm_isT tx8) (hnx8 : mm_isN nx8) (hx : 5275 ≤ nx) :
    mm_Wp 70 (bk_70_2.drop 7) [zR (1, 0, 0), zR (22, tx1, 0), vx2, vx3, zI x4, zI x5, zI x6, zR (24, tx7, nx7), zR (24, tx8, nx8), zI x9, vx10] [] (mm_z hi dh nx ns) Q =
    (if x9 = x6 then mm_Wp 70 (mm_blk 70 5) [zR (1, 0, 0), zR (22, tx1, 0), vx2, vx3, zI x4, zI x5, zI x6, zR (24, tx7, nx7), zR (24, tx8, nx8), zI x9, vx10] [] (mm_z hi dh nx ns) Q else mm_Cl 101 [zR (24, tx8, nx8), zI x5] (mm_z hi dh nx ns) (fun r h3 => mm_Wp 70 (bk_70_2.drop 13) [zR (1, 0, 0), zR (22, tx1, 0), vx2, vx3, zI x4, zI x5, zI x6, zR (24, tx7, nx7), zR (24, tx8, nx8), zI x9, vx10] (mm_push r []) h3 Q)) :=
  (wp_3_9).trans ((wp_3_6).trans ((wp_46).trans (mm_ic (rfl) ((wp_5_8).trans ((wp_3_5).trans ((wp_v2 mm_n_101 (mm_leq mm_m_101 (mm_lb rfl)) (mm_lb rfl) (mm_o24 htx8 hnx8 hx)).trans rfl))))))
theorem r_70_5 {tx1 : Int} (vx2 : mm_V) (vx3 : mm_V) (vx4 : mm_V) (vx5 : mm_V) (vx6 : mm_V) (vx7 : mm_V) (vx8 : mm_V) (x9 : Int) (vx10 : mm_V) {hi : mm_Id → Int → Int} {dh : Int → Int} {nx ns : Int} {Q : mm_V → mm_H → Prop} (htx1 : mm_isT tx1) (hx : 5275 ≤ nx) :
    mm_Wp 70 (mm_blk 70 5) [zR (1, 0, 0), zR (22, tx1, 0), vx2, vx3, vx4, vx5, vx6, vx7, vx8, zI x9, vx10] [] (mm_z hi dh nx ns) Q =
    mm_Cl 56 [zR (1, 0, 0), zR (22, tx1, 0), zI x9] (mm_z hi dh nx ns) (fun r h3 => mm_Wp 70 (bk_70_5.drop 4) [zR (1, 0, 0), zR (22, tx1, 0), vx2, vx3, vx4, vx5, vx6, vx7, vx8, zI x9, vx10] (mm_push r []) h3 Q) :=
  mm_kb bq_70_5 ((wp_5_0).trans ((wp_5_1).trans ((wp_3_9).trans ((wp_v3 mm_n_56 (mm_leq mm_m_56 (mm_lb rfl)) (mm_lb rfl) (mm_o1 hx)).trans rfl))))
theorem r_70_2_13 {tx1 : Int} (vx2 : mm_V) (vx3 : mm_V) (x4 : Int) (x5 : Int) (x6 : Int) {tx7 nx7 : Int} {tx8 nx8 : Int} (x9 : Int) (vx10 : mm_V) {hi : mm_Id → Int → Int} {dh : Int → Int} {nx ns : Int} {Q : mm_V → mm_H → Prop} (htx1 : mm_isT tx1) (htx7 : mm_isT tx7) (hnx7 : mm_isN nx7) (htx8 : mm_isT tx8) (hnx8 : mm_isN nx8) (hx : 5275 ≤ nx) :
    mm_Wp 70 (bk_70_2.drop 13) [zR (1, 0, 0), zR (22, tx1, 0), vx2, vx3, zI x4, zI x5, zI x6, zR (24, tx7, nx7), zR (24, tx8, nx8), zI x9, vx10] [] (mm_z hi dh nx ns) Q =
    mm_Cl 100 [zR (24, tx8, nx8), zI x5, zI x6] (mm_z hi dh nx ns) (fun r h3 => mm_Wp 70 (bk_70_2.drop 17) [zR (1, 0, 0), zR (22, tx1, 0), vx2, vx3, zI x4, zI x5, zI x6, zR (24, tx7, nx7), zR (24, tx8, nx8), zI x9, vx10] (mm_push r []) h3 Q) :=
  (wp_5_8).trans ((wp_3_5).trans ((wp_3_6).trans ((wp_v3 mm_n_100 (mm_leq mm_m_100 (mm_lb rfl)) (mm_lb rfl) (mm_o24 htx8 hnx8 hx)).trans rfl)))
theorem r_70_5_4 (vx0 : mm_V) (vx1 : mm_V) (vx2 : mm_V) (vx3 : mm_V) (vx4 : mm_V) (vx5 : mm_V) (vx6 : mm_V) (vx7 : mm_V) (vx8 : mm_V) (x9 : Int) (vx10 : mm_V) {hi : mm_Id → Int → Int} {dh : Int → Int} {nx ns : Int} {Q : mm_V → mm_H → Prop} (hx : 5275 ≤ nx) :
    mm_Wp 70 (bk_70_5.drop 4) [vx0, vx1, vx2, vx3, vx4, vx5, vx6, vx7, vx8, zI x9, vx10] [zR mm_nul] (mm_z hi dh nx ns) Q =
    mm_Wp 70 (mm_blk 70 6) [vx0, vx1, vx2, vx3, vx4, vx5, vx6, vx7, vx8, zI x9, zR mm_nul] [] (mm_z hi dh nx ns) Q :=
  (wp_8 (l2 := [vx0, vx1, vx2, vx3, vx4, vx5, vx6, vx7, vx8, zI x9, zR mm_nul]) rfl).trans ((wp_5_10).trans ((wp_54n).trans (rfl)))
theorem r_70_5_4a (vx0 : mm_V) (vx1 : mm_V) (vx2 : mm_V) (vx3 : mm_V) (vx4 : mm_V) (vx5 : mm_V) (vx6 : mm_V) (vx7 : mm_V) (vx8 : mm_V) (x9 : Int) (vx10 : mm_V) {ty0 ny0 : Int} {hi : mm_Id → Int → Int} {dh : Int → Int} {nx ns : Int} {Q : mm_V → mm_H → Prop} (hty0 : mm_isT ty0) (hny0 : mm_isN ny0) (hx : 5275 ≤ nx) :
    mm_Wp 70 (bk_70_5.drop 4) [vx0, vx1, vx2, vx3, vx4, vx5, vx6, vx7, vx8, zI x9, vx10] [zR (24, ty0, ny0)] (mm_z hi dh nx ns) Q =
    mm_Wp 70 (mm_blk 70 6) [vx0, vx1, vx2, vx3, vx4, vx5, vx6, vx7, vx8, zI x9, zR (24, ty0, ny0)] [] (mm_z (mm_up hi (24, ty0, ny0) 5 (mm_w ((hi (24, ty0, ny0) 5) - 1))) dh nx ns) Q :=
  (wp_8 (l2 := [vx0, vx1, vx2, vx3, vx4, vx5, vx6, vx7, vx8, zI x9, zR (24, ty0, ny0)]) rfl).trans ((wp_5_10).trans ((wp_54 (by decide)).trans ((wp_5_10).trans ((wp_35r).trans ((wp_60 (by decide) (mm_o24 hty0 hny0 hx)).trans ((wp_1).trans ((wp_11).trans ((wp_63 (mm_o24 hty0 hny0 hx)).trans ((wp_0).trans (rfl))))))))))
theorem r_70_2_17 {tx1 : Int} (vx2 : mm_V) (vx3 : mm_V) (x4 : Int) (vx5 : mm_V) (vx6 : mm_V) {tx7 nx7 : Int} (vx8 : mm_V) (x9 : Int) (vx10 : mm_V) {hi : mm_Id → Int → Int} {dh : Int → Int} {nx ns : Int} {Q : mm_V → mm_H → Prop} (htx1 : mm_isT tx1) (htx7 : mm_isT tx7) (hnx7 : mm_isN nx7) (hx : 5275 ≤ nx) :
    mm_Wp 70 (bk_70_2.drop 17) [zR (1, 0, 0), zR (22, tx1, 0), vx2, vx3, zI x4, vx5, vx6, zR (24, tx7, nx7), vx8, zI x9, vx10] [] (mm_z hi dh nx ns) Q =
    (if (hi (24, tx7, nx7) 0) = 1 then mm_Wp 70 (mm_blk 70 4) [zR (1, 0, 0), zR (22, tx1, 0), vx2, vx3, zI x4, vx5, vx6, zR (24, tx7, nx7), vx8, zI x9, vx10] [zI 0, zR (24, tx7, nx7)] (mm_z hi dh nx ns) Q else mm_Wp 70 (mm_blk 70 4) [zR (1, 0, 0), zR (22, tx1, 0), vx2, vx3, zI x4, vx5, vx6, zR (24, tx7, nx7), vx8, zI x9, vx10] [zI x4, zR (24, tx7, nx7)] (mm_z hi dh nx ns) Q) :=
  (wp_5_7).trans ((wp_5_7).trans ((wp_60 (by decide) (mm_o24 htx7 hnx7 hx)).trans ((wp_1).trans ((wp_47).trans (mm_ic ((wp_1).trans ((wp_56).trans (rfl))) (mm_kb bq_70_3 ((wp_3_4).trans ((wp_0).trans (rfl)))))))))
theorem r_70_6 (vx0 : mm_V) (vx1 : mm_V) (vx2 : mm_V) (vx3 : mm_V) (vx4 : mm_V) (vx5 : mm_V) (vx6 : mm_V) (vx7 : mm_V) (vx8 : mm_V) (x9 : Int) (vx10 : mm_V) {hi : mm_Id → Int → Int} {dh : Int → Int} {nx ns : Int} {Q : mm_V → mm_H → Prop} (hx : 5275 ≤ nx) :
    mm_Wp 70 (mm_blk 70 6) [vx0, vx1, vx2, vx3, vx4, vx5, vx6, vx7, vx8, zI x9, vx10] [] (mm_z hi dh nx ns) Q =
    Q (zI x9) (mm_z hi dh nx ns) :=
  mm_kb bq_70_6 ((wp_3_9).trans (wp_90))
theorem r_70_4 {tx1 : Int} (vx2 : mm_V) (vx3 : mm_V) (vx4 : mm_V) (vx5 : mm_V) (vx6 : mm_V) (vx7 : mm_V) (vx8 : mm_V) (x9 : Int) (vx10 : mm_V) (y0 : Int) {ty1 ny1 : Int} {hi : mm_Id → Int → Int} {dh : Int → Int} {nx ns : Int} {Q : mm_V → mm_H → Prop} (htx1 : mm_isT tx1) (hty1 : mm_isT ty1) (hny1 : mm_isN ny1) (hx : 5275 ≤ nx) :
    mm_Wp 70 (mm_blk 70 4) [zR (1, 0, 0), zR (22, tx1, 0), vx2, vx3, vx4, vx5, vx6, vx7, vx8, zI x9, vx10] [zI y0, zR (24, ty1, ny1)] (mm_z hi dh nx ns) Q =
    mm_Wp 70 (mm_blk 70 5) [zR (1, 0, 0), zR (22, tx1, 0), vx2, vx3, vx4, vx5, vx6, vx7, vx8, zI x9, vx10] [] (mm_z (mm_up hi (24, ty1, ny1) 4 y0) dh nx ns) Q :=
  mm_kb bq_70_4 ((wp_63 (mm_o24 hty1 hny1 hx)).trans ((wp_0).trans (rfl)))
/-- PoolHouse.dropIfGone(LPoolHouse$Dataset;I)V -/
theorem bq_71_0 : mm_blk 71 0 = bk_71_0 := by decide +kernel
theorem bq_71_1 : mm_blk 71 1 = bk_71_1 := by decide +kernel
theorem bq_71_2 : mm_blk 71 2 = bk_71_2 := by decide +kernel
theorem bq_71_3 : mm_blk 71 3 = bk_71_3 := by decide +kernel
theorem bq_71_4 : mm_blk 71 4 = bk_71_4 := by decide +kernel
theorem bq_71_5 : mm_blk 71 5 = bk_71_5 := by decide +kernel
theorem r_71_e {tx1 : Int} (x2 : Int) {hi : mm_Id → Int → Int} {dh : Int → Int} {nx ns : Int} {Q : mm_V → mm_H → Prop} (htx1 : mm_isD tx1) (hx : 5275 ≤ nx) :
    mm_Cl 71 [zR (1, 0, 0), zR (31, tx1, 0), zI x2] (mm_z hi dh nx ns) Q =
    mm_Cl 56 [zR (1, 0, 0), zR (22, tx1, 0), zI x2] (mm_z hi dh nx ns) (fun r h3 => mm_Wp 71 (bk_71_0.drop 5) [zR (1, 0, 0), zR (31, tx1, 0), zI x2, zU, zU] (mm_push r []) h3 Q) :=
  mm_ce (l2 := [zR (1, 0, 0), zR (31, tx1, 0), zI x2, zU, zU]) rfl (mm_kb bq_71_0 ((wp_5_0).trans ((wp_5_1).trans ((wp_62 (by decide) (mm_o31 htx1 hx) (mm_r31_0 htx1)).trans ((wp_3_2).trans ((wp_v3 mm_n_56 (mm_leq mm_m_56 (mm_lb rfl)) (mm_lb rfl) (mm_o1 hx)).trans rfl))))))
theorem r_71_0_5 {tx1 : Int} (x2 : Int) (vx3 : mm_V) (vx4 : mm_V) {hi : mm_Id → Int → Int} {dh : Int → Int} {nx ns : Int} {Q : mm_V → mm_H → Prop} (htx1 : mm_isD tx1) (hx : 5275 ≤ nx) :
    mm_Wp 71 (bk_71_0.drop 5) [zR (1, 0, 0), zR (31, tx1, 0), zI x2, vx3, vx4] [zR mm_nul] (mm_z hi dh nx ns) Q =
    mm_Wp 71 (mm_blk 71 1) [zR (1, 0, 0), zR (31, tx1, 0), zI x2, zR mm_nul, vx4] [] (mm_z hi dh nx ns) Q :=
  (wp_8 (l2 := [zR (1, 0, 0), zR (31, tx1, 0), zI x2, zR mm_nul, vx4]) rfl).trans ((wp_5_3).trans ((wp_54n).trans (rfl)))
theorem r_71_0_5a {tx1 : Int} (x2 : Int) (vx3 : mm_V) (vx4 : mm_V) {ty0 ny0 : Int} {hi : mm_Id → Int → Int} {dh : Int → Int} {nx ns : Int} {Q : mm_V → mm_H → Prop} (htx1 : mm_isD tx1) (hty0 : mm_isT ty0) (hny0 : mm_isN ny0) (hx : 5275 ≤ nx) :
    mm_Wp 71 (bk_71_0.drop 5) [zR (1, 0, 0), zR (31, tx1, 0), zI x2, vx3, vx4] [zR (24, ty0, ny0)] (mm_z hi dh nx ns) Q =
    (if 0 < (hi (24, ty0, ny0) 5) then mm_Wp 71 (mm_blk 71 1) [zR (1, 0, 0), zR (31, tx1, 0), zI x2, zR (24, ty0, ny0), vx4] [] (mm_z hi dh nx ns) Q else mm_Wp 71 (mm_blk 71 3) [zR (1, 0, 0), zR (31, tx1, 0), zI x2, zR (24, ty0, ny0), zI 0] [] (mm_z hi dh nx ns) Q) :=
  (wp_8 (l2 := [zR (1, 0, 0), zR (31, tx1, 0), zI x2, zR (24, ty0, ny0), vx4]) rfl).trans ((wp_5_3).trans ((wp_54 (by decide)).trans ((wp_5_3).trans ((wp_60 (by decide) (mm_o24 hty0 hny0 hx)).trans ((wp_45).trans (mm_ic ((wp_0).trans (rfl)) (mm_kb bq_71_2 ((wp_1).trans ((wp_6 (l2 := [zR (1, 0, 0), zR (31, tx1, 0), zI x2, zR (24, ty0, ny0), zI 0]) rfl).trans ((wp_0).trans (rfl)))))))))))
theorem r_71_1 (vx0 : mm_V) (vx1 : mm_V) (vx2 : mm_V) (vx3 : mm_V) (vx4 : mm_V) {hi : mm_Id → Int → Int} {dh : Int → Int} {nx ns : Int} {Q : mm_V → mm_H → Prop} (hx : 5275 ≤ nx) :
    mm_Wp 71 (mm_blk 71 1) [vx0, vx1, vx2, vx3, vx4] [] (mm_z hi dh nx ns) Q =
    Q zU (mm_z hi dh nx ns) :=
  mm_kb bq_71_1 (wp_93)
theorem r_71_3 {tx1 : Int} (x2 : Int) {tx3 nx3 : Int} (x4 : Int) {hi : mm_Id → Int → Int} {dh : Int → Int} {nx ns : Int} {Q : mm_V → mm_H → Prop} (htx1 : mm_isD tx1) (htx3 : mm_isT tx3) (hnx3 : mm_isN nx3) (hx : 5275 ≤ nx) :
    mm_Wp 71 (mm_blk 71 3) [zR (1, 0, 0), zR (31, tx1, 0), zI x2, zR (24, tx3, nx3), zI x4] [] (mm_z hi dh nx ns) Q =
    (if x4 < 8 then ((0 ≤ x4 ∧ x4 < 8) ∧ mm_Cl 91 [zR (34, x4, 0), zR (31, tx1, 0), zI x2] (mm_z hi dh nx ns) (fun r h3 => mm_Wp 71 (bk_71_3.drop 10) [zR (1, 0, 0), zR (31, tx1, 0), zI x2, zR (24, tx3, nx3), zI x4] (mm_push r []) h3 Q)) else mm_Cl 110 [zR (24, tx3, nx3), zR (15, 0, 0), zI 0] (mm_z hi dh nx ns) (fun r h3 => mm_Wp 71 (bk_71_5.drop 5) [zR (1, 0, 0), zR (31, tx1, 0), zI x2, zR (24, tx3, nx3), zI x4] (mm_push r []) h3 Q)) :=
  mm_kb bq_71_3 ((wp_3_4).trans ((wp_1).trans ((wp_49).trans (mm_ic ((wp_5_0).trans ((wp_62 (by decide) (mm_o1 hx) mm_r1_3).trans ((wp_3_4).trans ((wp_73 (mm_q4 hx) (by decide) (fun q => mm_a4 q)).trans (mm_acd fun h1 => (wp_5_1).trans ((wp_3_2).trans ((wp_v3 mm_n_91 (mm_leq mm_m_91 (mm_lb rfl)) (mm_lb rfl) (mm_o34 h1 hx)).trans rfl))))))) (mm_kb bq_71_5 ((wp_5_3).trans ((wp_5_0).trans ((wp_62 (by decide) (mm_o1 hx) mm_r1_0).trans ((wp_1).trans ((wp_v3 mm_n_110 (mm_leq mm_m_110 (mm_lb rfl)) (mm_lb rfl) (mm_o24 htx3 hnx3 hx)).trans rfl))))))))))
theorem r_71_5_5 (vx0 : mm_V) (vx1 : mm_V) (vx2 : mm_V) (vx3 : mm_V) (vx4 : mm_V) {hi : mm_Id → Int → Int} {dh : Int → Int} {nx ns : Int} {Q : mm_V → mm_H → Prop} (hx : 5275 ≤ nx) :
    mm_Wp 71 (bk_71_5.drop 5) [vx0, vx1, vx2, vx3, vx4] [] (mm_z hi dh nx ns) Q =
    Q zU (mm_z hi dh nx ns) :=
  wp_93
theorem r_71_3_10 {tx1 : Int} (x2 : Int) {tx3 nx3 : Int} (x4 : Int) (y0 : Int) {hi : mm_Id → Int → Int} {dh : Int → Int} {nx ns : Int} {Q : mm_V → mm_H → Prop} (htx1 : mm_isD tx1) (htx3 : mm_isT tx3) (hnx3 : mm_isN nx3) (hx : 5275 ≤ nx) :
    mm_Wp 71 (bk_71_3.drop 10) [zR (1, 0, 0), zR (31, tx1, 0), zI x2, zR (24, tx3, nx3), zI x4] [zI y0] (mm_z hi dh nx ns) Q =
    (if y0 = 0 then mm_Wp 71 (mm_blk 71 3) [zR (1, 0, 0), zR (31, tx1, 0), zI x2, zR (24, tx3, nx3), zI (mm_w (x4 + 1))] [] (mm_z hi dh nx ns) Q else Q zU (mm_z hi dh nx ns)) :=
  (wp_40).trans (mm_ic (mm_kb bq_71_4 ((wp_9 (l2 := [zR (1, 0, 0), zR (31, tx1, 0), zI x2, zR (24, tx3, nx3), zI (mm_w (x4 + 1))]) rfl rfl).trans ((wp_56).trans (rfl)))) (wp_93))
/-- PoolHouse.countDatasets()I -/
theorem bq_72_0 : mm_blk 72 0 = bk_72_0 := by decide +kernel
theorem bq_72_1 : mm_blk 72 1 = bk_72_1 := by decide +kernel
theorem bq_72_2 : mm_blk 72 2 = bk_72_2 := by decide +kernel
theorem bq_72_3 : mm_blk 72 3 = bk_72_3 := by decide +kernel
theorem bq_72_4 : mm_blk 72 4 = bk_72_4 := by decide +kernel
theorem r_72_e  {hi : mm_Id → Int → Int} {dh : Int → Int} {nx ns : Int} {Q : mm_V → mm_H → Prop} (hx : 5275 ≤ nx) :
    mm_Cl 72 [zR (1, 0, 0)] (mm_z hi dh nx ns) Q =
    mm_Wp 72 (mm_blk 72 1) [zR (1, 0, 0), zI 0, zI 0] [] (mm_z hi dh nx ns) Q :=
  mm_ce (l2 := [zR (1, 0, 0), zU, zU]) rfl (mm_kb bq_72_0 ((wp_1).trans ((wp_6 (l2 := [zR (1, 0, 0), zI 0, zU]) rfl).trans ((wp_1).trans ((wp_6 (l2 := [zR (1, 0, 0), zI 0, zI 0]) rfl).trans ((wp_0).trans (rfl)))))))
theorem r_72_1 (x1 : Int) (x2 : Int) {hi : mm_Id → Int → Int} {dh : Int → Int} {nx ns : Int} {Q : mm_V → mm_H → Prop} (hx : 5275 ≤ nx) :
    mm_Wp 72 (mm_blk 72 1) [zR (1, 0, 0), zI x1, zI x2] [] (mm_z hi dh nx ns) Q =
    (if x2 < 5 then ((0 ≤ x2 ∧ x2 < 5) ∧ (if (hi (31, x2, 0) 3) = 0 then mm_Wp 72 (mm_blk 72 3) [zR (1, 0, 0), zI x1, zI x2] [zI 0, zI x1] (mm_z hi dh nx ns) Q else mm_Wp 72 (mm_blk 72 3) [zR (1, 0, 0), zI x1, zI x2] [zI 1, zI x1] (mm_z hi dh nx ns) Q)) else Q (zI x1) (mm_z hi dh nx ns)) :=
  mm_kb bq_72_1 ((wp_3_2).trans ((wp_1).trans ((wp_49).trans (mm_ic ((wp_3_1).trans ((wp_5_0).trans ((wp_62 (by decide) (mm_o1 hx) mm_r1_1).trans ((wp_3_2).trans ((wp_73 (mm_q2 hx) (by decide) (fun q => mm_a2 q)).trans (mm_acd fun h1 => (wp_60 (by decide) (mm_o31 h1 hx)).trans ((wp_41).trans (mm_ic ((wp_1).trans ((wp_56).trans (rfl))) (mm_kb bq_72_2 ((wp_1).trans ((wp_0).trans (rfl)))))))))))) (mm_kb bq_72_4 ((wp_3_1).trans (wp_90)))))))
theorem r_72_3 (vx1 : mm_V) (x2 : Int) (y0 : Int) (y1 : Int) {hi : mm_Id → Int → Int} {dh : Int → Int} {nx ns : Int} {Q : mm_V → mm_H → Prop} (hx : 5275 ≤ nx) :
    mm_Wp 72 (mm_blk 72 3) [zR (1, 0, 0), vx1, zI x2] [zI y0, zI y1] (mm_z hi dh nx ns) Q =
    mm_Wp 72 (mm_blk 72 1) [zR (1, 0, 0), zI (mm_w (y1 + y0)), zI (mm_w (x2 + 1))] [] (mm_z hi dh nx ns) Q :=
  mm_kb bq_72_3 ((wp_10).trans ((wp_6 (l2 := [zR (1, 0, 0), zI (mm_w (y1 + y0)), zI x2]) rfl).trans ((wp_9 (l2 := [zR (1, 0, 0), zI (mm_w (y1 + y0)), zI (mm_w (x2 + 1))]) rfl rfl).trans ((wp_56).trans (rfl)))))
/-- PoolHouse.snapshotsOf(I)I -/
theorem bq_73_0 : mm_blk 73 0 = bk_73_0 := by decide +kernel
theorem bq_73_1 : mm_blk 73 1 = bk_73_1 := by decide +kernel
theorem bq_73_2 : mm_blk 73 2 = bk_73_2 := by decide +kernel
theorem bq_73_3 : mm_blk 73 3 = bk_73_3 := by decide +kernel
theorem bq_73_4 : mm_blk 73 4 = bk_73_4 := by decide +kernel
theorem r_73_e (x1 : Int) {hi : mm_Id → Int → Int} {dh : Int → Int} {nx ns : Int} {Q : mm_V → mm_H → Prop} (hx : 5275 ≤ nx) :
    mm_Cl 73 [zR (1, 0, 0), zI x1] (mm_z hi dh nx ns) Q =
    mm_Wp 73 (mm_blk 73 1) [zR (1, 0, 0), zI x1, zI 0, zI 0] [] (mm_z hi dh nx ns) Q :=
  mm_ce (l2 := [zR (1, 0, 0), zI x1, zU, zU]) rfl (mm_kb bq_73_0 ((wp_1).trans ((wp_6 (l2 := [zR (1, 0, 0), zI x1, zI 0, zU]) rfl).trans ((wp_1).trans ((wp_6 (l2 := [zR (1, 0, 0), zI x1, zI 0, zI 0]) rfl).trans ((wp_0).trans (rfl)))))))
theorem r_73_1 (x1 : Int) (x2 : Int) (x3 : Int) {hi : mm_Id → Int → Int} {dh : Int → Int} {nx ns : Int} {Q : mm_V → mm_H → Prop} (hx : 5275 ≤ nx) :
    mm_Wp 73 (mm_blk 73 1) [zR (1, 0, 0), zI x1, zI x2, zI x3] [] (mm_z hi dh nx ns) Q =
    (if x3 < 8 then ((0 ≤ x3 ∧ x3 < 8) ∧ (if (hi (33, x3, 0) 1) = 0 then mm_Wp 73 (mm_blk 73 2) [zR (1, 0, 0), zI x1, zI x2, zI x3] [zI x2] (mm_z hi dh nx ns) Q else ((0 ≤ x3 ∧ x3 < 8) ∧ (if (hi (33, x3, 0) 2) = x1 then mm_Wp 73 (mm_blk 73 3) [zR (1, 0, 0), zI x1, zI x2, zI x3] [zI 1, zI x2] (mm_z hi dh nx ns) Q else mm_Wp 73 (mm_blk 73 2) [zR (1, 0, 0), zI x1, zI x2, zI x3] [zI x2] (mm_z hi dh nx ns) Q)))) else Q (zI x2) (mm_z hi dh nx ns)) :=
  mm_kb bq_73_1 ((wp_3_3).trans ((wp_1).trans ((wp_49).trans (mm_ic ((wp_3_2).trans ((wp_5_0).trans ((wp_62 (by decide) (mm_o1 hx) mm_r1_2).trans ((wp_3_3).trans ((wp_73 (mm_q3 hx) (by decide) (fun q => mm_a3 q)).trans (mm_acd fun h1 => (wp_60 (by decide) (mm_o33 h1 hx)).trans ((wp_40).trans (mm_ic (rfl) ((wp_5_0).trans ((wp_62 (by decide) (mm_o1 hx) mm_r1_2).trans ((wp_3_3).trans ((wp_73 (mm_q3 hx) (by decide) (fun q => mm_a3 q)).trans (mm_acd fun h2 => (wp_60 (by decide) (mm_o33 h2 hx)).trans ((wp_3_1).trans ((wp_47).trans (mm_ic ((wp_1).trans ((wp_56).trans (rfl))) (rfl))))))))))))))))) (mm_kb bq_73_4 ((wp_3_2).trans (wp_90)))))))
theorem r_73_2 (x1 : Int) (vx2 : mm_V) (x3 : Int) (y0 : Int) {hi : mm_Id → Int → Int} {dh : Int → Int} {nx ns : Int} {Q : mm_V → mm_H → Prop} (hx : 5275 ≤ nx) :
    mm_Wp 73 (mm_blk 73 2) [zR (1, 0, 0), zI x1, vx2, zI x3] [zI y0] (mm_z hi dh nx ns) Q =
    mm_Wp 73 (mm_blk 73 3) [zR (1, 0, 0), zI x1, vx2, zI x3] [zI 0, zI y0] (mm_z hi dh nx ns) Q :=
  mm_kb bq_73_2 ((wp_1).trans ((wp_0).trans (rfl)))
theorem r_73_3 (x1 : Int) (vx2 : mm_V) (x3 : Int) (y0 : Int) (y1 : Int) {hi : mm_Id → Int → Int} {dh : Int → Int} {nx ns : Int} {Q : mm_V → mm_H → Prop} (hx : 5275 ≤ nx) :
    mm_Wp 73 (mm_blk 73 3) [zR (1, 0, 0), zI x1, vx2, zI x3] [zI y0, zI y1] (mm_z hi dh nx ns) Q =
    mm_Wp 73 (mm_blk 73 1) [zR (1, 0, 0), zI x1, zI (mm_w (y1 + y0)), zI (mm_w (x3 + 1))] [] (mm_z hi dh nx ns) Q :=
  mm_kb bq_73_3 ((wp_10).trans ((wp_6 (l2 := [zR (1, 0, 0), zI x1, zI (mm_w (y1 + y0)), zI x3]) rfl).trans ((wp_9 (l2 := [zR (1, 0, 0), zI x1, zI (mm_w (y1 + y0)), zI (mm_w (x3 + 1))]) rfl rfl).trans ((wp_56).trans (rfl)))))
/-- PoolHouse.latestSnapshotOf(I)I -/
theorem bq_74_0 : mm_blk 74 0 = bk_74_0 := by decide +kernel
theorem bq_74_1 : mm_blk 74 1 = bk_74_1 := by decide +kernel
theorem bq_74_2 : mm_blk 74 2 = bk_74_2 := by decide +kernel
theorem bq_74_3 : mm_blk 74 3 = bk_74_3 := by decide +kernel
theorem r_74_e (x1 : Int) {hi : mm_Id → Int → Int} {dh : Int → Int} {nx ns : Int} {Q : mm_V → mm_H → Prop} (hx : 5275 ≤ nx) :
    mm_Cl 74 [zR (1, 0, 0), zI x1] (mm_z hi dh nx ns) Q =
    mm_Wp 74 (mm_blk 74 1) [zR (1, 0, 0), zI x1, zI 0, zI 0] [] (mm_z hi dh nx ns) Q :=
  mm_ce (l2 := [zR (1, 0, 0), zI x1, zU, zU]) rfl (mm_kb bq_74_0 ((wp_1).trans ((wp_6 (l2 := [zR (1, 0, 0), zI x1, zI 0, zU]) rfl).trans ((wp_1).trans ((wp_6 (l2 := [zR (1, 0, 0), zI x1, zI 0, zI 0]) rfl).trans ((wp_0).trans (rfl)))))))
theorem r_74_1 (x1 : Int) (x2 : Int) (x3 : Int) {hi : mm_Id → Int → Int} {dh : Int → Int} {nx ns : Int} {Q : mm_V → mm_H → Prop} (hx : 5275 ≤ nx) :
    mm_Wp 74 (mm_blk 74 1) [zR (1, 0, 0), zI x1, zI x2, zI x3] [] (mm_z hi dh nx ns) Q =
    (if x3 < 8 then ((0 ≤ x3 ∧ x3 < 8) ∧ (if (hi (33, x3, 0) 2) = x1 then ((0 ≤ x3 ∧ x3 < 8) ∧ mm_Wp 74 (mm_blk 74 2) [zR (1, 0, 0), zI x1, zI (if x2 < (hi (33, x3, 0) 1) then (hi (33, x3, 0) 1) else x2), zI x3] [] (mm_z hi dh nx ns) Q) else mm_Wp 74 (mm_blk 74 2) [zR (1, 0, 0), zI x1, zI x2, zI x3] [] (mm_z hi dh nx ns) Q)) else Q (zI x2) (mm_z hi dh nx ns)) :=
  mm_kb bq_74_1 ((wp_3_3).trans ((wp_1).trans ((wp_49).trans (mm_ic ((wp_5_0).trans ((wp_62 (by decide) (mm_o1 hx) mm_r1_2).trans ((wp_3_3).trans ((wp_73 (mm_q3 hx) (by decide) (fun q => mm_a3 q)).trans (mm_acd fun h1 => (wp_60 (by decide) (mm_o33 h1 hx)).trans ((wp_3_1).trans ((wp_47).trans (mm_ic ((wp_3_2).trans ((wp_5_0).trans ((wp_62 (by decide) (mm_o1 hx) mm_r1_2).trans ((wp_3_3).trans ((wp_73 (mm_q3 hx) (by decide) (fun q => mm_a3 q)).trans (mm_acd fun h2 => (wp_60 (by decide) (mm_o33 h2 hx)).trans ((wp_98 (mm_lb rfl)).trans ((wp_6 (l2 := [zR (1, 0, 0), zI x1, zI (if x2 < (hi (33, x3, 0) 1) then (hi (33, x3, 0) 1) else x2), zI x3]) rfl).trans ((wp_0).trans (rfl)))))))))) (rfl))))))))) (mm_kb bq_74_3 ((wp_3_2).trans (wp_90)))))))
theorem r_74_2 (x1 : Int) (x2 : Int) (x3 : Int) {hi : mm_Id → Int → Int} {dh : Int → Int} {nx ns : Int} {Q : mm_V → mm_H → Prop} (hx : 5275 ≤ nx) :
    mm_Wp 74 (mm_blk 74 2) [zR (1, 0, 0), zI x1, zI x2, zI x3] [] (mm_z hi dh nx ns) Q =
    mm_Wp 74 (mm_blk 74 1) [zR (1, 0, 0), zI x1, zI x2, zI (mm_w (x3 + 1))] [] (mm_z hi dh nx ns) Q :=
  mm_kb bq_74_2 ((wp_9 (l2 := [zR (1, 0, 0), zI x1, zI x2, zI (mm_w (x3 + 1))]) rfl rfl).trans ((wp_56).trans (rfl)))
/-- PoolHouse.isOrigin(I)Z -/
theorem bq_75_0 : mm_blk 75 0 = bk_75_0 := by decide +kernel
theorem bq_75_1 : mm_blk 75 1 = bk_75_1 := by decide +kernel
theorem bq_75_2 : mm_blk 75 2 = bk_75_2 := by decide +kernel
theorem bq_75_3 : mm_blk 75 3 = bk_75_3 := by decide +kernel
theorem r_75_e (x1 : Int) {hi : mm_Id → Int → Int} {dh : Int → Int} {nx ns : Int} {Q : mm_V → mm_H → Prop} (hx : 5275 ≤ nx) :
    mm_Cl 75 [zR (1, 0, 0), zI x1] (mm_z hi dh nx ns) Q =
    mm_Wp 75 (mm_blk 75 1) [zR (1, 0, 0), zI x1, zI 0] [] (mm_z hi dh nx ns) Q :=
  mm_ce (l2 := [zR (1, 0, 0), zI x1, zU]) rfl (mm_kb bq_75_0 ((wp_1).trans ((wp_6 (l2 := [zR (1, 0, 0), zI x1, zI 0]) rfl).trans ((wp_0).trans (rfl)))))
theorem r_75_1 (x1 : Int) (x2 : Int) {hi : mm_Id → Int → Int} {dh : Int → Int} {nx ns : Int} {Q : mm_V → mm_H → Prop} (hx : 5275 ≤ nx) :
    mm_Wp 75 (mm_blk 75 1) [zR (1, 0, 0), zI x1, zI x2] [] (mm_z hi dh nx ns) Q =
    (if x2 < 5 then ((0 ≤ x2 ∧ x2 < 5) ∧ (if (hi (31, x2, 0) 3) = 0 then mm_Wp 75 (mm_blk 75 2) [zR (1, 0, 0), zI x1, zI x2] [] (mm_z hi dh nx ns) Q else ((0 ≤ x2 ∧ x2 < 5) ∧ (if (hi (31, x2, 0) 4) = x1 then Q (zI 1) (mm_z hi dh nx ns) else mm_Wp 75 (mm_blk 75 2) [zR (1, 0, 0), zI x1, zI x2] [] (mm_z hi dh nx ns) Q)))) else Q (zI 0) (mm_z hi dh nx ns)) :=
  mm_kb bq_75_1 ((wp_3_2).trans ((wp_1).trans ((wp_49).trans (mm_ic ((wp_5_0).trans ((wp_62 (by decide) (mm_o1 hx) mm_r1_1).trans ((wp_3_2).trans ((wp_73 (mm_q2 hx) (by decide) (fun q => mm_a2 q)).trans (mm_acd fun h1 => (wp_60 (by decide) (mm_o31 h1 hx)).trans ((wp_40).trans (mm_ic (rfl) ((wp_5_0).trans ((wp_62 (by decide) (mm_o1 hx) mm_r1_1).trans ((wp_3_2).trans ((wp_73 (mm_q2 hx) (by decide) (fun q => mm_a2 q)).trans (mm_acd fun h2 => (wp_60 (by decide) (mm_o31 h2 hx)).trans ((wp_3_1).trans ((wp_47).trans (mm_ic ((wp_1).trans (wp_94k (by decide))) (rfl)))))))))))))))) (mm_kb bq_75_3 ((wp_1).trans (wp_94k (by decide))))))))
theorem r_75_2 (x1 : Int) (x2 : Int) {hi : mm_Id → Int → Int} {dh : Int → Int} {nx ns : Int} {Q : mm_V → mm_H → Prop} (hx : 5275 ≤ nx) :
    mm_Wp 75 (mm_blk 75 2) [zR (1, 0, 0), zI x1, zI x2] [] (mm_z hi dh nx ns) Q =
    mm_Wp 75 (mm_blk 75 1) [zR (1, 0, 0), zI x1, zI (mm_w (x2 + 1))] [] (mm_z hi dh nx ns) Q :=
  mm_kb bq_75_2 ((wp_9 (l2 := [zR (1, 0, 0), zI x1, zI (mm_w (x2 + 1))]) rfl rfl).trans ((wp_56).trans (rfl)))
/-- PoolHouse$Dataset.begin(II)V -/
theorem bq_80_0 : mm_blk 80 0 = bk_80_0 := by decide +kernel
theorem bq_80_1 : mm_blk 80 1 = bk_80_1 := by decide +kernel
theorem bq_80_2 : mm_blk 80 2 = bk_80_2 := by decide +kernel
theorem r_80_e {tx0 : Int} (x1 : Int) (x2 : Int) {hi : mm_Id → Int → Int} {dh : Int → Int} {nx ns : Int} {Q : mm_V → mm_H → Prop} (htx0 : mm_isD tx0) (hx : 5275 ≤ nx) :
    mm_Cl 80 [zR (31, tx0, 0), zI x1, zI x2] (mm_z hi dh nx ns) Q =
    mm_Wp 80 (mm_blk 80 1) [zR (31, tx0, 0), zI x1, zI x2, zI 0] [] (mm_z (mm_up (mm_up (mm_up hi (31, tx0, 0) 3 x1) (31, tx0, 0) 4 x2) (31, tx0, 0) 5 400) dh nx ns) Q :=
  mm_ce (l2 := [zR (31, tx0, 0), zI x1, zI x2, zU]) rfl (mm_kb bq_80_0 ((wp_5_0).trans ((wp_3_1).trans ((wp_63 (mm_o31 htx0 hx)).trans ((wp_5_0).trans ((wp_3_2).trans ((wp_63 (mm_o31 htx0 hx)).trans ((wp_5_0).trans ((wp_1).trans ((wp_63 (mm_o31 htx0 hx)).trans ((wp_1).trans ((wp_6 (l2 := [zR (31, tx0, 0), zI x1, zI x2, zI 0]) rfl).trans ((wp_0).trans (rfl))))))))))))))
theorem r_80_1 {tx0 : Int} (vx1 : mm_V) (vx2 : mm_V) (x3 : Int) {hi : mm_Id → Int → Int} {dh : Int → Int} {nx ns : Int} {Q : mm_V → mm_H → Prop} (htx0 : mm_isD tx0) (hx : 5275 ≤ nx) :
    mm_Wp 80 (mm_blk 80 1) [zR (31, tx0, 0), vx1, vx2, zI x3] [] (mm_z hi dh nx ns) Q =
    (if x3 < 8 then ((0 ≤ x3 ∧ x3 < 8) ∧ mm_Wp 80 (mm_blk 80 1) [zR (31, tx0, 0), vx1, vx2, zI (mm_w (x3 + 1))] [] (mm_z (mm_up hi (32, tx0, 0) x3 400) dh nx ns) Q) else Q zU (mm_z hi dh nx ns)) :=
  mm_kb bq_80_1 ((wp_3_3).trans ((wp_1).trans ((wp_49).trans (mm_ic ((wp_5_0).trans ((wp_62 (by decide) (mm_o31 htx0 hx) (mm_r31_2 htx0)).trans ((wp_3_3).trans ((wp_1).trans ((wp_74 (mm_q32 htx0 hx)).trans (mm_ae ((wp_9 (l2 := [zR (31, tx0, 0), vx1, vx2, zI (mm_w (x3 + 1))]) rfl rfl).trans ((wp_56).trans (rfl))))))))) (mm_kb bq_80_2 (wp_93))))))
/-- PoolHouse$Dataset.leave()V -/
theorem bq_81_0 : mm_blk 81 0 = bk_81_0 := by decide +kernel
theorem r_81_e {tx0 : Int} {hi : mm_Id → Int → Int} {dh : Int → Int} {nx ns : Int} {Q : mm_V → mm_H → Prop} (htx0 : mm_isD tx0) (hx : 5275 ≤ nx) :
    mm_Cl 81 [zR (31, tx0, 0)] (mm_z hi dh nx ns) Q =
    mm_Cl 166 [zR (22, tx0, 0)] (mm_z (mm_up (mm_up hi (31, tx0, 0) 3 0) (31, tx0, 0) 6 0) dh nx ns) (fun r h3 => mm_Wp 81 (bk_81_0.drop 9) [zR (31, tx0, 0)] (mm_push r []) h3 Q) :=
  mm_ce (l2 := [zR (31, tx0, 0)]) rfl (mm_kb bq_81_0 ((wp_5_0).trans ((wp_1).trans ((wp_63 (mm_o31 htx0 hx)).trans ((wp_5_0).trans ((wp_1).trans ((wp_64k (mm_o31 htx0 hx) (by decide)).trans ((wp_5_0).trans ((wp_62 (by decide) (mm_o31 htx0 hx) (mm_r31_0 htx0)).trans ((wp_v1 mm_n_166 (mm_leq mm_m_166 (mm_lb rfl)) (mm_lb rfl) (mm_o22 (mm_td htx0) hx)).trans rfl))))))))))
theorem r_81_0_9 {tx0 : Int} {hi : mm_Id → Int → Int} {dh : Int → Int} {nx ns : Int} {Q : mm_V → mm_H → Prop} (htx0 : mm_isD tx0) (hx : 5275 ≤ nx) :
    mm_Wp 81 (bk_81_0.drop 9) [zR (31, tx0, 0)] [] (mm_z hi dh nx ns) Q =
    mm_Cl 166 [zR (22, (13 + tx0), 0)] (mm_z hi dh nx ns) (fun r h3 => mm_Wp 81 (bk_81_0.drop 12) [zR (31, tx0, 0)] (mm_push r []) h3 Q) :=
  (wp_5_0).trans ((wp_62 (by decide) (mm_o31 htx0 hx) (mm_r31_1 htx0)).trans ((wp_v1 mm_n_166 (mm_leq mm_m_166 (mm_lb rfl)) (mm_lb rfl) (mm_o22 (mm_tk htx0) hx)).trans rfl))
theorem r_81_0_12 (vx0 : mm_V) {hi : mm_Id → Int → Int} {dh : Int → Int} {nx ns : Int} {Q : mm_V → mm_H → Prop} (hx : 5275 ≤ nx) :
    mm_Wp 81 (bk_81_0.drop 12) [vx0] [] (mm_z hi dh nx ns) Q =
    Q zU (mm_z hi dh nx ns) :=
  wp_93
/-- PoolHouse$Dataset.hasRoom(II)Z -/
theorem bq_82_0 : mm_blk 82 0 = bk_82_0 := by decide +kernel
theorem bq_82_1 : mm_blk 82 1 = bk_82_1 := by decide +kernel
theorem bq_82_2 : mm_blk 82 2 = bk_82_2 := by decide +kernel
theorem bq_82_3 : mm_blk 82 3 = bk_82_3 := by decide +kernel
theorem bq_82_4 : mm_blk 82 4 = bk_82_4 := by decide +kernel
theorem r_82_e {tx0 : Int} (x1 : Int) (x2 : Int) {hi : mm_Id → Int → Int} {dh : Int → Int} {nx ns : Int} {Q : mm_V → mm_H → Prop} (htx0 : mm_isD tx0) (hx : 5275 ≤ nx) :
    mm_Cl 82 [zR (31, tx0, 0), zI x1, zI x2] (mm_z hi dh nx ns) Q =
    (if x1 < 0 then mm_Wp 82 (mm_blk 82 1) [zR (31, tx0, 0), zI x1, zI x2, zU] [] (mm_z hi dh nx ns) Q else (if x1 < 8 then mm_Cl 162 [zR (22, tx0, 0), zI x1] (mm_z hi dh nx ns) (fun r h3 => mm_Wp 82 (bk_82_0.drop 9) [zR (31, tx0, 0), zI x1, zI x2, zU] (mm_push r []) h3 Q) else mm_Wp 82 (mm_blk 82 1) [zR (31, tx0, 0), zI x1, zI x2, zU] [] (mm_z hi dh nx ns) Q)) :=
  mm_ce (l2 := [zR (31, tx0, 0), zI x1, zI x2, zU]) rfl (mm_kb bq_82_0 ((wp_3_1).trans ((wp_42).trans (mm_ic (rfl) ((wp_3_1).trans ((wp_1).trans ((wp_49).trans (mm_ic ((wp_5_0).trans ((wp_62 (by decide) (mm_o31 htx0 hx) (mm_r31_0 htx0)).trans ((wp_3_1).trans ((wp_v2 mm_n_162 (mm_leq mm_m_162 (mm_lb rfl)) (mm_lb rfl) (mm_o22 (mm_td htx0) hx)).trans rfl)))) (rfl)))))))))
theorem r_82_1 {tx0 : Int} (vx1 : mm_V) (x2 : Int) (vx3 : mm_V) {hi : mm_Id → Int → Int} {dh : Int → Int} {nx ns : Int} {Q : mm_V → mm_H → Prop} (htx0 : mm_isD tx0) (hx : 5275 ≤ nx) :
    mm_Wp 82 (mm_blk 82 1) [zR (31, tx0, 0), vx1, zI x2, vx3] [] (mm_z hi dh nx ns) Q =
    mm_Wp 82 (mm_blk 82 2) [zR (31, tx0, 0), vx1, zI x2, vx3] [zI 0] (mm_z hi dh nx ns) Q :=
  mm_kb bq_82_1 ((wp_1).trans ((wp_0).trans (rfl)))
theorem r_82_0_9 {tx0 : Int} (x1 : Int) (x2 : Int) (vx3 : mm_V) (y0 : Int) {hi : mm_Id → Int → Int} {dh : Int → Int} {nx ns : Int} {Q : mm_V → mm_H → Prop} (htx0 : mm_isD tx0) (hx : 5275 ≤ nx) :
    mm_Wp 82 (bk_82_0.drop 9) [zR (31, tx0, 0), zI x1, zI x2, vx3] [zI y0] (mm_z hi dh nx ns) Q =
    ((0 ≤ x1 ∧ x1 < 8) ∧ (if (hi (32, tx0, 0) x1) < (mm_w (y0 + x2)) then mm_Wp 82 (mm_blk 82 1) [zR (31, tx0, 0), zI x1, zI x2, vx3] [] (mm_z hi dh nx ns) Q else mm_Wp 82 (mm_blk 82 2) [zR (31, tx0, 0), zI x1, zI x2, vx3] [zI 1] (mm_z hi dh nx ns) Q)) :=
  (wp_3_2).trans ((wp_10).trans ((wp_5_0).trans ((wp_62 (by decide) (mm_o31 htx0 hx) (mm_r31_2 htx0)).trans ((wp_3_1).trans ((wp_70 (mm_q32 htx0 hx)).trans (mm_ae ((wp_50).trans (mm_ic (rfl) ((wp_1).trans ((wp_56).trans (rfl)))))))))))
theorem r_82_2 {tx0 : Int} (vx1 : mm_V) (x2 : Int) (vx3 : mm_V) (y0 : Int) {hi : mm_Id → Int → Int} {dh : Int → Int} {nx ns : Int} {Q : mm_V → mm_H → Prop} (htx0 : mm_isD tx0) (hx : 5275 ≤ nx) :
    mm_Wp 82 (mm_blk 82 2) [zR (31, tx0, 0), vx1, zI x2, vx3] [zI y0] (mm_z hi dh nx ns) Q =
    (if y0 = 0 then mm_Wp 82 (mm_blk 82 3) [zR (31, tx0, 0), vx1, zI x2, zI y0] [] (mm_z hi dh nx ns) Q else mm_Cl 160 [zR (22, tx0, 0)] (mm_z hi dh nx ns) (fun r h3 => mm_Wp 82 (bk_82_2.drop 6) [zR (31, tx0, 0), vx1, zI x2, zI y0] (mm_push r []) h3 Q)) :=
  mm_kb bq_82_2 ((wp_6 (l2 := [zR (31, tx0, 0), vx1, zI x2, zI y0]) rfl).trans ((wp_3_3).trans ((wp_40).trans (mm_ic (rfl) ((wp_5_0).trans ((wp_62 (by decide) (mm_o31 htx0 hx) (mm_r31_0 htx0)).trans ((wp_v1 mm_n_160 (mm_leq mm_m_160 (mm_lb rfl)) (mm_lb rfl) (mm_o22 (mm_td htx0) hx)).trans rfl)))))))
theorem r_82_3 (vx0 : mm_V) (vx1 : mm_V) (vx2 : mm_V) (vx3 : mm_V) {hi : mm_Id → Int → Int} {dh : Int → Int} {nx ns : Int} {Q : mm_V → mm_H → Prop} (hx : 5275 ≤ nx) :
    mm_Wp 82 (mm_blk 82 3) [vx0, vx1, vx2, vx3] [] (mm_z hi dh nx ns) Q =
    mm_Wp 82 (mm_blk 82 4) [vx0, vx1, vx2, vx3] [zI 0] (mm_z hi dh nx ns) Q :=
  mm_kb bq_82_3 ((wp_1).trans ((wp_0).trans (rfl)))
theorem r_82_2_6 {tx0 : Int} (vx1 : mm_V) (x2 : Int) (vx3 : mm_V) (y0 : Int) {hi : mm_Id → Int → Int} {dh : Int → Int} {nx ns : Int} {Q : mm_V → mm_H → Prop} (htx0 : mm_isD tx0) (hx : 5275 ≤ nx) :
    mm_Wp 82 (bk_82_2.drop 6) [zR (31, tx0, 0), vx1, zI x2, vx3] [zI y0] (mm_z hi dh nx ns) Q =
    (if (hi (31, tx0, 0) 5) < (mm_w (y0 + x2)) then mm_Wp 82 (mm_blk 82 3) [zR (31, tx0, 0), vx1, zI x2, vx3] [] (mm_z hi dh nx ns) Q else mm_Wp 82 (mm_blk 82 4) [zR (31, tx0, 0), vx1, zI x2, vx3] [zI 1] (mm_z hi dh nx ns) Q) :=
  (wp_3_2).trans ((wp_10).trans ((wp_5_0).trans ((wp_60 (by decide) (mm_o31 htx0 hx)).trans ((wp_50).trans (mm_ic (rfl) ((wp_1).trans ((wp_56).trans (rfl))))))))
theorem r_82_4 (vx0 : mm_V) (vx1 : mm_V) (vx2 : mm_V) (vx3 : mm_V) (y0 : Int) {hi : mm_Id → Int → Int} {dh : Int → Int} {nx ns : Int} {Q : mm_V → mm_H → Prop} (hx : 5275 ≤ nx) :
    mm_Wp 82 (mm_blk 82 4) [vx0, vx1, vx2, vx3] [zI y0] (mm_z hi dh nx ns) Q =
    ((y0 = 0 ∨ y0 = 1) ∧ Q (zI y0) (mm_z hi dh nx ns)) :=
  mm_kb bq_82_4 (wp_94z)
/-- PoolHouse$Disks.has(I)Z -/
theorem bq_84_0 : mm_blk 84 0 = bk_84_0 := by decide +kernel
theorem bq_84_1 : mm_blk 84 1 = bk_84_1 := by decide +kernel
theorem bq_84_2 : mm_blk 84 2 = bk_84_2 := by decide +kernel
theorem r_84_e (x1 : Int) {hi : mm_Id → Int → Int} {dh : Int → Int} {nx ns : Int} {Q : mm_V → mm_H → Prop} (hx : 5275 ≤ nx) :
    mm_Cl 84 [zR (14, 0, 0), zI x1] (mm_z hi dh nx ns) Q =
    (if x1 < 1 then mm_Wp 84 (mm_blk 84 1) [zR (14, 0, 0), zI x1] [] (mm_z hi dh nx ns) Q else (if (hi (14, 0, 0) 0) < x1 then mm_Wp 84 (mm_blk 84 1) [zR (14, 0, 0), zI x1] [] (mm_z hi dh nx ns) Q else mm_Wp 84 (mm_blk 84 2) [zR (14, 0, 0), zI x1] [zI 1] (mm_z hi dh nx ns) Q)) :=
  mm_ce (l2 := [zR (14, 0, 0), zI x1]) rfl (mm_kb bq_84_0 ((wp_3_1).trans ((wp_1).trans ((wp_48).trans (mm_ic (rfl) ((wp_3_1).trans ((wp_5_0).trans ((wp_60 (by decide) (mm_o14 hx)).trans ((wp_50).trans (mm_ic (rfl) ((wp_1).trans ((wp_56).trans (rfl)))))))))))))
theorem r_84_1 (vx0 : mm_V) (vx1 : mm_V) {hi : mm_Id → Int → Int} {dh : Int → Int} {nx ns : Int} {Q : mm_V → mm_H → Prop} (hx : 5275 ≤ nx) :
    mm_Wp 84 (mm_blk 84 1) [vx0, vx1] [] (mm_z hi dh nx ns) Q =
    mm_Wp 84 (mm_blk 84 2) [vx0, vx1] [zI 0] (mm_z hi dh nx ns) Q :=
  mm_kb bq_84_1 ((wp_1).trans ((wp_0).trans (rfl)))
theorem r_84_2 (vx0 : mm_V) (vx1 : mm_V) (y0 : Int) {hi : mm_Id → Int → Int} {dh : Int → Int} {nx ns : Int} {Q : mm_V → mm_H → Prop} (hx : 5275 ≤ nx) :
    mm_Wp 84 (mm_blk 84 2) [vx0, vx1] [zI y0] (mm_z hi dh nx ns) Q =
    ((y0 = 0 ∨ y0 = 1) ∧ Q (zI y0) (mm_z hi dh nx ns)) :=
  mm_kb bq_84_2 (wp_94z)
/-- PoolHouse$Disks.suspected(IZ)Z -/
theorem bq_85_0 : mm_blk 85 0 = bk_85_0 := by decide +kernel
theorem bq_85_1 : mm_blk 85 1 = bk_85_1 := by decide +kernel
theorem bq_85_2 : mm_blk 85 2 = bk_85_2 := by decide +kernel
theorem r_85_e (x1 : Int) (x2 : Int) {hi : mm_Id → Int → Int} {dh : Int → Int} {nx ns : Int} {Q : mm_V → mm_H → Prop} (hx : 5275 ≤ nx) :
    mm_Cl 85 [zR (14, 0, 0), zI x1, zI x2] (mm_z hi dh nx ns) Q =
    (if (hi (14, 0, 0) 2) = 0 then (if (hi (14, 0, 0) 1) = 0 then mm_Wp 85 (mm_blk 85 2) [zR (14, 0, 0), zI x1, zI x2] [] (mm_z hi dh nx ns) Q else (if (hi (14, 0, 0) 1) = x1 then mm_Wp 85 (mm_blk 85 2) [zR (14, 0, 0), zI x1, zI x2] [] (mm_z hi dh nx ns) Q else mm_Wp 85 (mm_blk 85 1) [zR (14, 0, 0), zI x1, zI x2] [] (mm_z hi dh nx ns) Q)) else mm_Wp 85 (mm_blk 85 1) [zR (14, 0, 0), zI x1, zI x2] [] (mm_z hi dh nx ns) Q) :=
  mm_ce (l2 := [zR (14, 0, 0), zI x1, zI x2]) rfl (mm_kb bq_85_0 ((wp_5_0).trans ((wp_60 (by decide) (mm_o14 hx)).trans ((wp_41).trans (mm_ic ((wp_5_0).trans ((wp_60 (by decide) (mm_o14 hx)).trans ((wp_40).trans (mm_ic (rfl) ((wp_5_0).trans ((wp_60 (by decide) (mm_o14 hx)).trans ((wp_3_1).trans ((wp_46).trans (mm_ic (rfl) ((wp_0).trans (rfl))))))))))) (rfl))))))
theorem r_85_1 (vx0 : mm_V) (vx1 : mm_V) (vx2 : mm_V) {hi : mm_Id → Int → Int} {dh : Int → Int} {nx ns : Int} {Q : mm_V → mm_H → Prop} (hx : 5275 ≤ nx) :
    mm_Wp 85 (mm_blk 85 1) [vx0, vx1, vx2] [] (mm_z hi dh nx ns) Q =
    Q (zI 0) (mm_z hi dh nx ns) :=
  mm_kb bq_85_1 ((wp_1).trans (wp_94k (by decide)))
theorem r_85_2 (x1 : Int) (x2 : Int) {hi : mm_Id → Int → Int} {dh : Int → Int} {nx ns : Int} {Q : mm_V → mm_H → Prop} (hx : 5275 ≤ nx) :
    mm_Wp 85 (mm_blk 85 2) [zR (14, 0, 0), zI x1, zI x2] [] (mm_z hi dh nx ns) Q =
    ((x2 = 0 ∨ x2 = 1) ∧ Q (zI 1) (mm_z (mm_up (mm_up hi (14, 0, 0) 1 x1) (14, 0, 0) 2 x2) dh nx ns)) :=
  mm_kb bq_85_2 ((wp_5_0).trans ((wp_3_1).trans ((wp_63 (mm_o14 hx)).trans ((wp_5_0).trans ((wp_3_2).trans ((wp_64 (mm_o14 hx)).trans (mm_ae ((wp_1).trans (wp_94k (by decide))))))))))
/-- PoolHouse$Disks.broughtBack(I)Z -/
theorem bq_86_0 : mm_blk 86 0 = bk_86_0 := by decide +kernel
theorem bq_86_1 : mm_blk 86 1 = bk_86_1 := by decide +kernel
theorem bq_86_2 : mm_blk 86 2 = bk_86_2 := by decide +kernel
theorem bq_86_3 : mm_blk 86 3 = bk_86_3 := by decide +kernel
theorem bq_86_4 : mm_blk 86 4 = bk_86_4 := by decide +kernel
theorem r_86_e (x1 : Int) {hi : mm_Id → Int → Int} {dh : Int → Int} {nx ns : Int} {Q : mm_V → mm_H → Prop} (hx : 5275 ≤ nx) :
    mm_Cl 86 [zR (14, 0, 0), zI x1] (mm_z hi dh nx ns) Q =
    (if (hi (14, 0, 0) 2) = 0 then mm_Wp 86 (mm_blk 86 1) [zR (14, 0, 0), zI x1, zU] [] (mm_z hi dh nx ns) Q else (if (hi (14, 0, 0) 1) = x1 then mm_Wp 86 (mm_blk 86 2) [zR (14, 0, 0), zI x1, zU] [zI 1] (mm_z hi dh nx ns) Q else mm_Wp 86 (mm_blk 86 1) [zR (14, 0, 0), zI x1, zU] [] (mm_z hi dh nx ns) Q)) :=
  mm_ce (l2 := [zR (14, 0, 0), zI x1, zU]) rfl (mm_kb bq_86_0 ((wp_5_0).trans ((wp_60 (by decide) (mm_o14 hx)).trans ((wp_40).trans (mm_ic (rfl) ((wp_5_0).trans ((wp_60 (by decide) (mm_o14 hx)).trans ((wp_3_1).trans ((wp_47).trans (mm_ic ((wp_1).trans ((wp_56).trans (rfl))) (rfl)))))))))))
theorem r_86_1 (vx1 : mm_V) (vx2 : mm_V) {hi : mm_Id → Int → Int} {dh : Int → Int} {nx ns : Int} {Q : mm_V → mm_H → Prop} (hx : 5275 ≤ nx) :
    mm_Wp 86 (mm_blk 86 1) [zR (14, 0, 0), vx1, vx2] [] (mm_z hi dh nx ns) Q =
    mm_Wp 86 (mm_blk 86 2) [zR (14, 0, 0), vx1, vx2] [zI 0] (mm_z hi dh nx ns) Q :=
  mm_kb bq_86_1 ((wp_1).trans ((wp_0).trans (rfl)))
theorem r_86_2 (vx1 : mm_V) (vx2 : mm_V) (y0 : Int) {hi : mm_Id → Int → Int} {dh : Int → Int} {nx ns : Int} {Q : mm_V → mm_H → Prop} (hvx1 : mm_wt vx1 = 1) (hx : 5275 ≤ nx) :
    mm_Wp 86 (mm_blk 86 2) [zR (14, 0, 0), vx1, vx2] [zI y0] (mm_z hi dh nx ns) Q =
    (if (hi (14, 0, 0) 2) = 0 then mm_Wp 86 (mm_blk 86 3) [zR (14, 0, 0), vx1, zI y0] [zR (14, 0, 0)] (mm_z hi dh nx ns) Q else (if y0 = 0 then mm_Wp 86 (mm_blk 86 4) [zR (14, 0, 0), vx1, zI y0] [zI 1, zR (14, 0, 0)] (mm_z hi dh nx ns) Q else mm_Wp 86 (mm_blk 86 3) [zR (14, 0, 0), vx1, zI y0] [zR (14, 0, 0)] (mm_z hi dh nx ns) Q)) :=
  mm_kb bq_86_2 ((wp_6 (l2 := [zR (14, 0, 0), vx1, zI y0]) ((if_pos (mm_lb rfl)).trans (congrArg some (mm_stw rfl hvx1)))).trans ((wp_5_0).trans ((wp_5_0).trans ((wp_60 (by decide) (mm_o14 hx)).trans ((wp_40).trans (mm_ic (rfl) ((wp_3_2).trans ((wp_41).trans (mm_ic ((wp_1).trans ((wp_56).trans (rfl))) (rfl))))))))))
theorem r_86_3 (vx0 : mm_V) (vx1 : mm_V) (x2 : Int) {hi : mm_Id → Int → Int} {dh : Int → Int} {nx ns : Int} {Q : mm_V → mm_H → Prop} (hx : 5275 ≤ nx) :
    mm_Wp 86 (mm_blk 86 3) [vx0, vx1, zI x2] [zR (14, 0, 0)] (mm_z hi dh nx ns) Q =
    mm_Wp 86 (mm_blk 86 4) [vx0, vx1, zI x2] [zI 0, zR (14, 0, 0)] (mm_z hi dh nx ns) Q :=
  mm_kb bq_86_3 ((wp_1).trans ((wp_0).trans (rfl)))
theorem r_86_4 (vx0 : mm_V) (vx1 : mm_V) (x2 : Int) (y0 : Int) {hi : mm_Id → Int → Int} {dh : Int → Int} {nx ns : Int} {Q : mm_V → mm_H → Prop} (hx : 5275 ≤ nx) :
    mm_Wp 86 (mm_blk 86 4) [vx0, vx1, zI x2] [zI y0, zR (14, 0, 0)] (mm_z hi dh nx ns) Q =
    ((y0 = 0 ∨ y0 = 1) ∧ ((x2 = 0 ∨ x2 = 1) ∧ Q (zI x2) (mm_z (mm_up hi (14, 0, 0) 2 y0) dh nx ns))) :=
  mm_kb bq_86_4 ((wp_64 (mm_o14 hx)).trans (mm_ae ((wp_3_2).trans (wp_94z))))
/-- PoolHouse$Disks.stateOf(I)I -/
theorem bq_88_0 : mm_blk 88 0 = bk_88_0 := by decide +kernel
theorem bq_88_1 : mm_blk 88 1 = bk_88_1 := by decide +kernel
theorem bq_88_2 : mm_blk 88 2 = bk_88_2 := by decide +kernel
theorem bq_88_3 : mm_blk 88 3 = bk_88_3 := by decide +kernel
theorem r_88_e (x1 : Int) {hi : mm_Id → Int → Int} {dh : Int → Int} {nx ns : Int} {Q : mm_V → mm_H → Prop} (hx : 5275 ≤ nx) :
    mm_Cl 88 [zR (14, 0, 0), zI x1] (mm_z hi dh nx ns) Q =
    (if x1 = (hi (14, 0, 0) 1) then (if (hi (14, 0, 0) 2) = 0 then mm_Wp 88 (mm_blk 88 3) [zR (14, 0, 0), zI x1] [zI 1] (mm_z hi dh nx ns) Q else mm_Wp 88 (mm_blk 88 3) [zR (14, 0, 0), zI x1] [zI 2] (mm_z hi dh nx ns) Q) else mm_Wp 88 (mm_blk 88 3) [zR (14, 0, 0), zI x1] [zI 0] (mm_z hi dh nx ns) Q) :=
  mm_ce (l2 := [zR (14, 0, 0), zI x1]) rfl (mm_kb bq_88_0 ((wp_3_1).trans ((wp_5_0).trans ((wp_60 (by decide) (mm_o14 hx)).trans ((wp_46).trans (mm_ic (mm_kb bq_88_1 ((wp_5_0).trans ((wp_60 (by decide) (mm_o14 hx)).trans ((wp_40).trans (mm_ic (mm_kb bq_88_2 ((wp_1).trans ((wp_0).trans (rfl)))) ((wp_1).trans ((wp_56).trans (rfl)))))))) ((wp_1).trans ((wp_56).trans (rfl)))))))))
theorem r_88_3 (vx0 : mm_V) (vx1 : mm_V) (y0 : Int) {hi : mm_Id → Int → Int} {dh : Int → Int} {nx ns : Int} {Q : mm_V → mm_H → Prop} (hx : 5275 ≤ nx) :
    mm_Wp 88 (mm_blk 88 3) [vx0, vx1] [zI y0] (mm_z hi dh nx ns) Q =
    Q (zI y0) (mm_z hi dh nx ns) :=
  mm_kb bq_88_3 (wp_90)
/-- PoolHouse$Handle.begin(LPoolHouse$Dataset;I)V -/
theorem bq_90_0 : mm_blk 90 0 = bk_90_0 := by decide +kernel
theorem r_90_e {tx0 : Int} {tx1 : Int} (x2 : Int) {hi : mm_Id → Int → Int} {dh : Int → Int} {nx ns : Int} {Q : mm_V → mm_H → Prop} (htx0 : mm_isS tx0) (htx1 : mm_isD tx1) (hx : 5275 ≤ nx) :
    mm_Cl 90 [zR (34, tx0, 0), zR (31, tx1, 0), zI x2] (mm_z hi dh nx ns) Q =
    mm_Cl 93 [zR (34, tx0, 0), zI 0, zI 2159, zI 0] (mm_z (mm_up hi (34, tx0, 0) 2 x2) (fun k => if k = tx0 then tx1 else dh k) nx ns) (fun r h3 => mm_Wp 90 (bk_90_0.drop 11) [zR (34, tx0, 0), zR (31, tx1, 0), zI x2] (mm_push r []) h3 Q) :=
  mm_ce (l2 := [zR (34, tx0, 0), zR (31, tx1, 0), zI x2]) rfl (mm_kb bq_90_0 ((wp_5_0).trans ((wp_5_1).trans ((wp_66 htx0 htx1 (mm_o34 htx0 hx)).trans ((wp_5_0).trans ((wp_3_2).trans ((wp_63 (mm_o34 htx0 hx)).trans ((wp_5_0).trans ((wp_1).trans ((wp_1).trans ((wp_1).trans ((wp_v4 mm_n_93 (mm_leq mm_m_93 (mm_lb rfl)) (mm_lb rfl) (mm_o34 htx0 hx)).trans rfl))))))))))))
theorem r_90_0_11 (vx0 : mm_V) (vx1 : mm_V) (vx2 : mm_V) {hi : mm_Id → Int → Int} {dh : Int → Int} {nx ns : Int} {Q : mm_V → mm_H → Prop} (hx : 5275 ≤ nx) :
    mm_Wp 90 (bk_90_0.drop 11) [vx0, vx1, vx2] [] (mm_z hi dh nx ns) Q =
    Q zU (mm_z hi dh nx ns) :=
  wp_93
/-- PoolHouse$Handle.isFor(LPoolHouse$Dataset;I)Z -/
theorem bq_91_0 : mm_blk 91 0 = bk_91_0 := by decide +kernel
theorem bq_91_1 : mm_blk 91 1 = bk_91_1 := by decide +kernel
theorem bq_91_2 : mm_blk 91 2 = bk_91_2 := by decide +kernel
theorem r_91_e {tx0 : Int} {tx1 : Int} (x2 : Int) {hi : mm_Id → Int → Int} {dh : Int → Int} {nx ns : Int} {Q : mm_V → mm_H → Prop} (htx0 : mm_isS tx0) (htx1 : mm_isD tx1) (hx : 5275 ≤ nx) :
    mm_Cl 91 [zR (34, tx0, 0), zR (31, tx1, 0), zI x2] (mm_z hi dh nx ns) Q =
    (if 0 ≤ dh tx0 ∧ dh tx0 < 5 then (if 0 ≤ dh tx0 ∧ dh tx0 < 5 then (if (dh tx0) = tx1 then (if (hi (34, tx0, 0) 2) = x2 then mm_Wp 91 (mm_blk 91 2) [zR (34, tx0, 0), zR (31, tx1, 0), zI x2] [zI 1] (mm_z hi dh nx ns) Q else mm_Wp 91 (mm_blk 91 1) [zR (34, tx0, 0), zR (31, tx1, 0), zI x2] [] (mm_z hi dh nx ns) Q) else mm_Wp 91 (mm_blk 91 1) [zR (34, tx0, 0), zR (31, tx1, 0), zI x2] [] (mm_z hi dh nx ns) Q) else mm_Wp 91 (mm_blk 91 1) [zR (34, tx0, 0), zR (31, tx1, 0), zI x2] [] (mm_z hi dh nx ns) Q) else mm_Wp 91 (mm_blk 91 1) [zR (34, tx0, 0), zR (31, tx1, 0), zI x2] [] (mm_z hi dh nx ns) Q) :=
  mm_ce (l2 := [zR (34, tx0, 0), zR (31, tx1, 0), zI x2]) rfl (mm_kb bq_91_0 ((wp_5_0).trans ((wp_62d htx0 (mm_o34 htx0 hx)).trans (mm_icd (fun h1 => (wp_54 (by decide)).trans ((wp_5_0).trans ((wp_62d htx0 (mm_o34 htx0 hx)).trans (mm_icd (fun h2 => (wp_5_1).trans ((wp_53_31 h2 htx1).trans (mm_ic ((wp_5_0).trans ((wp_60 (by decide) (mm_o34 htx0 hx)).trans ((wp_3_2).trans ((wp_47).trans (mm_ic ((wp_1).trans ((wp_56).trans (rfl))) (rfl)))))) (rfl)))) (fun _ => (wp_5_1).trans ((wp_53n htx1).trans (rfl))))))) (fun _ => (wp_54n).trans (rfl))))))
theorem r_91_1 (vx0 : mm_V) (vx1 : mm_V) (vx2 : mm_V) {hi : mm_Id → Int → Int} {dh : Int → Int} {nx ns : Int} {Q : mm_V → mm_H → Prop} (hx : 5275 ≤ nx) :
    mm_Wp 91 (mm_blk 91 1) [vx0, vx1, vx2] [] (mm_z hi dh nx ns) Q =
    mm_Wp 91 (mm_blk 91 2) [vx0, vx1, vx2] [zI 0] (mm_z hi dh nx ns) Q :=
  mm_kb bq_91_1 ((wp_1).trans ((wp_0).trans (rfl)))
theorem r_91_2 (vx0 : mm_V) (vx1 : mm_V) (vx2 : mm_V) (y0 : Int) {hi : mm_Id → Int → Int} {dh : Int → Int} {nx ns : Int} {Q : mm_V → mm_H → Prop} (hx : 5275 ≤ nx) :
    mm_Wp 91 (mm_blk 91 2) [vx0, vx1, vx2] [zI y0] (mm_z hi dh nx ns) Q =
    ((y0 = 0 ∨ y0 = 1) ∧ Q (zI y0) (mm_z hi dh nx ns)) :=
  mm_kb bq_91_2 (wp_94z)
/-- PoolHouse$Handle.mark(III)V -/
theorem bq_93_0 : mm_blk 93 0 = bk_93_0 := by decide +kernel
theorem bq_93_1 : mm_blk 93 1 = bk_93_1 := by decide +kernel
theorem bq_93_2 : mm_blk 93 2 = bk_93_2 := by decide +kernel
theorem r_93_e {tx0 : Int} (x1 : Int) (x2 : Int) (x3 : Int) {hi : mm_Id → Int → Int} {dh : Int → Int} {nx ns : Int} {Q : mm_V → mm_H → Prop} (htx0 : mm_isS tx0) (hx : 5275 ≤ nx) :
    mm_Cl 93 [zR (34, tx0, 0), zI x1, zI x2, zI x3] (mm_z hi dh nx ns) Q =
    mm_Wp 93 (mm_blk 93 1) [zR (34, tx0, 0), zI x1, zI x2, zI x3, zI (if 0 < x1 then x1 else 0)] [] (mm_z hi dh nx ns) Q :=
  mm_ce (l2 := [zR (34, tx0, 0), zI x1, zI x2, zI x3, zU]) rfl (mm_kb bq_93_0 ((wp_1).trans ((wp_3_1).trans ((wp_98 (mm_lb rfl)).trans ((wp_6 (l2 := [zR (34, tx0, 0), zI x1, zI x2, zI x3, zI (if 0 < x1 then x1 else 0)]) rfl).trans ((wp_0).trans (rfl)))))))
theorem r_93_1 {tx0 : Int} (vx1 : mm_V) (x2 : Int) (x3 : Int) (x4 : Int) {hi : mm_Id → Int → Int} {dh : Int → Int} {nx ns : Int} {Q : mm_V → mm_H → Prop} (htx0 : mm_isS tx0) (hx : 5275 ≤ nx) :
    mm_Wp 93 (mm_blk 93 1) [zR (34, tx0, 0), vx1, zI x2, zI x3, zI x4] [] (mm_z hi dh nx ns) Q =
    (if x2 < x4 then mm_Wp 93 (mm_blk 93 2) [zR (34, tx0, 0), vx1, zI x2, zI x3, zI x4] [] (mm_z hi dh nx ns) Q else (if x4 < 2160 then ((0 ≤ x4 ∧ x4 < 2160) ∧ mm_Wp 93 (mm_blk 93 1) [zR (34, tx0, 0), vx1, zI x2, zI x3, zI (mm_w (x4 + 1))] [] (mm_z (mm_up hi (35, tx0, 0) x4 (mm_b (mm_b x3))) dh nx ns) Q) else mm_Wp 93 (mm_blk 93 2) [zR (34, tx0, 0), vx1, zI x2, zI x3, zI x4] [] (mm_z hi dh nx ns) Q)) :=
  mm_kb bq_93_1 ((wp_3_4).trans ((wp_3_2).trans ((wp_50).trans (mm_ic (rfl) ((wp_3_4).trans ((wp_1).trans ((wp_49).trans (mm_ic ((wp_5_0).trans ((wp_62 (by decide) (mm_o34 htx0 hx) (mm_r34_0 htx0)).trans ((wp_3_4).trans ((wp_3_3).trans ((wp_33).trans ((wp_75 (mm_q35 htx0 hx)).trans (mm_ae ((wp_9 (l2 := [zR (34, tx0, 0), vx1, zI x2, zI x3, zI (mm_w (x4 + 1))]) rfl rfl).trans ((wp_56).trans (rfl)))))))))) (rfl)))))))))
theorem r_93_2 (vx0 : mm_V) (vx1 : mm_V) (vx2 : mm_V) (vx3 : mm_V) (vx4 : mm_V) {hi : mm_Id → Int → Int} {dh : Int → Int} {nx ns : Int} {Q : mm_V → mm_H → Prop} (hx : 5275 ≤ nx) :
    mm_Wp 93 (mm_blk 93 2) [vx0, vx1, vx2, vx3, vx4] [] (mm_z hi dh nx ns) Q =
    Q zU (mm_z hi dh nx ns) :=
  mm_kb bq_93_2 (wp_93)
/-- PoolHouse$Node.begin(II)V -/
theorem bq_95_0 : mm_blk 95 0 = bk_95_0 := by decide +kernel
theorem r_95_e {tx0 nx0 : Int} (x1 : Int) (x2 : Int) {hi : mm_Id → Int → Int} {dh : Int → Int} {nx ns : Int} {Q : mm_V → mm_H → Prop} (htx0 : mm_isT tx0) (hnx0 : mm_isN nx0) (hx : 5275 ≤ nx) :
    mm_Cl 95 [zR (24, tx0, nx0), zI x1, zI x2] (mm_z hi dh nx ns) Q =
    Q zU (mm_z (mm_up (mm_up (mm_up (mm_up (mm_up (mm_up (mm_up (mm_up (mm_up hi (24, tx0, nx0) 0 x1) (24, tx0, nx0) 2 x2) (24, tx0, nx0) 3 61) (24, tx0, nx0) 1 0) (24, tx0, nx0) 4 0) (24, tx0, nx0) 5 0) (24, tx0, nx0) 6 0) (24, tx0, nx0) 11 0) (24, tx0, nx0) 14 0) dh nx ns) :=
  mm_ce (l2 := [zR (24, tx0, nx0), zI x1, zI x2]) rfl (mm_kb bq_95_0 ((wp_5_0).trans ((wp_3_1).trans ((wp_63 (mm_o24 htx0 hnx0 hx)).trans ((wp_5_0).trans ((wp_3_2).trans ((wp_63 (mm_o24 htx0 hnx0 hx)).trans ((wp_5_0).trans ((wp_1).trans ((wp_63 (mm_o24 htx0 hnx0 hx)).trans ((wp_5_0).trans ((wp_1).trans ((wp_63 (mm_o24 htx0 hnx0 hx)).trans ((wp_5_0).trans ((wp_1).trans ((wp_63 (mm_o24 htx0 hnx0 hx)).trans ((wp_5_0).trans ((wp_1).trans ((wp_63 (mm_o24 htx0 hnx0 hx)).trans ((wp_5_0).trans ((wp_1).trans ((wp_63 (mm_o24 htx0 hnx0 hx)).trans ((wp_5_0).trans ((wp_1).trans ((wp_63 (mm_o24 htx0 hnx0 hx)).trans ((wp_5_0).trans ((wp_1).trans ((wp_64k (mm_o24 htx0 hnx0 hx) (by decide)).trans (wp_93)))))))))))))))))))))))))))))
/-- PoolHouse$Node.isUnused()Z -/
theorem bq_96_0 : mm_blk 96 0 = bk_96_0 := by decide +kernel
theorem bq_96_1 : mm_blk 96 1 = bk_96_1 := by decide +kernel
theorem bq_96_2 : mm_blk 96 2 = bk_96_2 := by decide +kernel
theorem r_96_e {tx0 nx0 : Int} {hi : mm_Id → Int → Int} {dh : Int → Int} {nx ns : Int} {Q : mm_V → mm_H → Prop} (htx0 : mm_isT tx0) (hnx0 : mm_isN nx0) (hx : 5275 ≤ nx) :
    mm_Cl 96 [zR (24, tx0, nx0)] (mm_z hi dh nx ns) Q =
    (if (hi (24, tx0, nx0) 0) = 1 then (if (hi (24, tx0, nx0) 5) = 0 then mm_Wp 96 (mm_blk 96 2) [zR (24, tx0, nx0)] [zI 1] (mm_z hi dh nx ns) Q else mm_Wp 96 (mm_blk 96 1) [zR (24, tx0, nx0)] [] (mm_z hi dh nx ns) Q) else mm_Wp 96 (mm_blk 96 1) [zR (24, tx0, nx0)] [] (mm_z hi dh nx ns) Q) :=
  mm_ce (l2 := [zR (24, tx0, nx0)]) rfl (mm_kb bq_96_0 ((wp_5_0).trans ((wp_60 (by decide) (mm_o24 htx0 hnx0 hx)).trans ((wp_1).trans ((wp_47).trans (mm_ic ((wp_5_0).trans ((wp_60 (by decide) (mm_o24 htx0 hnx0 hx)).trans ((wp_41).trans (mm_ic ((wp_1).trans ((wp_56).trans (rfl))) (rfl))))) (rfl)))))))
theorem r_96_1 (vx0 : mm_V) {hi : mm_Id → Int → Int} {dh : Int → Int} {nx ns : Int} {Q : mm_V → mm_H → Prop} (hx : 5275 ≤ nx) :
    mm_Wp 96 (mm_blk 96 1) [vx0] [] (mm_z hi dh nx ns) Q =
    mm_Wp 96 (mm_blk 96 2) [vx0] [zI 0] (mm_z hi dh nx ns) Q :=
  mm_kb bq_96_1 ((wp_1).trans ((wp_0).trans (rfl)))
theorem r_96_2 (vx0 : mm_V) (y0 : Int) {hi : mm_Id → Int → Int} {dh : Int → Int} {nx ns : Int} {Q : mm_V → mm_H → Prop} (hx : 5275 ≤ nx) :
    mm_Wp 96 (mm_blk 96 2) [vx0] [zI y0] (mm_z hi dh nx ns) Q =
    ((y0 = 0 ∨ y0 = 1) ∧ Q (zI y0) (mm_z hi dh nx ns)) :=
  mm_kb bq_96_2 (wp_94z)
/-- PoolHouse$Node.placeOf(I)I -/
theorem bq_98_0 : mm_blk 98 0 = bk_98_0 := by decide +kernel
theorem bq_98_1 : mm_blk 98 1 = bk_98_1 := by decide +kernel
theorem bq_98_2 : mm_blk 98 2 = bk_98_2 := by decide +kernel
theorem r_98_e {tx0 nx0 : Int} (x1 : Int) {hi : mm_Id → Int → Int} {dh : Int → Int} {nx ns : Int} {Q : mm_V → mm_H → Prop} (htx0 : mm_isT tx0) (hnx0 : mm_isN nx0) (hx : 5275 ≤ nx) :
    mm_Cl 98 [zR (24, tx0, nx0), zI x1] (mm_z hi dh nx ns) Q =
    mm_Wp 98 (mm_blk 98 1) [zR (24, tx0, nx0), zI x1, zI 0] [] (mm_z hi dh nx ns) Q :=
  mm_ce (l2 := [zR (24, tx0, nx0), zI x1, zU]) rfl (mm_kb bq_98_0 ((wp_1).trans ((wp_6 (l2 := [zR (24, tx0, nx0), zI x1, zI 0]) rfl).trans ((wp_0).trans (rfl)))))
theorem r_98_1 {tx0 nx0 : Int} (x1 : Int) (x2 : Int) {hi : mm_Id → Int → Int} {dh : Int → Int} {nx ns : Int} {Q : mm_V → mm_H → Prop} (htx0 : mm_isT tx0) (hnx0 : mm_isN nx0) (hx : 5275 ≤ nx) :
    mm_Wp 98 (mm_blk 98 1) [zR (24, tx0, nx0), zI x1, zI x2] [] (mm_z hi dh nx ns) Q =
    (if x2 < (hi (24, tx0, nx0) 6) then ((0 ≤ x2 ∧ x2 < 24) ∧ (if (hi (25, tx0, nx0) x2) < x1 then mm_Wp 98 (mm_blk 98 1) [zR (24, tx0, nx0), zI x1, zI (mm_w (x2 + 1))] [] (mm_z hi dh nx ns) Q else mm_Wp 98 (mm_blk 98 2) [zR (24, tx0, nx0), zI x1, zI x2] [] (mm_z hi dh nx ns) Q)) else mm_Wp 98 (mm_blk 98 2) [zR (24, tx0, nx0), zI x1, zI x2] [] (mm_z hi dh nx ns) Q) :=
  mm_kb bq_98_1 ((wp_3_2).trans ((wp_5_0).trans ((wp_60 (by decide) (mm_o24 htx0 hnx0 hx)).trans ((wp_49).trans (mm_ic ((wp_5_0).trans ((wp_62 (by decide) (mm_o24 htx0 hnx0 hx) (mm_r24_7 htx0 hnx0)).trans ((wp_3_2).trans ((wp_70 (mm_q25 htx0 hnx0 hx)).trans (mm_ae ((wp_3_1).trans ((wp_49).trans (mm_ic ((wp_9 (l2 := [zR (24, tx0, nx0), zI x1, zI (mm_w (x2 + 1))]) rfl rfl).trans ((wp_56).trans (rfl))) (rfl))))))))) (rfl))))))
theorem r_98_2 (vx0 : mm_V) (vx1 : mm_V) (x2 : Int) {hi : mm_Id → Int → Int} {dh : Int → Int} {nx ns : Int} {Q : mm_V → mm_H → Prop} (hx : 5275 ≤ nx) :
    mm_Wp 98 (mm_blk 98 2) [vx0, vx1, zI x2] [] (mm_z hi dh nx ns) Q =
    Q (zI x2) (mm_z hi dh nx ns) :=
  mm_kb bq_98_2 ((wp_3_2).trans (wp_90))
/-- PoolHouse$Node.meaning(I)I -/
theorem bq_99_0 : mm_blk 99 0 = bk_99_0 := by decide +kernel
theorem bq_99_1 : mm_blk 99 1 = bk_99_1 := by decide +kernel
theorem bq_99_2 : mm_blk 99 2 = bk_99_2 := by decide +kernel
theorem r_99_e {tx0 nx0 : Int} (x1 : Int) {hi : mm_Id → Int → Int} {dh : Int → Int} {nx ns : Int} {Q : mm_V → mm_H → Prop} (htx0 : mm_isT tx0) (hnx0 : mm_isN nx0) (hx : 5275 ≤ nx) :
    mm_Cl 99 [zR (24, tx0, nx0), zI x1] (mm_z hi dh nx ns) Q =
    mm_Cl 98 [zR (24, tx0, nx0), zI x1] (mm_z hi dh nx ns) (fun r h3 => mm_Wp 99 (bk_99_0.drop 3) [zR (24, tx0, nx0), zI x1, zU] (mm_push r []) h3 Q) :=
  mm_ce (l2 := [zR (24, tx0, nx0), zI x1, zU]) rfl (mm_kb bq_99_0 ((wp_5_0).trans ((wp_3_1).trans ((wp_v2 mm_n_98 (mm_leq mm_m_98 (mm_lb rfl)) (mm_lb rfl) (mm_o24 htx0 hnx0 hx)).trans rfl))))
theorem r_99_0_3 {tx0 nx0 : Int} (x1 : Int) (vx2 : mm_V) (y0 : Int) {hi : mm_Id → Int → Int} {dh : Int → Int} {nx ns : Int} {Q : mm_V → mm_H → Prop} (htx0 : mm_isT tx0) (hnx0 : mm_isN nx0) (hx : 5275 ≤ nx) :
    mm_Wp 99 (bk_99_0.drop 3) [zR (24, tx0, nx0), zI x1, vx2] [zI y0] (mm_z hi dh nx ns) Q =
    (if y0 < (hi (24, tx0, nx0) 6) then ((0 ≤ y0 ∧ y0 < 24) ∧ (if (hi (25, tx0, nx0) y0) = x1 then ((0 ≤ y0 ∧ y0 < 24) ∧ mm_Wp 99 (mm_blk 99 2) [zR (24, tx0, nx0), zI x1, zI y0] [zI (hi (26, tx0, nx0) y0)] (mm_z hi dh nx ns) Q) else mm_Wp 99 (mm_blk 99 1) [zR (24, tx0, nx0), zI x1, zI y0] [] (mm_z hi dh nx ns) Q)) else mm_Wp 99 (mm_blk 99 1) [zR (24, tx0, nx0), zI x1, zI y0] [] (mm_z hi dh nx ns) Q) :=
  (wp_6 (l2 := [zR (24, tx0, nx0), zI x1, zI y0]) rfl).trans ((wp_3_2).trans ((wp_5_0).trans ((wp_60 (by decide) (mm_o24 htx0 hnx0 hx)).trans ((wp_49).trans (mm_ic ((wp_5_0).trans ((wp_62 (by decide) (mm_o24 htx0 hnx0 hx) (mm_r24_7 htx0 hnx0)).trans ((wp_3_2).trans ((wp_70 (mm_q25 htx0 hnx0 hx)).trans (mm_ae ((wp_3_1).trans ((wp_47).trans (mm_ic ((wp_5_0).trans ((wp_62 (by decide) (mm_o24 htx0 hnx0 hx) (mm_r24_8 htx0 hnx0)).trans ((wp_3_2).trans ((wp_70 (mm_q26 htx0 hnx0 hx)).trans (mm_ae ((wp_56).trans (rfl))))))) (rfl))))))))) (rfl))))))
theorem r_99_1 (vx0 : mm_V) (vx1 : mm_V) (vx2 : mm_V) {hi : mm_Id → Int → Int} {dh : Int → Int} {nx ns : Int} {Q : mm_V → mm_H → Prop} (hx : 5275 ≤ nx) :
    mm_Wp 99 (mm_blk 99 1) [vx0, vx1, vx2] [] (mm_z hi dh nx ns) Q =
    mm_Wp 99 (mm_blk 99 2) [vx0, vx1, vx2] [zI 0] (mm_z hi dh nx ns) Q :=
  mm_kb bq_99_1 ((wp_1).trans ((wp_0).trans (rfl)))
theorem r_99_2 (vx0 : mm_V) (vx1 : mm_V) (vx2 : mm_V) (y0 : Int) {hi : mm_Id → Int → Int} {dh : Int → Int} {nx ns : Int} {Q : mm_V → mm_H → Prop} (hx : 5275 ≤ nx) :
    mm_Wp 99 (mm_blk 99 2) [vx0, vx1, vx2] [zI y0] (mm_z hi dh nx ns) Q =
    Q (zI y0) (mm_z hi dh nx ns) :=
  mm_kb bq_99_2 (wp_90)
/-- PoolHouse$Node.enter(II)V -/
theorem bq_100_0 : mm_blk 100 0 = bk_100_0 := by decide +kernel
theorem bq_100_1 : mm_blk 100 1 = bk_100_1 := by decide +kernel
theorem bq_100_2 : mm_blk 100 2 = bk_100_2 := by decide +kernel
theorem bq_100_3 : mm_blk 100 3 = bk_100_3 := by decide +kernel
theorem r_100_e {tx0 nx0 : Int} (x1 : Int) (x2 : Int) {hi : mm_Id → Int → Int} {dh : Int → Int} {nx ns : Int} {Q : mm_V → mm_H → Prop} (htx0 : mm_isT tx0) (hnx0 : mm_isN nx0) (hx : 5275 ≤ nx) :
    mm_Cl 100 [zR (24, tx0, nx0), zI x1, zI x2] (mm_z hi dh nx ns) Q =
    (if (hi (24, tx0, nx0) 6) < 24 then mm_Cl 98 [zR (24, tx0, nx0), zI x1] (mm_z hi dh nx ns) (fun r h3 => mm_Wp 100 (bk_100_1.drop 3) [zR (24, tx0, nx0), zI x1, zI x2, zU, zU] (mm_push r []) h3 Q) else Q zU (mm_z hi dh nx ns)) :=
  mm_ce (l2 := [zR (24, tx0, nx0), zI x1, zI x2, zU, zU]) rfl (mm_kb bq_100_0 ((wp_5_0).trans ((wp_60 (by decide) (mm_o24 htx0 hnx0 hx)).trans ((wp_1).trans ((wp_48).trans (mm_ic (mm_kb bq_100_1 ((wp_5_0).trans ((wp_3_1).trans ((wp_v2 mm_n_98 (mm_leq mm_m_98 (mm_lb rfl)) (mm_lb rfl) (mm_o24 htx0 hnx0 hx)).trans rfl)))) (wp_93)))))))
theorem r_100_1_3 {tx0 nx0 : Int} (x1 : Int) (x2 : Int) (vx3 : mm_V) (vx4 : mm_V) (y0 : Int) {hi : mm_Id → Int → Int} {dh : Int → Int} {nx ns : Int} {Q : mm_V → mm_H → Prop} (htx0 : mm_isT tx0) (hnx0 : mm_isN nx0) (hx : 5275 ≤ nx) :
    mm_Wp 100 (bk_100_1.drop 3) [zR (24, tx0, nx0), zI x1, zI x2, vx3, vx4] [zI y0] (mm_z hi dh nx ns) Q =
    mm_Wp 100 (mm_blk 100 2) [zR (24, tx0, nx0), zI x1, zI x2, zI y0, zI (hi (24, tx0, nx0) 6)] [] (mm_z hi dh nx ns) Q :=
  (wp_6 (l2 := [zR (24, tx0, nx0), zI x1, zI x2, zI y0, vx4]) rfl).trans ((wp_5_0).trans ((wp_60 (by decide) (mm_o24 htx0 hnx0 hx)).trans ((wp_6 (l2 := [zR (24, tx0, nx0), zI x1, zI x2, zI y0, zI (hi (24, tx0, nx0) 6)]) rfl).trans ((wp_0).trans (rfl)))))
theorem r_100_2 {tx0 nx0 : Int} (x1 : Int) (x2 : Int) (x3 : Int) (x4 : Int) {hi : mm_Id → Int → Int} {dh : Int → Int} {nx ns : Int} {Q : mm_V → mm_H → Prop} (htx0 : mm_isT tx0) (hnx0 : mm_isN nx0) (hx : 5275 ≤ nx) :
    mm_Wp 100 (mm_blk 100 2) [zR (24, tx0, nx0), zI x1, zI x2, zI x3, zI x4] [] (mm_z hi dh nx ns) Q =
    (if x3 < x4 then ((0 ≤ (mm_w (x4 - 1)) ∧ (mm_w (x4 - 1)) < 24) ∧ ((0 ≤ x4 ∧ x4 < 24) ∧ ((0 ≤ (mm_w (x4 - 1)) ∧ (mm_w (x4 - 1)) < 24) ∧ ((0 ≤ x4 ∧ x4 < 24) ∧ mm_Wp 100 (mm_blk 100 2) [zR (24, tx0, nx0), zI x1, zI x2, zI x3, zI (mm_w (x4 + (-1)))] [] (mm_z (mm_up (mm_up hi (25, tx0, nx0) x4 (hi (25, tx0, nx0) (mm_w (x4 - 1)))) (26, tx0, nx0) x4 ((mm_up hi (25, tx0, nx0) x4 (hi (25, tx0, nx0) (mm_w (x4 - 1)))) (26, tx0, nx0) (mm_w (x4 - 1)))) dh nx ns) Q)))) else ((0 ≤ x3 ∧ x3 < 24) ∧ ((0 ≤ x3 ∧ x3 < 24) ∧ Q zU (mm_z (mm_up (mm_up (mm_up hi (25, tx0, nx0) x3 x1) (26, tx0, nx0) x3 x2) (24, tx0, nx0) 6 (mm_w (((mm_up (mm_up hi (25, tx0, nx0) x3 x1) (26, tx0, nx0) x3 x2) (24, tx0, nx0) 6) + 1))) dh nx ns)))) :=
  mm_kb bq_100_2 ((wp_3_4).trans ((wp_3_3).trans ((wp_51).trans (mm_ic ((wp_5_0).trans ((wp_62 (by decide) (mm_o24 htx0 hnx0 hx) (mm_r24_7 htx0 hnx0)).trans ((wp_3_4).trans ((wp_5_0).trans ((wp_62 (by decide) (mm_o24 htx0 hnx0 hx) (mm_r24_7 htx0 hnx0)).trans ((wp_3_4).trans ((wp_1).trans ((wp_11).trans ((wp_70 (mm_q25 htx0 hnx0 hx)).trans (mm_ae ((wp_74 (mm_q25 htx0 hnx0 hx)).trans (mm_ae ((wp_5_0).trans ((wp_62 (by decide) (mm_o24 htx0 hnx0 hx) (mm_r24_8 htx0 hnx0)).trans ((wp_3_4).trans ((wp_5_0).trans ((wp_62 (by decide) (mm_o24 htx0 hnx0 hx) (mm_r24_8 htx0 hnx0)).trans ((wp_3_4).trans ((wp_1).trans ((wp_11).trans ((wp_70 (mm_q26 htx0 hnx0 hx)).trans (mm_ae ((wp_74 (mm_q26 htx0 hnx0 hx)).trans (mm_ae ((wp_9 (l2 := [zR (24, tx0, nx0), zI x1, zI x2, zI x3, zI (mm_w (x4 + (-1)))]) rfl rfl).trans ((wp_56).trans (rfl))))))))))))))))))))))))))) (mm_kb bq_100_3 ((wp_5_0).trans ((wp_62 (by decide) (mm_o24 htx0 hnx0 hx) (mm_r24_7 htx0 hnx0)).trans ((wp_3_3).trans ((wp_3_1).trans ((wp_74 (mm_q25 htx0 hnx0 hx)).trans (mm_ae ((wp_5_0).trans ((wp_62 (by decide) (mm_o24 htx0 hnx0 hx) (mm_r24_8 htx0 hnx0)).trans ((wp_3_3).trans ((wp_3_2).trans ((wp_74 (mm_q26 htx0 hnx0 hx)).trans (mm_ae ((wp_5_0).trans ((wp_35r).trans ((wp_60 (by decide) (mm_o24 htx0 hnx0 hx)).trans ((wp_1).trans ((wp_10).trans ((wp_63 (mm_o24 htx0 hnx0 hx)).trans (wp_93))))))))))))))))))))))))
/-- PoolHouse$Node.strike(I)V -/
theorem bq_101_0 : mm_blk 101 0 = bk_101_0 := by decide +kernel
theorem bq_101_1 : mm_blk 101 1 = bk_101_1 := by decide +kernel
theorem bq_101_2 : mm_blk 101 2 = bk_101_2 := by decide +kernel
theorem bq_101_3 : mm_blk 101 3 = bk_101_3 := by decide +kernel
theorem bq_101_4 : mm_blk 101 4 = bk_101_4 := by decide +kernel
theorem r_101_e {tx0 nx0 : Int} (x1 : Int) {hi : mm_Id → Int → Int} {dh : Int → Int} {nx ns : Int} {Q : mm_V → mm_H → Prop} (htx0 : mm_isT tx0) (hnx0 : mm_isN nx0) (hx : 5275 ≤ nx) :
    mm_Cl 101 [zR (24, tx0, nx0), zI x1] (mm_z hi dh nx ns) Q =
    mm_Cl 98 [zR (24, tx0, nx0), zI x1] (mm_z hi dh nx ns) (fun r h3 => mm_Wp 101 (bk_101_0.drop 3) [zR (24, tx0, nx0), zI x1, zU, zU] (mm_push r []) h3 Q) :=
  mm_ce (l2 := [zR (24, tx0, nx0), zI x1, zU, zU]) rfl (mm_kb bq_101_0 ((wp_5_0).trans ((wp_3_1).trans ((wp_v2 mm_n_98 (mm_leq mm_m_98 (mm_lb rfl)) (mm_lb rfl) (mm_o24 htx0 hnx0 hx)).trans rfl))))
theorem r_101_0_3 {tx0 nx0 : Int} (x1 : Int) (vx2 : mm_V) (vx3 : mm_V) (y0 : Int) {hi : mm_Id → Int → Int} {dh : Int → Int} {nx ns : Int} {Q : mm_V → mm_H → Prop} (htx0 : mm_isT tx0) (hnx0 : mm_isN nx0) (hx : 5275 ≤ nx) :
    mm_Wp 101 (bk_101_0.drop 3) [zR (24, tx0, nx0), zI x1, vx2, vx3] [zI y0] (mm_z hi dh nx ns) Q =
    (if y0 < (hi (24, tx0, nx0) 6) then ((0 ≤ y0 ∧ y0 < 24) ∧ (if (hi (25, tx0, nx0) y0) = x1 then mm_Wp 101 (mm_blk 101 3) [zR (24, tx0, nx0), zI x1, zI y0, zI y0] [] (mm_z (mm_up hi (24, tx0, nx0) 6 (mm_w ((hi (24, tx0, nx0) 6) - 1))) dh nx ns) Q else mm_Wp 101 (mm_blk 101 1) [zR (24, tx0, nx0), zI x1, zI y0, vx3] [] (mm_z hi dh nx ns) Q)) else mm_Wp 101 (mm_blk 101 1) [zR (24, tx0, nx0), zI x1, zI y0, vx3] [] (mm_z hi dh nx ns) Q) :=
  (wp_6 (l2 := [zR (24, tx0, nx0), zI x1, zI y0, vx3]) rfl).trans ((wp_3_2).trans ((wp_5_0).trans ((wp_60 (by decide) (mm_o24 htx0 hnx0 hx)).trans ((wp_49).trans (mm_ic ((wp_5_0).trans ((wp_62 (by decide) (mm_o24 htx0 hnx0 hx) (mm_r24_7 htx0 hnx0)).trans ((wp_3_2).trans ((wp_70 (mm_q25 htx0 hnx0 hx)).trans (mm_ae ((wp_3_1).trans ((wp_46).trans (mm_ic (mm_kb bq_101_2 ((wp_5_0).trans ((wp_35r).trans ((wp_60 (by decide) (mm_o24 htx0 hnx0 hx)).trans ((wp_1).trans ((wp_11).trans ((wp_63 (mm_o24 htx0 hnx0 hx)).trans ((wp_3_2).trans ((wp_6 (l2 := [zR (24, tx0, nx0), zI x1, zI y0, zI y0]) rfl).trans ((wp_0).trans (rfl))))))))))) ((wp_0).trans (rfl)))))))))) (rfl))))))
theorem r_101_1 (vx0 : mm_V) (vx1 : mm_V) (vx2 : mm_V) (vx3 : mm_V) {hi : mm_Id → Int → Int} {dh : Int → Int} {nx ns : Int} {Q : mm_V → mm_H → Prop} (hx : 5275 ≤ nx) :
    mm_Wp 101 (mm_blk 101 1) [vx0, vx1, vx2, vx3] [] (mm_z hi dh nx ns) Q =
    Q zU (mm_z hi dh nx ns) :=
  mm_kb bq_101_1 (wp_93)
theorem r_101_3 {tx0 nx0 : Int} (vx1 : mm_V) (vx2 : mm_V) (x3 : Int) {hi : mm_Id → Int → Int} {dh : Int → Int} {nx ns : Int} {Q : mm_V → mm_H → Prop} (htx0 : mm_isT tx0) (hnx0 : mm_isN nx0) (hx : 5275 ≤ nx) :
    mm_Wp 101 (mm_blk 101 3) [zR (24, tx0, nx0), vx1, vx2, zI x3] [] (mm_z hi dh nx ns) Q =
    (if x3 < (hi (24, tx0, nx0) 6) then ((0 ≤ (mm_w (x3 + 1)) ∧ (mm_w (x3 + 1)) < 24) ∧ ((0 ≤ x3 ∧ x3 < 24) ∧ ((0 ≤ (mm_w (x3 + 1)) ∧ (mm_w (x3 + 1)) < 24) ∧ ((0 ≤ x3 ∧ x3 < 24) ∧ mm_Wp 101 (mm_blk 101 3) [zR (24, tx0, nx0), vx1, vx2, zI (mm_w (x3 + 1))] [] (mm_z (mm_up (mm_up hi (25, tx0, nx0) x3 (hi (25, tx0, nx0) (mm_w (x3 + 1)))) (26, tx0, nx0) x3 ((mm_up hi (25, tx0, nx0) x3 (hi (25, tx0, nx0) (mm_w (x3 + 1)))) (26, tx0, nx0) (mm_w (x3 + 1)))) dh nx ns) Q)))) else Q zU (mm_z hi dh nx ns)) :=
  mm_kb bq_101_3 ((wp_3_3).trans ((wp_5_0).trans ((wp_60 (by decide) (mm_o24 htx0 hnx0 hx)).trans ((wp_49).trans (mm_ic ((wp_5_0).trans ((wp_62 (by decide) (mm_o24 htx0 hnx0 hx) (mm_r24_7 htx0 hnx0)).trans ((wp_3_3).trans ((wp_5_0).trans ((wp_62 (by decide) (mm_o24 htx0 hnx0 hx) (mm_r24_7 htx0 hnx0)).trans ((wp_3_3).trans ((wp_1).trans ((wp_10).trans ((wp_70 (mm_q25 htx0 hnx0 hx)).trans (mm_ae ((wp_74 (mm_q25 htx0 hnx0 hx)).trans (mm_ae ((wp_5_0).trans ((wp_62 (by decide) (mm_o24 htx0 hnx0 hx) (mm_r24_8 htx0 hnx0)).trans ((wp_3_3).trans ((wp_5_0).trans ((wp_62 (by decide) (mm_o24 htx0 hnx0 hx) (mm_r24_8 htx0 hnx0)).trans ((wp_3_3).trans ((wp_1).trans ((wp_10).trans ((wp_70 (mm_q26 htx0 hnx0 hx)).trans (mm_ae ((wp_74 (mm_q26 htx0 hnx0 hx)).trans (mm_ae ((wp_9 (l2 := [zR (24, tx0, nx0), vx1, vx2, zI (mm_w (x3 + 1))]) rfl rfl).trans ((wp_56).trans (rfl))))))))))))))))))))))))))) (mm_kb bq_101_4 (wp_93)))))))
/-- PoolHouse$Node.renew(ILPoolHouse$Rows;)V -/
theorem bq_107_0 : mm_blk 107 0 = bk_107_0 := by decide +kernel
theorem bq_107_2 : mm_blk 107 2 = bk_107_2 := by decide +kernel
theorem bq_107_3 : mm_blk 107 3 = bk_107_3 := by decide +kernel
theorem bq_107_4 : mm_blk 107 4 = bk_107_4 := by decide +kernel
theorem r_107_e {tx0 nx0 : Int} (x1 : Int) {hi : mm_Id → Int → Int} {dh : Int → Int} {nx ns : Int} {Q : mm_V → mm_H → Prop} (htx0 : mm_isT tx0) (hnx0 : mm_isN nx0) (hx : 5275 ≤ nx) :
    mm_Cl 107 [zR (24, tx0, nx0), zI x1, zR (15, 0, 0)] (mm_z hi dh nx ns) Q =
    (if x1 < 0 then mm_Wp 107 (mm_blk 107 1) [zR (24, tx0, nx0), zI x1, zR (15, 0, 0), zU] [] (mm_z hi dh nx ns) Q else (if x1 < 36 then ((0 ≤ x1 ∧ x1 < 36) ∧ mm_Cl 127 [zR (15, 0, 0), zI (hi (27, tx0, nx0) x1)] (mm_z hi dh nx ns) (fun r h3 => mm_Wp 107 (bk_107_2.drop 11) [zR (24, tx0, nx0), zI x1, zR (15, 0, 0), zI (hi (27, tx0, nx0) x1)] (mm_push r [zI x1, zR (27, tx0, nx0)]) h3 Q)) else mm_Wp 107 (mm_blk 107 1) [zR (24, tx0, nx0), zI x1, zR (15, 0, 0), zU] [] (mm_z hi dh nx ns) Q)) :=
  mm_ce (l2 := [zR (24, tx0, nx0), zI x1, zR (15, 0, 0), zU]) rfl (mm_kb bq_107_0 ((wp_3_1).trans ((wp_42).trans (mm_ic (rfl) ((wp_3_1).trans ((wp_1).trans ((wp_48).trans (mm_ic (mm_kb bq_107_2 ((wp_5_0).trans ((wp_62 (by decide) (mm_o24 htx0 hnx0 hx) (mm_r24_10 htx0 hnx0)).trans ((wp_3_1).trans ((wp_70 (mm_q27 htx0 hnx0 hx)).trans (mm_ae ((wp_6 (l2 := [zR (24, tx0, nx0), zI x1, zR (15, 0, 0), zI (hi (27, tx0, nx0) x1)]) rfl).trans ((wp_5_0).trans ((wp_62 (by decide) (mm_o24 htx0 hnx0 hx) (mm_r24_10 htx0 hnx0)).trans ((wp_3_1).trans ((wp_5_2).trans ((wp_3_3).trans ((wp_v2 mm_n_127 (mm_leq mm_m_127 (mm_lb rfl)) (mm_lb rfl) (mm_o15 hx)).trans rfl))))))))))))) ((wp_0).trans (rfl))))))))))
theorem r_107_2_11 {tx0 nx0 : Int} (vx1 : mm_V) (x3 : Int) (y0 : Int) (y1 : Int) {ty2 ny2 : Int} {hi : mm_Id → Int → Int} {dh : Int → Int} {nx ns : Int} {Q : mm_V → mm_H → Prop} (htx0 : mm_isT tx0) (hnx0 : mm_isN nx0) (hty2 : mm_isT ty2) (hny2 : mm_isN ny2) (hx : 5275 ≤ nx) :
    mm_Wp 107 (bk_107_2.drop 11) [zR (24, tx0, nx0), vx1, zR (15, 0, 0), zI x3] [zI y0, zI y1, zR (27, ty2, ny2)] (mm_z hi dh nx ns) Q =
    ((0 ≤ y1 ∧ y1 < 36) ∧ mm_Cl 129 [zR (15, 0, 0), zI x3, zI 0] (mm_z (mm_up hi (27, ty2, ny2) y1 y0) dh nx ns) (fun r h3 => mm_Wp 107 (bk_107_2.drop 16) [zR (24, tx0, nx0), vx1, zR (15, 0, 0), zI x3] (mm_push r []) h3 Q)) :=
  (wp_74 (mm_q27 hty2 hny2 hx)).trans (mm_ae ((wp_5_2).trans ((wp_3_3).trans ((wp_1).trans ((wp_v3 mm_n_129 (mm_leq mm_m_129 (mm_lb rfl)) (mm_lb rfl) (mm_o15 hx)).trans rfl)))))
theorem r_107_2_16 {tx0 nx0 : Int} (vx1 : mm_V) (vx2 : mm_V) (x3 : Int) {hi : mm_Id → Int → Int} {dh : Int → Int} {nx ns : Int} {Q : mm_V → mm_H → Prop} (htx0 : mm_isT tx0) (hnx0 : mm_isN nx0) (hx : 5275 ≤ nx) :
    mm_Wp 107 (bk_107_2.drop 16) [zR (24, tx0, nx0), vx1, vx2, zI x3] [] (mm_z hi dh nx ns) Q =
    (if x3 = 0 then mm_Wp 107 (mm_blk 107 4) [zR (24, tx0, nx0), vx1, vx2, zI x3] [zI 1, zI (hi (24, tx0, nx0) 9), zR (24, tx0, nx0)] (mm_z hi dh nx ns) Q else mm_Wp 107 (mm_blk 107 4) [zR (24, tx0, nx0), vx1, vx2, zI x3] [zI 0, zI (hi (24, tx0, nx0) 9), zR (24, tx0, nx0)] (mm_z hi dh nx ns) Q) :=
  (wp_5_0).trans ((wp_35r).trans ((wp_60 (by decide) (mm_o24 htx0 hnx0 hx)).trans ((wp_3_3).trans ((wp_41).trans (mm_ic ((wp_1).trans ((wp_56).trans (rfl))) (mm_kb bq_107_3 ((wp_1).trans ((wp_0).trans (rfl)))))))))
theorem r_107_4 (vx0 : mm_V) (vx1 : mm_V) (vx2 : mm_V) (vx3 : mm_V) (y0 : Int) (y1 : Int) {ty2 ny2 : Int} {hi : mm_Id → Int → Int} {dh : Int → Int} {nx ns : Int} {Q : mm_V → mm_H → Prop} (hty2 : mm_isT ty2) (hny2 : mm_isN ny2) (hx : 5275 ≤ nx) :
    mm_Wp 107 (mm_blk 107 4) [vx0, vx1, vx2, vx3] [zI y0, zI y1, zR (24, ty2, ny2)] (mm_z hi dh nx ns) Q =
    Q zU (mm_z (mm_up hi (24, ty2, ny2) 9 (mm_w (y1 + y0))) dh nx ns) :=
  mm_kb bq_107_4 ((wp_10).trans ((wp_63 (mm_o24 hty2 hny2 hx)).trans (wp_93)))
/-- PoolHouse$Node.put(IILPoolHouse$Rows;)V -/
theorem bq_108_0 : mm_blk 108 0 = bk_108_0 := by decide +kernel
theorem bq_108_1 : mm_blk 108 1 = bk_108_1 := by decide +kernel
theorem r_108_e {tx0 nx0 : Int} (x1 : Int) (x2 : Int) {hi : mm_Id → Int → Int} {dh : Int → Int} {nx ns : Int} {Q : mm_V → mm_H → Prop} (htx0 : mm_isT tx0) (hnx0 : mm_isN nx0) (hx : 5275 ≤ nx) :
    mm_Cl 108 [zR (24, tx0, nx0), zI x1, zI x2, zR (15, 0, 0)] (mm_z hi dh nx ns) Q =
    (if x1 < 0 then mm_Wp 108 (mm_blk 108 1) [zR (24, tx0, nx0), zI x1, zI x2, zR (15, 0, 0)] [] (mm_z hi dh nx ns) Q else (if x1 < 2160 then ((0 ≤ (mm_w (Int.tdiv x1 60)) ∧ (mm_w (Int.tdiv x1 60)) < 36) ∧ mm_Cl 131 [zR (15, 0, 0), zI (hi (27, tx0, nx0) (mm_w (Int.tdiv x1 60))), zI (Int.tmod x1 60), zI x2] (mm_z hi dh nx ns) (fun r h3 => mm_Wp 108 (bk_108_0.drop 17) [zR (24, tx0, nx0), zI x1, zI x2, zR (15, 0, 0)] (mm_push r []) h3 Q)) else mm_Wp 108 (mm_blk 108 1) [zR (24, tx0, nx0), zI x1, zI x2, zR (15, 0, 0)] [] (mm_z hi dh nx ns) Q)) :=
  mm_ce (l2 := [zR (24, tx0, nx0), zI x1, zI x2, zR (15, 0, 0)]) rfl (mm_kb bq_108_0 ((wp_3_1).trans ((wp_42).trans (mm_ic (rfl) ((wp_3_1).trans ((wp_1).trans ((wp_49).trans (mm_ic ((wp_5_3).trans ((wp_5_0).trans ((wp_62 (by decide) (mm_o24 htx0 hnx0 hx) (mm_r24_10 htx0 hnx0)).trans ((wp_3_1).trans ((wp_1).trans ((wp_13 (by decide)).trans ((wp_70 (mm_q27 htx0 hnx0 hx)).trans (mm_ae ((wp_3_1).trans ((wp_1).trans ((wp_14 (by decide)).trans ((wp_3_2).trans ((wp_v4 mm_n_131 (mm_leq mm_m_131 (mm_lb rfl)) (mm_lb rfl) (mm_o15 hx)).trans rfl))))))))))))) (rfl)))))))))
theorem r_108_1 (vx0 : mm_V) (vx1 : mm_V) (vx2 : mm_V) (vx3 : mm_V) {hi : mm_Id → Int → Int} {dh : Int → Int} {nx ns : Int} {Q : mm_V → mm_H → Prop} (hx : 5275 ≤ nx) :
    mm_Wp 108 (mm_blk 108 1) [vx0, vx1, vx2, vx3] [] (mm_z hi dh nx ns) Q =
    Q zU (mm_z hi dh nx ns) :=
  mm_kb bq_108_1 (wp_93)
theorem r_108_0_17 (vx0 : mm_V) (vx1 : mm_V) (vx2 : mm_V) (vx3 : mm_V) {hi : mm_Id → Int → Int} {dh : Int → Int} {nx ns : Int} {Q : mm_V → mm_H → Prop} (hx : 5275 ≤ nx) :
    mm_Wp 108 (bk_108_0.drop 17) [vx0, vx1, vx2, vx3] [] (mm_z hi dh nx ns) Q =
    mm_Wp 108 (mm_blk 108 1) [vx0, vx1, vx2, vx3] [] (mm_z hi dh nx ns) Q :=
  (wp_0).trans (rfl)
/-- PoolHouse$Node.letGoFrom(ILPoolHouse$Rows;Z)V -/
theorem bq_109_0 : mm_blk 109 0 = bk_109_0 := by decide +kernel
theorem bq_109_1 : mm_blk 109 1 = bk_109_1 := by decide +kernel
theorem bq_109_2 : mm_blk 109 2 = bk_109_2 := by decide +kernel
theorem bq_109_3 : mm_blk 109 3 = bk_109_3 := by decide +kernel
theorem r_109_e {tx0 nx0 : Int} (x1 : Int) (x3 : Int) {hi : mm_Id → Int → Int} {dh : Int → Int} {nx ns : Int} {Q : mm_V → mm_H → Prop} (htx0 : mm_isT tx0) (hnx0 : mm_isN nx0) (hx : 5275 ≤ nx) :
    mm_Cl 109 [zR (24, tx0, nx0), zI x1, zR (15, 0, 0), zI x3] (mm_z hi dh nx ns) Q =
    mm_Wp 109 (mm_blk 109 1) [zR (24, tx0, nx0), zI x1, zR (15, 0, 0), zI x3, zI (if 0 < x1 then x1 else 0)] [] (mm_z hi dh nx ns) Q :=
  mm_ce (l2 := [zR (24, tx0, nx0), zI x1, zR (15, 0, 0), zI x3, zU]) rfl (mm_kb bq_109_0 ((wp_1).trans ((wp_3_1).trans ((wp_98 (mm_lb rfl)).trans ((wp_6 (l2 := [zR (24, tx0, nx0), zI x1, zR (15, 0, 0), zI x3, zI (if 0 < x1 then x1 else 0)]) rfl).trans ((wp_0).trans (rfl)))))))
theorem r_109_1 {tx0 nx0 : Int} (vx1 : mm_V) (x3 : Int) (x4 : Int) {hi : mm_Id → Int → Int} {dh : Int → Int} {nx ns : Int} {Q : mm_V → mm_H → Prop} (htx0 : mm_isT tx0) (hnx0 : mm_isN nx0) (hx : 5275 ≤ nx) :
    mm_Wp 109 (mm_blk 109 1) [zR (24, tx0, nx0), vx1, zR (15, 0, 0), zI x3, zI x4] [] (mm_z hi dh nx ns) Q =
    (if 0 < (hi (24, tx0, nx0) 9) then (if x4 < 36 then ((0 ≤ x4 ∧ x4 < 36) ∧ (if (hi (27, tx0, nx0) x4) = 0 then mm_Wp 109 (mm_blk 109 2) [zR (24, tx0, nx0), vx1, zR (15, 0, 0), zI x3, zI x4] [] (mm_z hi dh nx ns) Q else ((0 ≤ x4 ∧ x4 < 36) ∧ mm_Cl 129 [zR (15, 0, 0), zI (hi (27, tx0, nx0) x4), zI x3] (mm_z hi dh nx ns) (fun r h3 => mm_Wp 109 (bk_109_1.drop 18) [zR (24, tx0, nx0), vx1, zR (15, 0, 0), zI x3, zI x4] (mm_push r []) h3 Q)))) else mm_Wp 109 (mm_blk 109 3) [zR (24, tx0, nx0), vx1, zR (15, 0, 0), zI x3, zI x4] [] (mm_z hi dh nx ns) Q) else mm_Wp 109 (mm_blk 109 3) [zR (24, tx0, nx0), vx1, zR (15, 0, 0), zI x3, zI x4] [] (mm_z hi dh nx ns) Q) :=
  mm_kb bq_109_1 ((wp_5_0).trans ((wp_60 (by decide) (mm_o24 htx0 hnx0 hx)).trans ((wp_45).trans (mm_ic ((wp_3_4).trans ((wp_1).trans ((wp_49).trans (mm_ic ((wp_5_0).trans ((wp_62 (by decide) (mm_o24 htx0 hnx0 hx) (mm_r24_10 htx0 hnx0)).trans ((wp_3_4).trans ((wp_70 (mm_q27 htx0 hnx0 hx)).trans (mm_ae ((wp_40).trans (mm_ic (rfl) ((wp_5_2).trans ((wp_5_0).trans ((wp_62 (by decide) (mm_o24 htx0 hnx0 hx) (mm_r24_10 htx0 hnx0)).trans ((wp_3_4).trans ((wp_70 (mm_q27 htx0 hnx0 hx)).trans (mm_ae ((wp_3_3).trans ((wp_v3 mm_n_129 (mm_leq mm_m_129 (mm_lb rfl)) (mm_lb rfl) (mm_o15 hx)).trans rfl))))))))))))))) (rfl))))) (rfl)))))
theorem r_109_3 (vx0 : mm_V) (vx1 : mm_V) (vx2 : mm_V) (vx3 : mm_V) (vx4 : mm_V) {hi : mm_Id → Int → Int} {dh : Int → Int} {nx ns : Int} {Q : mm_V → mm_H → Prop} (hx : 5275 ≤ nx) :
    mm_Wp 109 (mm_blk 109 3) [vx0, vx1, vx2, vx3, vx4] [] (mm_z hi dh nx ns) Q =
    Q zU (mm_z hi dh nx ns) :=
  mm_kb bq_109_3 (wp_93)
theorem r_109_2 {tx0 nx0 : Int} (vx1 : mm_V) (x3 : Int) (x4 : Int) {hi : mm_Id → Int → Int} {dh : Int → Int} {nx ns : Int} {Q : mm_V → mm_H → Prop} (htx0 : mm_isT tx0) (hnx0 : mm_isN nx0) (hx : 5275 ≤ nx) :
    mm_Wp 109 (mm_blk 109 2) [zR (24, tx0, nx0), vx1, zR (15, 0, 0), zI x3, zI x4] [] (mm_z hi dh nx ns) Q =
    mm_Wp 109 (mm_blk 109 1) [zR (24, tx0, nx0), vx1, zR (15, 0, 0), zI x3, zI (mm_w (x4 + 1))] [] (mm_z hi dh nx ns) Q :=
  mm_kb bq_109_2 ((wp_9 (l2 := [zR (24, tx0, nx0), vx1, zR (15, 0, 0), zI x3, zI (mm_w (x4 + 1))]) rfl rfl).trans ((wp_56).trans (rfl)))
theorem r_109_1_18 {tx0 nx0 : Int} (vx1 : mm_V) (x3 : Int) (x4 : Int) {hi : mm_Id → Int → Int} {dh : Int → Int} {nx ns : Int} {Q : mm_V → mm_H → Prop} (htx0 : mm_isT tx0) (hnx0 : mm_isN nx0) (hx : 5275 ≤ nx) :
    mm_Wp 109 (bk_109_1.drop 18) [zR (24, tx0, nx0), vx1, zR (15, 0, 0), zI x3, zI x4] [] (mm_z hi dh nx ns) Q =
    ((0 ≤ x4 ∧ x4 < 36) ∧ mm_Wp 109 (mm_blk 109 2) [zR (24, tx0, nx0), vx1, zR (15, 0, 0), zI x3, zI x4] [] (mm_z (mm_up (mm_up hi (27, tx0, nx0) x4 0) (24, tx0, nx0) 9 (mm_w (((mm_up hi (27, tx0, nx0) x4 0) (24, tx0, nx0) 9) - 1))) dh nx ns) Q) :=
  (wp_5_0).trans ((wp_62 (by decide) (mm_o24 htx0 hnx0 hx) (mm_r24_10 htx0 hnx0)).trans ((wp_3_4).trans ((wp_1).trans ((wp_74 (mm_q27 htx0 hnx0 hx)).trans (mm_ae ((wp_5_0).trans ((wp_35r).trans ((wp_60 (by decide) (mm_o24 htx0 hnx0 hx)).trans ((wp_1).trans ((wp_11).trans ((wp_63 (mm_o24 htx0 hnx0 hx)).trans ((wp_0).trans (rfl)))))))))))))
/-- PoolHouse$Node.drop(LPoolHouse$Rows;Z)V -/
theorem bq_110_0 : mm_blk 110 0 = bk_110_0 := by decide +kernel
theorem r_110_e {tx0 nx0 : Int} (x2 : Int) {hi : mm_Id → Int → Int} {dh : Int → Int} {nx ns : Int} {Q : mm_V → mm_H → Prop} (htx0 : mm_isT tx0) (hnx0 : mm_isN nx0) (hx : 5275 ≤ nx) :
    mm_Cl 110 [zR (24, tx0, nx0), zR (15, 0, 0), zI x2] (mm_z hi dh nx ns) Q =
    mm_Cl 109 [zR (24, tx0, nx0), zI 0, zR (15, 0, 0), zI x2] (mm_z hi dh nx ns) (fun r h3 => mm_Wp 110 (bk_110_0.drop 5) [zR (24, tx0, nx0), zR (15, 0, 0), zI x2] (mm_push r []) h3 Q) :=
  mm_ce (l2 := [zR (24, tx0, nx0), zR (15, 0, 0), zI x2]) rfl (mm_kb bq_110_0 ((wp_5_0).trans ((wp_1).trans ((wp_5_1).trans ((wp_3_2).trans ((wp_v4 mm_n_109 (mm_leq mm_m_109 (mm_lb rfl)) (mm_lb rfl) (mm_o24 htx0 hnx0 hx)).trans rfl))))))
theorem r_110_0_5 {tx0 nx0 : Int} (vx1 : mm_V) (vx2 : mm_V) {hi : mm_Id → Int → Int} {dh : Int → Int} {nx ns : Int} {Q : mm_V → mm_H → Prop} (htx0 : mm_isT tx0) (hnx0 : mm_isN nx0) (hx : 5275 ≤ nx) :
    mm_Wp 110 (bk_110_0.drop 5) [zR (24, tx0, nx0), vx1, vx2] [] (mm_z hi dh nx ns) Q =
    mm_Cl 95 [zR (24, tx0, nx0), zI 0, zI 0] (mm_z hi dh nx ns) (fun r h3 => mm_Wp 110 (bk_110_0.drop 9) [zR (24, tx0, nx0), vx1, vx2] (mm_push r []) h3 Q) :=
  (wp_5_0).trans ((wp_1).trans ((wp_1).trans ((wp_v3 mm_n_95 (mm_leq mm_m_95 (mm_lb rfl)) (mm_lb rfl) (mm_o24 htx0 hnx0 hx)).trans rfl)))
theorem r_110_0_9 (vx0 : mm_V) (vx1 : mm_V) (vx2 : mm_V) {hi : mm_Id → Int → Int} {dh : Int → Int} {nx ns : Int} {Q : mm_V → mm_H → Prop} (hx : 5275 ≤ nx) :
    mm_Wp 110 (bk_110_0.drop 9) [vx0, vx1, vx2] [] (mm_z hi dh nx ns) Q =
    Q zU (mm_z hi dh nx ns) :=
  wp_93

