/-! the law's own methods, stretch by stretch, over any heap (printed by wip/p55/mklaw.py) -/
theorem mm_n_307 : mm_n 307 = 3 := by decide +kernel
theorem mm_m_307 : mm_mL 307 = 7 := by decide +kernel
theorem mm_n_308 : mm_n 308 = 3 := by decide +kernel
theorem mm_m_308 : mm_mL 308 = 6 := by decide +kernel
theorem wk_70s {y : Nat} {is : List mm_I} {l s : List mm_V} {h : mm_H} {Q : mm_V → mm_H → Prop} {a : Nat} {c : Int} {d e : Nat} {j : Int} : mm_Wp y ((70, a, c, d, e) :: is) l (zI j :: zR (90, 0, 0) :: s) h Q = ((0 ≤ j ∧ j < h.1 (90, 0, 0) (-1)) ∧ mm_Wp y is l (zI (h.1 (90, 0, 0) j) :: s) h Q) := by
  refine (mm_wpx _ _ (by decide) (by decide) (by decide)).trans ?_
  have e0 : mm_SH (90, 0, 0) = (10, 0) := rfl
  by_cases hA : 0 ≤ j ∧ j < h.1 (90, 0, 0) (-1)
  · simp [mm_x, mm_x4, mm_in, e0, hA]
  · simp [mm_x, mm_x4, mm_in, e0, hA]
theorem bq_297_1 : mm_blk 297 1 = bk_297_1 := by decide +kernel
theorem bq_297_2 : mm_blk 297 2 = bk_297_2 := by decide +kernel
theorem bq_297_3 : mm_blk 297 3 = bk_297_3 := by decide +kernel
theorem bq_297_4 : mm_blk 297 4 = bk_297_4 := by decide +kernel
theorem bq_297_5 : mm_blk 297 5 = bk_297_5 := by decide +kernel
theorem bq_297_6 : mm_blk 297 6 = bk_297_6 := by decide +kernel
theorem bq_297_7 : mm_blk 297 7 = bk_297_7 := by decide +kernel
theorem bq_297_8 : mm_blk 297 8 = bk_297_8 := by decide +kernel
theorem bq_297_9 : mm_blk 297 9 = bk_297_9 := by decide +kernel
theorem bq_297_10 : mm_blk 297 10 = bk_297_10 := by decide +kernel
theorem bq_297_11 : mm_blk 297 11 = bk_297_11 := by decide +kernel
theorem bq_297_12 : mm_blk 297 12 = bk_297_12 := by decide +kernel
theorem bq_297_13 : mm_blk 297 13 = bk_297_13 := by decide +kernel
theorem bq_297_14 : mm_blk 297 14 = bk_297_14 := by decide +kernel
theorem bq_297_15 : mm_blk 297 15 = bk_297_15 := by decide +kernel
theorem bq_297_16 : mm_blk 297 16 = bk_297_16 := by decide +kernel
theorem bq_297_17 : mm_blk 297 17 = bk_297_17 := by decide +kernel
theorem bq_297_18 : mm_blk 297 18 = bk_297_18 := by decide +kernel
theorem bq_297_19 : mm_blk 297 19 = bk_297_19 := by decide +kernel
theorem bq_297_20 : mm_blk 297 20 = bk_297_20 := by decide +kernel
theorem bq_297_21 : mm_blk 297 21 = bk_297_21 := by decide +kernel
theorem bq_297_22 : mm_blk 297 22 = bk_297_22 := by decide +kernel
theorem bq_297_23 : mm_blk 297 23 = bk_297_23 := by decide +kernel
theorem bq_297_24 : mm_blk 297 24 = bk_297_24 := by decide +kernel
theorem bq_297_25 : mm_blk 297 25 = bk_297_25 := by decide +kernel
theorem bq_297_26 : mm_blk 297 26 = bk_297_26 := by decide +kernel
theorem bq_297_27 : mm_blk 297 27 = bk_297_27 := by decide +kernel
theorem bq_297_28 : mm_blk 297 28 = bk_297_28 := by decide +kernel
theorem bq_297_29 : mm_blk 297 29 = bk_297_29 := by decide +kernel
theorem bq_297_30 : mm_blk 297 30 = bk_297_30 := by decide +kernel
theorem bq_297_31 : mm_blk 297 31 = bk_297_31 := by decide +kernel
theorem bq_297_32 : mm_blk 297 32 = bk_297_32 := by decide +kernel
theorem bq_297_33 : mm_blk 297 33 = bk_297_33 := by decide +kernel
theorem bq_297_34 : mm_blk 297 34 = bk_297_34 := by decide +kernel
theorem bq_297_35 : mm_blk 297 35 = bk_297_35 := by decide +kernel
theorem bq_297_36 : mm_blk 297 36 = bk_297_36 := by decide +kernel
theorem bq_297_37 : mm_blk 297 37 = bk_297_37 := by decide +kernel
theorem bq_297_38 : mm_blk 297 38 = bk_297_38 := by decide +kernel
theorem bq_297_39 : mm_blk 297 39 = bk_297_39 := by decide +kernel
theorem bq_297_40 : mm_blk 297 40 = bk_297_40 := by decide +kernel
theorem bq_297_41 : mm_blk 297 41 = bk_297_41 := by decide +kernel
theorem bq_297_42 : mm_blk 297 42 = bk_297_42 := by decide +kernel
theorem bq_297_43 : mm_blk 297 43 = bk_297_43 := by decide +kernel
theorem bq_297_44 : mm_blk 297 44 = bk_297_44 := by decide +kernel
theorem bq_297_45 : mm_blk 297 45 = bk_297_45 := by decide +kernel
theorem bq_297_46 : mm_blk 297 46 = bk_297_46 := by decide +kernel
theorem bq_297_47 : mm_blk 297 47 = bk_297_47 := by decide +kernel
theorem bq_307_0 : mm_blk 307 0 = bk_307_0 := by decide +kernel
theorem bq_307_1 : mm_blk 307 1 = bk_307_1 := by decide +kernel
theorem bq_307_2 : mm_blk 307 2 = bk_307_2 := by decide +kernel
theorem bq_307_3 : mm_blk 307 3 = bk_307_3 := by decide +kernel
theorem bq_307_4 : mm_blk 307 4 = bk_307_4 := by decide +kernel
theorem bq_307_5 : mm_blk 307 5 = bk_307_5 := by decide +kernel
theorem bq_307_6 : mm_blk 307 6 = bk_307_6 := by decide +kernel
theorem bq_307_7 : mm_blk 307 7 = bk_307_7 := by decide +kernel
theorem bq_307_8 : mm_blk 307 8 = bk_307_8 := by decide +kernel
theorem bq_307_9 : mm_blk 307 9 = bk_307_9 := by decide +kernel
theorem bq_307_10 : mm_blk 307 10 = bk_307_10 := by decide +kernel
theorem bq_307_11 : mm_blk 307 11 = bk_307_11 := by decide +kernel
theorem bq_307_12 : mm_blk 307 12 = bk_307_12 := by decide +kernel
theorem bq_307_13 : mm_blk 307 13 = bk_307_13 := by decide +kernel
theorem bq_307_14 : mm_blk 307 14 = bk_307_14 := by decide +kernel
theorem bq_307_15 : mm_blk 307 15 = bk_307_15 := by decide +kernel
theorem bq_307_16 : mm_blk 307 16 = bk_307_16 := by decide +kernel
theorem bq_307_17 : mm_blk 307 17 = bk_307_17 := by decide +kernel
theorem bq_307_18 : mm_blk 307 18 = bk_307_18 := by decide +kernel
theorem bq_307_19 : mm_blk 307 19 = bk_307_19 := by decide +kernel
theorem bq_307_20 : mm_blk 307 20 = bk_307_20 := by decide +kernel
theorem bq_307_21 : mm_blk 307 21 = bk_307_21 := by decide +kernel
theorem bq_307_22 : mm_blk 307 22 = bk_307_22 := by decide +kernel
theorem bq_307_23 : mm_blk 307 23 = bk_307_23 := by decide +kernel
theorem bq_307_24 : mm_blk 307 24 = bk_307_24 := by decide +kernel
theorem bq_307_25 : mm_blk 307 25 = bk_307_25 := by decide +kernel
theorem bq_307_26 : mm_blk 307 26 = bk_307_26 := by decide +kernel
theorem bq_307_27 : mm_blk 307 27 = bk_307_27 := by decide +kernel
theorem bq_308_0 : mm_blk 308 0 = bk_308_0 := by decide +kernel
theorem bq_308_1 : mm_blk 308 1 = bk_308_1 := by decide +kernel
theorem bq_308_2 : mm_blk 308 2 = bk_308_2 := by decide +kernel
theorem bq_308_3 : mm_blk 308 3 = bk_308_3 := by decide +kernel
theorem bq_308_4 : mm_blk 308 4 = bk_308_4 := by decide +kernel
theorem bq_308_5 : mm_blk 308 5 = bk_308_5 := by decide +kernel
theorem bq_308_6 : mm_blk 308 6 = bk_308_6 := by decide +kernel
theorem bq_308_7 : mm_blk 308 7 = bk_308_7 := by decide +kernel
theorem bq_308_8 : mm_blk 308 8 = bk_308_8 := by decide +kernel
theorem bq_308_9 : mm_blk 308 9 = bk_308_9 := by decide +kernel
theorem bq_308_10 : mm_blk 308 10 = bk_308_10 := by decide +kernel
theorem q_307_e {x0 : mm_Id} (x1 : Int) (x2 : Int) {h : mm_H} {Q : mm_V → mm_H → Prop}  :
    mm_Cl 307 [zR x0, zI x1, zI x2] h Q =
    (if (mm_and (mm_shr x1 6) 7) = 0 then mm_Wp 307 (mm_blk 307 2) [zR x0, zI x1, zI x2, zU, zU, zU, zU] [zI (mm_w (-(mm_and (mm_shr x1 9) 3)))] h Q else mm_Wp 307 (mm_blk 307 2) [zR x0, zI x1, zI x2, zU, zU, zU, zU] [zI (mm_w (1 + (Int.tmod (mm_and (mm_shr x1 9) 3) 2)))] h Q) :=
  mm_ce (l2 := [zR x0, zI x1, zI x2, zU, zU, zU, zU]) rfl (mm_kb bq_307_0 ((wp_3_1).trans ((wp_1).trans ((wp_17).trans ((wp_1).trans ((wp_16).trans ((wp_41).trans (mm_ic ((wp_3_1).trans ((wp_1).trans ((wp_17).trans ((wp_1).trans ((wp_16).trans ((wp_15).trans ((wp_56).trans (rfl)))))))) (mm_kb bq_307_1 ((wp_1).trans ((wp_3_1).trans ((wp_1).trans ((wp_17).trans ((wp_1).trans ((wp_16).trans ((wp_1).trans ((wp_14 (by decide)).trans ((wp_10).trans ((wp_0).trans (rfl))))))))))))))))))))
theorem q_308_e {x0 : mm_Id} {x1 : mm_Id} (x2 : Int) {h : mm_H} {Q : mm_V → mm_H → Prop}  :
    mm_Cl 308 [zR x0, zR x1, zI x2] h Q =
    mm_Wp 308 (mm_blk 308 1) [zR x0, zR x1, zI x2, zI (mm_w (1 + (mm_and (mm_shr x2 4) 7))), zI (-2), zU] [] h Q :=
  mm_ce (l2 := [zR x0, zR x1, zI x2, zU, zU, zU]) rfl (mm_kb bq_308_0 ((wp_1).trans ((wp_3_2).trans ((wp_1).trans ((wp_17).trans ((wp_1).trans ((wp_16).trans ((wp_10).trans ((wp_6 (l2 := [zR x0, zR x1, zI x2, zI (mm_w (1 + (mm_and (mm_shr x2 4) 7))), zU, zU]) rfl).trans ((wp_1).trans ((wp_6 (l2 := [zR x0, zR x1, zI x2, zI (mm_w (1 + (mm_and (mm_shr x2 4) 7))), zI (-2), zU]) rfl).trans ((wp_0).trans (rfl)))))))))))))
theorem q_297_1 {x1 : mm_Id} {x2 : mm_Id} (x3 : Int) (x4 : Int) (x5 : Int) (vx6 : mm_V) (vx7 : mm_V) (vx8 : mm_V) (vx9 : mm_V) (vx10 : mm_V) {h : mm_H} {Q : mm_V → mm_H → Prop}  :
    mm_Wp 297 (mm_blk 297 1) [zR (90, 0, 0), zR x1, zR x2, zI x3, zI x4, zI x5, vx6, vx7, vx8, vx9, vx10] [] h Q =
    (if (h.1 (90, 0, 0) (-1)) < (mm_w (x5 + 3)) then mm_Wp 297 (mm_blk 297 45) [zR (90, 0, 0), zR x1, zR x2, zI x3, zI x4, zI x5, vx6, vx7, vx8, vx9, vx10] [] h Q else (if x5 < 150 then ((0 ≤ (mm_w (x5 + 2)) ∧ (mm_w (x5 + 2)) < h.1 (90, 0, 0) (-1)) ∧ (if x3 = 0 then mm_Wp 297 (mm_blk 297 2) [zR (90, 0, 0), zR x1, zR x2, zI x3, zI x4, zI x5, zI (h.1 (90, 0, 0) (mm_w (x5 + 2))), zI (mm_w (1 + (Int.tmod (mm_and (mm_shr (h.1 (90, 0, 0) (mm_w (x5 + 2))) 3) 15) 5))), vx8, vx9, vx10] [] h Q else (if x3 = (mm_w (1 + (Int.tmod (mm_and (mm_shr (h.1 (90, 0, 0) (mm_w (x5 + 2))) 3) 15) 5))) then mm_Wp 297 (mm_blk 297 2) [zR (90, 0, 0), zR x1, zR x2, zI x3, zI x4, zI x5, zI (h.1 (90, 0, 0) (mm_w (x5 + 2))), zI (mm_w (1 + (Int.tmod (mm_and (mm_shr (h.1 (90, 0, 0) (mm_w (x5 + 2))) 3) 15) 5))), vx8, vx9, vx10] [] h Q else mm_Wp 297 (mm_blk 297 3) [zR (90, 0, 0), zR x1, zR x2, zI x3, zI x4, zI x5, zI (h.1 (90, 0, 0) (mm_w (x5 + 2))), zI (mm_w (1 + (Int.tmod (mm_and (mm_shr (h.1 (90, 0, 0) (mm_w (x5 + 2))) 3) 15) 5))), vx8, vx9, vx10] [] h Q))) else mm_Wp 297 (mm_blk 297 45) [zR (90, 0, 0), zR x1, zR x2, zI x3, zI x4, zI x5, vx6, vx7, vx8, vx9, vx10] [] h Q)) :=
  mm_kb bq_297_1 ((wp_3_5).trans ((wp_1).trans ((wp_10).trans ((wp_5_0).trans ((wp_78s).trans ((wp_50).trans (mm_ic (rfl) ((wp_3_5).trans ((wp_1).trans ((wp_49).trans (mm_ic ((wp_5_0).trans ((wp_3_5).trans ((wp_1).trans ((wp_10).trans ((wk_70s).trans (mm_ae ((wp_6 (l2 := [zR (90, 0, 0), zR x1, zR x2, zI x3, zI x4, zI x5, zI (h.1 (90, 0, 0) (mm_w (x5 + 2))), vx7, vx8, vx9, vx10]) rfl).trans ((wp_1).trans ((wp_3_6).trans ((wp_1).trans ((wp_17).trans ((wp_1).trans ((wp_16).trans ((wp_1).trans ((wp_14 (by decide)).trans ((wp_10).trans ((wp_6 (l2 := [zR (90, 0, 0), zR x1, zR x2, zI x3, zI x4, zI x5, zI (h.1 (90, 0, 0) (mm_w (x5 + 2))), zI (mm_w (1 + (Int.tmod (mm_and (mm_shr (h.1 (90, 0, 0) (mm_w (x5 + 2))) 3) 15) 5))), vx8, vx9, vx10]) rfl).trans ((wp_3_3).trans ((wp_40).trans (mm_ic (rfl) ((wp_3_3).trans ((wp_3_7).trans ((wp_47).trans (mm_ic ((wp_0).trans (rfl)) (rfl))))))))))))))))))))))))) (rfl))))))))))))
theorem q_307_2 {x0 : mm_Id} (x1 : Int) (x2 : Int) (vx3 : mm_V) (vx4 : mm_V) (vx5 : mm_V) (vx6 : mm_V) (y0 : Int) {h : mm_H} {Q : mm_V → mm_H → Prop}  :
    mm_Wp 307 (mm_blk 307 2) [zR x0, zI x1, zI x2, vx3, vx4, vx5, vx6] [zI y0] h Q =
    (if (mm_and (mm_shr x1 14) 3) = 0 then mm_Wp 307 (mm_blk 307 4) [zR x0, zI x1, zI x2, zI y0, zI (mm_w (1 + (mm_and (mm_shr x1 11) 7))), vx5, vx6] [zI (mm_w (1 + (mm_and (mm_shr x1 11) 7)))] h Q else mm_Wp 307 (mm_blk 307 4) [zR x0, zI x1, zI x2, zI y0, zI (mm_w (1 + (mm_and (mm_shr x1 11) 7))), vx5, vx6] [zI 1] h Q) :=
  mm_kb bq_307_2 ((wp_6 (l2 := [zR x0, zI x1, zI x2, zI y0, vx4, vx5, vx6]) rfl).trans ((wp_1).trans ((wp_3_1).trans ((wp_1).trans ((wp_17).trans ((wp_1).trans ((wp_16).trans ((wp_10).trans ((wp_6 (l2 := [zR x0, zI x1, zI x2, zI y0, zI (mm_w (1 + (mm_and (mm_shr x1 11) 7))), vx5, vx6]) rfl).trans ((wp_3_1).trans ((wp_1).trans ((wp_17).trans ((wp_1).trans ((wp_16).trans ((wp_41).trans (mm_ic ((wp_3_4).trans ((wp_56).trans (rfl))) (mm_kb bq_307_3 ((wp_1).trans ((wp_0).trans (rfl))))))))))))))))))))
theorem q_308_1 {x0 : mm_Id} {x1 : mm_Id} (x2 : Int) (x3 : Int) (x4 : Int) (vx5 : mm_V) {h : mm_H} {Q : mm_V → mm_H → Prop} (hox0 : mm_ok x0 h.2.2.1 1 0 = true) :
    mm_Wp 308 (mm_blk 308 1) [zR x0, zR x1, zI x2, zI x3, zI x4, vx5] [] h Q =
    (if x4 < 3 then mm_Wp 308 (mm_blk 308 2) [zR x0, zR x1, zI x2, zI x3, zI x4, zI 0] [] h Q else mm_Cl 27 [zR x0, zI 1, zI (mm_and x2 1)] h (fun r h3 => mm_Wp 308 (bk_308_8.drop 6) [zR x0, zR x1, zI x2, zI x3, zI x4, vx5] (mm_push r []) h3 Q)) :=
  mm_kb bq_308_1 ((wp_3_4).trans ((wp_1).trans ((wp_49).trans (mm_ic ((wp_1).trans ((wp_6 (l2 := [zR x0, zR x1, zI x2, zI x3, zI x4, zI 0]) rfl).trans ((wp_0).trans (rfl)))) (mm_kb bq_308_8 ((wp_5_0).trans ((wp_1).trans ((wp_3_2).trans ((wp_1).trans ((wp_16).trans ((wp_v3 mm_n_27 (mm_leq mm_m_27 (mm_lb rfl)) (mm_lb rfl) hox0).trans rfl)))))))))))
theorem q_297_45 (vx0 : mm_V) {x1 : mm_Id} {x2 : mm_Id} (vx3 : mm_V) (vx4 : mm_V) (vx5 : mm_V) (vx6 : mm_V) (vx7 : mm_V) (vx8 : mm_V) (vx9 : mm_V) (vx10 : mm_V) {h : mm_H} {Q : mm_V → mm_H → Prop} (hox1 : mm_ok x1 h.2.2.1 1 0 = true) :
    mm_Wp 297 (mm_blk 297 45) [vx0, zR x1, zR x2, vx3, vx4, vx5, vx6, vx7, vx8, vx9, vx10] [] h Q =
    mm_Cl 41 [zR x1, zI 1] h (fun r h3 => mm_Wp 297 (bk_297_45.drop 3) [vx0, zR x1, zR x2, vx3, vx4, vx5, vx6, vx7, vx8, vx9, vx10] (mm_push r []) h3 Q) :=
  mm_kb bq_297_45 ((wp_5_1).trans ((wp_1).trans ((wp_v2 mm_n_41 (mm_leq mm_m_41 (mm_lb rfl)) (mm_lb rfl) hox1).trans rfl)))
theorem q_297_2 {x1 : mm_Id} {x2 : mm_Id} (x3 : Int) (x4 : Int) (x5 : Int) (x6 : Int) (x7 : Int) (vx8 : mm_V) (vx9 : mm_V) (vx10 : mm_V) {h : mm_H} {Q : mm_V → mm_H → Prop}  :
    mm_Wp 297 (mm_blk 297 2) [zR (90, 0, 0), zR x1, zR x2, zI x3, zI x4, zI x5, zI x6, zI x7, vx8, vx9, vx10] [] h Q =
    (if x4 = 0 then mm_Wp 297 (mm_blk 297 5) [zR (90, 0, 0), zR x1, zR x2, zI x3, zI x4, zI x5, zI x6, zI x7, vx8, vx9, vx10] [zI 1] h Q else mm_Wp 297 (mm_blk 297 3) [zR (90, 0, 0), zR x1, zR x2, zI x3, zI x4, zI x5, zI x6, zI x7, vx8, vx9, vx10] [] h Q) :=
  mm_kb bq_297_2 ((wp_3_4).trans ((wp_40).trans (mm_ic (mm_kb bq_297_4 ((wp_1).trans ((wp_0).trans (rfl)))) ((wp_0).trans (rfl)))))
theorem q_297_3 {x1 : mm_Id} {x2 : mm_Id} (x3 : Int) (x4 : Int) (x5 : Int) (x6 : Int) (x7 : Int) (vx8 : mm_V) (vx9 : mm_V) (vx10 : mm_V) {h : mm_H} {Q : mm_V → mm_H → Prop}  :
    mm_Wp 297 (mm_blk 297 3) [zR (90, 0, 0), zR x1, zR x2, zI x3, zI x4, zI x5, zI x6, zI x7, vx8, vx9, vx10] [] h Q =
    mm_Wp 297 (mm_blk 297 5) [zR (90, 0, 0), zR x1, zR x2, zI x3, zI x4, zI x5, zI x6, zI x7, vx8, vx9, vx10] [zI (-3)] h Q :=
  mm_kb bq_297_3 ((wp_1).trans ((wp_56).trans (rfl)))
theorem q_307_4 {x0 : mm_Id} (x1 : Int) (x2 : Int) (x3 : Int) (x4 : Int) (vx5 : mm_V) (vx6 : mm_V) (y0 : Int) {h : mm_H} {Q : mm_V → mm_H → Prop}  :
    mm_Wp 307 (mm_blk 307 4) [zR x0, zI x1, zI x2, zI x3, zI x4, vx5, vx6] [zI y0] h Q =
    mm_Wp 307 (mm_blk 307 (mm_sw 10 (Int.tmod (mm_and x1 63) 20))) [zR x0, zI x1, zI x2, zI x3, zI x4, zI y0, zI (mm_w (1 + (mm_and (mm_shr x1 16) 7)))] [] h Q :=
  mm_kb bq_307_4 ((wp_6 (l2 := [zR x0, zI x1, zI x2, zI x3, zI x4, zI y0, vx6]) rfl).trans ((wp_1).trans ((wp_3_1).trans ((wp_1).trans ((wp_17).trans ((wp_1).trans ((wp_16).trans ((wp_10).trans ((wp_6 (l2 := [zR x0, zI x1, zI x2, zI x3, zI x4, zI y0, zI (mm_w (1 + (mm_and (mm_shr x1 16) 7)))]) rfl).trans ((wp_3_1).trans ((wp_1).trans ((wp_16).trans ((wp_1).trans ((wp_14 (by decide)).trans (wp_57 rfl)))))))))))))))
theorem q_308_8_6 {x0 : mm_Id} {x1 : mm_Id} (x2 : Int) (vx3 : mm_V) (vx4 : mm_V) (vx5 : mm_V) (y0 : Int) {h : mm_H} {Q : mm_V → mm_H → Prop} (hox1 : mm_ok x1 h.2.2.1 1 0 = true) :
    mm_Wp 308 (bk_308_8.drop 6) [zR x0, zR x1, zI x2, vx3, vx4, vx5] [zI y0] h Q =
    mm_Cl 27 [zR x1, zI 1, zI (mm_and x2 1)] h (fun r h3 => mm_Wp 308 (bk_308_8.drop 12) [zR x0, zR x1, zI x2, vx3, vx4, vx5] (mm_push r [zI y0]) h3 Q) :=
  (wp_5_1).trans ((wp_1).trans ((wp_3_2).trans ((wp_1).trans ((wp_16).trans ((wp_v3 mm_n_27 (mm_leq mm_m_27 (mm_lb rfl)) (mm_lb rfl) hox1).trans rfl)))))
theorem q_308_2 {x0 : mm_Id} {x1 : mm_Id} (x2 : Int) (x3 : Int) (x4 : Int) (x5 : Int) {h : mm_H} {Q : mm_V → mm_H → Prop} (hox0 : mm_ok x0 h.2.2.1 1 0 = true) :
    mm_Wp 308 (mm_blk 308 2) [zR x0, zR x1, zI x2, zI x3, zI x4, zI x5] [] h Q =
    (if x5 < 5 then mm_Cl 13 [zR x0, zI x4, zI x3, zI x5] h (fun r h3 => mm_Wp 308 (bk_308_2.drop 8) [zR x0, zR x1, zI x2, zI x3, zI x4, zI x5] (mm_push r []) h3 Q) else mm_Cl 34 [zR x0, zI x4, zI 0] h (fun r h3 => mm_Wp 308 (bk_308_5.drop 4) [zR x0, zR x1, zI x2, zI x3, zI x4, zI x5] (mm_push r []) h3 Q)) :=
  mm_kb bq_308_2 ((wp_3_5).trans ((wp_1).trans ((wp_49).trans (mm_ic ((wp_5_0).trans ((wp_3_4).trans ((wp_3_3).trans ((wp_3_5).trans ((wp_v4 mm_n_13 (mm_leq mm_m_13 (mm_lb rfl)) (mm_lb rfl) hox0).trans rfl))))) (mm_kb bq_308_5 ((wp_5_0).trans ((wp_3_4).trans ((wp_1).trans ((wp_v3 mm_n_34 (mm_leq mm_m_34 (mm_lb rfl)) (mm_lb rfl) hox0).trans rfl)))))))))
theorem q_297_45_3 (vx0 : mm_V) {x1 : mm_Id} {x2 : mm_Id} (vx3 : mm_V) (vx4 : mm_V) (vx5 : mm_V) (vx6 : mm_V) (vx7 : mm_V) (vx8 : mm_V) (vx9 : mm_V) (vx10 : mm_V) (y0 : Int) {h : mm_H} {Q : mm_V → mm_H → Prop} (hox2 : mm_ok x2 h.2.2.1 1 0 = true) :
    mm_Wp 297 (bk_297_45.drop 3) [vx0, zR x1, zR x2, vx3, vx4, vx5, vx6, vx7, vx8, vx9, vx10] [zI y0] h Q =
    mm_Cl 41 [zR x2, zI 1] h (fun r h3 => mm_Wp 297 (bk_297_45.drop 6) [vx0, zR x1, zR x2, vx3, vx4, vx5, vx6, vx7, vx8, vx9, vx10] (mm_push r [zI y0]) h3 Q) :=
  (wp_5_2).trans ((wp_1).trans ((wp_v2 mm_n_41 (mm_leq mm_m_41 (mm_lb rfl)) (mm_lb rfl) hox2).trans rfl))
theorem q_297_5 {x1 : mm_Id} {x2 : mm_Id} (x3 : Int) (x4 : Int) (x5 : Int) (x6 : Int) (x7 : Int) (vx8 : mm_V) (vx9 : mm_V) (vx10 : mm_V) (y0 : Int) {h : mm_H} {Q : mm_V → mm_H → Prop}  :
    mm_Wp 297 (mm_blk 297 5) [zR (90, 0, 0), zR x1, zR x2, zI x3, zI x4, zI x5, zI x6, zI x7, vx8, vx9, vx10] [zI y0] h Q =
    mm_Wp 297 (mm_blk 297 (mm_sw 11 (mm_and x6 7))) [zR (90, 0, 0), zR x1, zR x2, zI x3, zI x4, zI x5, zI x6, zI x7, zI y0, vx9, vx10] [] h Q :=
  mm_kb bq_297_5 ((wp_6 (l2 := [zR (90, 0, 0), zR x1, zR x2, zI x3, zI x4, zI x5, zI x6, zI x7, zI y0, vx9, vx10]) rfl).trans ((wp_3_6).trans ((wp_1).trans ((wp_16).trans (wp_57 rfl)))))
theorem q_307_5 {x0 : mm_Id} (vx1 : mm_V) (x2 : Int) (x3 : Int) (vx4 : mm_V) (x5 : Int) (x6 : Int) {h : mm_H} {Q : mm_V → mm_H → Prop} (hox0 : mm_ok x0 h.2.2.1 1 0 = true) :
    mm_Wp 307 (mm_blk 307 5) [zR x0, vx1, zI x2, zI x3, vx4, zI x5, zI x6] [] h Q =
    mm_Cl 1 [zR x0, zI x3, zI x5, zI x6, zI (mm_w (1 + (Int.tmod (mm_and x2 3) 2)))] h (fun r h3 => mm_Wp 307 (bk_307_5.drop 12) [zR x0, vx1, zI x2, zI x3, vx4, zI x5, zI x6] (mm_push r []) h3 Q) :=
  mm_kb bq_307_5 ((wp_5_0).trans ((wp_3_3).trans ((wp_3_5).trans ((wp_3_6).trans ((wp_1).trans ((wp_3_2).trans ((wp_1).trans ((wp_16).trans ((wp_1).trans ((wp_14 (by decide)).trans ((wp_10).trans ((wp_v5 mm_n_1 (mm_leq mm_m_1 (mm_lb rfl)) (mm_lb rfl) hox0).trans rfl))))))))))))
theorem q_307_6 {x0 : mm_Id} (x1 : Int) (x2 : Int) (x3 : Int) (x4 : Int) (vx5 : mm_V) (vx6 : mm_V) {h : mm_H} {Q : mm_V → mm_H → Prop} (hox0 : mm_ok x0 h.2.2.1 1 0 = true) :
    mm_Wp 307 (mm_blk 307 6) [zR x0, zI x1, zI x2, zI x3, zI x4, vx5, vx6] [] h Q =
    mm_Cl 7 [zR x0, zI x3, zI x4, zI (mm_and x2 255), zL (mm_W (x1 * x2)), zI (mm_w (1 + (mm_and (mm_shr x1 19) 7)))] h (fun r h3 => mm_Wp 307 (bk_307_6.drop 19) [zR x0, zI x1, zI x2, zI x3, zI x4, vx5, vx6] (mm_push r []) h3 Q) :=
  mm_kb bq_307_6 ((wp_5_0).trans ((wp_3_3).trans ((wp_3_4).trans ((wp_3_2).trans ((wp_1).trans ((wp_16).trans ((wp_3_1).trans ((wp_31).trans ((wp_3_2).trans ((wp_31).trans ((wp_22).trans ((wp_1).trans ((wp_3_1).trans ((wp_1).trans ((wp_17).trans ((wp_1).trans ((wp_16).trans ((wp_10).trans ((wp_v6 mm_n_7 (mm_leq mm_m_7 (mm_lb rfl)) (mm_lb rfl) hox0).trans rfl)))))))))))))))))))
theorem q_307_7 {x0 : mm_Id} (vx1 : mm_V) (x2 : Int) (x3 : Int) (x4 : Int) (vx5 : mm_V) (vx6 : mm_V) {h : mm_H} {Q : mm_V → mm_H → Prop} (hox0 : mm_ok x0 h.2.2.1 1 0 = true) :
    mm_Wp 307 (mm_blk 307 7) [zR x0, vx1, zI x2, zI x3, zI x4, vx5, vx6] [] h Q =
    mm_Cl 9 [zR x0, zI x3, zI x4, zI (mm_and x2 511)] h (fun r h3 => mm_Wp 307 (bk_307_7.drop 7) [zR x0, vx1, zI x2, zI x3, zI x4, vx5, vx6] (mm_push r []) h3 Q) :=
  mm_kb bq_307_7 ((wp_5_0).trans ((wp_3_3).trans ((wp_3_4).trans ((wp_3_2).trans ((wp_1).trans ((wp_16).trans ((wp_v4 mm_n_9 (mm_leq mm_m_9 (mm_lb rfl)) (mm_lb rfl) hox0).trans rfl)))))))
theorem q_307_8 {x0 : mm_Id} (vx1 : mm_V) (vx2 : mm_V) (x3 : Int) (x4 : Int) (vx5 : mm_V) (x6 : Int) {h : mm_H} {Q : mm_V → mm_H → Prop} (hox0 : mm_ok x0 h.2.2.1 1 0 = true) :
    mm_Wp 307 (mm_blk 307 8) [zR x0, vx1, vx2, zI x3, zI x4, vx5, zI x6] [] h Q =
    mm_Cl 10 [zR x0, zI x3, zI x4, zI 1, zI x6] h (fun r h3 => mm_Wp 307 (bk_307_8.drop 6) [zR x0, vx1, vx2, zI x3, zI x4, vx5, zI x6] (mm_push r []) h3 Q) :=
  mm_kb bq_307_8 ((wp_5_0).trans ((wp_3_3).trans ((wp_3_4).trans ((wp_1).trans ((wp_3_6).trans ((wp_v5 mm_n_10 (mm_leq mm_m_10 (mm_lb rfl)) (mm_lb rfl) hox0).trans rfl))))))
theorem q_307_9 {x0 : mm_Id} (vx1 : mm_V) (vx2 : mm_V) (x3 : Int) (vx4 : mm_V) (x5 : Int) (x6 : Int) {h : mm_H} {Q : mm_V → mm_H → Prop} (hox0 : mm_ok x0 h.2.2.1 1 0 = true) :
    mm_Wp 307 (mm_blk 307 9) [zR x0, vx1, vx2, zI x3, vx4, zI x5, zI x6] [] h Q =
    mm_Cl 11 [zR x0, zI x3, zI x5, zI x6] h (fun r h3 => mm_Wp 307 (bk_307_9.drop 5) [zR x0, vx1, vx2, zI x3, vx4, zI x5, zI x6] (mm_push r []) h3 Q) :=
  mm_kb bq_307_9 ((wp_5_0).trans ((wp_3_3).trans ((wp_3_5).trans ((wp_3_6).trans ((wp_v4 mm_n_11 (mm_leq mm_m_11 (mm_lb rfl)) (mm_lb rfl) hox0).trans rfl)))))
theorem q_307_10 {x0 : mm_Id} (vx1 : mm_V) (x2 : Int) (x3 : Int) (vx4 : mm_V) (x5 : Int) (x6 : Int) {h : mm_H} {Q : mm_V → mm_H → Prop} (hox0 : mm_ok x0 h.2.2.1 1 0 = true) :
    mm_Wp 307 (mm_blk 307 10) [zR x0, vx1, zI x2, zI x3, vx4, zI x5, zI x6] [] h Q =
    mm_Cl 12 [zR x0, zI x3, zI x5, zI x6, zI (mm_w (1 + (mm_and x2 7))), zI (mm_w (1 + (mm_and (mm_shr x2 3) 7)))] h (fun r h3 => mm_Wp 307 (bk_307_10.drop 17) [zR x0, vx1, zI x2, zI x3, vx4, zI x5, zI x6] (mm_push r []) h3 Q) :=
  mm_kb bq_307_10 ((wp_5_0).trans ((wp_3_3).trans ((wp_3_5).trans ((wp_3_6).trans ((wp_1).trans ((wp_3_2).trans ((wp_1).trans ((wp_16).trans ((wp_10).trans ((wp_1).trans ((wp_3_2).trans ((wp_1).trans ((wp_17).trans ((wp_1).trans ((wp_16).trans ((wp_10).trans ((wp_v6 mm_n_12 (mm_leq mm_m_12 (mm_lb rfl)) (mm_lb rfl) hox0).trans rfl)))))))))))))))))
theorem q_307_11 {x0 : mm_Id} (vx1 : mm_V) (vx2 : mm_V) (x3 : Int) (x4 : Int) (vx5 : mm_V) (vx6 : mm_V) {h : mm_H} {Q : mm_V → mm_H → Prop} (hox0 : mm_ok x0 h.2.2.1 1 0 = true) :
    mm_Wp 307 (mm_blk 307 11) [zR x0, vx1, vx2, zI x3, zI x4, vx5, vx6] [] h Q =
    mm_Cl 25 [zR x0, zI x3, zI x4] h (fun r h3 => mm_Wp 307 (bk_307_11.drop 4) [zR x0, vx1, vx2, zI x3, zI x4, vx5, vx6] (mm_push r []) h3 Q) :=
  mm_kb bq_307_11 ((wp_5_0).trans ((wp_3_3).trans ((wp_3_4).trans ((wp_v3 mm_n_25 (mm_leq mm_m_25 (mm_lb rfl)) (mm_lb rfl) hox0).trans rfl))))
theorem q_307_12 {x0 : mm_Id} (vx1 : mm_V) (x2 : Int) (vx3 : mm_V) (vx4 : mm_V) (vx5 : mm_V) (vx6 : mm_V) {h : mm_H} {Q : mm_V → mm_H → Prop} (hox0 : mm_ok x0 h.2.2.1 1 0 = true) :
    mm_Wp 307 (mm_blk 307 12) [zR x0, vx1, zI x2, vx3, vx4, vx5, vx6] [] h Q =
    mm_Cl 26 [zR x0, zI (mm_w (1 + (mm_and x2 3)))] h (fun r h3 => mm_Wp 307 (bk_307_12.drop 7) [zR x0, vx1, zI x2, vx3, vx4, vx5, vx6] (mm_push r []) h3 Q) :=
  mm_kb bq_307_12 ((wp_5_0).trans ((wp_1).trans ((wp_3_2).trans ((wp_1).trans ((wp_16).trans ((wp_10).trans ((wp_v2 mm_n_26 (mm_leq mm_m_26 (mm_lb rfl)) (mm_lb rfl) hox0).trans rfl)))))))
theorem q_307_13 {x0 : mm_Id} (vx1 : mm_V) (vx2 : mm_V) (x3 : Int) (vx4 : mm_V) (vx5 : mm_V) (vx6 : mm_V) {h : mm_H} {Q : mm_V → mm_H → Prop} (hox0 : mm_ok x0 h.2.2.1 1 0 = true) :
    mm_Wp 307 (mm_blk 307 13) [zR x0, vx1, vx2, zI x3, vx4, vx5, vx6] [] h Q =
    mm_Cl 28 [zR x0, zI x3] h (fun r h3 => mm_Wp 307 (bk_307_13.drop 3) [zR x0, vx1, vx2, zI x3, vx4, vx5, vx6] (mm_push r []) h3 Q) :=
  mm_kb bq_307_13 ((wp_5_0).trans ((wp_3_3).trans ((wp_v2 mm_n_28 (mm_leq mm_m_28 (mm_lb rfl)) (mm_lb rfl) hox0).trans rfl)))
theorem q_307_14 {x0 : mm_Id} (vx1 : mm_V) (x2 : Int) (vx3 : mm_V) (vx4 : mm_V) (vx5 : mm_V) (vx6 : mm_V) {h : mm_H} {Q : mm_V → mm_H → Prop} (hox0 : mm_ok x0 h.2.2.1 1 0 = true) :
    mm_Wp 307 (mm_blk 307 14) [zR x0, vx1, zI x2, vx3, vx4, vx5, vx6] [] h Q =
    mm_Cl 29 [zR x0, zI (mm_w (1 + (mm_and x2 3)))] h (fun r h3 => mm_Wp 307 (bk_307_14.drop 7) [zR x0, vx1, zI x2, vx3, vx4, vx5, vx6] (mm_push r []) h3 Q) :=
  mm_kb bq_307_14 ((wp_5_0).trans ((wp_1).trans ((wp_3_2).trans ((wp_1).trans ((wp_16).trans ((wp_10).trans ((wp_v2 mm_n_29 (mm_leq mm_m_29 (mm_lb rfl)) (mm_lb rfl) hox0).trans rfl)))))))
theorem q_307_15 {x0 : mm_Id} (vx1 : mm_V) (x2 : Int) (vx3 : mm_V) (vx4 : mm_V) (vx5 : mm_V) (vx6 : mm_V) {h : mm_H} {Q : mm_V → mm_H → Prop} (hox0 : mm_ok x0 h.2.2.1 1 0 = true) :
    mm_Wp 307 (mm_blk 307 15) [zR x0, vx1, zI x2, vx3, vx4, vx5, vx6] [] h Q =
    mm_Cl 30 [zR x0, zI (mm_w (1 + (mm_and x2 1))), zI (mm_w (1 + (mm_and (mm_shr x2 1) 3)))] h (fun r h3 => mm_Wp 307 (bk_307_15.drop 14) [zR x0, vx1, zI x2, vx3, vx4, vx5, vx6] (mm_push r []) h3 Q) :=
  mm_kb bq_307_15 ((wp_5_0).trans ((wp_1).trans ((wp_3_2).trans ((wp_1).trans ((wp_16).trans ((wp_10).trans ((wp_1).trans ((wp_3_2).trans ((wp_1).trans ((wp_17).trans ((wp_1).trans ((wp_16).trans ((wp_10).trans ((wp_v3 mm_n_30 (mm_leq mm_m_30 (mm_lb rfl)) (mm_lb rfl) hox0).trans rfl))))))))))))))
theorem q_307_16 {x0 : mm_Id} (vx1 : mm_V) (x2 : Int) (vx3 : mm_V) (vx4 : mm_V) (vx5 : mm_V) (vx6 : mm_V) {h : mm_H} {Q : mm_V → mm_H → Prop}  :
    mm_Wp 307 (mm_blk 307 16) [zR x0, vx1, zI x2, vx3, vx4, vx5, vx6] [] h Q =
    (if (mm_and x2 1) = 0 then mm_Wp 307 (mm_blk 307 18) [zR x0, vx1, zI x2, vx3, vx4, vx5, vx6] [zI (mm_w (2 + (mm_and (mm_shr x2 1) 1))), zR x0] h Q else mm_Wp 307 (mm_blk 307 18) [zR x0, vx1, zI x2, vx3, vx4, vx5, vx6] [zI (mm_w ((-1) - (mm_and (mm_shr x2 1) 3))), zR x0] h Q) :=
  mm_kb bq_307_16 ((wp_5_0).trans ((wp_3_2).trans ((wp_1).trans ((wp_16).trans ((wp_41).trans (mm_ic ((wp_1).trans ((wp_3_2).trans ((wp_1).trans ((wp_17).trans ((wp_1).trans ((wp_16).trans ((wp_10).trans ((wp_56).trans (rfl))))))))) (mm_kb bq_307_17 ((wp_1).trans ((wp_3_2).trans ((wp_1).trans ((wp_17).trans ((wp_1).trans ((wp_16).trans ((wp_11).trans ((wp_0).trans (rfl))))))))))))))))
theorem q_307_19 {x0 : mm_Id} (vx1 : mm_V) (x2 : Int) (vx3 : mm_V) (vx4 : mm_V) (vx5 : mm_V) (vx6 : mm_V) {h : mm_H} {Q : mm_V → mm_H → Prop} (hox0 : mm_ok x0 h.2.2.1 1 0 = true) :
    mm_Wp 307 (mm_blk 307 19) [zR x0, vx1, zI x2, vx3, vx4, vx5, vx6] [] h Q =
    mm_Cl 37 [zR x0, zI (mm_w (1 + (mm_and x2 3))), zI (mm_w (1 + (mm_and (mm_shr x2 2) 3)))] h (fun r h3 => mm_Wp 307 (bk_307_19.drop 14) [zR x0, vx1, zI x2, vx3, vx4, vx5, vx6] (mm_push r []) h3 Q) :=
  mm_kb bq_307_19 ((wp_5_0).trans ((wp_1).trans ((wp_3_2).trans ((wp_1).trans ((wp_16).trans ((wp_10).trans ((wp_1).trans ((wp_3_2).trans ((wp_1).trans ((wp_17).trans ((wp_1).trans ((wp_16).trans ((wp_10).trans ((wp_v3 mm_n_37 (mm_leq mm_m_37 (mm_lb rfl)) (mm_lb rfl) hox0).trans rfl))))))))))))))
theorem q_307_20 {x0 : mm_Id} (vx1 : mm_V) (x2 : Int) (vx3 : mm_V) (vx4 : mm_V) (vx5 : mm_V) (vx6 : mm_V) {h : mm_H} {Q : mm_V → mm_H → Prop} (hox0 : mm_ok x0 h.2.2.1 1 0 = true) :
    mm_Wp 307 (mm_blk 307 20) [zR x0, vx1, zI x2, vx3, vx4, vx5, vx6] [] h Q =
    mm_Cl 38 [zR x0, zI (mm_w (1 + (mm_and x2 1)))] h (fun r h3 => mm_Wp 307 (bk_307_20.drop 7) [zR x0, vx1, zI x2, vx3, vx4, vx5, vx6] (mm_push r []) h3 Q) :=
  mm_kb bq_307_20 ((wp_5_0).trans ((wp_1).trans ((wp_3_2).trans ((wp_1).trans ((wp_16).trans ((wp_10).trans ((wp_v2 mm_n_38 (mm_leq mm_m_38 (mm_lb rfl)) (mm_lb rfl) hox0).trans rfl)))))))
theorem q_307_21 {x0 : mm_Id} (vx1 : mm_V) (x2 : Int) (vx3 : mm_V) (vx4 : mm_V) (vx5 : mm_V) (vx6 : mm_V) {h : mm_H} {Q : mm_V → mm_H → Prop} (hox0 : mm_ok x0 h.2.2.1 1 0 = true) :
    mm_Wp 307 (mm_blk 307 21) [zR x0, vx1, zI x2, vx3, vx4, vx5, vx6] [] h Q =
    (if (mm_and x2 3) = 0 then (if (mm_and x2 16) = 16 then mm_Wp 307 (mm_blk 307 23) [zR x0, vx1, zI x2, vx3, vx4, vx5, vx6] [zI 1, zI (mm_w (1 + (mm_and (mm_shr x2 2) 3))), zR x0] h Q else mm_Wp 307 (mm_blk 307 23) [zR x0, vx1, zI x2, vx3, vx4, vx5, vx6] [zI 0, zI (mm_w (1 + (mm_and (mm_shr x2 2) 3))), zR x0] h Q) else (if (mm_and x2 3) = 1 then mm_Cl 33 [zR x0, zI (mm_w (1 + (mm_and (mm_shr x2 2) 1))), zI (mm_and (mm_shr x2 3) 63)] h (fun r h3 => mm_Wp 307 (bk_307_24.drop 19) [zR x0, vx1, zI x2, vx3, vx4, vx5, vx6] (mm_push r []) h3 Q) else (if (mm_and x2 3) = 2 then mm_Cl 39 [zR x0] h (fun r h3 => mm_Wp 307 (bk_307_25.drop 7) [zR x0, vx1, zI x2, vx3, vx4, vx5, vx6] (mm_push r []) h3 Q) else mm_Cl 40 [zR x0] h (fun r h3 => mm_Wp 307 (bk_307_26.drop 2) [zR x0, vx1, zI x2, vx3, vx4, vx5, vx6] (mm_push r []) h3 Q)))) :=
  mm_kb bq_307_21 ((wp_3_2).trans ((wp_1).trans ((wp_16).trans ((wp_41).trans (mm_ic ((wp_5_0).trans ((wp_1).trans ((wp_3_2).trans ((wp_1).trans ((wp_17).trans ((wp_1).trans ((wp_16).trans ((wp_10).trans ((wp_3_2).trans ((wp_1).trans ((wp_16).trans ((wp_1).trans ((wp_47).trans (mm_ic ((wp_1).trans ((wp_56).trans (rfl))) (mm_kb bq_307_22 ((wp_1).trans ((wp_0).trans (rfl)))))))))))))))))) (mm_kb bq_307_24 ((wp_3_2).trans ((wp_1).trans ((wp_16).trans ((wp_1).trans ((wp_47).trans (mm_ic ((wp_5_0).trans ((wp_1).trans ((wp_3_2).trans ((wp_1).trans ((wp_17).trans ((wp_1).trans ((wp_16).trans ((wp_10).trans ((wp_3_2).trans ((wp_1).trans ((wp_17).trans ((wp_1).trans ((wp_16).trans ((wp_v3 mm_n_33 (mm_leq mm_m_33 (mm_lb rfl)) (mm_lb rfl) hox0).trans rfl)))))))))))))) (mm_kb bq_307_25 ((wp_3_2).trans ((wp_1).trans ((wp_16).trans ((wp_1).trans ((wp_47).trans (mm_ic ((wp_5_0).trans ((wp_v1 mm_n_39 (mm_leq mm_m_39 (mm_lb rfl)) (mm_lb rfl) hox0).trans rfl)) (mm_kb bq_307_26 ((wp_5_0).trans ((wp_v1 mm_n_40 (mm_leq mm_m_40 (mm_lb rfl)) (mm_lb rfl) hox0).trans rfl))))))))))))))))))))))
theorem q_308_8_12 {x0 : mm_Id} {x1 : mm_Id} (vx2 : mm_V) (vx3 : mm_V) (vx4 : mm_V) (vx5 : mm_V) (y0 : Int) (y1 : Int) {h : mm_H} {Q : mm_V → mm_H → Prop} (hox0 : mm_ok x0 h.2.2.1 1 0 = true) :
    mm_Wp 308 (bk_308_8.drop 12) [zR x0, zR x1, vx2, vx3, vx4, vx5] [zI y0, zI y1] h Q =
    (if y1 = y0 then mm_Cl 52 [zR x0] h (fun r h3 => mm_Wp 308 (bk_308_8.drop 15) [zR x0, zR x1, vx2, vx3, vx4, vx5] (mm_push r []) h3 Q) else mm_Wp 308 (mm_blk 308 9) [zR x0, zR x1, vx2, vx3, vx4, vx5] [] h Q) :=
  (wp_47).trans (mm_ic ((wp_5_0).trans ((wp_v1 mm_n_52 (mm_leq mm_m_52 (mm_lb rfl)) (mm_lb rfl) hox0).trans rfl)) (rfl))
theorem q_308_5_4 {x0 : mm_Id} {x1 : mm_Id} (x2 : Int) (x3 : Int) (x4 : Int) (vx5 : mm_V) (y0 : Int) {h : mm_H} {Q : mm_V → mm_H → Prop} (hox1 : mm_ok x1 h.2.2.1 1 0 = true) :
    mm_Wp 308 (bk_308_5.drop 4) [zR x0, zR x1, zI x2, zI x3, zI x4, vx5] [zI y0] h Q =
    mm_Cl 34 [zR x1, zI x4, zI 0] h (fun r h3 => mm_Wp 308 (bk_308_5.drop 8) [zR x0, zR x1, zI x2, zI x3, zI x4, vx5] (mm_push r [zI y0]) h3 Q) :=
  (wp_5_1).trans ((wp_3_4).trans ((wp_1).trans ((wp_v3 mm_n_34 (mm_leq mm_m_34 (mm_lb rfl)) (mm_lb rfl) hox1).trans rfl)))
theorem q_308_2_8 {x0 : mm_Id} {x1 : mm_Id} (x2 : Int) (x3 : Int) (x4 : Int) (x5 : Int) (y0 : Int) {h : mm_H} {Q : mm_V → mm_H → Prop} (hox1 : mm_ok x1 h.2.2.1 1 0 = true) :
    mm_Wp 308 (bk_308_2.drop 8) [zR x0, zR x1, zI x2, zI x3, zI x4, zI x5] [zI y0] h Q =
    mm_Cl 13 [zR x1, zI x4, zI x3, zI x5] h (fun r h3 => mm_Wp 308 (bk_308_2.drop 13) [zR x0, zR x1, zI x2, zI x3, zI x4, zI x5] (mm_push r [zI y0]) h3 Q) :=
  (wp_5_1).trans ((wp_3_4).trans ((wp_3_3).trans ((wp_3_5).trans ((wp_v4 mm_n_13 (mm_leq mm_m_13 (mm_lb rfl)) (mm_lb rfl) hox1).trans rfl))))
theorem q_297_45_6 (vx0 : mm_V) {x1 : mm_Id} {x2 : mm_Id} (vx3 : mm_V) (vx4 : mm_V) (vx5 : mm_V) (vx6 : mm_V) (vx7 : mm_V) (vx8 : mm_V) (vx9 : mm_V) (vx10 : mm_V) (y0 : Int) (y1 : Int) {h : mm_H} {Q : mm_V → mm_H → Prop}  :
    mm_Wp 297 (bk_297_45.drop 6) [vx0, zR x1, zR x2, vx3, vx4, vx5, vx6, vx7, vx8, vx9, vx10] [zI y0, zI y1] h Q =
    (if y1 = y0 then mm_Cl 308 [zR x1, zR x2, zI 0] h (fun r h3 => mm_Wp 297 (bk_297_45.drop 11) [vx0, zR x1, zR x2, vx3, vx4, vx5, vx6, vx7, vx8, vx9, vx10] (mm_push r []) h3 Q) else mm_Wp 297 (mm_blk 297 46) [vx0, zR x1, zR x2, vx3, vx4, vx5, vx6, vx7, vx8, vx9, vx10] [] h Q) :=
  (wp_47).trans (mm_ic ((wp_5_1).trans ((wp_5_2).trans ((wp_1).trans ((wp_s3 mm_n_308 (mm_leq mm_m_308 (mm_lb rfl)) (mm_lb rfl)).trans rfl)))) (rfl))
theorem q_297_35 {x1 : mm_Id} {x2 : mm_Id} (x3 : Int) (x4 : Int) (x5 : Int) (x6 : Int) (vx7 : mm_V) (vx8 : mm_V) (vx9 : mm_V) (vx10 : mm_V) {h : mm_H} {Q : mm_V → mm_H → Prop} (hvx9 : mm_wt vx9 = 1) (hox1 : mm_ok x1 h.2.2.1 1 0 = true) :
    mm_Wp 297 (mm_blk 297 35) [zR (90, 0, 0), zR x1, zR x2, zI x3, zI x4, zI x5, zI x6, vx7, vx8, vx9, vx10] [] h Q =
    (if (mm_and (mm_shr x6 6) 3) = 0 then mm_Cl 41 [zR x1, zI (Int.tmod (mm_and (mm_shr x6 3) 7) 5)] h (fun r h3 => mm_Wp 297 (bk_297_35.drop 17) [zR (90, 0, 0), zR x1, zR x2, zI x3, zI x4, zI x5, zI x6, vx7, vx8, vx9, zI (Int.tmod (mm_and (mm_shr x6 3) 7) 5)] (mm_push r []) h3 Q) else mm_Wp 297 (mm_blk 297 36) [zR (90, 0, 0), zR x1, zR x2, zI x3, zI x4, zI x5, zI x6, vx7, vx8, vx9, zI (Int.tmod (mm_and (mm_shr x6 3) 7) 5)] [] h Q) :=
  mm_kb bq_297_35 ((wp_3_6).trans ((wp_1).trans ((wp_17).trans ((wp_1).trans ((wp_16).trans ((wp_1).trans ((wp_14 (by decide)).trans ((wp_6 (l2 := [zR (90, 0, 0), zR x1, zR x2, zI x3, zI x4, zI x5, zI x6, vx7, vx8, vx9, zI (Int.tmod (mm_and (mm_shr x6 3) 7) 5)]) ((if_pos (mm_lb rfl)).trans (congrArg some (mm_stw rfl hvx9)))).trans ((wp_3_6).trans ((wp_1).trans ((wp_17).trans ((wp_1).trans ((wp_16).trans ((wp_41).trans (mm_ic ((wp_5_1).trans ((wp_3_10).trans ((wp_v2 mm_n_41 (mm_leq mm_m_41 (mm_lb rfl)) (mm_lb rfl) hox1).trans rfl))) (rfl))))))))))))))))
theorem q_297_36 {x1 : mm_Id} {x2 : mm_Id} (x3 : Int) (x4 : Int) (x5 : Int) (vx6 : mm_V) (vx7 : mm_V) (vx8 : mm_V) (vx9 : mm_V) (vx10 : mm_V) {h : mm_H} {Q : mm_V → mm_H → Prop}  :
    mm_Wp 297 (mm_blk 297 36) [zR (90, 0, 0), zR x1, zR x2, zI x3, zI x4, zI x5, vx6, vx7, vx8, vx9, vx10] [] h Q =
    ((0 ≤ x5 ∧ x5 < h.1 (90, 0, 0) (-1)) ∧ ((0 ≤ (mm_w (x5 + 1)) ∧ (mm_w (x5 + 1)) < h.1 (90, 0, 0) (-1)) ∧ mm_Cl 307 [zR x1, zI (h.1 (90, 0, 0) x5), zI (h.1 (90, 0, 0) (mm_w (x5 + 1)))] h (fun r h3 => mm_Wp 297 (bk_297_36.drop 10) [zR (90, 0, 0), zR x1, zR x2, zI x3, zI x4, zI x5, vx6, vx7, vx8, vx9, vx10] (mm_push r []) h3 Q))) :=
  mm_kb bq_297_36 ((wp_5_1).trans ((wp_5_0).trans ((wp_3_5).trans ((wk_70s).trans (mm_ae ((wp_5_0).trans ((wp_3_5).trans ((wp_1).trans ((wp_10).trans ((wk_70s).trans (mm_ae ((wp_s3 mm_n_307 (mm_leq mm_m_307 (mm_lb rfl)) (mm_lb rfl)).trans rfl))))))))))))
theorem q_297_6 {x1 : mm_Id} {x2 : mm_Id} (x3 : Int) (x4 : Int) (x5 : Int) (x6 : Int) (x7 : Int) (x8 : Int) (vx9 : mm_V) (vx10 : mm_V) {h : mm_H} {Q : mm_V → mm_H → Prop} (hox2 : mm_ok x2 h.2.2.1 1 0 = true) :
    mm_Wp 297 (mm_blk 297 6) [zR (90, 0, 0), zR x1, zR x2, zI x3, zI x4, zI x5, zI x6, zI x7, zI x8, vx9, vx10] [] h Q =
    mm_Cl 42 [zR x2, zI x7, zI x6, zI (mm_w (1 + (mm_and (mm_shr x6 7) 1023)))] h (fun r h3 => mm_Wp 297 (bk_297_6.drop 11) [zR (90, 0, 0), zR x1, zR x2, zI x3, zI x4, zI x5, zI x6, zI x7, zI x8, vx9, vx10] (mm_push r []) h3 Q) :=
  mm_kb bq_297_6 ((wp_5_2).trans ((wp_3_7).trans ((wp_3_6).trans ((wp_1).trans ((wp_3_6).trans ((wp_1).trans ((wp_17).trans ((wp_1).trans ((wp_16).trans ((wp_10).trans ((wp_v4 mm_n_42 (mm_leq mm_m_42 (mm_lb rfl)) (mm_lb rfl) hox2).trans rfl)))))))))))
theorem q_297_10 {x1 : mm_Id} {x2 : mm_Id} (x3 : Int) (x4 : Int) (x5 : Int) (vx6 : mm_V) (x7 : Int) (x8 : Int) (vx9 : mm_V) (vx10 : mm_V) {h : mm_H} {Q : mm_V → mm_H → Prop} (hox2 : mm_ok x2 h.2.2.1 1 0 = true) :
    mm_Wp 297 (mm_blk 297 10) [zR (90, 0, 0), zR x1, zR x2, zI x3, zI x4, zI x5, vx6, zI x7, zI x8, vx9, vx10] [] h Q =
    mm_Cl 43 [zR x2, zI x7] h (fun r h3 => mm_Wp 297 (bk_297_10.drop 3) [zR (90, 0, 0), zR x1, zR x2, zI x3, zI x4, zI x5, vx6, zI x7, zI x8, vx9, vx10] (mm_push r []) h3 Q) :=
  mm_kb bq_297_10 ((wp_5_2).trans ((wp_3_7).trans ((wp_v2 mm_n_43 (mm_leq mm_m_43 (mm_lb rfl)) (mm_lb rfl) hox2).trans rfl)))
theorem q_297_17 {x1 : mm_Id} {x2 : mm_Id} (x3 : Int) (x4 : Int) (x5 : Int) (x6 : Int) (x7 : Int) (vx8 : mm_V) (vx9 : mm_V) (vx10 : mm_V) {h : mm_H} {Q : mm_V → mm_H → Prop}  :
    mm_Wp 297 (mm_blk 297 17) [zR (90, 0, 0), zR x1, zR x2, zI x3, zI x4, zI x5, zI x6, zI x7, vx8, vx9, vx10] [] h Q =
    (if (mm_and x6 128) = 128 then mm_Wp 297 (mm_blk 297 19) [zR (90, 0, 0), zR x1, zR x2, zI x3, zI x4, zI x5, zI x6, zI x7, vx8, vx9, vx10] [zI 1, zI x7, zR x2] h Q else mm_Wp 297 (mm_blk 297 19) [zR (90, 0, 0), zR x1, zR x2, zI x3, zI x4, zI x5, zI x6, zI x7, vx8, vx9, vx10] [zI 0, zI x7, zR x2] h Q) :=
  mm_kb bq_297_17 ((wp_5_2).trans ((wp_3_7).trans ((wp_3_6).trans ((wp_1).trans ((wp_16).trans ((wp_1).trans ((wp_47).trans (mm_ic ((wp_1).trans ((wp_56).trans (rfl))) (mm_kb bq_297_18 ((wp_1).trans ((wp_0).trans (rfl))))))))))))
theorem q_297_25 {x1 : mm_Id} {x2 : mm_Id} (x3 : Int) (x4 : Int) (x5 : Int) (x6 : Int) (vx7 : mm_V) (vx8 : mm_V) (vx9 : mm_V) (vx10 : mm_V) {h : mm_H} {Q : mm_V → mm_H → Prop}  :
    mm_Wp 297 (mm_blk 297 25) [zR (90, 0, 0), zR x1, zR x2, zI x3, zI x4, zI x5, zI x6, vx7, vx8, vx9, vx10] [] h Q =
    (if (mm_and x6 128) = 128 then mm_Wp 297 (mm_blk 297 27) [zR (90, 0, 0), zR x1, zR x2, zI x3, zI x4, zI x5, zI x6, vx7, vx8, vx9, vx10] [zI 1] h Q else mm_Wp 297 (mm_blk 297 27) [zR (90, 0, 0), zR x1, zR x2, zI x3, zI x4, zI x5, zI x6, vx7, vx8, vx9, vx10] [zI 0] h Q) :=
  mm_kb bq_297_25 ((wp_3_6).trans ((wp_1).trans ((wp_16).trans ((wp_1).trans ((wp_47).trans (mm_ic ((wp_1).trans ((wp_56).trans (rfl))) (mm_kb bq_297_26 ((wp_1).trans ((wp_0).trans (rfl))))))))))
theorem q_307_5_12 (vx0 : mm_V) (vx1 : mm_V) (vx2 : mm_V) (vx3 : mm_V) (vx4 : mm_V) (vx5 : mm_V) (vx6 : mm_V) (y0 : Int) {h : mm_H} {Q : mm_V → mm_H → Prop}  :
    mm_Wp 307 (bk_307_5.drop 12) [vx0, vx1, vx2, vx3, vx4, vx5, vx6] [zI y0] h Q =
    Q (zL y0) h :=
  (wp_31).trans (wp_91)
theorem q_307_6_19 (vx0 : mm_V) (vx1 : mm_V) (vx2 : mm_V) (vx3 : mm_V) (vx4 : mm_V) (vx5 : mm_V) (vx6 : mm_V) (y0 : Int) {h : mm_H} {Q : mm_V → mm_H → Prop}  :
    mm_Wp 307 (bk_307_6.drop 19) [vx0, vx1, vx2, vx3, vx4, vx5, vx6] [zI y0] h Q =
    Q (zL y0) h :=
  (wp_31).trans (wp_91)
theorem q_307_7_7 (vx0 : mm_V) (vx1 : mm_V) (vx2 : mm_V) (vx3 : mm_V) (vx4 : mm_V) (vx5 : mm_V) (vx6 : mm_V) (y0 : Int) {h : mm_H} {Q : mm_V → mm_H → Prop}  :
    mm_Wp 307 (bk_307_7.drop 7) [vx0, vx1, vx2, vx3, vx4, vx5, vx6] [zI y0] h Q =
    Q (zL y0) h :=
  (wp_31).trans (wp_91)
theorem q_307_8_6 (vx0 : mm_V) (vx1 : mm_V) (vx2 : mm_V) (vx3 : mm_V) (vx4 : mm_V) (vx5 : mm_V) (vx6 : mm_V) (y0 : Int) {h : mm_H} {Q : mm_V → mm_H → Prop}  :
    mm_Wp 307 (bk_307_8.drop 6) [vx0, vx1, vx2, vx3, vx4, vx5, vx6] [zI y0] h Q =
    Q (zL y0) h :=
  (wp_31).trans (wp_91)
theorem q_307_9_5 (vx0 : mm_V) (vx1 : mm_V) (vx2 : mm_V) (vx3 : mm_V) (vx4 : mm_V) (vx5 : mm_V) (vx6 : mm_V) (y0 : Int) {h : mm_H} {Q : mm_V → mm_H → Prop}  :
    mm_Wp 307 (bk_307_9.drop 5) [vx0, vx1, vx2, vx3, vx4, vx5, vx6] [zI y0] h Q =
    Q (zL y0) h :=
  (wp_31).trans (wp_91)
theorem q_307_10_17 (vx0 : mm_V) (vx1 : mm_V) (vx2 : mm_V) (vx3 : mm_V) (vx4 : mm_V) (vx5 : mm_V) (vx6 : mm_V) (y0 : Int) {h : mm_H} {Q : mm_V → mm_H → Prop}  :
    mm_Wp 307 (bk_307_10.drop 17) [vx0, vx1, vx2, vx3, vx4, vx5, vx6] [zI y0] h Q =
    Q (zL y0) h :=
  (wp_31).trans (wp_91)
theorem q_307_11_4 (vx0 : mm_V) (vx1 : mm_V) (vx2 : mm_V) (vx3 : mm_V) (vx4 : mm_V) (vx5 : mm_V) (vx6 : mm_V) (y0 : Int) {h : mm_H} {Q : mm_V → mm_H → Prop}  :
    mm_Wp 307 (bk_307_11.drop 4) [vx0, vx1, vx2, vx3, vx4, vx5, vx6] [zI y0] h Q =
    Q (zL y0) h :=
  (wp_31).trans (wp_91)
theorem q_307_12_7 (vx0 : mm_V) (vx1 : mm_V) (vx2 : mm_V) (vx3 : mm_V) (vx4 : mm_V) (vx5 : mm_V) (vx6 : mm_V) (y0 : Int) {h : mm_H} {Q : mm_V → mm_H → Prop}  :
    mm_Wp 307 (bk_307_12.drop 7) [vx0, vx1, vx2, vx3, vx4, vx5, vx6] [zI y0] h Q =
    Q (zL y0) h :=
  (wp_31).trans (wp_91)
theorem q_307_13_3 (vx0 : mm_V) (vx1 : mm_V) (vx2 : mm_V) (vx3 : mm_V) (vx4 : mm_V) (vx5 : mm_V) (vx6 : mm_V) (y0 : Int) {h : mm_H} {Q : mm_V → mm_H → Prop}  :
    mm_Wp 307 (bk_307_13.drop 3) [vx0, vx1, vx2, vx3, vx4, vx5, vx6] [zI y0] h Q =
    Q (zL y0) h :=
  (wp_31).trans (wp_91)
theorem q_307_14_7 (vx0 : mm_V) (vx1 : mm_V) (vx2 : mm_V) (vx3 : mm_V) (vx4 : mm_V) (vx5 : mm_V) (vx6 : mm_V) (y0 : Int) {h : mm_H} {Q : mm_V → mm_H → Prop}  :
    mm_Wp 307 (bk_307_14.drop 7) [vx0, vx1, vx2, vx3, vx4, vx5, vx6] [zI y0] h Q =
    Q (zL y0) h :=
  (wp_31).trans (wp_91)
theorem q_307_15_14 (vx0 : mm_V) (vx1 : mm_V) (vx2 : mm_V) (vx3 : mm_V) (vx4 : mm_V) (vx5 : mm_V) (vx6 : mm_V) (y0 : Int) {h : mm_H} {Q : mm_V → mm_H → Prop}  :
    mm_Wp 307 (bk_307_15.drop 14) [vx0, vx1, vx2, vx3, vx4, vx5, vx6] [zI y0] h Q =
    Q (zL y0) h :=
  (wp_31).trans (wp_91)
theorem q_307_18 (vx0 : mm_V) (vx1 : mm_V) (vx2 : mm_V) (vx3 : mm_V) (vx4 : mm_V) (vx5 : mm_V) (vx6 : mm_V) (y0 : Int) {y1 : mm_Id} {h : mm_H} {Q : mm_V → mm_H → Prop} (hoy1 : mm_ok y1 h.2.2.1 1 0 = true) :
    mm_Wp 307 (mm_blk 307 18) [vx0, vx1, vx2, vx3, vx4, vx5, vx6] [zI y0, zR y1] h Q =
    mm_Cl 31 [zR y1, zI y0] h (fun r h3 => mm_Wp 307 (bk_307_18.drop 1) [vx0, vx1, vx2, vx3, vx4, vx5, vx6] (mm_push r []) h3 Q) :=
  mm_kb bq_307_18 ((wp_v2 mm_n_31 (mm_leq mm_m_31 (mm_lb rfl)) (mm_lb rfl) hoy1).trans rfl)
theorem q_307_19_14 (vx0 : mm_V) (vx1 : mm_V) (vx2 : mm_V) (vx3 : mm_V) (vx4 : mm_V) (vx5 : mm_V) (vx6 : mm_V) (y0 : Int) {h : mm_H} {Q : mm_V → mm_H → Prop}  :
    mm_Wp 307 (bk_307_19.drop 14) [vx0, vx1, vx2, vx3, vx4, vx5, vx6] [zI y0] h Q =
    Q (zL y0) h :=
  (wp_31).trans (wp_91)
theorem q_307_20_7 (vx0 : mm_V) (vx1 : mm_V) (vx2 : mm_V) (vx3 : mm_V) (vx4 : mm_V) (vx5 : mm_V) (vx6 : mm_V) (y0 : Int) {h : mm_H} {Q : mm_V → mm_H → Prop}  :
    mm_Wp 307 (bk_307_20.drop 7) [vx0, vx1, vx2, vx3, vx4, vx5, vx6] [zI y0] h Q =
    Q (zL y0) h :=
  (wp_31).trans (wp_91)
theorem q_307_26_2 (vx0 : mm_V) (vx1 : mm_V) (vx2 : mm_V) (vx3 : mm_V) (vx4 : mm_V) (vx5 : mm_V) (vx6 : mm_V) (y0 : Int) {h : mm_H} {Q : mm_V → mm_H → Prop}  :
    mm_Wp 307 (bk_307_26.drop 2) [vx0, vx1, vx2, vx3, vx4, vx5, vx6] [zI y0] h Q =
    mm_Wp 307 (mm_blk 307 27) [vx0, vx1, vx2, vx3, vx4, vx5, vx6] [zL y0] h Q :=
  (wp_31).trans ((wp_0).trans (rfl))
theorem q_307_25_7 (vx0 : mm_V) (vx1 : mm_V) (vx2 : mm_V) (vx3 : mm_V) (vx4 : mm_V) (vx5 : mm_V) (vx6 : mm_V) (y0 : Int) {h : mm_H} {Q : mm_V → mm_H → Prop}  :
    mm_Wp 307 (bk_307_25.drop 7) [vx0, vx1, vx2, vx3, vx4, vx5, vx6] [zI y0] h Q =
    mm_Wp 307 (mm_blk 307 27) [vx0, vx1, vx2, vx3, vx4, vx5, vx6] [zL y0] h Q :=
  (wp_31).trans ((wp_56).trans (rfl))
theorem q_307_24_19 (vx0 : mm_V) (vx1 : mm_V) (vx2 : mm_V) (vx3 : mm_V) (vx4 : mm_V) (vx5 : mm_V) (vx6 : mm_V) (y0 : Int) {h : mm_H} {Q : mm_V → mm_H → Prop}  :
    mm_Wp 307 (bk_307_24.drop 19) [vx0, vx1, vx2, vx3, vx4, vx5, vx6] [zI y0] h Q =
    mm_Wp 307 (mm_blk 307 27) [vx0, vx1, vx2, vx3, vx4, vx5, vx6] [zL y0] h Q :=
  (wp_31).trans ((wp_56).trans (rfl))
theorem q_307_23 (vx0 : mm_V) (vx1 : mm_V) (vx2 : mm_V) (vx3 : mm_V) (vx4 : mm_V) (vx5 : mm_V) (vx6 : mm_V) (y0 : Int) (y1 : Int) {y2 : mm_Id} {h : mm_H} {Q : mm_V → mm_H → Prop} (hoy2 : mm_ok y2 h.2.2.1 1 0 = true) :
    mm_Wp 307 (mm_blk 307 23) [vx0, vx1, vx2, vx3, vx4, vx5, vx6] [zI y0, zI y1, zR y2] h Q =
    mm_Cl 32 [zR y2, zI y1, zI y0] h (fun r h3 => mm_Wp 307 (bk_307_23.drop 1) [vx0, vx1, vx2, vx3, vx4, vx5, vx6] (mm_push r []) h3 Q) :=
  mm_kb bq_307_23 ((wp_v3 mm_n_32 (mm_leq mm_m_32 (mm_lb rfl)) (mm_lb rfl) hoy2).trans rfl)
theorem q_308_9 (vx0 : mm_V) (vx1 : mm_V) (vx2 : mm_V) (vx3 : mm_V) (vx4 : mm_V) (vx5 : mm_V) {h : mm_H} {Q : mm_V → mm_H → Prop}  :
    mm_Wp 308 (mm_blk 308 9) [vx0, vx1, vx2, vx3, vx4, vx5] [] h Q =
    mm_Wp 308 (mm_blk 308 10) [vx0, vx1, vx2, vx3, vx4, vx5] [zI 0] h Q :=
  mm_kb bq_308_9 ((wp_1).trans ((wp_0).trans (rfl)))
theorem q_308_8_15 (vx0 : mm_V) {x1 : mm_Id} (vx2 : mm_V) (vx3 : mm_V) (vx4 : mm_V) (vx5 : mm_V) (y0 : Int) {h : mm_H} {Q : mm_V → mm_H → Prop} (hox1 : mm_ok x1 h.2.2.1 1 0 = true) :
    mm_Wp 308 (bk_308_8.drop 15) [vx0, zR x1, vx2, vx3, vx4, vx5] [zI y0] h Q =
    (if y0 = 0 then mm_Cl 52 [zR x1] h (fun r h3 => mm_Wp 308 (bk_308_8.drop 18) [vx0, zR x1, vx2, vx3, vx4, vx5] (mm_push r []) h3 Q) else mm_Wp 308 (mm_blk 308 9) [vx0, zR x1, vx2, vx3, vx4, vx5] [] h Q) :=
  (wp_41).trans (mm_ic ((wp_5_1).trans ((wp_v1 mm_n_52 (mm_leq mm_m_52 (mm_lb rfl)) (mm_lb rfl) hox1).trans rfl)) (rfl))
theorem q_308_5_8 {x0 : mm_Id} {x1 : mm_Id} (x2 : Int) (x3 : Int) (x4 : Int) (vx5 : mm_V) (y0 : Int) (y1 : Int) {h : mm_H} {Q : mm_V → mm_H → Prop} (hox0 : mm_ok x0 h.2.2.1 1 0 = true) :
    mm_Wp 308 (bk_308_5.drop 8) [zR x0, zR x1, zI x2, zI x3, zI x4, vx5] [zI y0, zI y1] h Q =
    (if y1 = y0 then mm_Cl 34 [zR x0, zI x4, zI 1] h (fun r h3 => mm_Wp 308 (bk_308_5.drop 13) [zR x0, zR x1, zI x2, zI x3, zI x4, vx5] (mm_push r []) h3 Q) else mm_Wp 308 (mm_blk 308 6) [zR x0, zR x1, zI x2, zI x3, zI x4, vx5] [] h Q) :=
  (wp_47).trans (mm_ic ((wp_5_0).trans ((wp_3_4).trans ((wp_1).trans ((wp_v3 mm_n_34 (mm_leq mm_m_34 (mm_lb rfl)) (mm_lb rfl) hox0).trans rfl)))) (rfl))
theorem q_308_2_13 {x0 : mm_Id} {x1 : mm_Id} (x2 : Int) (x3 : Int) (x4 : Int) (x5 : Int) (y0 : Int) (y1 : Int) {h : mm_H} {Q : mm_V → mm_H → Prop} (hox0 : mm_ok x0 h.2.2.1 1 0 = true) :
    mm_Wp 308 (bk_308_2.drop 13) [zR x0, zR x1, zI x2, zI x3, zI x4, zI x5] [zI y0, zI y1] h Q =
    (if y1 = y0 then mm_Cl 35 [zR x0, zI x4, zI x5] h (fun r h3 => mm_Wp 308 (bk_308_2.drop 18) [zR x0, zR x1, zI x2, zI x3, zI x4, zI x5] (mm_push r []) h3 Q) else mm_Wp 308 (mm_blk 308 3) [zR x0, zR x1, zI x2, zI x3, zI x4, zI x5] [] h Q) :=
  (wp_47).trans (mm_ic ((wp_5_0).trans ((wp_3_4).trans ((wp_3_5).trans ((wp_v3 mm_n_35 (mm_leq mm_m_35 (mm_lb rfl)) (mm_lb rfl) hox0).trans rfl)))) (rfl))
theorem q_297_46 (vx0 : mm_V) (vx1 : mm_V) (vx2 : mm_V) (vx3 : mm_V) (vx4 : mm_V) (vx5 : mm_V) (vx6 : mm_V) (vx7 : mm_V) (vx8 : mm_V) (vx9 : mm_V) (vx10 : mm_V) {h : mm_H} {Q : mm_V → mm_H → Prop}  :
    mm_Wp 297 (mm_blk 297 46) [vx0, vx1, vx2, vx3, vx4, vx5, vx6, vx7, vx8, vx9, vx10] [] h Q =
    mm_Wp 297 (mm_blk 297 47) [vx0, vx1, vx2, vx3, vx4, vx5, vx6, vx7, vx8, vx9, vx10] [zI 0] h Q :=
  mm_kb bq_297_46 ((wp_1).trans ((wp_0).trans (rfl)))
theorem q_297_45_11 (vx0 : mm_V) {x1 : mm_Id} {x2 : mm_Id} (vx3 : mm_V) (vx4 : mm_V) (vx5 : mm_V) (vx6 : mm_V) (vx7 : mm_V) (vx8 : mm_V) (vx9 : mm_V) (vx10 : mm_V) (y0 : Int) {h : mm_H} {Q : mm_V → mm_H → Prop}  :
    mm_Wp 297 (bk_297_45.drop 11) [vx0, zR x1, zR x2, vx3, vx4, vx5, vx6, vx7, vx8, vx9, vx10] [zI y0] h Q =
    (if y0 = 0 then mm_Wp 297 (mm_blk 297 46) [vx0, zR x1, zR x2, vx3, vx4, vx5, vx6, vx7, vx8, vx9, vx10] [] h Q else mm_Cl 308 [zR x1, zR x2, zI 16] h (fun r h3 => mm_Wp 297 (bk_297_45.drop 16) [vx0, zR x1, zR x2, vx3, vx4, vx5, vx6, vx7, vx8, vx9, vx10] (mm_push r []) h3 Q)) :=
  (wp_40).trans (mm_ic (rfl) ((wp_5_1).trans ((wp_5_2).trans ((wp_1).trans ((wp_s3 mm_n_308 (mm_leq mm_m_308 (mm_lb rfl)) (mm_lb rfl)).trans rfl)))))
theorem q_297_35_17 {x1 : mm_Id} {x2 : mm_Id} (x3 : Int) (x4 : Int) (x5 : Int) (vx6 : mm_V) (vx7 : mm_V) (vx8 : mm_V) (vx9 : mm_V) (x10 : Int) (y0 : Int) {h : mm_H} {Q : mm_V → mm_H → Prop} (hox2 : mm_ok x2 h.2.2.1 1 0 = true) :
    mm_Wp 297 (bk_297_35.drop 17) [zR (90, 0, 0), zR x1, zR x2, zI x3, zI x4, zI x5, vx6, vx7, vx8, vx9, zI x10] [zI y0] h Q =
    mm_Cl 41 [zR x2, zI x10] h (fun r h3 => mm_Wp 297 (bk_297_35.drop 20) [zR (90, 0, 0), zR x1, zR x2, zI x3, zI x4, zI x5, vx6, vx7, vx8, vx9, zI x10] (mm_push r [zI y0]) h3 Q) :=
  (wp_5_2).trans ((wp_3_10).trans ((wp_v2 mm_n_41 (mm_leq mm_m_41 (mm_lb rfl)) (mm_lb rfl) hox2).trans rfl))
theorem q_297_36_10 {x1 : mm_Id} {x2 : mm_Id} (x3 : Int) (x4 : Int) (x5 : Int) (vx6 : mm_V) (vx7 : mm_V) (vx8 : mm_V) (vx9 : mm_V) (vx10 : mm_V) (y0 : Int) {h : mm_H} {Q : mm_V → mm_H → Prop}  :
    mm_Wp 297 (bk_297_36.drop 10) [zR (90, 0, 0), zR x1, zR x2, zI x3, zI x4, zI x5, vx6, vx7, vx8, vx9, vx10] [zL y0] h Q =
    ((0 ≤ x5 ∧ x5 < h.1 (90, 0, 0) (-1)) ∧ ((0 ≤ (mm_w (x5 + 1)) ∧ (mm_w (x5 + 1)) < h.1 (90, 0, 0) (-1)) ∧ mm_Cl 307 [zR x2, zI (h.1 (90, 0, 0) x5), zI (h.1 (90, 0, 0) (mm_w (x5 + 1)))] h (fun r h3 => mm_Wp 297 (bk_297_36.drop 20) [zR (90, 0, 0), zR x1, zR x2, zI x3, zI x4, zI x5, vx6, vx7, vx8, vx9, vx10] (mm_push r [zL y0]) h3 Q))) :=
  (wp_5_2).trans ((wp_5_0).trans ((wp_3_5).trans ((wk_70s).trans (mm_ae ((wp_5_0).trans ((wp_3_5).trans ((wp_1).trans ((wp_10).trans ((wk_70s).trans (mm_ae ((wp_s3 mm_n_307 (mm_leq mm_m_307 (mm_lb rfl)) (mm_lb rfl)).trans rfl)))))))))))
theorem q_297_6_11 {x1 : mm_Id} {x2 : mm_Id} (x3 : Int) (x4 : Int) (x5 : Int) (vx6 : mm_V) (x7 : Int) (x8 : Int) (vx9 : mm_V) (vx10 : mm_V) (y0 : Int) {h : mm_H} {Q : mm_V → mm_H → Prop}  :
    mm_Wp 297 (bk_297_6.drop 11) [zR (90, 0, 0), zR x1, zR x2, zI x3, zI x4, zI x5, vx6, zI x7, zI x8, vx9, vx10] [zI y0] h Q =
    (if y0 = x8 then (if x8 = 1 then mm_Wp 297 (mm_blk 297 9) [zR (90, 0, 0), zR x1, zR x2, zI x3, zI x4, zI x5, vx6, zI x7, zI x8, vx9, vx10] [zI x7] h Q else mm_Wp 297 (mm_blk 297 9) [zR (90, 0, 0), zR x1, zR x2, zI x3, zI x4, zI x5, vx6, zI x7, zI x8, vx9, vx10] [zI x3] h Q) else Q (zI 0) h) :=
  (wp_3_8).trans ((wp_46).trans (mm_ic (mm_kb bq_297_7 ((wp_3_8).trans ((wp_1).trans ((wp_47).trans (mm_ic ((wp_3_7).trans ((wp_56).trans (rfl))) (mm_kb bq_297_8 ((wp_3_3).trans ((wp_0).trans (rfl))))))))) ((wp_1).trans (wp_94k (by decide)))))
theorem q_297_10_3 {x1 : mm_Id} {x2 : mm_Id} (x3 : Int) (x4 : Int) (x5 : Int) (vx6 : mm_V) (x7 : Int) (x8 : Int) (vx9 : mm_V) (vx10 : mm_V) (y0 : Int) {h : mm_H} {Q : mm_V → mm_H → Prop}  :
    mm_Wp 297 (bk_297_10.drop 3) [zR (90, 0, 0), zR x1, zR x2, zI x3, zI x4, zI x5, vx6, zI x7, zI x8, vx9, vx10] [zI y0] h Q =
    (if y0 = x8 then (if x4 = 0 then (if x8 = 1 then mm_Wp 297 (mm_blk 297 12) [zR (90, 0, 0), zR x1, zR x2, zI x3, zI x4, zI x5, vx6, zI x7, zI x8, vx9, vx10] [] h Q else mm_Wp 297 (mm_blk 297 14) [zR (90, 0, 0), zR x1, zR x2, zI x3, zI x4, zI x5, vx6, zI x7, zI x8, vx9, vx10] [zI 0] h Q) else mm_Wp 297 (mm_blk 297 12) [zR (90, 0, 0), zR x1, zR x2, zI x3, zI x4, zI x5, vx6, zI x7, zI x8, vx9, vx10] [] h Q) else Q (zI 0) h) :=
  (wp_3_8).trans ((wp_46).trans (mm_ic (mm_kb bq_297_11 ((wp_3_4).trans ((wp_41).trans (mm_ic ((wp_3_8).trans ((wp_1).trans ((wp_47).trans (mm_ic ((wp_0).trans (rfl)) (mm_kb bq_297_13 ((wp_1).trans ((wp_0).trans (rfl)))))))) (rfl))))) ((wp_1).trans (wp_94k (by decide)))))
theorem q_297_19 {x1 : mm_Id} {x2 : mm_Id} (x3 : Int) (x4 : Int) (x5 : Int) (vx6 : mm_V) (x7 : Int) (vx8 : mm_V) (vx9 : mm_V) (vx10 : mm_V) (y0 : Int) (y1 : Int) {y2 : mm_Id} {h : mm_H} {Q : mm_V → mm_H → Prop} (hoy2 : mm_ok y2 h.2.2.1 1 0 = true) :
    mm_Wp 297 (mm_blk 297 19) [zR (90, 0, 0), zR x1, zR x2, zI x3, zI x4, zI x5, vx6, zI x7, vx8, vx9, vx10] [zI y0, zI y1, zR y2] h Q =
    mm_Cl 44 [zR y2, zI y1, zI y0] h (fun r h3 => mm_Wp 297 (bk_297_19.drop 1) [zR (90, 0, 0), zR x1, zR x2, zI x3, zI x4, zI x5, vx6, zI x7, vx8, vx9, vx10] (mm_push r []) h3 Q) :=
  mm_kb bq_297_19 ((wp_v3 mm_n_44 (mm_leq mm_m_44 (mm_lb rfl)) (mm_lb rfl) hoy2).trans rfl)
theorem q_297_27 {x1 : mm_Id} {x2 : mm_Id} (x3 : Int) (x4 : Int) (x5 : Int) (vx6 : mm_V) (vx7 : mm_V) (vx8 : mm_V) (vx9 : mm_V) (vx10 : mm_V) (y0 : Int) {h : mm_H} {Q : mm_V → mm_H → Prop} (hvx8 : mm_wt vx8 = 1) (hox2 : mm_ok x2 h.2.2.1 1 0 = true) :
    mm_Wp 297 (mm_blk 297 27) [zR (90, 0, 0), zR x1, zR x2, zI x3, zI x4, zI x5, vx6, vx7, vx8, vx9, vx10] [zI y0] h Q =
    mm_Cl 45 [zR x2, zI y0] h (fun r h3 => mm_Wp 297 (bk_297_27.drop 4) [zR (90, 0, 0), zR x1, zR x2, zI x3, zI x4, zI x5, vx6, vx7, vx8, zI y0, vx10] (mm_push r []) h3 Q) :=
  mm_kb bq_297_27 ((wp_6 (l2 := [zR (90, 0, 0), zR x1, zR x2, zI x3, zI x4, zI x5, vx6, vx7, vx8, zI y0, vx10]) ((if_pos (mm_lb rfl)).trans (congrArg some (mm_stw rfl hvx8)))).trans ((wp_5_2).trans ((wp_3_9).trans ((wp_v2 mm_n_45 (mm_leq mm_m_45 (mm_lb rfl)) (mm_lb rfl) hox2).trans rfl))))
theorem q_307_18_1 (vx0 : mm_V) (vx1 : mm_V) (vx2 : mm_V) (vx3 : mm_V) (vx4 : mm_V) (vx5 : mm_V) (vx6 : mm_V) (y0 : Int) {h : mm_H} {Q : mm_V → mm_H → Prop}  :
    mm_Wp 307 (bk_307_18.drop 1) [vx0, vx1, vx2, vx3, vx4, vx5, vx6] [zI y0] h Q =
    Q (zL y0) h :=
  (wp_31).trans (wp_91)
theorem q_307_27 (vx0 : mm_V) (vx1 : mm_V) (vx2 : mm_V) (vx3 : mm_V) (vx4 : mm_V) (vx5 : mm_V) (vx6 : mm_V) (y0 : Int) {h : mm_H} {Q : mm_V → mm_H → Prop}  :
    mm_Wp 307 (mm_blk 307 27) [vx0, vx1, vx2, vx3, vx4, vx5, vx6] [zL y0] h Q =
    Q (zL y0) h :=
  mm_kb bq_307_27 (wp_91)
theorem q_307_23_1 (vx0 : mm_V) (vx1 : mm_V) (vx2 : mm_V) (vx3 : mm_V) (vx4 : mm_V) (vx5 : mm_V) (vx6 : mm_V) (y0 : Int) {h : mm_H} {Q : mm_V → mm_H → Prop}  :
    mm_Wp 307 (bk_307_23.drop 1) [vx0, vx1, vx2, vx3, vx4, vx5, vx6] [zI y0] h Q =
    mm_Wp 307 (mm_blk 307 27) [vx0, vx1, vx2, vx3, vx4, vx5, vx6] [zL y0] h Q :=
  (wp_31).trans ((wp_56).trans (rfl))
theorem q_308_10 (vx0 : mm_V) (vx1 : mm_V) (vx2 : mm_V) (vx3 : mm_V) (vx4 : mm_V) (vx5 : mm_V) (y0 : Int) {h : mm_H} {Q : mm_V → mm_H → Prop}  :
    mm_Wp 308 (mm_blk 308 10) [vx0, vx1, vx2, vx3, vx4, vx5] [zI y0] h Q =
    ((y0 = 0 ∨ y0 = 1) ∧ Q (zI y0) h) :=
  mm_kb bq_308_10 (wp_94z)
theorem q_308_8_18 (vx0 : mm_V) (vx1 : mm_V) (vx2 : mm_V) (vx3 : mm_V) (vx4 : mm_V) (vx5 : mm_V) (y0 : Int) {h : mm_H} {Q : mm_V → mm_H → Prop}  :
    mm_Wp 308 (bk_308_8.drop 18) [vx0, vx1, vx2, vx3, vx4, vx5] [zI y0] h Q =
    (if y0 = 0 then mm_Wp 308 (mm_blk 308 10) [vx0, vx1, vx2, vx3, vx4, vx5] [zI 1] h Q else mm_Wp 308 (mm_blk 308 9) [vx0, vx1, vx2, vx3, vx4, vx5] [] h Q) :=
  (wp_41).trans (mm_ic ((wp_1).trans ((wp_56).trans (rfl))) (rfl))
theorem q_308_6 (vx0 : mm_V) (vx1 : mm_V) (vx2 : mm_V) (vx3 : mm_V) (vx4 : mm_V) (vx5 : mm_V) {h : mm_H} {Q : mm_V → mm_H → Prop}  :
    mm_Wp 308 (mm_blk 308 6) [vx0, vx1, vx2, vx3, vx4, vx5] [] h Q =
    Q (zI 0) h :=
  mm_kb bq_308_6 ((wp_1).trans (wp_94k (by decide)))
theorem q_308_5_13 {x0 : mm_Id} {x1 : mm_Id} (x2 : Int) (x3 : Int) (x4 : Int) (vx5 : mm_V) (y0 : Int) {h : mm_H} {Q : mm_V → mm_H → Prop} (hox1 : mm_ok x1 h.2.2.1 1 0 = true) :
    mm_Wp 308 (bk_308_5.drop 13) [zR x0, zR x1, zI x2, zI x3, zI x4, vx5] [zI y0] h Q =
    mm_Cl 34 [zR x1, zI x4, zI 1] h (fun r h3 => mm_Wp 308 (bk_308_5.drop 17) [zR x0, zR x1, zI x2, zI x3, zI x4, vx5] (mm_push r [zI y0]) h3 Q) :=
  (wp_5_1).trans ((wp_3_4).trans ((wp_1).trans ((wp_v3 mm_n_34 (mm_leq mm_m_34 (mm_lb rfl)) (mm_lb rfl) hox1).trans rfl)))
theorem q_308_3 (vx0 : mm_V) (vx1 : mm_V) (vx2 : mm_V) (vx3 : mm_V) (vx4 : mm_V) (vx5 : mm_V) {h : mm_H} {Q : mm_V → mm_H → Prop}  :
    mm_Wp 308 (mm_blk 308 3) [vx0, vx1, vx2, vx3, vx4, vx5] [] h Q =
    Q (zI 0) h :=
  mm_kb bq_308_3 ((wp_1).trans (wp_94k (by decide)))
theorem q_308_2_18 {x0 : mm_Id} {x1 : mm_Id} (x2 : Int) (x3 : Int) (x4 : Int) (x5 : Int) (y0 : Int) {h : mm_H} {Q : mm_V → mm_H → Prop} (hox1 : mm_ok x1 h.2.2.1 1 0 = true) :
    mm_Wp 308 (bk_308_2.drop 18) [zR x0, zR x1, zI x2, zI x3, zI x4, zI x5] [zI y0] h Q =
    mm_Cl 35 [zR x1, zI x4, zI x5] h (fun r h3 => mm_Wp 308 (bk_308_2.drop 22) [zR x0, zR x1, zI x2, zI x3, zI x4, zI x5] (mm_push r [zI y0]) h3 Q) :=
  (wp_5_1).trans ((wp_3_4).trans ((wp_3_5).trans ((wp_v3 mm_n_35 (mm_leq mm_m_35 (mm_lb rfl)) (mm_lb rfl) hox1).trans rfl)))
theorem q_297_47 (vx0 : mm_V) (vx1 : mm_V) (vx2 : mm_V) (vx3 : mm_V) (vx4 : mm_V) (vx5 : mm_V) (vx6 : mm_V) (vx7 : mm_V) (vx8 : mm_V) (vx9 : mm_V) (vx10 : mm_V) (y0 : Int) {h : mm_H} {Q : mm_V → mm_H → Prop}  :
    mm_Wp 297 (mm_blk 297 47) [vx0, vx1, vx2, vx3, vx4, vx5, vx6, vx7, vx8, vx9, vx10] [zI y0] h Q =
    ((y0 = 0 ∨ y0 = 1) ∧ Q (zI y0) h) :=
  mm_kb bq_297_47 (wp_94z)
theorem q_297_45_16 (vx0 : mm_V) (vx1 : mm_V) (vx2 : mm_V) (vx3 : mm_V) (vx4 : mm_V) (vx5 : mm_V) (vx6 : mm_V) (vx7 : mm_V) (vx8 : mm_V) (vx9 : mm_V) (vx10 : mm_V) (y0 : Int) {h : mm_H} {Q : mm_V → mm_H → Prop}  :
    mm_Wp 297 (bk_297_45.drop 16) [vx0, vx1, vx2, vx3, vx4, vx5, vx6, vx7, vx8, vx9, vx10] [zI y0] h Q =
    (if y0 = 0 then mm_Wp 297 (mm_blk 297 46) [vx0, vx1, vx2, vx3, vx4, vx5, vx6, vx7, vx8, vx9, vx10] [] h Q else mm_Wp 297 (mm_blk 297 47) [vx0, vx1, vx2, vx3, vx4, vx5, vx6, vx7, vx8, vx9, vx10] [zI 1] h Q) :=
  (wp_40).trans (mm_ic (rfl) ((wp_1).trans ((wp_56).trans (rfl))))
theorem q_297_35_20 {x1 : mm_Id} {x2 : mm_Id} (x3 : Int) (x4 : Int) (x5 : Int) (vx6 : mm_V) (vx7 : mm_V) (vx8 : mm_V) (vx9 : mm_V) (vx10 : mm_V) (y0 : Int) (y1 : Int) {h : mm_H} {Q : mm_V → mm_H → Prop}  :
    mm_Wp 297 (bk_297_35.drop 20) [zR (90, 0, 0), zR x1, zR x2, zI x3, zI x4, zI x5, vx6, vx7, vx8, vx9, vx10] [zI y0, zI y1] h Q =
    (if y1 = y0 then mm_Wp 297 (mm_blk 297 36) [zR (90, 0, 0), zR x1, zR x2, zI x3, zI x4, zI x5, vx6, vx7, vx8, vx9, vx10] [] h Q else Q (zI 0) h) :=
  (wp_46).trans (mm_ic (rfl) ((wp_1).trans (wp_94k (by decide))))
theorem q_297_36_20 {x1 : mm_Id} {x2 : mm_Id} (x3 : Int) (x4 : Int) (x5 : Int) (vx6 : mm_V) (vx7 : mm_V) (vx8 : mm_V) (vx9 : mm_V) (vx10 : mm_V) (y0 : Int) (y1 : Int) {h : mm_H} {Q : mm_V → mm_H → Prop}  :
    mm_Wp 297 (bk_297_36.drop 20) [zR (90, 0, 0), zR x1, zR x2, zI x3, zI x4, zI x5, vx6, vx7, vx8, vx9, vx10] [zL y0, zL y1] h Q =
    (if (mm_cmp y1 y0) = 0 then ((0 ≤ (mm_w (x5 + 1)) ∧ (mm_w (x5 + 1)) < h.1 (90, 0, 0) (-1)) ∧ mm_Cl 308 [zR x1, zR x2, zI (h.1 (90, 0, 0) (mm_w (x5 + 1)))] h (fun r h3 => mm_Wp 297 (bk_297_36.drop 30) [zR (90, 0, 0), zR x1, zR x2, zI x3, zI x4, zI x5, vx6, vx7, vx8, vx9, vx10] (mm_push r []) h3 Q)) else mm_Wp 297 (mm_blk 297 37) [zR (90, 0, 0), zR x1, zR x2, zI x3, zI x4, zI x5, vx6, vx7, vx8, vx9, vx10] [] h Q) :=
  (wp_34).trans ((wp_41).trans (mm_ic ((wp_5_1).trans ((wp_5_2).trans ((wp_5_0).trans ((wp_3_5).trans ((wp_1).trans ((wp_10).trans ((wk_70s).trans (mm_ae ((wp_s3 mm_n_308 (mm_leq mm_m_308 (mm_lb rfl)) (mm_lb rfl)).trans rfl))))))))) (rfl)))
theorem q_297_9 {x1 : mm_Id} {x2 : mm_Id} (vx3 : mm_V) (x4 : Int) (x5 : Int) (vx6 : mm_V) (vx7 : mm_V) (vx8 : mm_V) (vx9 : mm_V) (vx10 : mm_V) (y0 : Int) {h : mm_H} {Q : mm_V → mm_H → Prop}  :
    mm_Wp 297 (mm_blk 297 9) [zR (90, 0, 0), zR x1, zR x2, vx3, zI x4, zI x5, vx6, vx7, vx8, vx9, vx10] [zI y0] h Q =
    mm_Wp 297 (mm_blk 297 36) [zR (90, 0, 0), zR x1, zR x2, zI y0, zI x4, zI x5, vx6, vx7, vx8, vx9, vx10] [] h Q :=
  mm_kb bq_297_9 ((wp_6 (l2 := [zR (90, 0, 0), zR x1, zR x2, zI y0, zI x4, zI x5, vx6, vx7, vx8, vx9, vx10]) rfl).trans ((wp_56).trans (rfl)))
theorem q_297_12 {x1 : mm_Id} {x2 : mm_Id} (x3 : Int) (vx4 : mm_V) (x5 : Int) (vx6 : mm_V) (x7 : Int) (x8 : Int) (vx9 : mm_V) (vx10 : mm_V) {h : mm_H} {Q : mm_V → mm_H → Prop}  :
    mm_Wp 297 (mm_blk 297 12) [zR (90, 0, 0), zR x1, zR x2, zI x3, vx4, zI x5, vx6, zI x7, zI x8, vx9, vx10] [] h Q =
    mm_Wp 297 (mm_blk 297 14) [zR (90, 0, 0), zR x1, zR x2, zI x3, vx4, zI x5, vx6, zI x7, zI x8, vx9, vx10] [zI 1] h Q :=
  mm_kb bq_297_12 ((wp_1).trans ((wp_56).trans (rfl)))
theorem q_297_14 {x1 : mm_Id} {x2 : mm_Id} (x3 : Int) (vx4 : mm_V) (x5 : Int) (vx6 : mm_V) (x7 : Int) (x8 : Int) (vx9 : mm_V) (vx10 : mm_V) (y0 : Int) {h : mm_H} {Q : mm_V → mm_H → Prop}  :
    mm_Wp 297 (mm_blk 297 14) [zR (90, 0, 0), zR x1, zR x2, zI x3, vx4, zI x5, vx6, zI x7, zI x8, vx9, vx10] [zI y0] h Q =
    (if x8 = 1 then mm_Wp 297 (mm_blk 297 16) [zR (90, 0, 0), zR x1, zR x2, zI x3, zI y0, zI x5, vx6, zI x7, zI x8, vx9, vx10] [zI x7] h Q else mm_Wp 297 (mm_blk 297 16) [zR (90, 0, 0), zR x1, zR x2, zI x3, zI y0, zI x5, vx6, zI x7, zI x8, vx9, vx10] [zI x3] h Q) :=
  mm_kb bq_297_14 ((wp_6 (l2 := [zR (90, 0, 0), zR x1, zR x2, zI x3, zI y0, zI x5, vx6, zI x7, zI x8, vx9, vx10]) rfl).trans ((wp_3_8).trans ((wp_1).trans ((wp_47).trans (mm_ic ((wp_3_7).trans ((wp_56).trans (rfl))) (mm_kb bq_297_15 ((wp_3_3).trans ((wp_0).trans (rfl)))))))))
theorem q_297_19_1 {x1 : mm_Id} {x2 : mm_Id} (x3 : Int) (x4 : Int) (x5 : Int) (vx6 : mm_V) (x7 : Int) (vx8 : mm_V) (vx9 : mm_V) (vx10 : mm_V) (y0 : Int) {h : mm_H} {Q : mm_V → mm_H → Prop}  :
    mm_Wp 297 (bk_297_19.drop 1) [zR (90, 0, 0), zR x1, zR x2, zI x3, zI x4, zI x5, vx6, zI x7, vx8, vx9, vx10] [zI y0] h Q =
    (if x4 = 0 then mm_Wp 297 (mm_blk 297 20) [zR (90, 0, 0), zR x1, zR x2, zI x3, zI x4, zI x5, vx6, zI x7, vx8, vx9, vx10] [zI y0] h Q else (if x3 = x7 then mm_Wp 297 (mm_blk 297 21) [zR (90, 0, 0), zR x1, zR x2, zI x3, zI x4, zI x5, vx6, zI x7, vx8, vx9, vx10] [zI 1, zI y0] h Q else mm_Wp 297 (mm_blk 297 20) [zR (90, 0, 0), zR x1, zR x2, zI x3, zI x4, zI x5, vx6, zI x7, vx8, vx9, vx10] [zI y0] h Q)) :=
  (wp_3_4).trans ((wp_40).trans (mm_ic (rfl) ((wp_3_3).trans ((wp_3_7).trans ((wp_47).trans (mm_ic ((wp_1).trans ((wp_56).trans (rfl))) (rfl)))))))
theorem q_297_27_4 {x1 : mm_Id} {x2 : mm_Id} (x3 : Int) (x4 : Int) (x5 : Int) (vx6 : mm_V) (vx7 : mm_V) (vx8 : mm_V) (x9 : Int) (vx10 : mm_V) (y0 : Int) {h : mm_H} {Q : mm_V → mm_H → Prop}  :
    mm_Wp 297 (bk_297_27.drop 4) [zR (90, 0, 0), zR x1, zR x2, zI x3, zI x4, zI x5, vx6, vx7, vx8, zI x9, vx10] [zI y0] h Q =
    (if x4 = 0 then (if x9 = 0 then mm_Wp 297 (mm_blk 297 30) [zR (90, 0, 0), zR x1, zR x2, zI x3, zI x4, zI x5, vx6, vx7, vx8, zI x9, vx10] [zI x3, zI y0] h Q else mm_Wp 297 (mm_blk 297 30) [zR (90, 0, 0), zR x1, zR x2, zI x3, zI x4, zI x5, vx6, vx7, vx8, zI x9, vx10] [zI 0, zI y0] h Q) else mm_Wp 297 (mm_blk 297 30) [zR (90, 0, 0), zR x1, zR x2, zI x3, zI x4, zI x5, vx6, vx7, vx8, zI x9, vx10] [zI (-3), zI y0] h Q) :=
  (wp_3_4).trans ((wp_40).trans (mm_ic (mm_kb bq_297_28 ((wp_3_9).trans ((wp_40).trans (mm_ic (mm_kb bq_297_29 ((wp_3_3).trans ((wp_0).trans (rfl)))) ((wp_1).trans ((wp_56).trans (rfl))))))) ((wp_1).trans ((wp_56).trans (rfl)))))
theorem q_308_5_17 {x0 : mm_Id} {x1 : mm_Id} (x2 : Int) (x3 : Int) (x4 : Int) (vx5 : mm_V) (y0 : Int) (y1 : Int) {h : mm_H} {Q : mm_V → mm_H → Prop} (hox0 : mm_ok x0 h.2.2.1 1 0 = true) :
    mm_Wp 308 (bk_308_5.drop 17) [zR x0, zR x1, zI x2, zI x3, zI x4, vx5] [zI y0, zI y1] h Q =
    (if y1 = y0 then mm_Cl 8 [zR x0, zI x4, zI x3, zI (mm_and x2 127)] h (fun r h3 => mm_Wp 308 (bk_308_5.drop 25) [zR x0, zR x1, zI x2, zI x3, zI x4, vx5] (mm_push r []) h3 Q) else mm_Wp 308 (mm_blk 308 6) [zR x0, zR x1, zI x2, zI x3, zI x4, vx5] [] h Q) :=
  (wp_47).trans (mm_ic ((wp_5_0).trans ((wp_3_4).trans ((wp_3_3).trans ((wp_3_2).trans ((wp_1).trans ((wp_16).trans ((wp_v4 mm_n_8 (mm_leq mm_m_8 (mm_lb rfl)) (mm_lb rfl) hox0).trans rfl))))))) (rfl))
theorem q_308_2_22 {x0 : mm_Id} {x1 : mm_Id} (x2 : Int) (x3 : Int) (x4 : Int) (x5 : Int) (y0 : Int) (y1 : Int) {h : mm_H} {Q : mm_V → mm_H → Prop}  :
    mm_Wp 308 (bk_308_2.drop 22) [zR x0, zR x1, zI x2, zI x3, zI x4, zI x5] [zI y0, zI y1] h Q =
    (if y1 = y0 then mm_Wp 308 (mm_blk 308 2) [zR x0, zR x1, zI x2, zI x3, zI x4, zI (mm_w (x5 + 1))] [] h Q else mm_Wp 308 (mm_blk 308 3) [zR x0, zR x1, zI x2, zI x3, zI x4, zI x5] [] h Q) :=
  (wp_46).trans (mm_ic (mm_kb bq_308_4 ((wp_9 (l2 := [zR x0, zR x1, zI x2, zI x3, zI x4, zI (mm_w (x5 + 1))]) rfl rfl).trans ((wp_56).trans (rfl)))) ((wp_0).trans (rfl)))
theorem q_297_37 (vx0 : mm_V) (vx1 : mm_V) (vx2 : mm_V) (vx3 : mm_V) (vx4 : mm_V) (vx5 : mm_V) (vx6 : mm_V) (vx7 : mm_V) (vx8 : mm_V) (vx9 : mm_V) (vx10 : mm_V) {h : mm_H} {Q : mm_V → mm_H → Prop}  :
    mm_Wp 297 (mm_blk 297 37) [vx0, vx1, vx2, vx3, vx4, vx5, vx6, vx7, vx8, vx9, vx10] [] h Q =
    Q (zI 0) h :=
  mm_kb bq_297_37 ((wp_1).trans (wp_94k (by decide)))
theorem q_297_36_30 {x1 : mm_Id} {x2 : mm_Id} (x3 : Int) (x4 : Int) (x5 : Int) (vx6 : mm_V) (vx7 : mm_V) (vx8 : mm_V) (vx9 : mm_V) (vx10 : mm_V) (y0 : Int) {h : mm_H} {Q : mm_V → mm_H → Prop} (hvx8 : mm_wt vx8 = 1) :
    mm_Wp 297 (bk_297_36.drop 30) [zR (90, 0, 0), zR x1, zR x2, zI x3, zI x4, zI x5, vx6, vx7, vx8, vx9, vx10] [zI y0] h Q =
    (if y0 = 0 then mm_Wp 297 (mm_blk 297 37) [zR (90, 0, 0), zR x1, zR x2, zI x3, zI x4, zI x5, vx6, vx7, vx8, vx9, vx10] [] h Q else mm_Wp 297 (mm_blk 297 39) [zR (90, 0, 0), zR x1, zR x2, zI x3, zI x4, zI x5, vx6, vx7, vx8, zI 1, vx10] [] h Q) :=
  (wp_41).trans (mm_ic ((wp_0).trans (rfl)) (mm_kb bq_297_38 ((wp_1).trans ((wp_6 (l2 := [zR (90, 0, 0), zR x1, zR x2, zI x3, zI x4, zI x5, vx6, vx7, vx8, zI 1, vx10]) ((if_pos (mm_lb rfl)).trans (congrArg some (mm_stw rfl hvx8)))).trans ((wp_0).trans (rfl))))))
theorem q_297_16 {x1 : mm_Id} {x2 : mm_Id} (vx3 : mm_V) (x4 : Int) (x5 : Int) (vx6 : mm_V) (vx7 : mm_V) (vx8 : mm_V) (vx9 : mm_V) (vx10 : mm_V) (y0 : Int) {h : mm_H} {Q : mm_V → mm_H → Prop}  :
    mm_Wp 297 (mm_blk 297 16) [zR (90, 0, 0), zR x1, zR x2, vx3, zI x4, zI x5, vx6, vx7, vx8, vx9, vx10] [zI y0] h Q =
    mm_Wp 297 (mm_blk 297 36) [zR (90, 0, 0), zR x1, zR x2, zI y0, zI x4, zI x5, vx6, vx7, vx8, vx9, vx10] [] h Q :=
  mm_kb bq_297_16 ((wp_6 (l2 := [zR (90, 0, 0), zR x1, zR x2, zI y0, zI x4, zI x5, vx6, vx7, vx8, vx9, vx10]) rfl).trans ((wp_56).trans (rfl)))
theorem q_297_20 {x1 : mm_Id} {x2 : mm_Id} (x3 : Int) (x4 : Int) (x5 : Int) (vx6 : mm_V) (x7 : Int) (vx8 : mm_V) (vx9 : mm_V) (vx10 : mm_V) (y0 : Int) {h : mm_H} {Q : mm_V → mm_H → Prop}  :
    mm_Wp 297 (mm_blk 297 20) [zR (90, 0, 0), zR x1, zR x2, zI x3, zI x4, zI x5, vx6, zI x7, vx8, vx9, vx10] [zI y0] h Q =
    mm_Wp 297 (mm_blk 297 21) [zR (90, 0, 0), zR x1, zR x2, zI x3, zI x4, zI x5, vx6, zI x7, vx8, vx9, vx10] [zI (-3), zI y0] h Q :=
  mm_kb bq_297_20 ((wp_1).trans ((wp_0).trans (rfl)))
theorem q_297_21 {x1 : mm_Id} {x2 : mm_Id} (x3 : Int) (x4 : Int) (x5 : Int) (vx6 : mm_V) (x7 : Int) (vx8 : mm_V) (vx9 : mm_V) (vx10 : mm_V) (y0 : Int) (y1 : Int) {h : mm_H} {Q : mm_V → mm_H → Prop}  :
    mm_Wp 297 (mm_blk 297 21) [zR (90, 0, 0), zR x1, zR x2, zI x3, zI x4, zI x5, vx6, zI x7, vx8, vx9, vx10] [zI y0, zI y1] h Q =
    (if y1 = y0 then (if x4 = 0 then mm_Wp 297 (mm_blk 297 23) [zR (90, 0, 0), zR x1, zR x2, zI x3, zI x4, zI x5, vx6, zI x7, vx8, vx9, vx10] [] h Q else (if x3 = x7 then mm_Wp 297 (mm_blk 297 23) [zR (90, 0, 0), zR x1, zR x2, zI x3, zI x4, zI x5, vx6, zI x7, vx8, vx9, vx10] [] h Q else mm_Wp 297 (mm_blk 297 24) [zR (90, 0, 0), zR x1, zR x2, zI x3, zI x4, zI x5, vx6, zI x7, vx8, vx9, vx10] [zI 1] h Q)) else Q (zI 0) h) :=
  mm_kb bq_297_21 ((wp_46).trans (mm_ic (mm_kb bq_297_22 ((wp_3_4).trans ((wp_40).trans (mm_ic (rfl) ((wp_3_3).trans ((wp_3_7).trans ((wp_46).trans (mm_ic (rfl) ((wp_1).trans ((wp_56).trans (rfl))))))))))) ((wp_1).trans (wp_94k (by decide)))))
theorem q_297_30 {x1 : mm_Id} {x2 : mm_Id} (x3 : Int) (x4 : Int) (x5 : Int) (vx6 : mm_V) (vx7 : mm_V) (vx8 : mm_V) (x9 : Int) (vx10 : mm_V) (y0 : Int) (y1 : Int) {h : mm_H} {Q : mm_V → mm_H → Prop}  :
    mm_Wp 297 (mm_blk 297 30) [zR (90, 0, 0), zR x1, zR x2, zI x3, zI x4, zI x5, vx6, vx7, vx8, zI x9, vx10] [zI y0, zI y1] h Q =
    (if y1 = y0 then (if x4 = 0 then (if x9 = 0 then mm_Wp 297 (mm_blk 297 34) [zR (90, 0, 0), zR x1, zR x2, zI x3, zI x4, zI x5, vx6, vx7, vx8, zI x9, vx10] [zI 0] h Q else mm_Wp 297 (mm_blk 297 32) [zR (90, 0, 0), zR x1, zR x2, zI x3, zI x4, zI x5, vx6, vx7, vx8, zI x9, vx10] [] h Q) else mm_Wp 297 (mm_blk 297 32) [zR (90, 0, 0), zR x1, zR x2, zI x3, zI x4, zI x5, vx6, vx7, vx8, zI x9, vx10] [] h Q) else Q (zI 0) h) :=
  mm_kb bq_297_30 ((wp_46).trans (mm_ic (mm_kb bq_297_31 ((wp_3_4).trans ((wp_41).trans (mm_ic ((wp_3_9).trans ((wp_40).trans (mm_ic (mm_kb bq_297_33 ((wp_1).trans ((wp_0).trans (rfl)))) ((wp_0).trans (rfl))))) (rfl))))) ((wp_1).trans (wp_94k (by decide)))))
theorem q_308_5_25 {x0 : mm_Id} {x1 : mm_Id} (x2 : Int) (x3 : Int) (x4 : Int) (vx5 : mm_V) (y0 : Int) {h : mm_H} {Q : mm_V → mm_H → Prop} (hox1 : mm_ok x1 h.2.2.1 1 0 = true) :
    mm_Wp 308 (bk_308_5.drop 25) [zR x0, zR x1, zI x2, zI x3, zI x4, vx5] [zI y0] h Q =
    mm_Cl 8 [zR x1, zI x4, zI x3, zI (mm_and x2 127)] h (fun r h3 => mm_Wp 308 (bk_308_5.drop 32) [zR x0, zR x1, zI x2, zI x3, zI x4, vx5] (mm_push r [zI y0]) h3 Q) :=
  (wp_5_1).trans ((wp_3_4).trans ((wp_3_3).trans ((wp_3_2).trans ((wp_1).trans ((wp_16).trans ((wp_v4 mm_n_8 (mm_leq mm_m_8 (mm_lb rfl)) (mm_lb rfl) hox1).trans rfl))))))
theorem q_297_39 {x1 : mm_Id} {x2 : mm_Id} (x3 : Int) (x4 : Int) (x5 : Int) (vx6 : mm_V) (vx7 : mm_V) (vx8 : mm_V) (x9 : Int) (vx10 : mm_V) {h : mm_H} {Q : mm_V → mm_H → Prop} (hox2 : mm_ok x2 h.2.2.1 1 0 = true) :
    mm_Wp 297 (mm_blk 297 39) [zR (90, 0, 0), zR x1, zR x2, zI x3, zI x4, zI x5, vx6, vx7, vx8, zI x9, vx10] [] h Q =
    (if x9 < 6 then mm_Cl 46 [zR x2, zI x9] h (fun r h3 => mm_Wp 297 (bk_297_39.drop 6) [zR (90, 0, 0), zR x1, zR x2, zI x3, zI x4, zI x5, vx6, vx7, vx8, zI x9, vx10] (mm_push r []) h3 Q) else mm_Wp 297 (mm_blk 297 1) [zR (90, 0, 0), zR x1, zR x2, zI x3, zI x4, zI (mm_w (x5 + 3)), vx6, vx7, vx8, zI x9, vx10] [] h Q) :=
  mm_kb bq_297_39 ((wp_3_9).trans ((wp_1).trans ((wp_49).trans (mm_ic ((wp_5_2).trans ((wp_3_9).trans ((wp_v2 mm_n_46 (mm_leq mm_m_46 (mm_lb rfl)) (mm_lb rfl) hox2).trans rfl))) (mm_kb bq_297_44 ((wp_9 (l2 := [zR (90, 0, 0), zR x1, zR x2, zI x3, zI x4, zI (mm_w (x5 + 3)), vx6, vx7, vx8, zI x9, vx10]) rfl rfl).trans ((wp_56).trans (rfl))))))))
theorem q_297_23 {x1 : mm_Id} {x2 : mm_Id} (x3 : Int) (vx4 : mm_V) (x5 : Int) (vx6 : mm_V) (vx7 : mm_V) (vx8 : mm_V) (vx9 : mm_V) (vx10 : mm_V) {h : mm_H} {Q : mm_V → mm_H → Prop}  :
    mm_Wp 297 (mm_blk 297 23) [zR (90, 0, 0), zR x1, zR x2, zI x3, vx4, zI x5, vx6, vx7, vx8, vx9, vx10] [] h Q =
    mm_Wp 297 (mm_blk 297 24) [zR (90, 0, 0), zR x1, zR x2, zI x3, vx4, zI x5, vx6, vx7, vx8, vx9, vx10] [zI 0] h Q :=
  mm_kb bq_297_23 ((wp_1).trans ((wp_0).trans (rfl)))
theorem q_297_24 {x1 : mm_Id} {x2 : mm_Id} (x3 : Int) (vx4 : mm_V) (x5 : Int) (vx6 : mm_V) (vx7 : mm_V) (vx8 : mm_V) (vx9 : mm_V) (vx10 : mm_V) (y0 : Int) {h : mm_H} {Q : mm_V → mm_H → Prop}  :
    mm_Wp 297 (mm_blk 297 24) [zR (90, 0, 0), zR x1, zR x2, zI x3, vx4, zI x5, vx6, vx7, vx8, vx9, vx10] [zI y0] h Q =
    mm_Wp 297 (mm_blk 297 36) [zR (90, 0, 0), zR x1, zR x2, zI x3, zI y0, zI x5, vx6, vx7, vx8, vx9, vx10] [] h Q :=
  mm_kb bq_297_24 ((wp_6 (l2 := [zR (90, 0, 0), zR x1, zR x2, zI x3, zI y0, zI x5, vx6, vx7, vx8, vx9, vx10]) rfl).trans ((wp_56).trans (rfl)))
theorem q_297_32 {x1 : mm_Id} {x2 : mm_Id} (x3 : Int) (x4 : Int) (x5 : Int) (vx6 : mm_V) (vx7 : mm_V) (vx8 : mm_V) (vx9 : mm_V) (vx10 : mm_V) {h : mm_H} {Q : mm_V → mm_H → Prop}  :
    mm_Wp 297 (mm_blk 297 32) [zR (90, 0, 0), zR x1, zR x2, zI x3, zI x4, zI x5, vx6, vx7, vx8, vx9, vx10] [] h Q =
    mm_Wp 297 (mm_blk 297 34) [zR (90, 0, 0), zR x1, zR x2, zI x3, zI x4, zI x5, vx6, vx7, vx8, vx9, vx10] [zI x3] h Q :=
  mm_kb bq_297_32 ((wp_3_3).trans ((wp_56).trans (rfl)))
theorem q_297_34 {x1 : mm_Id} {x2 : mm_Id} (vx3 : mm_V) (x4 : Int) (x5 : Int) (vx6 : mm_V) (vx7 : mm_V) (vx8 : mm_V) (vx9 : mm_V) (vx10 : mm_V) (y0 : Int) {h : mm_H} {Q : mm_V → mm_H → Prop} (hox1 : mm_ok x1 h.2.2.1 1 0 = true) :
    mm_Wp 297 (mm_blk 297 34) [zR (90, 0, 0), zR x1, zR x2, vx3, zI x4, zI x5, vx6, vx7, vx8, vx9, vx10] [zI y0] h Q =
    (if x4 = 0 then mm_Cl 39 [zR x1] h (fun r h3 => mm_Wp 297 (bk_297_34.drop 5) [zR (90, 0, 0), zR x1, zR x2, zI y0, zI x4, zI x5, vx6, vx7, vx8, vx9, vx10] (mm_push r []) h3 Q) else mm_Wp 297 (mm_blk 297 36) [zR (90, 0, 0), zR x1, zR x2, zI y0, zI x4, zI x5, vx6, vx7, vx8, vx9, vx10] [] h Q) :=
  mm_kb bq_297_34 ((wp_6 (l2 := [zR (90, 0, 0), zR x1, zR x2, zI y0, zI x4, zI x5, vx6, vx7, vx8, vx9, vx10]) rfl).trans ((wp_3_4).trans ((wp_41).trans (mm_ic ((wp_5_1).trans ((wp_v1 mm_n_39 (mm_leq mm_m_39 (mm_lb rfl)) (mm_lb rfl) hox1).trans rfl)) (rfl)))))
theorem q_308_5_32 {x0 : mm_Id} {x1 : mm_Id} (x2 : Int) (x3 : Int) (x4 : Int) (vx5 : mm_V) (y0 : Int) (y1 : Int) {h : mm_H} {Q : mm_V → mm_H → Prop} (hox0 : mm_ok x0 h.2.2.1 1 0 = true) :
    mm_Wp 308 (bk_308_5.drop 32) [zR x0, zR x1, zI x2, zI x3, zI x4, vx5] [zI y0, zI y1] h Q =
    (if y1 = y0 then mm_Cl 14 [zR x0, zI x4, zI 1, zI (mm_and x2 3)] h (fun r h3 => mm_Wp 308 (bk_308_5.drop 40) [zR x0, zR x1, zI x2, zI x3, zI x4, vx5] (mm_push r []) h3 Q) else mm_Wp 308 (mm_blk 308 6) [zR x0, zR x1, zI x2, zI x3, zI x4, vx5] [] h Q) :=
  (wp_47).trans (mm_ic ((wp_5_0).trans ((wp_3_4).trans ((wp_1).trans ((wp_3_2).trans ((wp_1).trans ((wp_16).trans ((wp_v4 mm_n_14 (mm_leq mm_m_14 (mm_lb rfl)) (mm_lb rfl) hox0).trans rfl))))))) (rfl))
theorem q_297_39_6 {x1 : mm_Id} {x2 : mm_Id} (x3 : Int) (x4 : Int) (x5 : Int) (vx6 : mm_V) (vx7 : mm_V) (vx8 : mm_V) (x9 : Int) (vx10 : mm_V) (y0 : Int) {h : mm_H} {Q : mm_V → mm_H → Prop}  :
    mm_Wp 297 (bk_297_39.drop 6) [zR (90, 0, 0), zR x1, zR x2, zI x3, zI x4, zI x5, vx6, vx7, vx8, zI x9, vx10] [zI y0] h Q =
    (if x9 = x3 then (if x4 = 0 then mm_Wp 297 (mm_blk 297 42) [zR (90, 0, 0), zR x1, zR x2, zI x3, zI x4, zI x5, vx6, vx7, vx8, zI x9, vx10] [zI 1, zI y0] h Q else mm_Wp 297 (mm_blk 297 42) [zR (90, 0, 0), zR x1, zR x2, zI x3, zI x4, zI x5, vx6, vx7, vx8, zI x9, vx10] [zI 2, zI y0] h Q) else mm_Wp 297 (mm_blk 297 42) [zR (90, 0, 0), zR x1, zR x2, zI x3, zI x4, zI x5, vx6, vx7, vx8, zI x9, vx10] [zI 0, zI y0] h Q) :=
  (wp_3_9).trans ((wp_3_3).trans ((wp_46).trans (mm_ic (mm_kb bq_297_40 ((wp_3_4).trans ((wp_40).trans (mm_ic (mm_kb bq_297_41 ((wp_1).trans ((wp_0).trans (rfl)))) ((wp_1).trans ((wp_56).trans (rfl))))))) ((wp_1).trans ((wp_56).trans (rfl))))))
theorem q_297_34_5 {x1 : mm_Id} {x2 : mm_Id} (x3 : Int) (x4 : Int) (x5 : Int) (vx6 : mm_V) (vx7 : mm_V) (vx8 : mm_V) (vx9 : mm_V) (vx10 : mm_V) (y0 : Int) {h : mm_H} {Q : mm_V → mm_H → Prop}  :
    mm_Wp 297 (bk_297_34.drop 5) [zR (90, 0, 0), zR x1, zR x2, zI x3, zI x4, zI x5, vx6, vx7, vx8, vx9, vx10] [zI y0] h Q =
    (if y0 < 0 then Q (zI 0) h else mm_Wp 297 (mm_blk 297 36) [zR (90, 0, 0), zR x1, zR x2, zI x3, zI x4, zI x5, vx6, vx7, vx8, vx9, vx10] [] h Q) :=
  (wp_43).trans (mm_ic ((wp_1).trans (wp_94k (by decide))) (rfl))
theorem q_308_5_40 {x0 : mm_Id} {x1 : mm_Id} (x2 : Int) (x3 : Int) (x4 : Int) (vx5 : mm_V) (y0 : Int) {h : mm_H} {Q : mm_V → mm_H → Prop} (hox1 : mm_ok x1 h.2.2.1 1 0 = true) :
    mm_Wp 308 (bk_308_5.drop 40) [zR x0, zR x1, zI x2, zI x3, zI x4, vx5] [zI y0] h Q =
    mm_Cl 14 [zR x1, zI x4, zI 1, zI (mm_and x2 3)] h (fun r h3 => mm_Wp 308 (bk_308_5.drop 47) [zR x0, zR x1, zI x2, zI x3, zI x4, vx5] (mm_push r [zI y0]) h3 Q) :=
  (wp_5_1).trans ((wp_3_4).trans ((wp_1).trans ((wp_3_2).trans ((wp_1).trans ((wp_16).trans ((wp_v4 mm_n_14 (mm_leq mm_m_14 (mm_lb rfl)) (mm_lb rfl) hox1).trans rfl))))))
theorem q_297_42 {x1 : mm_Id} {x2 : mm_Id} (x3 : Int) (x4 : Int) (x5 : Int) (vx6 : mm_V) (vx7 : mm_V) (vx8 : mm_V) (x9 : Int) (vx10 : mm_V) (y0 : Int) (y1 : Int) {h : mm_H} {Q : mm_V → mm_H → Prop}  :
    mm_Wp 297 (mm_blk 297 42) [zR (90, 0, 0), zR x1, zR x2, zI x3, zI x4, zI x5, vx6, vx7, vx8, zI x9, vx10] [zI y0, zI y1] h Q =
    (if y1 = y0 then mm_Wp 297 (mm_blk 297 39) [zR (90, 0, 0), zR x1, zR x2, zI x3, zI x4, zI x5, vx6, vx7, vx8, zI (mm_w (x9 + 1)), vx10] [] h Q else Q (zI 0) h) :=
  mm_kb bq_297_42 ((wp_46).trans (mm_ic (mm_kb bq_297_43 ((wp_9 (l2 := [zR (90, 0, 0), zR x1, zR x2, zI x3, zI x4, zI x5, vx6, vx7, vx8, zI (mm_w (x9 + 1)), vx10]) rfl rfl).trans ((wp_56).trans (rfl)))) ((wp_1).trans (wp_94k (by decide)))))
theorem q_308_5_47 {x0 : mm_Id} {x1 : mm_Id} (x2 : Int) (x3 : Int) (x4 : Int) (vx5 : mm_V) (y0 : Int) (y1 : Int) {h : mm_H} {Q : mm_V → mm_H → Prop} (hox0 : mm_ok x0 h.2.2.1 1 0 = true) :
    mm_Wp 308 (bk_308_5.drop 47) [zR x0, zR x1, zI x2, zI x3, zI x4, vx5] [zI y0, zI y1] h Q =
    (if y1 = y0 then mm_Cl 6 [zR x0, zI x4, zI 1, zI (mm_w (1 + (mm_and x2 7)))] h (fun r h3 => mm_Wp 308 (bk_308_5.drop 57) [zR x0, zR x1, zI x2, zI x3, zI x4, vx5] (mm_push r []) h3 Q) else mm_Wp 308 (mm_blk 308 6) [zR x0, zR x1, zI x2, zI x3, zI x4, vx5] [] h Q) :=
  (wp_47).trans (mm_ic ((wp_5_0).trans ((wp_3_4).trans ((wp_1).trans ((wp_1).trans ((wp_3_2).trans ((wp_1).trans ((wp_16).trans ((wp_10).trans ((wp_v4 mm_n_6 (mm_leq mm_m_6 (mm_lb rfl)) (mm_lb rfl) hox0).trans rfl))))))))) (rfl))
theorem q_308_5_57 {x0 : mm_Id} {x1 : mm_Id} (x2 : Int) (x3 : Int) (x4 : Int) (vx5 : mm_V) (y0 : Int) {h : mm_H} {Q : mm_V → mm_H → Prop} (hox1 : mm_ok x1 h.2.2.1 1 0 = true) :
    mm_Wp 308 (bk_308_5.drop 57) [zR x0, zR x1, zI x2, zI x3, zI x4, vx5] [zI y0] h Q =
    mm_Cl 6 [zR x1, zI x4, zI 1, zI (mm_w (1 + (mm_and x2 7)))] h (fun r h3 => mm_Wp 308 (bk_308_5.drop 66) [zR x0, zR x1, zI x2, zI x3, zI x4, vx5] (mm_push r [zI y0]) h3 Q) :=
  (wp_5_1).trans ((wp_3_4).trans ((wp_1).trans ((wp_1).trans ((wp_3_2).trans ((wp_1).trans ((wp_16).trans ((wp_10).trans ((wp_v4 mm_n_6 (mm_leq mm_m_6 (mm_lb rfl)) (mm_lb rfl) hox1).trans rfl))))))))
theorem q_308_5_66 {x0 : mm_Id} {x1 : mm_Id} (x2 : Int) (x3 : Int) (x4 : Int) (vx5 : mm_V) (y0 : Int) (y1 : Int) {h : mm_H} {Q : mm_V → mm_H → Prop} (hox0 : mm_ok x0 h.2.2.1 1 0 = true) :
    mm_Wp 308 (bk_308_5.drop 66) [zR x0, zR x1, zI x2, zI x3, zI x4, vx5] [zI y0, zI y1] h Q =
    (if y1 = y0 then mm_Cl 36 [zR x0, zI x4, zI 1, zI 0] h (fun r h3 => mm_Wp 308 (bk_308_5.drop 72) [zR x0, zR x1, zI x2, zI x3, zI x4, vx5] (mm_push r []) h3 Q) else mm_Wp 308 (mm_blk 308 6) [zR x0, zR x1, zI x2, zI x3, zI x4, vx5] [] h Q) :=
  (wp_47).trans (mm_ic ((wp_5_0).trans ((wp_3_4).trans ((wp_1).trans ((wp_1).trans ((wp_v4 mm_n_36 (mm_leq mm_m_36 (mm_lb rfl)) (mm_lb rfl) hox0).trans rfl))))) (rfl))
theorem q_308_5_72 {x0 : mm_Id} {x1 : mm_Id} (x2 : Int) (x3 : Int) (x4 : Int) (vx5 : mm_V) (y0 : Int) {h : mm_H} {Q : mm_V → mm_H → Prop} (hox1 : mm_ok x1 h.2.2.1 1 0 = true) :
    mm_Wp 308 (bk_308_5.drop 72) [zR x0, zR x1, zI x2, zI x3, zI x4, vx5] [zI y0] h Q =
    mm_Cl 36 [zR x1, zI x4, zI 1, zI 0] h (fun r h3 => mm_Wp 308 (bk_308_5.drop 77) [zR x0, zR x1, zI x2, zI x3, zI x4, vx5] (mm_push r [zI y0]) h3 Q) :=
  (wp_5_1).trans ((wp_3_4).trans ((wp_1).trans ((wp_1).trans ((wp_v4 mm_n_36 (mm_leq mm_m_36 (mm_lb rfl)) (mm_lb rfl) hox1).trans rfl))))
theorem q_308_5_77 {x0 : mm_Id} {x1 : mm_Id} (x2 : Int) (x3 : Int) (x4 : Int) (vx5 : mm_V) (y0 : Int) (y1 : Int) {h : mm_H} {Q : mm_V → mm_H → Prop}  :
    mm_Wp 308 (bk_308_5.drop 77) [zR x0, zR x1, zI x2, zI x3, zI x4, vx5] [zI y0, zI y1] h Q =
    (if y1 = y0 then mm_Wp 308 (mm_blk 308 1) [zR x0, zR x1, zI x2, zI x3, zI (mm_w (x4 + 1)), vx5] [] h Q else mm_Wp 308 (mm_blk 308 6) [zR x0, zR x1, zI x2, zI x3, zI x4, vx5] [] h Q) :=
  (wp_46).trans (mm_ic (mm_kb bq_308_7 ((wp_9 (l2 := [zR x0, zR x1, zI x2, zI x3, zI (mm_w (x4 + 1)), vx5]) rfl rfl).trans ((wp_56).trans (rfl)))) ((wp_0).trans (rfl)))
