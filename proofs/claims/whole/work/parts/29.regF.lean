/-! stretches of the code (printed by wip/whole/mkreg.py) -/
/-- PoolHouseLaw.law([I)Z -/
theorem bq_297_1 : mm_blk 297 1 = bk_297_1 := by decide +kernel
theorem bq_297_2 : mm_blk 297 2 = bk_297_2 := by decide +kernel
theorem bq_297_3 : mm_blk 297 3 = bk_297_3 := by decide +kernel
theorem bq_297_4 : mm_blk 297 4 = bk_297_4 := by decide +kernel
theorem bq_297_5 : mm_blk 297 5 = bk_297_5 := by decide +kernel
theorem bq_297_6 : mm_blk 297 6 = bk_297_6 := by decide +kernel
theorem bq_297_7 : mm_blk 297 7 = bk_297_7 := by decide +kernel
theorem bq_297_8 : mm_blk 297 8 = bk_297_8 := by decide +kernel
theorem bq_297_9 : mm_blk 297 9 = bk_297_9 := by decide +kernel
theorem bq_297_10 : mm_blk 297 10 = bk_297_10 := by decide +kernel
theorem bq_297_11 : mm_blk 297 11 = bk_297_11 := by decide +kernel
theorem bq_297_12 : mm_blk 297 12 = bk_297_12 := by decide +kernel
theorem bq_297_13 : mm_blk 297 13 = bk_297_13 := by decide +kernel
theorem bq_297_14 : mm_blk 297 14 = bk_297_14 := by decide +kernel
theorem bq_297_15 : mm_blk 297 15 = bk_297_15 := by decide +kernel
theorem bq_297_16 : mm_blk 297 16 = bk_297_16 := by decide +kernel
theorem bq_297_17 : mm_blk 297 17 = bk_297_17 := by decide +kernel
theorem bq_297_18 : mm_blk 297 18 = bk_297_18 := by decide +kernel
theorem bq_297_19 : mm_blk 297 19 = bk_297_19 := by decide +kernel
theorem bq_297_20 : mm_blk 297 20 = bk_297_20 := by decide +kernel
theorem bq_297_21 : mm_blk 297 21 = bk_297_21 := by decide +kernel
theorem bq_297_22 : mm_blk 297 22 = bk_297_22 := by decide +kernel
theorem bq_297_23 : mm_blk 297 23 = bk_297_23 := by decide +kernel
theorem bq_297_24 : mm_blk 297 24 = bk_297_24 := by decide +kernel
theorem bq_297_25 : mm_blk 297 25 = bk_297_25 := by decide +kernel
theorem bq_297_26 : mm_blk 297 26 = bk_297_26 := by decide +kernel
theorem bq_297_27 : mm_blk 297 27 = bk_297_27 := by decide +kernel
theorem bq_297_28 : mm_blk 297 28 = bk_297_28 := by decide +kernel
theorem bq_297_29 : mm_blk 297 29 = bk_297_29 := by decide +kernel
theorem bq_297_30 : mm_blk 297 30 = bk_297_30 := by decide +kernel
theorem bq_297_31 : mm_blk 297 31 = bk_297_31 := by decide +kernel
theorem bq_297_32 : mm_blk 297 32 = bk_297_32 := by decide +kernel
theorem bq_297_33 : mm_blk 297 33 = bk_297_33 := by decide +kernel
theorem bq_297_34 : mm_blk 297 34 = bk_297_34 := by decide +kernel
theorem bq_297_35 : mm_blk 297 35 = bk_297_35 := by decide +kernel
theorem bq_297_36 : mm_blk 297 36 = bk_297_36 := by decide +kernel
theorem bq_297_37 : mm_blk 297 37 = bk_297_37 := by decide +kernel
theorem bq_297_38 : mm_blk 297 38 = bk_297_38 := by decide +kernel
theorem bq_297_39 : mm_blk 297 39 = bk_297_39 := by decide +kernel
theorem bq_297_40 : mm_blk 297 40 = bk_297_40 := by decide +kernel
theorem bq_297_41 : mm_blk 297 41 = bk_297_41 := by decide +kernel
theorem bq_297_42 : mm_blk 297 42 = bk_297_42 := by decide +kernel
theorem bq_297_43 : mm_blk 297 43 = bk_297_43 := by decide +kernel
theorem bq_297_44 : mm_blk 297 44 = bk_297_44 := by decide +kernel
theorem bq_297_45 : mm_blk 297 45 = bk_297_45 := by decide +kernel
theorem bq_297_46 : mm_blk 297 46 = bk_297_46 := by decide +kernel
theorem bq_297_47 : mm_blk 297 47 = bk_297_47 := by decide +kernel
theorem bq_297_48 : mm_blk 297 48 = bk_297_48 := by decide +kernel
theorem bq_297_49 : mm_blk 297 49 = bk_297_49 := by decide +kernel
theorem bq_297_50 : mm_blk 297 50 = bk_297_50 := by decide +kernel
theorem bq_297_51 : mm_blk 297 51 = bk_297_51 := by decide +kernel
theorem bq_297_52 : mm_blk 297 52 = bk_297_52 := by decide +kernel
theorem bq_297_53 : mm_blk 297 53 = bk_297_53 := by decide +kernel
theorem bq_297_54 : mm_blk 297 54 = bk_297_54 := by decide +kernel
theorem bq_297_55 : mm_blk 297 55 = bk_297_55 := by decide +kernel
theorem bq_297_56 : mm_blk 297 56 = bk_297_56 := by decide +kernel
theorem bq_297_57 : mm_blk 297 57 = bk_297_57 := by decide +kernel
theorem bq_297_58 : mm_blk 297 58 = bk_297_58 := by decide +kernel
theorem bq_297_59 : mm_blk 297 59 = bk_297_59 := by decide +kernel
theorem bq_297_60 : mm_blk 297 60 = bk_297_60 := by decide +kernel
theorem bq_297_61 : mm_blk 297 61 = bk_297_61 := by decide +kernel
theorem bq_297_62 : mm_blk 297 62 = bk_297_62 := by decide +kernel
theorem bq_297_63 : mm_blk 297 63 = bk_297_63 := by decide +kernel
theorem bq_297_64 : mm_blk 297 64 = bk_297_64 := by decide +kernel
theorem bq_297_65 : mm_blk 297 65 = bk_297_65 := by decide +kernel
theorem bq_297_66 : mm_blk 297 66 = bk_297_66 := by decide +kernel
theorem bq_297_67 : mm_blk 297 67 = bk_297_67 := by decide +kernel
theorem bq_297_68 : mm_blk 297 68 = bk_297_68 := by decide +kernel
theorem bq_297_69 : mm_blk 297 69 = bk_297_69 := by decide +kernel
theorem bq_297_70 : mm_blk 297 70 = bk_297_70 := by decide +kernel
theorem bq_297_71 : mm_blk 297 71 = bk_297_71 := by decide +kernel
theorem bq_297_72 : mm_blk 297 72 = bk_297_72 := by decide +kernel
theorem bq_297_73 : mm_blk 297 73 = bk_297_73 := by decide +kernel
theorem bq_297_74 : mm_blk 297 74 = bk_297_74 := by decide +kernel
theorem bq_297_75 : mm_blk 297 75 = bk_297_75 := by decide +kernel
theorem bq_297_76 : mm_blk 297 76 = bk_297_76 := by decide +kernel
theorem bq_297_77 : mm_blk 297 77 = bk_297_77 := by decide +kernel
theorem bq_297_78 : mm_blk 297 78 = bk_297_78 := by decide +kernel
theorem bq_297_79 : mm_blk 297 79 = bk_297_79 := by decide +kernel
theorem bq_297_80 : mm_blk 297 80 = bk_297_80 := by decide +kernel
theorem bq_297_81 : mm_blk 297 81 = bk_297_81 := by decide +kernel
theorem bq_297_82 : mm_blk 297 82 = bk_297_82 := by decide +kernel
theorem bq_297_83 : mm_blk 297 83 = bk_297_83 := by decide +kernel
theorem r_297_1 (x3 : Int) {hi : mm_Id → Int → Int} {dh : Int → Int} {nx ns : Int} {Q : mm_V → mm_H → Prop} (hy : 5306 ≤ nx) :
    mm_Wp 297 (mm_blk 297 1) [zR (90, 0, 0), zR (1, 0, 0), zR (40, 0, 0), zI x3] [] (mm_z hi dh nx ns) Q =
    (if (mm_w ((hi (90, 0, 0) (-1)) - 7)) < x3 then Q (zI 1) (mm_z hi dh nx ns) else ((0 ≤ x3 ∧ x3 < hi (90, 0, 0) (-1)) ∧ mm_Wp 297 (mm_blk 297 (mm_sw 9 (mm_and (hi (90, 0, 0) x3) 63))) [zR (90, 0, 0), zR (1, 0, 0), zR (40, 0, 0), zI x3] [] (mm_z hi dh nx ns) Q)) :=
  mm_kb bq_297_1 ((wp_3_3).trans ((wp_5_0).trans ((wp_78s).trans ((wp_1).trans ((wp_11).trans ((wp_50).trans (mm_ic (mm_kb bq_297_83 ((wp_1).trans (wp_94k (by decide)))) ((wp_5_0).trans ((wp_3_3).trans ((wp_70s).trans (mm_ae ((wp_1).trans ((wp_16).trans (wp_57 rfl))))))))))))))
theorem r_297_2 (x3 : Int) {hi : mm_Id → Int → Int} {dh : Int → Int} {nx ns : Int} {Q : mm_V → mm_H → Prop} (hy : 5306 ≤ nx) :
    mm_Wp 297 (mm_blk 297 2) [zR (90, 0, 0), zR (1, 0, 0), zR (40, 0, 0), zI x3] [] (mm_z hi dh nx ns) Q =
    ((0 ≤ (mm_w (x3 + 1)) ∧ (mm_w (x3 + 1)) < hi (90, 0, 0) (-1)) ∧ ((0 ≤ (mm_w (x3 + 2)) ∧ (mm_w (x3 + 2)) < hi (90, 0, 0) (-1)) ∧ ((0 ≤ (mm_w (x3 + 3)) ∧ (mm_w (x3 + 3)) < hi (90, 0, 0) (-1)) ∧ ((0 ≤ (mm_w (x3 + 4)) ∧ (mm_w (x3 + 4)) < hi (90, 0, 0) (-1)) ∧ mm_Cl 1 [zR (1, 0, 0), zI (hi (90, 0, 0) (mm_w (x3 + 1))), zI (hi (90, 0, 0) (mm_w (x3 + 2))), zI (hi (90, 0, 0) (mm_w (x3 + 3))), zI (hi (90, 0, 0) (mm_w (x3 + 4)))] (mm_z hi dh nx ns) (fun r h3 => mm_Wp 297 (bk_297_2.drop 22) [zR (90, 0, 0), zR (1, 0, 0), zR (40, 0, 0), zI x3] (mm_push r []) h3 Q))))) :=
  mm_kb bq_297_2 ((wp_5_1).trans ((wp_5_0).trans ((wp_3_3).trans ((wp_1).trans ((wp_10).trans ((wp_70s).trans (mm_ae ((wp_5_0).trans ((wp_3_3).trans ((wp_1).trans ((wp_10).trans ((wp_70s).trans (mm_ae ((wp_5_0).trans ((wp_3_3).trans ((wp_1).trans ((wp_10).trans ((wp_70s).trans (mm_ae ((wp_5_0).trans ((wp_3_3).trans ((wp_1).trans ((wp_10).trans ((wp_70s).trans (mm_ae ((wp_v5 mm_n_1 (mm_leq mm_m_1 (mm_lb rfl)) (mm_lb rfl) (mm_o1 (mm_hxy hy))).trans rfl))))))))))))))))))))))))))
theorem r_297_3 (x3 : Int) {hi : mm_Id → Int → Int} {dh : Int → Int} {nx ns : Int} {Q : mm_V → mm_H → Prop} (hy : 5306 ≤ nx) :
    mm_Wp 297 (mm_blk 297 3) [zR (90, 0, 0), zR (1, 0, 0), zR (40, 0, 0), zI x3] [] (mm_z hi dh nx ns) Q =
    ((0 ≤ (mm_w (x3 + 1)) ∧ (mm_w (x3 + 1)) < hi (90, 0, 0) (-1)) ∧ mm_Cl 2 [zR (1, 0, 0), zI (hi (90, 0, 0) (mm_w (x3 + 1)))] (mm_z hi dh nx ns) (fun r h3 => mm_Wp 297 (bk_297_3.drop 7) [zR (90, 0, 0), zR (1, 0, 0), zR (40, 0, 0), zI x3] (mm_push r []) h3 Q)) :=
  mm_kb bq_297_3 ((wp_5_1).trans ((wp_5_0).trans ((wp_3_3).trans ((wp_1).trans ((wp_10).trans ((wp_70s).trans (mm_ae ((wp_v2 mm_n_2 (mm_leq mm_m_2 (mm_lb rfl)) (mm_lb rfl) (mm_o1 (mm_hxy hy))).trans rfl))))))))
theorem r_297_4 (x3 : Int) {hi : mm_Id → Int → Int} {dh : Int → Int} {nx ns : Int} {Q : mm_V → mm_H → Prop} (hy : 5306 ≤ nx) :
    mm_Wp 297 (mm_blk 297 4) [zR (90, 0, 0), zR (1, 0, 0), zR (40, 0, 0), zI x3] [] (mm_z hi dh nx ns) Q =
    ((0 ≤ (mm_w (x3 + 1)) ∧ (mm_w (x3 + 1)) < hi (90, 0, 0) (-1)) ∧ ((0 ≤ (mm_w (x3 + 2)) ∧ (mm_w (x3 + 2)) < hi (90, 0, 0) (-1)) ∧ ((0 ≤ (mm_w (x3 + 3)) ∧ (mm_w (x3 + 3)) < hi (90, 0, 0) (-1)) ∧ ((0 ≤ (mm_w (x3 + 4)) ∧ (mm_w (x3 + 4)) < hi (90, 0, 0) (-1)) ∧ (if (hi (90, 0, 0) (mm_w (x3 + 4))) = 0 then mm_Wp 297 (mm_blk 297 6) [zR (90, 0, 0), zR (1, 0, 0), zR (40, 0, 0), zI x3] [zI 0, zI (hi (90, 0, 0) (mm_w (x3 + 3))), zI (hi (90, 0, 0) (mm_w (x3 + 2))), zI (hi (90, 0, 0) (mm_w (x3 + 1))), zR (1, 0, 0)] (mm_z hi dh nx ns) Q else mm_Wp 297 (mm_blk 297 6) [zR (90, 0, 0), zR (1, 0, 0), zR (40, 0, 0), zI x3] [zI 1, zI (hi (90, 0, 0) (mm_w (x3 + 3))), zI (hi (90, 0, 0) (mm_w (x3 + 2))), zI (hi (90, 0, 0) (mm_w (x3 + 1))), zR (1, 0, 0)] (mm_z hi dh nx ns) Q))))) :=
  mm_kb bq_297_4 ((wp_5_1).trans ((wp_5_0).trans ((wp_3_3).trans ((wp_1).trans ((wp_10).trans ((wp_70s).trans (mm_ae ((wp_5_0).trans ((wp_3_3).trans ((wp_1).trans ((wp_10).trans ((wp_70s).trans (mm_ae ((wp_5_0).trans ((wp_3_3).trans ((wp_1).trans ((wp_10).trans ((wp_70s).trans (mm_ae ((wp_5_0).trans ((wp_3_3).trans ((wp_1).trans ((wp_10).trans ((wp_70s).trans (mm_ae ((wp_40).trans (mm_ic (mm_kb bq_297_5 ((wp_1).trans ((wp_0).trans (rfl)))) ((wp_1).trans ((wp_56).trans (rfl))))))))))))))))))))))))))))))
theorem r_297_9 (x3 : Int) {hi : mm_Id → Int → Int} {dh : Int → Int} {nx ns : Int} {Q : mm_V → mm_H → Prop} (hy : 5306 ≤ nx) :
    mm_Wp 297 (mm_blk 297 9) [zR (90, 0, 0), zR (1, 0, 0), zR (40, 0, 0), zI x3] [] (mm_z hi dh nx ns) Q =
    ((0 ≤ (mm_w (x3 + 1)) ∧ (mm_w (x3 + 1)) < hi (90, 0, 0) (-1)) ∧ ((0 ≤ (mm_w (x3 + 2)) ∧ (mm_w (x3 + 2)) < hi (90, 0, 0) (-1)) ∧ ((0 ≤ (mm_w (x3 + 3)) ∧ (mm_w (x3 + 3)) < hi (90, 0, 0) (-1)) ∧ (if (hi (90, 0, 0) (mm_w (x3 + 3))) = 0 then mm_Wp 297 (mm_blk 297 11) [zR (90, 0, 0), zR (1, 0, 0), zR (40, 0, 0), zI x3] [zI 0, zI (hi (90, 0, 0) (mm_w (x3 + 2))), zI (hi (90, 0, 0) (mm_w (x3 + 1))), zR (1, 0, 0)] (mm_z hi dh nx ns) Q else mm_Wp 297 (mm_blk 297 11) [zR (90, 0, 0), zR (1, 0, 0), zR (40, 0, 0), zI x3] [zI 1, zI (hi (90, 0, 0) (mm_w (x3 + 2))), zI (hi (90, 0, 0) (mm_w (x3 + 1))), zR (1, 0, 0)] (mm_z hi dh nx ns) Q)))) :=
  mm_kb bq_297_9 ((wp_5_1).trans ((wp_5_0).trans ((wp_3_3).trans ((wp_1).trans ((wp_10).trans ((wp_70s).trans (mm_ae ((wp_5_0).trans ((wp_3_3).trans ((wp_1).trans ((wp_10).trans ((wp_70s).trans (mm_ae ((wp_5_0).trans ((wp_3_3).trans ((wp_1).trans ((wp_10).trans ((wp_70s).trans (mm_ae ((wp_40).trans (mm_ic (mm_kb bq_297_10 ((wp_1).trans ((wp_0).trans (rfl)))) ((wp_1).trans ((wp_56).trans (rfl))))))))))))))))))))))))
theorem r_297_14 (x3 : Int) {hi : mm_Id → Int → Int} {dh : Int → Int} {nx ns : Int} {Q : mm_V → mm_H → Prop} (hy : 5306 ≤ nx) :
    mm_Wp 297 (mm_blk 297 14) [zR (90, 0, 0), zR (1, 0, 0), zR (40, 0, 0), zI x3] [] (mm_z hi dh nx ns) Q =
    ((0 ≤ (mm_w (x3 + 1)) ∧ (mm_w (x3 + 1)) < hi (90, 0, 0) (-1)) ∧ ((0 ≤ (mm_w (x3 + 2)) ∧ (mm_w (x3 + 2)) < hi (90, 0, 0) (-1)) ∧ ((0 ≤ (mm_w (x3 + 3)) ∧ (mm_w (x3 + 3)) < hi (90, 0, 0) (-1)) ∧ mm_Cl 5 [zR (1, 0, 0), zI (hi (90, 0, 0) (mm_w (x3 + 1))), zI (hi (90, 0, 0) (mm_w (x3 + 2))), zI (hi (90, 0, 0) (mm_w (x3 + 3)))] (mm_z hi dh nx ns) (fun r h3 => mm_Wp 297 (bk_297_14.drop 17) [zR (90, 0, 0), zR (1, 0, 0), zR (40, 0, 0), zI x3] (mm_push r []) h3 Q)))) :=
  mm_kb bq_297_14 ((wp_5_1).trans ((wp_5_0).trans ((wp_3_3).trans ((wp_1).trans ((wp_10).trans ((wp_70s).trans (mm_ae ((wp_5_0).trans ((wp_3_3).trans ((wp_1).trans ((wp_10).trans ((wp_70s).trans (mm_ae ((wp_5_0).trans ((wp_3_3).trans ((wp_1).trans ((wp_10).trans ((wp_70s).trans (mm_ae ((wp_v4 mm_n_5 (mm_leq mm_m_5 (mm_lb rfl)) (mm_lb rfl) (mm_o1 (mm_hxy hy))).trans rfl))))))))))))))))))))
theorem r_297_15 (x3 : Int) {hi : mm_Id → Int → Int} {dh : Int → Int} {nx ns : Int} {Q : mm_V → mm_H → Prop} (hy : 5306 ≤ nx) :
    mm_Wp 297 (mm_blk 297 15) [zR (90, 0, 0), zR (1, 0, 0), zR (40, 0, 0), zI x3] [] (mm_z hi dh nx ns) Q =
    ((0 ≤ (mm_w (x3 + 1)) ∧ (mm_w (x3 + 1)) < hi (90, 0, 0) (-1)) ∧ ((0 ≤ (mm_w (x3 + 2)) ∧ (mm_w (x3 + 2)) < hi (90, 0, 0) (-1)) ∧ ((0 ≤ (mm_w (x3 + 3)) ∧ (mm_w (x3 + 3)) < hi (90, 0, 0) (-1)) ∧ mm_Cl 6 [zR (1, 0, 0), zI (hi (90, 0, 0) (mm_w (x3 + 1))), zI (hi (90, 0, 0) (mm_w (x3 + 2))), zI (hi (90, 0, 0) (mm_w (x3 + 3)))] (mm_z hi dh nx ns) (fun r h3 => mm_Wp 297 (bk_297_15.drop 17) [zR (90, 0, 0), zR (1, 0, 0), zR (40, 0, 0), zI x3] (mm_push r []) h3 Q)))) :=
  mm_kb bq_297_15 ((wp_5_1).trans ((wp_5_0).trans ((wp_3_3).trans ((wp_1).trans ((wp_10).trans ((wp_70s).trans (mm_ae ((wp_5_0).trans ((wp_3_3).trans ((wp_1).trans ((wp_10).trans ((wp_70s).trans (mm_ae ((wp_5_0).trans ((wp_3_3).trans ((wp_1).trans ((wp_10).trans ((wp_70s).trans (mm_ae ((wp_v4 mm_n_6 (mm_leq mm_m_6 (mm_lb rfl)) (mm_lb rfl) (mm_o1 (mm_hxy hy))).trans rfl))))))))))))))))))))
theorem r_297_16 (x3 : Int) {hi : mm_Id → Int → Int} {dh : Int → Int} {nx ns : Int} {Q : mm_V → mm_H → Prop} (hy : 5306 ≤ nx) :
    mm_Wp 297 (mm_blk 297 16) [zR (90, 0, 0), zR (1, 0, 0), zR (40, 0, 0), zI x3] [] (mm_z hi dh nx ns) Q =
    ((0 ≤ (mm_w (x3 + 1)) ∧ (mm_w (x3 + 1)) < hi (90, 0, 0) (-1)) ∧ ((0 ≤ (mm_w (x3 + 2)) ∧ (mm_w (x3 + 2)) < hi (90, 0, 0) (-1)) ∧ ((0 ≤ (mm_w (x3 + 3)) ∧ (mm_w (x3 + 3)) < hi (90, 0, 0) (-1)) ∧ ((0 ≤ (mm_w (x3 + 4)) ∧ (mm_w (x3 + 4)) < hi (90, 0, 0) (-1)) ∧ ((0 ≤ (mm_w (x3 + 5)) ∧ (mm_w (x3 + 5)) < hi (90, 0, 0) (-1)) ∧ ((0 ≤ (mm_w (x3 + 6)) ∧ (mm_w (x3 + 6)) < hi (90, 0, 0) (-1)) ∧ mm_Cl 7 [zR (1, 0, 0), zI (hi (90, 0, 0) (mm_w (x3 + 1))), zI (hi (90, 0, 0) (mm_w (x3 + 2))), zI (hi (90, 0, 0) (mm_w (x3 + 3))), zL (mm_lor (mm_lshl (hi (90, 0, 0) (mm_w (x3 + 4))) 32) (mm_land (hi (90, 0, 0) (mm_w (x3 + 5))) 4294967295)), zI (hi (90, 0, 0) (mm_w (x3 + 6)))] (mm_z hi dh nx ns) (fun r h3 => mm_Wp 297 (bk_297_16.drop 39) [zR (90, 0, 0), zR (1, 0, 0), zR (40, 0, 0), zI x3] (mm_push r []) h3 Q))))))) :=
  mm_kb bq_297_16 ((wp_5_1).trans ((wp_5_0).trans ((wp_3_3).trans ((wp_1).trans ((wp_10).trans ((wp_70s).trans (mm_ae ((wp_5_0).trans ((wp_3_3).trans ((wp_1).trans ((wp_10).trans ((wp_70s).trans (mm_ae ((wp_5_0).trans ((wp_3_3).trans ((wp_1).trans ((wp_10).trans ((wp_70s).trans (mm_ae ((wp_5_0).trans ((wp_3_3).trans ((wp_1).trans ((wp_10).trans ((wp_70s).trans (mm_ae ((wp_31).trans ((wp_1).trans ((wp_28).trans ((wp_5_0).trans ((wp_3_3).trans ((wp_1).trans ((wp_10).trans ((wp_70s).trans (mm_ae ((wp_31).trans ((wp_2).trans ((wp_26).trans ((wp_27).trans ((wp_5_0).trans ((wp_3_3).trans ((wp_1).trans ((wp_10).trans ((wp_70s).trans (mm_ae ((wp_v6 mm_n_7 (mm_leq mm_m_7 (mm_lb rfl)) (mm_lb rfl) (mm_o1 (mm_hxy hy))).trans rfl)))))))))))))))))))))))))))))))))))))))))))))
theorem r_297_17 (x3 : Int) {hi : mm_Id → Int → Int} {dh : Int → Int} {nx ns : Int} {Q : mm_V → mm_H → Prop} (hy : 5306 ≤ nx) :
    mm_Wp 297 (mm_blk 297 17) [zR (90, 0, 0), zR (1, 0, 0), zR (40, 0, 0), zI x3] [] (mm_z hi dh nx ns) Q =
    ((0 ≤ (mm_w (x3 + 1)) ∧ (mm_w (x3 + 1)) < hi (90, 0, 0) (-1)) ∧ ((0 ≤ (mm_w (x3 + 2)) ∧ (mm_w (x3 + 2)) < hi (90, 0, 0) (-1)) ∧ ((0 ≤ (mm_w (x3 + 3)) ∧ (mm_w (x3 + 3)) < hi (90, 0, 0) (-1)) ∧ mm_Cl 8 [zR (1, 0, 0), zI (hi (90, 0, 0) (mm_w (x3 + 1))), zI (hi (90, 0, 0) (mm_w (x3 + 2))), zI (hi (90, 0, 0) (mm_w (x3 + 3)))] (mm_z hi dh nx ns) (fun r h3 => mm_Wp 297 (bk_297_17.drop 17) [zR (90, 0, 0), zR (1, 0, 0), zR (40, 0, 0), zI x3] (mm_push r []) h3 Q)))) :=
  mm_kb bq_297_17 ((wp_5_1).trans ((wp_5_0).trans ((wp_3_3).trans ((wp_1).trans ((wp_10).trans ((wp_70s).trans (mm_ae ((wp_5_0).trans ((wp_3_3).trans ((wp_1).trans ((wp_10).trans ((wp_70s).trans (mm_ae ((wp_5_0).trans ((wp_3_3).trans ((wp_1).trans ((wp_10).trans ((wp_70s).trans (mm_ae ((wp_v4 mm_n_8 (mm_leq mm_m_8 (mm_lb rfl)) (mm_lb rfl) (mm_o1 (mm_hxy hy))).trans rfl))))))))))))))))))))
theorem r_297_18 (x3 : Int) {hi : mm_Id → Int → Int} {dh : Int → Int} {nx ns : Int} {Q : mm_V → mm_H → Prop} (hy : 5306 ≤ nx) :
    mm_Wp 297 (mm_blk 297 18) [zR (90, 0, 0), zR (1, 0, 0), zR (40, 0, 0), zI x3] [] (mm_z hi dh nx ns) Q =
    ((0 ≤ (mm_w (x3 + 1)) ∧ (mm_w (x3 + 1)) < hi (90, 0, 0) (-1)) ∧ ((0 ≤ (mm_w (x3 + 2)) ∧ (mm_w (x3 + 2)) < hi (90, 0, 0) (-1)) ∧ ((0 ≤ (mm_w (x3 + 3)) ∧ (mm_w (x3 + 3)) < hi (90, 0, 0) (-1)) ∧ mm_Cl 9 [zR (1, 0, 0), zI (hi (90, 0, 0) (mm_w (x3 + 1))), zI (hi (90, 0, 0) (mm_w (x3 + 2))), zI (hi (90, 0, 0) (mm_w (x3 + 3)))] (mm_z hi dh nx ns) (fun r h3 => mm_Wp 297 (bk_297_18.drop 17) [zR (90, 0, 0), zR (1, 0, 0), zR (40, 0, 0), zI x3] (mm_push r []) h3 Q)))) :=
  mm_kb bq_297_18 ((wp_5_1).trans ((wp_5_0).trans ((wp_3_3).trans ((wp_1).trans ((wp_10).trans ((wp_70s).trans (mm_ae ((wp_5_0).trans ((wp_3_3).trans ((wp_1).trans ((wp_10).trans ((wp_70s).trans (mm_ae ((wp_5_0).trans ((wp_3_3).trans ((wp_1).trans ((wp_10).trans ((wp_70s).trans (mm_ae ((wp_v4 mm_n_9 (mm_leq mm_m_9 (mm_lb rfl)) (mm_lb rfl) (mm_o1 (mm_hxy hy))).trans rfl))))))))))))))))))))
theorem r_297_19 (x3 : Int) {hi : mm_Id → Int → Int} {dh : Int → Int} {nx ns : Int} {Q : mm_V → mm_H → Prop} (hy : 5306 ≤ nx) :
    mm_Wp 297 (mm_blk 297 19) [zR (90, 0, 0), zR (1, 0, 0), zR (40, 0, 0), zI x3] [] (mm_z hi dh nx ns) Q =
    ((0 ≤ (mm_w (x3 + 1)) ∧ (mm_w (x3 + 1)) < hi (90, 0, 0) (-1)) ∧ ((0 ≤ (mm_w (x3 + 2)) ∧ (mm_w (x3 + 2)) < hi (90, 0, 0) (-1)) ∧ ((0 ≤ (mm_w (x3 + 3)) ∧ (mm_w (x3 + 3)) < hi (90, 0, 0) (-1)) ∧ ((0 ≤ (mm_w (x3 + 4)) ∧ (mm_w (x3 + 4)) < hi (90, 0, 0) (-1)) ∧ mm_Cl 10 [zR (1, 0, 0), zI (hi (90, 0, 0) (mm_w (x3 + 1))), zI (hi (90, 0, 0) (mm_w (x3 + 2))), zI (hi (90, 0, 0) (mm_w (x3 + 3))), zI (hi (90, 0, 0) (mm_w (x3 + 4)))] (mm_z hi dh nx ns) (fun r h3 => mm_Wp 297 (bk_297_19.drop 22) [zR (90, 0, 0), zR (1, 0, 0), zR (40, 0, 0), zI x3] (mm_push r []) h3 Q))))) :=
  mm_kb bq_297_19 ((wp_5_1).trans ((wp_5_0).trans ((wp_3_3).trans ((wp_1).trans ((wp_10).trans ((wp_70s).trans (mm_ae ((wp_5_0).trans ((wp_3_3).trans ((wp_1).trans ((wp_10).trans ((wp_70s).trans (mm_ae ((wp_5_0).trans ((wp_3_3).trans ((wp_1).trans ((wp_10).trans ((wp_70s).trans (mm_ae ((wp_5_0).trans ((wp_3_3).trans ((wp_1).trans ((wp_10).trans ((wp_70s).trans (mm_ae ((wp_v5 mm_n_10 (mm_leq mm_m_10 (mm_lb rfl)) (mm_lb rfl) (mm_o1 (mm_hxy hy))).trans rfl))))))))))))))))))))))))))
theorem r_297_20 (x3 : Int) {hi : mm_Id → Int → Int} {dh : Int → Int} {nx ns : Int} {Q : mm_V → mm_H → Prop} (hy : 5306 ≤ nx) :
    mm_Wp 297 (mm_blk 297 20) [zR (90, 0, 0), zR (1, 0, 0), zR (40, 0, 0), zI x3] [] (mm_z hi dh nx ns) Q =
    ((0 ≤ (mm_w (x3 + 1)) ∧ (mm_w (x3 + 1)) < hi (90, 0, 0) (-1)) ∧ ((0 ≤ (mm_w (x3 + 2)) ∧ (mm_w (x3 + 2)) < hi (90, 0, 0) (-1)) ∧ ((0 ≤ (mm_w (x3 + 3)) ∧ (mm_w (x3 + 3)) < hi (90, 0, 0) (-1)) ∧ mm_Cl 11 [zR (1, 0, 0), zI (hi (90, 0, 0) (mm_w (x3 + 1))), zI (hi (90, 0, 0) (mm_w (x3 + 2))), zI (hi (90, 0, 0) (mm_w (x3 + 3)))] (mm_z hi dh nx ns) (fun r h3 => mm_Wp 297 (bk_297_20.drop 17) [zR (90, 0, 0), zR (1, 0, 0), zR (40, 0, 0), zI x3] (mm_push r []) h3 Q)))) :=
  mm_kb bq_297_20 ((wp_5_1).trans ((wp_5_0).trans ((wp_3_3).trans ((wp_1).trans ((wp_10).trans ((wp_70s).trans (mm_ae ((wp_5_0).trans ((wp_3_3).trans ((wp_1).trans ((wp_10).trans ((wp_70s).trans (mm_ae ((wp_5_0).trans ((wp_3_3).trans ((wp_1).trans ((wp_10).trans ((wp_70s).trans (mm_ae ((wp_v4 mm_n_11 (mm_leq mm_m_11 (mm_lb rfl)) (mm_lb rfl) (mm_o1 (mm_hxy hy))).trans rfl))))))))))))))))))))
theorem r_297_21 (x3 : Int) {hi : mm_Id → Int → Int} {dh : Int → Int} {nx ns : Int} {Q : mm_V → mm_H → Prop} (hy : 5306 ≤ nx) :
    mm_Wp 297 (mm_blk 297 21) [zR (90, 0, 0), zR (1, 0, 0), zR (40, 0, 0), zI x3] [] (mm_z hi dh nx ns) Q =
    ((0 ≤ (mm_w (x3 + 1)) ∧ (mm_w (x3 + 1)) < hi (90, 0, 0) (-1)) ∧ ((0 ≤ (mm_w (x3 + 2)) ∧ (mm_w (x3 + 2)) < hi (90, 0, 0) (-1)) ∧ ((0 ≤ (mm_w (x3 + 3)) ∧ (mm_w (x3 + 3)) < hi (90, 0, 0) (-1)) ∧ ((0 ≤ (mm_w (x3 + 4)) ∧ (mm_w (x3 + 4)) < hi (90, 0, 0) (-1)) ∧ ((0 ≤ (mm_w (x3 + 5)) ∧ (mm_w (x3 + 5)) < hi (90, 0, 0) (-1)) ∧ mm_Cl 12 [zR (1, 0, 0), zI (hi (90, 0, 0) (mm_w (x3 + 1))), zI (hi (90, 0, 0) (mm_w (x3 + 2))), zI (hi (90, 0, 0) (mm_w (x3 + 3))), zI (hi (90, 0, 0) (mm_w (x3 + 4))), zI (hi (90, 0, 0) (mm_w (x3 + 5)))] (mm_z hi dh nx ns) (fun r h3 => mm_Wp 297 (bk_297_21.drop 27) [zR (90, 0, 0), zR (1, 0, 0), zR (40, 0, 0), zI x3] (mm_push r []) h3 Q)))))) :=
  mm_kb bq_297_21 ((wp_5_1).trans ((wp_5_0).trans ((wp_3_3).trans ((wp_1).trans ((wp_10).trans ((wp_70s).trans (mm_ae ((wp_5_0).trans ((wp_3_3).trans ((wp_1).trans ((wp_10).trans ((wp_70s).trans (mm_ae ((wp_5_0).trans ((wp_3_3).trans ((wp_1).trans ((wp_10).trans ((wp_70s).trans (mm_ae ((wp_5_0).trans ((wp_3_3).trans ((wp_1).trans ((wp_10).trans ((wp_70s).trans (mm_ae ((wp_5_0).trans ((wp_3_3).trans ((wp_1).trans ((wp_10).trans ((wp_70s).trans (mm_ae ((wp_v6 mm_n_12 (mm_leq mm_m_12 (mm_lb rfl)) (mm_lb rfl) (mm_o1 (mm_hxy hy))).trans rfl))))))))))))))))))))))))))))))))
theorem r_297_22 (x3 : Int) {hi : mm_Id → Int → Int} {dh : Int → Int} {nx ns : Int} {Q : mm_V → mm_H → Prop} (hy : 5306 ≤ nx) :
    mm_Wp 297 (mm_blk 297 22) [zR (90, 0, 0), zR (1, 0, 0), zR (40, 0, 0), zI x3] [] (mm_z hi dh nx ns) Q =
    ((0 ≤ (mm_w (x3 + 1)) ∧ (mm_w (x3 + 1)) < hi (90, 0, 0) (-1)) ∧ ((0 ≤ (mm_w (x3 + 2)) ∧ (mm_w (x3 + 2)) < hi (90, 0, 0) (-1)) ∧ ((0 ≤ (mm_w (x3 + 3)) ∧ (mm_w (x3 + 3)) < hi (90, 0, 0) (-1)) ∧ mm_Cl 13 [zR (1, 0, 0), zI (hi (90, 0, 0) (mm_w (x3 + 1))), zI (hi (90, 0, 0) (mm_w (x3 + 2))), zI (hi (90, 0, 0) (mm_w (x3 + 3)))] (mm_z hi dh nx ns) (fun r h3 => mm_Wp 297 (bk_297_22.drop 17) [zR (90, 0, 0), zR (1, 0, 0), zR (40, 0, 0), zI x3] (mm_push r []) h3 Q)))) :=
  mm_kb bq_297_22 ((wp_5_1).trans ((wp_5_0).trans ((wp_3_3).trans ((wp_1).trans ((wp_10).trans ((wp_70s).trans (mm_ae ((wp_5_0).trans ((wp_3_3).trans ((wp_1).trans ((wp_10).trans ((wp_70s).trans (mm_ae ((wp_5_0).trans ((wp_3_3).trans ((wp_1).trans ((wp_10).trans ((wp_70s).trans (mm_ae ((wp_v4 mm_n_13 (mm_leq mm_m_13 (mm_lb rfl)) (mm_lb rfl) (mm_o1 (mm_hxy hy))).trans rfl))))))))))))))))))))
theorem r_297_23 (x3 : Int) {hi : mm_Id → Int → Int} {dh : Int → Int} {nx ns : Int} {Q : mm_V → mm_H → Prop} (hy : 5306 ≤ nx) :
    mm_Wp 297 (mm_blk 297 23) [zR (90, 0, 0), zR (1, 0, 0), zR (40, 0, 0), zI x3] [] (mm_z hi dh nx ns) Q =
    ((0 ≤ (mm_w (x3 + 1)) ∧ (mm_w (x3 + 1)) < hi (90, 0, 0) (-1)) ∧ ((0 ≤ (mm_w (x3 + 2)) ∧ (mm_w (x3 + 2)) < hi (90, 0, 0) (-1)) ∧ ((0 ≤ (mm_w (x3 + 3)) ∧ (mm_w (x3 + 3)) < hi (90, 0, 0) (-1)) ∧ mm_Cl 14 [zR (1, 0, 0), zI (hi (90, 0, 0) (mm_w (x3 + 1))), zI (hi (90, 0, 0) (mm_w (x3 + 2))), zI (hi (90, 0, 0) (mm_w (x3 + 3)))] (mm_z hi dh nx ns) (fun r h3 => mm_Wp 297 (bk_297_23.drop 17) [zR (90, 0, 0), zR (1, 0, 0), zR (40, 0, 0), zI x3] (mm_push r []) h3 Q)))) :=
  mm_kb bq_297_23 ((wp_5_1).trans ((wp_5_0).trans ((wp_3_3).trans ((wp_1).trans ((wp_10).trans ((wp_70s).trans (mm_ae ((wp_5_0).trans ((wp_3_3).trans ((wp_1).trans ((wp_10).trans ((wp_70s).trans (mm_ae ((wp_5_0).trans ((wp_3_3).trans ((wp_1).trans ((wp_10).trans ((wp_70s).trans (mm_ae ((wp_v4 mm_n_14 (mm_leq mm_m_14 (mm_lb rfl)) (mm_lb rfl) (mm_o1 (mm_hxy hy))).trans rfl))))))))))))))))))))
theorem r_297_24 (x3 : Int) {hi : mm_Id → Int → Int} {dh : Int → Int} {nx ns : Int} {Q : mm_V → mm_H → Prop} (hy : 5306 ≤ nx) :
    mm_Wp 297 (mm_blk 297 24) [zR (90, 0, 0), zR (1, 0, 0), zR (40, 0, 0), zI x3] [] (mm_z hi dh nx ns) Q =
    ((0 ≤ (mm_w (x3 + 1)) ∧ (mm_w (x3 + 1)) < hi (90, 0, 0) (-1)) ∧ ((0 ≤ (mm_w (x3 + 2)) ∧ (mm_w (x3 + 2)) < hi (90, 0, 0) (-1)) ∧ ((0 ≤ (mm_w (x3 + 3)) ∧ (mm_w (x3 + 3)) < hi (90, 0, 0) (-1)) ∧ mm_Cl 15 [zR (1, 0, 0), zI (hi (90, 0, 0) (mm_w (x3 + 1))), zI (hi (90, 0, 0) (mm_w (x3 + 2))), zI (hi (90, 0, 0) (mm_w (x3 + 3)))] (mm_z hi dh nx ns) (fun r h3 => mm_Wp 297 (bk_297_24.drop 17) [zR (90, 0, 0), zR (1, 0, 0), zR (40, 0, 0), zI x3] (mm_push r []) h3 Q)))) :=
  mm_kb bq_297_24 ((wp_5_1).trans ((wp_5_0).trans ((wp_3_3).trans ((wp_1).trans ((wp_10).trans ((wp_70s).trans (mm_ae ((wp_5_0).trans ((wp_3_3).trans ((wp_1).trans ((wp_10).trans ((wp_70s).trans (mm_ae ((wp_5_0).trans ((wp_3_3).trans ((wp_1).trans ((wp_10).trans ((wp_70s).trans (mm_ae ((wp_v4 mm_n_15 (mm_leq mm_m_15 (mm_lb rfl)) (mm_lb rfl) (mm_o1 (mm_hxy hy))).trans rfl))))))))))))))))))))
theorem r_297_25 (x3 : Int) {hi : mm_Id → Int → Int} {dh : Int → Int} {nx ns : Int} {Q : mm_V → mm_H → Prop} (hy : 5306 ≤ nx) :
    mm_Wp 297 (mm_blk 297 25) [zR (90, 0, 0), zR (1, 0, 0), zR (40, 0, 0), zI x3] [] (mm_z hi dh nx ns) Q =
    ((0 ≤ (mm_w (x3 + 1)) ∧ (mm_w (x3 + 1)) < hi (90, 0, 0) (-1)) ∧ ((0 ≤ (mm_w (x3 + 2)) ∧ (mm_w (x3 + 2)) < hi (90, 0, 0) (-1)) ∧ ((0 ≤ (mm_w (x3 + 3)) ∧ (mm_w (x3 + 3)) < hi (90, 0, 0) (-1)) ∧ mm_Cl 16 [zR (1, 0, 0), zI (hi (90, 0, 0) (mm_w (x3 + 1))), zI (hi (90, 0, 0) (mm_w (x3 + 2))), zI (hi (90, 0, 0) (mm_w (x3 + 3)))] (mm_z hi dh nx ns) (fun r h3 => mm_Wp 297 (bk_297_25.drop 17) [zR (90, 0, 0), zR (1, 0, 0), zR (40, 0, 0), zI x3] (mm_push r []) h3 Q)))) :=
  mm_kb bq_297_25 ((wp_5_1).trans ((wp_5_0).trans ((wp_3_3).trans ((wp_1).trans ((wp_10).trans ((wp_70s).trans (mm_ae ((wp_5_0).trans ((wp_3_3).trans ((wp_1).trans ((wp_10).trans ((wp_70s).trans (mm_ae ((wp_5_0).trans ((wp_3_3).trans ((wp_1).trans ((wp_10).trans ((wp_70s).trans (mm_ae ((wp_v4 mm_n_16 (mm_leq mm_m_16 (mm_lb rfl)) (mm_lb rfl) (mm_o1 (mm_hxy hy))).trans rfl))))))))))))))))))))
theorem r_297_26 (x3 : Int) {hi : mm_Id → Int → Int} {dh : Int → Int} {nx ns : Int} {Q : mm_V → mm_H → Prop} (hy : 5306 ≤ nx) :
    mm_Wp 297 (mm_blk 297 26) [zR (90, 0, 0), zR (1, 0, 0), zR (40, 0, 0), zI x3] [] (mm_z hi dh nx ns) Q =
    ((0 ≤ (mm_w (x3 + 1)) ∧ (mm_w (x3 + 1)) < hi (90, 0, 0) (-1)) ∧ ((0 ≤ (mm_w (x3 + 2)) ∧ (mm_w (x3 + 2)) < hi (90, 0, 0) (-1)) ∧ ((0 ≤ (mm_w (x3 + 3)) ∧ (mm_w (x3 + 3)) < hi (90, 0, 0) (-1)) ∧ ((0 ≤ (mm_w (x3 + 4)) ∧ (mm_w (x3 + 4)) < hi (90, 0, 0) (-1)) ∧ ((0 ≤ (mm_w (x3 + 5)) ∧ (mm_w (x3 + 5)) < hi (90, 0, 0) (-1)) ∧ ((0 ≤ (mm_w (x3 + 6)) ∧ (mm_w (x3 + 6)) < hi (90, 0, 0) (-1)) ∧ (if (hi (90, 0, 0) (mm_w (x3 + 6))) = 0 then mm_Wp 297 (mm_blk 297 28) [zR (90, 0, 0), zR (1, 0, 0), zR (40, 0, 0), zI x3] [zI 0, zL (mm_lor (mm_lshl (hi (90, 0, 0) (mm_w (x3 + 4))) 32) (mm_land (hi (90, 0, 0) (mm_w (x3 + 5))) 4294967295)), zI (hi (90, 0, 0) (mm_w (x3 + 3))), zI (hi (90, 0, 0) (mm_w (x3 + 2))), zI (hi (90, 0, 0) (mm_w (x3 + 1))), zR (1, 0, 0)] (mm_z hi dh nx ns) Q else mm_Wp 297 (mm_blk 297 28) [zR (90, 0, 0), zR (1, 0, 0), zR (40, 0, 0), zI x3] [zI 1, zL (mm_lor (mm_lshl (hi (90, 0, 0) (mm_w (x3 + 4))) 32) (mm_land (hi (90, 0, 0) (mm_w (x3 + 5))) 4294967295)), zI (hi (90, 0, 0) (mm_w (x3 + 3))), zI (hi (90, 0, 0) (mm_w (x3 + 2))), zI (hi (90, 0, 0) (mm_w (x3 + 1))), zR (1, 0, 0)] (mm_z hi dh nx ns) Q))))))) :=
  mm_kb bq_297_26 ((wp_5_1).trans ((wp_5_0).trans ((wp_3_3).trans ((wp_1).trans ((wp_10).trans ((wp_70s).trans (mm_ae ((wp_5_0).trans ((wp_3_3).trans ((wp_1).trans ((wp_10).trans ((wp_70s).trans (mm_ae ((wp_5_0).trans ((wp_3_3).trans ((wp_1).trans ((wp_10).trans ((wp_70s).trans (mm_ae ((wp_5_0).trans ((wp_3_3).trans ((wp_1).trans ((wp_10).trans ((wp_70s).trans (mm_ae ((wp_31).trans ((wp_1).trans ((wp_28).trans ((wp_5_0).trans ((wp_3_3).trans ((wp_1).trans ((wp_10).trans ((wp_70s).trans (mm_ae ((wp_31).trans ((wp_2).trans ((wp_26).trans ((wp_27).trans ((wp_5_0).trans ((wp_3_3).trans ((wp_1).trans ((wp_10).trans ((wp_70s).trans (mm_ae ((wp_40).trans (mm_ic (mm_kb bq_297_27 ((wp_1).trans ((wp_0).trans (rfl)))) ((wp_1).trans ((wp_56).trans (rfl)))))))))))))))))))))))))))))))))))))))))))))))))
theorem r_297_31 (x3 : Int) {hi : mm_Id → Int → Int} {dh : Int → Int} {nx ns : Int} {Q : mm_V → mm_H → Prop} (hy : 5306 ≤ nx) :
    mm_Wp 297 (mm_blk 297 31) [zR (90, 0, 0), zR (1, 0, 0), zR (40, 0, 0), zI x3] [] (mm_z hi dh nx ns) Q =
    ((0 ≤ (mm_w (x3 + 1)) ∧ (mm_w (x3 + 1)) < hi (90, 0, 0) (-1)) ∧ ((0 ≤ (mm_w (x3 + 2)) ∧ (mm_w (x3 + 2)) < hi (90, 0, 0) (-1)) ∧ ((0 ≤ (mm_w (x3 + 3)) ∧ (mm_w (x3 + 3)) < hi (90, 0, 0) (-1)) ∧ mm_Cl 18 [zR (1, 0, 0), zI (hi (90, 0, 0) (mm_w (x3 + 1))), zI (hi (90, 0, 0) (mm_w (x3 + 2))), zI (hi (90, 0, 0) (mm_w (x3 + 3)))] (mm_z hi dh nx ns) (fun r h3 => mm_Wp 297 (bk_297_31.drop 17) [zR (90, 0, 0), zR (1, 0, 0), zR (40, 0, 0), zI x3] (mm_push r []) h3 Q)))) :=
  mm_kb bq_297_31 ((wp_5_1).trans ((wp_5_0).trans ((wp_3_3).trans ((wp_1).trans ((wp_10).trans ((wp_70s).trans (mm_ae ((wp_5_0).trans ((wp_3_3).trans ((wp_1).trans ((wp_10).trans ((wp_70s).trans (mm_ae ((wp_5_0).trans ((wp_3_3).trans ((wp_1).trans ((wp_10).trans ((wp_70s).trans (mm_ae ((wp_v4 mm_n_18 (mm_leq mm_m_18 (mm_lb rfl)) (mm_lb rfl) (mm_o1 (mm_hxy hy))).trans rfl))))))))))))))))))))
theorem r_297_32 (x3 : Int) {hi : mm_Id → Int → Int} {dh : Int → Int} {nx ns : Int} {Q : mm_V → mm_H → Prop} (hy : 5306 ≤ nx) :
    mm_Wp 297 (mm_blk 297 32) [zR (90, 0, 0), zR (1, 0, 0), zR (40, 0, 0), zI x3] [] (mm_z hi dh nx ns) Q =
    ((0 ≤ (mm_w (x3 + 1)) ∧ (mm_w (x3 + 1)) < hi (90, 0, 0) (-1)) ∧ ((0 ≤ (mm_w (x3 + 2)) ∧ (mm_w (x3 + 2)) < hi (90, 0, 0) (-1)) ∧ ((0 ≤ (mm_w (x3 + 3)) ∧ (mm_w (x3 + 3)) < hi (90, 0, 0) (-1)) ∧ mm_Cl 19 [zR (1, 0, 0), zI (hi (90, 0, 0) (mm_w (x3 + 1))), zI (hi (90, 0, 0) (mm_w (x3 + 2))), zI (hi (90, 0, 0) (mm_w (x3 + 3)))] (mm_z hi dh nx ns) (fun r h3 => mm_Wp 297 (bk_297_32.drop 17) [zR (90, 0, 0), zR (1, 0, 0), zR (40, 0, 0), zI x3] (mm_push r []) h3 Q)))) :=
  mm_kb bq_297_32 ((wp_5_1).trans ((wp_5_0).trans ((wp_3_3).trans ((wp_1).trans ((wp_10).trans ((wp_70s).trans (mm_ae ((wp_5_0).trans ((wp_3_3).trans ((wp_1).trans ((wp_10).trans ((wp_70s).trans (mm_ae ((wp_5_0).trans ((wp_3_3).trans ((wp_1).trans ((wp_10).trans ((wp_70s).trans (mm_ae ((wp_v4 mm_n_19 (mm_leq mm_m_19 (mm_lb rfl)) (mm_lb rfl) (mm_o1 (mm_hxy hy))).trans rfl))))))))))))))))))))
theorem r_297_33 (x3 : Int) {hi : mm_Id → Int → Int} {dh : Int → Int} {nx ns : Int} {Q : mm_V → mm_H → Prop} (hy : 5306 ≤ nx) :
    mm_Wp 297 (mm_blk 297 33) [zR (90, 0, 0), zR (1, 0, 0), zR (40, 0, 0), zI x3] [] (mm_z hi dh nx ns) Q =
    ((0 ≤ (mm_w (x3 + 1)) ∧ (mm_w (x3 + 1)) < hi (90, 0, 0) (-1)) ∧ mm_Cl 20 [zR (1, 0, 0), zI (hi (90, 0, 0) (mm_w (x3 + 1)))] (mm_z hi dh nx ns) (fun r h3 => mm_Wp 297 (bk_297_33.drop 7) [zR (90, 0, 0), zR (1, 0, 0), zR (40, 0, 0), zI x3] (mm_push r []) h3 Q)) :=
  mm_kb bq_297_33 ((wp_5_1).trans ((wp_5_0).trans ((wp_3_3).trans ((wp_1).trans ((wp_10).trans ((wp_70s).trans (mm_ae ((wp_v2 mm_n_20 (mm_leq mm_m_20 (mm_lb rfl)) (mm_lb rfl) (mm_o1 (mm_hxy hy))).trans rfl))))))))
theorem r_297_34 (x3 : Int) {hi : mm_Id → Int → Int} {dh : Int → Int} {nx ns : Int} {Q : mm_V → mm_H → Prop} (hy : 5306 ≤ nx) :
    mm_Wp 297 (mm_blk 297 34) [zR (90, 0, 0), zR (1, 0, 0), zR (40, 0, 0), zI x3] [] (mm_z hi dh nx ns) Q =
    ((0 ≤ (mm_w (x3 + 1)) ∧ (mm_w (x3 + 1)) < hi (90, 0, 0) (-1)) ∧ ((0 ≤ (mm_w (x3 + 2)) ∧ (mm_w (x3 + 2)) < hi (90, 0, 0) (-1)) ∧ mm_Cl 21 [zR (1, 0, 0), zI (hi (90, 0, 0) (mm_w (x3 + 1))), zI (hi (90, 0, 0) (mm_w (x3 + 2)))] (mm_z hi dh nx ns) (fun r h3 => mm_Wp 297 (bk_297_34.drop 12) [zR (90, 0, 0), zR (1, 0, 0), zR (40, 0, 0), zI x3] (mm_push r []) h3 Q))) :=
  mm_kb bq_297_34 ((wp_5_1).trans ((wp_5_0).trans ((wp_3_3).trans ((wp_1).trans ((wp_10).trans ((wp_70s).trans (mm_ae ((wp_5_0).trans ((wp_3_3).trans ((wp_1).trans ((wp_10).trans ((wp_70s).trans (mm_ae ((wp_v3 mm_n_21 (mm_leq mm_m_21 (mm_lb rfl)) (mm_lb rfl) (mm_o1 (mm_hxy hy))).trans rfl))))))))))))))
theorem r_297_35 (x3 : Int) {hi : mm_Id → Int → Int} {dh : Int → Int} {nx ns : Int} {Q : mm_V → mm_H → Prop} (hy : 5306 ≤ nx) :
    mm_Wp 297 (mm_blk 297 35) [zR (90, 0, 0), zR (1, 0, 0), zR (40, 0, 0), zI x3] [] (mm_z hi dh nx ns) Q =
    ((0 ≤ (mm_w (x3 + 1)) ∧ (mm_w (x3 + 1)) < hi (90, 0, 0) (-1)) ∧ ((0 ≤ (mm_w (x3 + 2)) ∧ (mm_w (x3 + 2)) < hi (90, 0, 0) (-1)) ∧ ((0 ≤ (mm_w (x3 + 3)) ∧ (mm_w (x3 + 3)) < hi (90, 0, 0) (-1)) ∧ mm_Cl 22 [zR (1, 0, 0), zI (hi (90, 0, 0) (mm_w (x3 + 1))), zI (hi (90, 0, 0) (mm_w (x3 + 2))), zI (hi (90, 0, 0) (mm_w (x3 + 3)))] (mm_z hi dh nx ns) (fun r h3 => mm_Wp 297 (bk_297_35.drop 17) [zR (90, 0, 0), zR (1, 0, 0), zR (40, 0, 0), zI x3] (mm_push r []) h3 Q)))) :=
  mm_kb bq_297_35 ((wp_5_1).trans ((wp_5_0).trans ((wp_3_3).trans ((wp_1).trans ((wp_10).trans ((wp_70s).trans (mm_ae ((wp_5_0).trans ((wp_3_3).trans ((wp_1).trans ((wp_10).trans ((wp_70s).trans (mm_ae ((wp_5_0).trans ((wp_3_3).trans ((wp_1).trans ((wp_10).trans ((wp_70s).trans (mm_ae ((wp_v4 mm_n_22 (mm_leq mm_m_22 (mm_lb rfl)) (mm_lb rfl) (mm_o1 (mm_hxy hy))).trans rfl))))))))))))))))))))
theorem r_297_36 (x3 : Int) {hi : mm_Id → Int → Int} {dh : Int → Int} {nx ns : Int} {Q : mm_V → mm_H → Prop} (hy : 5306 ≤ nx) :
    mm_Wp 297 (mm_blk 297 36) [zR (90, 0, 0), zR (1, 0, 0), zR (40, 0, 0), zI x3] [] (mm_z hi dh nx ns) Q =
    ((0 ≤ (mm_w (x3 + 1)) ∧ (mm_w (x3 + 1)) < hi (90, 0, 0) (-1)) ∧ ((0 ≤ (mm_w (x3 + 2)) ∧ (mm_w (x3 + 2)) < hi (90, 0, 0) (-1)) ∧ ((0 ≤ (mm_w (x3 + 3)) ∧ (mm_w (x3 + 3)) < hi (90, 0, 0) (-1)) ∧ ((0 ≤ (mm_w (x3 + 4)) ∧ (mm_w (x3 + 4)) < hi (90, 0, 0) (-1)) ∧ mm_Cl 23 [zR (1, 0, 0), zI (hi (90, 0, 0) (mm_w (x3 + 1))), zI (hi (90, 0, 0) (mm_w (x3 + 2))), zI (hi (90, 0, 0) (mm_w (x3 + 3))), zI (hi (90, 0, 0) (mm_w (x3 + 4)))] (mm_z hi dh nx ns) (fun r h3 => mm_Wp 297 (bk_297_36.drop 22) [zR (90, 0, 0), zR (1, 0, 0), zR (40, 0, 0), zI x3] (mm_push r []) h3 Q))))) :=
  mm_kb bq_297_36 ((wp_5_1).trans ((wp_5_0).trans ((wp_3_3).trans ((wp_1).trans ((wp_10).trans ((wp_70s).trans (mm_ae ((wp_5_0).trans ((wp_3_3).trans ((wp_1).trans ((wp_10).trans ((wp_70s).trans (mm_ae ((wp_5_0).trans ((wp_3_3).trans ((wp_1).trans ((wp_10).trans ((wp_70s).trans (mm_ae ((wp_5_0).trans ((wp_3_3).trans ((wp_1).trans ((wp_10).trans ((wp_70s).trans (mm_ae ((wp_v5 mm_n_23 (mm_leq mm_m_23 (mm_lb rfl)) (mm_lb rfl) (mm_o1 (mm_hxy hy))).trans rfl))))))))))))))))))))))))))
theorem r_297_37 (x3 : Int) {hi : mm_Id → Int → Int} {dh : Int → Int} {nx ns : Int} {Q : mm_V → mm_H → Prop} (hy : 5306 ≤ nx) :
    mm_Wp 297 (mm_blk 297 37) [zR (90, 0, 0), zR (1, 0, 0), zR (40, 0, 0), zI x3] [] (mm_z hi dh nx ns) Q =
    ((0 ≤ (mm_w (x3 + 1)) ∧ (mm_w (x3 + 1)) < hi (90, 0, 0) (-1)) ∧ ((0 ≤ (mm_w (x3 + 2)) ∧ (mm_w (x3 + 2)) < hi (90, 0, 0) (-1)) ∧ mm_Cl 24 [zR (1, 0, 0), zI (hi (90, 0, 0) (mm_w (x3 + 1))), zI (hi (90, 0, 0) (mm_w (x3 + 2)))] (mm_z hi dh nx ns) (fun r h3 => mm_Wp 297 (bk_297_37.drop 12) [zR (90, 0, 0), zR (1, 0, 0), zR (40, 0, 0), zI x3] (mm_push r []) h3 Q))) :=
  mm_kb bq_297_37 ((wp_5_1).trans ((wp_5_0).trans ((wp_3_3).trans ((wp_1).trans ((wp_10).trans ((wp_70s).trans (mm_ae ((wp_5_0).trans ((wp_3_3).trans ((wp_1).trans ((wp_10).trans ((wp_70s).trans (mm_ae ((wp_v3 mm_n_24 (mm_leq mm_m_24 (mm_lb rfl)) (mm_lb rfl) (mm_o1 (mm_hxy hy))).trans rfl))))))))))))))
theorem r_297_38 (x3 : Int) {hi : mm_Id → Int → Int} {dh : Int → Int} {nx ns : Int} {Q : mm_V → mm_H → Prop} (hy : 5306 ≤ nx) :
    mm_Wp 297 (mm_blk 297 38) [zR (90, 0, 0), zR (1, 0, 0), zR (40, 0, 0), zI x3] [] (mm_z hi dh nx ns) Q =
    ((0 ≤ (mm_w (x3 + 1)) ∧ (mm_w (x3 + 1)) < hi (90, 0, 0) (-1)) ∧ ((0 ≤ (mm_w (x3 + 2)) ∧ (mm_w (x3 + 2)) < hi (90, 0, 0) (-1)) ∧ mm_Cl 25 [zR (1, 0, 0), zI (hi (90, 0, 0) (mm_w (x3 + 1))), zI (hi (90, 0, 0) (mm_w (x3 + 2)))] (mm_z hi dh nx ns) (fun r h3 => mm_Wp 297 (bk_297_38.drop 12) [zR (90, 0, 0), zR (1, 0, 0), zR (40, 0, 0), zI x3] (mm_push r []) h3 Q))) :=
  mm_kb bq_297_38 ((wp_5_1).trans ((wp_5_0).trans ((wp_3_3).trans ((wp_1).trans ((wp_10).trans ((wp_70s).trans (mm_ae ((wp_5_0).trans ((wp_3_3).trans ((wp_1).trans ((wp_10).trans ((wp_70s).trans (mm_ae ((wp_v3 mm_n_25 (mm_leq mm_m_25 (mm_lb rfl)) (mm_lb rfl) (mm_o1 (mm_hxy hy))).trans rfl))))))))))))))
theorem r_297_39 (x3 : Int) {hi : mm_Id → Int → Int} {dh : Int → Int} {nx ns : Int} {Q : mm_V → mm_H → Prop} (hy : 5306 ≤ nx) :
    mm_Wp 297 (mm_blk 297 39) [zR (90, 0, 0), zR (1, 0, 0), zR (40, 0, 0), zI x3] [] (mm_z hi dh nx ns) Q =
    ((0 ≤ (mm_w (x3 + 1)) ∧ (mm_w (x3 + 1)) < hi (90, 0, 0) (-1)) ∧ mm_Cl 26 [zR (1, 0, 0), zI (hi (90, 0, 0) (mm_w (x3 + 1)))] (mm_z hi dh nx ns) (fun r h3 => mm_Wp 297 (bk_297_39.drop 7) [zR (90, 0, 0), zR (1, 0, 0), zR (40, 0, 0), zI x3] (mm_push r []) h3 Q)) :=
  mm_kb bq_297_39 ((wp_5_1).trans ((wp_5_0).trans ((wp_3_3).trans ((wp_1).trans ((wp_10).trans ((wp_70s).trans (mm_ae ((wp_v2 mm_n_26 (mm_leq mm_m_26 (mm_lb rfl)) (mm_lb rfl) (mm_o1 (mm_hxy hy))).trans rfl))))))))
theorem r_297_40 (x3 : Int) {hi : mm_Id → Int → Int} {dh : Int → Int} {nx ns : Int} {Q : mm_V → mm_H → Prop} (hy : 5306 ≤ nx) :
    mm_Wp 297 (mm_blk 297 40) [zR (90, 0, 0), zR (1, 0, 0), zR (40, 0, 0), zI x3] [] (mm_z hi dh nx ns) Q =
    ((0 ≤ (mm_w (x3 + 1)) ∧ (mm_w (x3 + 1)) < hi (90, 0, 0) (-1)) ∧ ((0 ≤ (mm_w (x3 + 2)) ∧ (mm_w (x3 + 2)) < hi (90, 0, 0) (-1)) ∧ mm_Cl 27 [zR (1, 0, 0), zI (hi (90, 0, 0) (mm_w (x3 + 1))), zI (hi (90, 0, 0) (mm_w (x3 + 2)))] (mm_z hi dh nx ns) (fun r h3 => mm_Wp 297 (bk_297_40.drop 12) [zR (90, 0, 0), zR (1, 0, 0), zR (40, 0, 0), zI x3] (mm_push r []) h3 Q))) :=
  mm_kb bq_297_40 ((wp_5_1).trans ((wp_5_0).trans ((wp_3_3).trans ((wp_1).trans ((wp_10).trans ((wp_70s).trans (mm_ae ((wp_5_0).trans ((wp_3_3).trans ((wp_1).trans ((wp_10).trans ((wp_70s).trans (mm_ae ((wp_v3 mm_n_27 (mm_leq mm_m_27 (mm_lb rfl)) (mm_lb rfl) (mm_o1 (mm_hxy hy))).trans rfl))))))))))))))
theorem r_297_41 (x3 : Int) {hi : mm_Id → Int → Int} {dh : Int → Int} {nx ns : Int} {Q : mm_V → mm_H → Prop} (hy : 5306 ≤ nx) :
    mm_Wp 297 (mm_blk 297 41) [zR (90, 0, 0), zR (1, 0, 0), zR (40, 0, 0), zI x3] [] (mm_z hi dh nx ns) Q =
    ((0 ≤ (mm_w (x3 + 1)) ∧ (mm_w (x3 + 1)) < hi (90, 0, 0) (-1)) ∧ mm_Cl 28 [zR (1, 0, 0), zI (hi (90, 0, 0) (mm_w (x3 + 1)))] (mm_z hi dh nx ns) (fun r h3 => mm_Wp 297 (bk_297_41.drop 7) [zR (90, 0, 0), zR (1, 0, 0), zR (40, 0, 0), zI x3] (mm_push r []) h3 Q)) :=
  mm_kb bq_297_41 ((wp_5_1).trans ((wp_5_0).trans ((wp_3_3).trans ((wp_1).trans ((wp_10).trans ((wp_70s).trans (mm_ae ((wp_v2 mm_n_28 (mm_leq mm_m_28 (mm_lb rfl)) (mm_lb rfl) (mm_o1 (mm_hxy hy))).trans rfl))))))))
theorem r_297_42 (x3 : Int) {hi : mm_Id → Int → Int} {dh : Int → Int} {nx ns : Int} {Q : mm_V → mm_H → Prop} (hy : 5306 ≤ nx) :
    mm_Wp 297 (mm_blk 297 42) [zR (90, 0, 0), zR (1, 0, 0), zR (40, 0, 0), zI x3] [] (mm_z hi dh nx ns) Q =
    ((0 ≤ (mm_w (x3 + 1)) ∧ (mm_w (x3 + 1)) < hi (90, 0, 0) (-1)) ∧ mm_Cl 29 [zR (1, 0, 0), zI (hi (90, 0, 0) (mm_w (x3 + 1)))] (mm_z hi dh nx ns) (fun r h3 => mm_Wp 297 (bk_297_42.drop 7) [zR (90, 0, 0), zR (1, 0, 0), zR (40, 0, 0), zI x3] (mm_push r []) h3 Q)) :=
  mm_kb bq_297_42 ((wp_5_1).trans ((wp_5_0).trans ((wp_3_3).trans ((wp_1).trans ((wp_10).trans ((wp_70s).trans (mm_ae ((wp_v2 mm_n_29 (mm_leq mm_m_29 (mm_lb rfl)) (mm_lb rfl) (mm_o1 (mm_hxy hy))).trans rfl))))))))
theorem r_297_43 (x3 : Int) {hi : mm_Id → Int → Int} {dh : Int → Int} {nx ns : Int} {Q : mm_V → mm_H → Prop} (hy : 5306 ≤ nx) :
    mm_Wp 297 (mm_blk 297 43) [zR (90, 0, 0), zR (1, 0, 0), zR (40, 0, 0), zI x3] [] (mm_z hi dh nx ns) Q =
    ((0 ≤ (mm_w (x3 + 1)) ∧ (mm_w (x3 + 1)) < hi (90, 0, 0) (-1)) ∧ ((0 ≤ (mm_w (x3 + 2)) ∧ (mm_w (x3 + 2)) < hi (90, 0, 0) (-1)) ∧ mm_Cl 30 [zR (1, 0, 0), zI (hi (90, 0, 0) (mm_w (x3 + 1))), zI (hi (90, 0, 0) (mm_w (x3 + 2)))] (mm_z hi dh nx ns) (fun r h3 => mm_Wp 297 (bk_297_43.drop 12) [zR (90, 0, 0), zR (1, 0, 0), zR (40, 0, 0), zI x3] (mm_push r []) h3 Q))) :=
  mm_kb bq_297_43 ((wp_5_1).trans ((wp_5_0).trans ((wp_3_3).trans ((wp_1).trans ((wp_10).trans ((wp_70s).trans (mm_ae ((wp_5_0).trans ((wp_3_3).trans ((wp_1).trans ((wp_10).trans ((wp_70s).trans (mm_ae ((wp_v3 mm_n_30 (mm_leq mm_m_30 (mm_lb rfl)) (mm_lb rfl) (mm_o1 (mm_hxy hy))).trans rfl))))))))))))))
theorem r_297_44 (x3 : Int) {hi : mm_Id → Int → Int} {dh : Int → Int} {nx ns : Int} {Q : mm_V → mm_H → Prop} (hy : 5306 ≤ nx) :
    mm_Wp 297 (mm_blk 297 44) [zR (90, 0, 0), zR (1, 0, 0), zR (40, 0, 0), zI x3] [] (mm_z hi dh nx ns) Q =
    ((0 ≤ (mm_w (x3 + 1)) ∧ (mm_w (x3 + 1)) < hi (90, 0, 0) (-1)) ∧ mm_Cl 31 [zR (1, 0, 0), zI (hi (90, 0, 0) (mm_w (x3 + 1)))] (mm_z hi dh nx ns) (fun r h3 => mm_Wp 297 (bk_297_44.drop 7) [zR (90, 0, 0), zR (1, 0, 0), zR (40, 0, 0), zI x3] (mm_push r []) h3 Q)) :=
  mm_kb bq_297_44 ((wp_5_1).trans ((wp_5_0).trans ((wp_3_3).trans ((wp_1).trans ((wp_10).trans ((wp_70s).trans (mm_ae ((wp_v2 mm_n_31 (mm_leq mm_m_31 (mm_lb rfl)) (mm_lb rfl) (mm_o1 (mm_hxy hy))).trans rfl))))))))
theorem r_297_45 (x3 : Int) {hi : mm_Id → Int → Int} {dh : Int → Int} {nx ns : Int} {Q : mm_V → mm_H → Prop} (hy : 5306 ≤ nx) :
    mm_Wp 297 (mm_blk 297 45) [zR (90, 0, 0), zR (1, 0, 0), zR (40, 0, 0), zI x3] [] (mm_z hi dh nx ns) Q =
    ((0 ≤ (mm_w (x3 + 1)) ∧ (mm_w (x3 + 1)) < hi (90, 0, 0) (-1)) ∧ ((0 ≤ (mm_w (x3 + 2)) ∧ (mm_w (x3 + 2)) < hi (90, 0, 0) (-1)) ∧ (if (hi (90, 0, 0) (mm_w (x3 + 2))) = 0 then mm_Wp 297 (mm_blk 297 47) [zR (90, 0, 0), zR (1, 0, 0), zR (40, 0, 0), zI x3] [zI 0, zI (hi (90, 0, 0) (mm_w (x3 + 1))), zR (1, 0, 0)] (mm_z hi dh nx ns) Q else mm_Wp 297 (mm_blk 297 47) [zR (90, 0, 0), zR (1, 0, 0), zR (40, 0, 0), zI x3] [zI 1, zI (hi (90, 0, 0) (mm_w (x3 + 1))), zR (1, 0, 0)] (mm_z hi dh nx ns) Q))) :=
  mm_kb bq_297_45 ((wp_5_1).trans ((wp_5_0).trans ((wp_3_3).trans ((wp_1).trans ((wp_10).trans ((wp_70s).trans (mm_ae ((wp_5_0).trans ((wp_3_3).trans ((wp_1).trans ((wp_10).trans ((wp_70s).trans (mm_ae ((wp_40).trans (mm_ic (mm_kb bq_297_46 ((wp_1).trans ((wp_0).trans (rfl)))) ((wp_1).trans ((wp_56).trans (rfl))))))))))))))))))
theorem r_297_50 (x3 : Int) {hi : mm_Id → Int → Int} {dh : Int → Int} {nx ns : Int} {Q : mm_V → mm_H → Prop} (hy : 5306 ≤ nx) :
    mm_Wp 297 (mm_blk 297 50) [zR (90, 0, 0), zR (1, 0, 0), zR (40, 0, 0), zI x3] [] (mm_z hi dh nx ns) Q =
    ((0 ≤ (mm_w (x3 + 1)) ∧ (mm_w (x3 + 1)) < hi (90, 0, 0) (-1)) ∧ ((0 ≤ (mm_w (x3 + 2)) ∧ (mm_w (x3 + 2)) < hi (90, 0, 0) (-1)) ∧ mm_Cl 33 [zR (1, 0, 0), zI (hi (90, 0, 0) (mm_w (x3 + 1))), zI (hi (90, 0, 0) (mm_w (x3 + 2)))] (mm_z hi dh nx ns) (fun r h3 => mm_Wp 297 (bk_297_50.drop 12) [zR (90, 0, 0), zR (1, 0, 0), zR (40, 0, 0), zI x3] (mm_push r []) h3 Q))) :=
  mm_kb bq_297_50 ((wp_5_1).trans ((wp_5_0).trans ((wp_3_3).trans ((wp_1).trans ((wp_10).trans ((wp_70s).trans (mm_ae ((wp_5_0).trans ((wp_3_3).trans ((wp_1).trans ((wp_10).trans ((wp_70s).trans (mm_ae ((wp_v3 mm_n_33 (mm_leq mm_m_33 (mm_lb rfl)) (mm_lb rfl) (mm_o1 (mm_hxy hy))).trans rfl))))))))))))))
theorem r_297_51 (x3 : Int) {hi : mm_Id → Int → Int} {dh : Int → Int} {nx ns : Int} {Q : mm_V → mm_H → Prop} (hy : 5306 ≤ nx) :
    mm_Wp 297 (mm_blk 297 51) [zR (90, 0, 0), zR (1, 0, 0), zR (40, 0, 0), zI x3] [] (mm_z hi dh nx ns) Q =
    ((0 ≤ (mm_w (x3 + 1)) ∧ (mm_w (x3 + 1)) < hi (90, 0, 0) (-1)) ∧ ((0 ≤ (mm_w (x3 + 2)) ∧ (mm_w (x3 + 2)) < hi (90, 0, 0) (-1)) ∧ (if (hi (90, 0, 0) (mm_w (x3 + 2))) = 0 then mm_Wp 297 (mm_blk 297 53) [zR (90, 0, 0), zR (1, 0, 0), zR (40, 0, 0), zI x3] [zI 0, zI (hi (90, 0, 0) (mm_w (x3 + 1))), zR (1, 0, 0)] (mm_z hi dh nx ns) Q else mm_Wp 297 (mm_blk 297 53) [zR (90, 0, 0), zR (1, 0, 0), zR (40, 0, 0), zI x3] [zI 1, zI (hi (90, 0, 0) (mm_w (x3 + 1))), zR (1, 0, 0)] (mm_z hi dh nx ns) Q))) :=
  mm_kb bq_297_51 ((wp_5_1).trans ((wp_5_0).trans ((wp_3_3).trans ((wp_1).trans ((wp_10).trans ((wp_70s).trans (mm_ae ((wp_5_0).trans ((wp_3_3).trans ((wp_1).trans ((wp_10).trans ((wp_70s).trans (mm_ae ((wp_40).trans (mm_ic (mm_kb bq_297_52 ((wp_1).trans ((wp_0).trans (rfl)))) ((wp_1).trans ((wp_56).trans (rfl))))))))))))))))))
theorem r_297_56 (x3 : Int) {hi : mm_Id → Int → Int} {dh : Int → Int} {nx ns : Int} {Q : mm_V → mm_H → Prop} (hy : 5306 ≤ nx) :
    mm_Wp 297 (mm_blk 297 56) [zR (90, 0, 0), zR (1, 0, 0), zR (40, 0, 0), zI x3] [] (mm_z hi dh nx ns) Q =
    ((0 ≤ (mm_w (x3 + 1)) ∧ (mm_w (x3 + 1)) < hi (90, 0, 0) (-1)) ∧ ((0 ≤ (mm_w (x3 + 2)) ∧ (mm_w (x3 + 2)) < hi (90, 0, 0) (-1)) ∧ mm_Cl 35 [zR (1, 0, 0), zI (hi (90, 0, 0) (mm_w (x3 + 1))), zI (hi (90, 0, 0) (mm_w (x3 + 2)))] (mm_z hi dh nx ns) (fun r h3 => mm_Wp 297 (bk_297_56.drop 12) [zR (90, 0, 0), zR (1, 0, 0), zR (40, 0, 0), zI x3] (mm_push r []) h3 Q))) :=
  mm_kb bq_297_56 ((wp_5_1).trans ((wp_5_0).trans ((wp_3_3).trans ((wp_1).trans ((wp_10).trans ((wp_70s).trans (mm_ae ((wp_5_0).trans ((wp_3_3).trans ((wp_1).trans ((wp_10).trans ((wp_70s).trans (mm_ae ((wp_v3 mm_n_35 (mm_leq mm_m_35 (mm_lb rfl)) (mm_lb rfl) (mm_o1 (mm_hxy hy))).trans rfl))))))))))))))
theorem r_297_57 (x3 : Int) {hi : mm_Id → Int → Int} {dh : Int → Int} {nx ns : Int} {Q : mm_V → mm_H → Prop} (hy : 5306 ≤ nx) :
    mm_Wp 297 (mm_blk 297 57) [zR (90, 0, 0), zR (1, 0, 0), zR (40, 0, 0), zI x3] [] (mm_z hi dh nx ns) Q =
    ((0 ≤ (mm_w (x3 + 1)) ∧ (mm_w (x3 + 1)) < hi (90, 0, 0) (-1)) ∧ ((0 ≤ (mm_w (x3 + 2)) ∧ (mm_w (x3 + 2)) < hi (90, 0, 0) (-1)) ∧ ((0 ≤ (mm_w (x3 + 3)) ∧ (mm_w (x3 + 3)) < hi (90, 0, 0) (-1)) ∧ mm_Cl 36 [zR (1, 0, 0), zI (hi (90, 0, 0) (mm_w (x3 + 1))), zI (hi (90, 0, 0) (mm_w (x3 + 2))), zI (hi (90, 0, 0) (mm_w (x3 + 3)))] (mm_z hi dh nx ns) (fun r h3 => mm_Wp 297 (bk_297_57.drop 17) [zR (90, 0, 0), zR (1, 0, 0), zR (40, 0, 0), zI x3] (mm_push r []) h3 Q)))) :=
  mm_kb bq_297_57 ((wp_5_1).trans ((wp_5_0).trans ((wp_3_3).trans ((wp_1).trans ((wp_10).trans ((wp_70s).trans (mm_ae ((wp_5_0).trans ((wp_3_3).trans ((wp_1).trans ((wp_10).trans ((wp_70s).trans (mm_ae ((wp_5_0).trans ((wp_3_3).trans ((wp_1).trans ((wp_10).trans ((wp_70s).trans (mm_ae ((wp_v4 mm_n_36 (mm_leq mm_m_36 (mm_lb rfl)) (mm_lb rfl) (mm_o1 (mm_hxy hy))).trans rfl))))))))))))))))))))
theorem r_297_58 (x3 : Int) {hi : mm_Id → Int → Int} {dh : Int → Int} {nx ns : Int} {Q : mm_V → mm_H → Prop} (hy : 5306 ≤ nx) :
    mm_Wp 297 (mm_blk 297 58) [zR (90, 0, 0), zR (1, 0, 0), zR (40, 0, 0), zI x3] [] (mm_z hi dh nx ns) Q =
    ((0 ≤ (mm_w (x3 + 1)) ∧ (mm_w (x3 + 1)) < hi (90, 0, 0) (-1)) ∧ ((0 ≤ (mm_w (x3 + 2)) ∧ (mm_w (x3 + 2)) < hi (90, 0, 0) (-1)) ∧ mm_Cl 37 [zR (1, 0, 0), zI (hi (90, 0, 0) (mm_w (x3 + 1))), zI (hi (90, 0, 0) (mm_w (x3 + 2)))] (mm_z hi dh nx ns) (fun r h3 => mm_Wp 297 (bk_297_58.drop 12) [zR (90, 0, 0), zR (1, 0, 0), zR (40, 0, 0), zI x3] (mm_push r []) h3 Q))) :=
  mm_kb bq_297_58 ((wp_5_1).trans ((wp_5_0).trans ((wp_3_3).trans ((wp_1).trans ((wp_10).trans ((wp_70s).trans (mm_ae ((wp_5_0).trans ((wp_3_3).trans ((wp_1).trans ((wp_10).trans ((wp_70s).trans (mm_ae ((wp_v3 mm_n_37 (mm_leq mm_m_37 (mm_lb rfl)) (mm_lb rfl) (mm_o1 (mm_hxy hy))).trans rfl))))))))))))))
theorem r_297_59 (x3 : Int) {hi : mm_Id → Int → Int} {dh : Int → Int} {nx ns : Int} {Q : mm_V → mm_H → Prop} (hy : 5306 ≤ nx) :
    mm_Wp 297 (mm_blk 297 59) [zR (90, 0, 0), zR (1, 0, 0), zR (40, 0, 0), zI x3] [] (mm_z hi dh nx ns) Q =
    ((0 ≤ (mm_w (x3 + 1)) ∧ (mm_w (x3 + 1)) < hi (90, 0, 0) (-1)) ∧ mm_Cl 38 [zR (1, 0, 0), zI (hi (90, 0, 0) (mm_w (x3 + 1)))] (mm_z hi dh nx ns) (fun r h3 => mm_Wp 297 (bk_297_59.drop 7) [zR (90, 0, 0), zR (1, 0, 0), zR (40, 0, 0), zI x3] (mm_push r []) h3 Q)) :=
  mm_kb bq_297_59 ((wp_5_1).trans ((wp_5_0).trans ((wp_3_3).trans ((wp_1).trans ((wp_10).trans ((wp_70s).trans (mm_ae ((wp_v2 mm_n_38 (mm_leq mm_m_38 (mm_lb rfl)) (mm_lb rfl) (mm_o1 (mm_hxy hy))).trans rfl))))))))
theorem r_297_60 (x3 : Int) {hi : mm_Id → Int → Int} {dh : Int → Int} {nx ns : Int} {Q : mm_V → mm_H → Prop} (hy : 5306 ≤ nx) :
    mm_Wp 297 (mm_blk 297 60) [zR (90, 0, 0), zR (1, 0, 0), zR (40, 0, 0), zI x3] [] (mm_z hi dh nx ns) Q =
    mm_Cl 39 [zR (1, 0, 0)] (mm_z hi dh nx ns) (fun r h3 => mm_Wp 297 (bk_297_60.drop 2) [zR (90, 0, 0), zR (1, 0, 0), zR (40, 0, 0), zI x3] (mm_push r []) h3 Q) :=
  mm_kb bq_297_60 ((wp_5_1).trans ((wp_v1 mm_n_39 (mm_leq mm_m_39 (mm_lb rfl)) (mm_lb rfl) (mm_o1 (mm_hxy hy))).trans rfl))
theorem r_297_61 (x3 : Int) {hi : mm_Id → Int → Int} {dh : Int → Int} {nx ns : Int} {Q : mm_V → mm_H → Prop} (hy : 5306 ≤ nx) :
    mm_Wp 297 (mm_blk 297 61) [zR (90, 0, 0), zR (1, 0, 0), zR (40, 0, 0), zI x3] [] (mm_z hi dh nx ns) Q =
    mm_Cl 40 [zR (1, 0, 0)] (mm_z hi dh nx ns) (fun r h3 => mm_Wp 297 (bk_297_61.drop 2) [zR (90, 0, 0), zR (1, 0, 0), zR (40, 0, 0), zI x3] (mm_push r []) h3 Q) :=
  mm_kb bq_297_61 ((wp_5_1).trans ((wp_v1 mm_n_40 (mm_leq mm_m_40 (mm_lb rfl)) (mm_lb rfl) (mm_o1 (mm_hxy hy))).trans rfl))
theorem r_297_62 (x3 : Int) {hi : mm_Id → Int → Int} {dh : Int → Int} {nx ns : Int} {Q : mm_V → mm_H → Prop} (hy : 5306 ≤ nx) :
    mm_Wp 297 (mm_blk 297 62) [zR (90, 0, 0), zR (1, 0, 0), zR (40, 0, 0), zI x3] [] (mm_z hi dh nx ns) Q =
    ((0 ≤ (mm_w (x3 + 1)) ∧ (mm_w (x3 + 1)) < hi (90, 0, 0) (-1)) ∧ mm_Cl 41 [zR (1, 0, 0), zI (hi (90, 0, 0) (mm_w (x3 + 1)))] (mm_z hi dh nx ns) (fun r h3 => mm_Wp 297 (bk_297_62.drop 7) [zR (90, 0, 0), zR (1, 0, 0), zR (40, 0, 0), zI x3] (mm_push r []) h3 Q)) :=
  mm_kb bq_297_62 ((wp_5_1).trans ((wp_5_0).trans ((wp_3_3).trans ((wp_1).trans ((wp_10).trans ((wp_70s).trans (mm_ae ((wp_v2 mm_n_41 (mm_leq mm_m_41 (mm_lb rfl)) (mm_lb rfl) (mm_o1 (mm_hxy hy))).trans rfl))))))))
theorem r_297_63 (x3 : Int) {hi : mm_Id → Int → Int} {dh : Int → Int} {nx ns : Int} {Q : mm_V → mm_H → Prop} (hy : 5306 ≤ nx) :
    mm_Wp 297 (mm_blk 297 63) [zR (90, 0, 0), zR (1, 0, 0), zR (40, 0, 0), zI x3] [] (mm_z hi dh nx ns) Q =
    ((0 ≤ (mm_w (x3 + 1)) ∧ (mm_w (x3 + 1)) < hi (90, 0, 0) (-1)) ∧ ((0 ≤ (mm_w (x3 + 2)) ∧ (mm_w (x3 + 2)) < hi (90, 0, 0) (-1)) ∧ ((0 ≤ (mm_w (x3 + 3)) ∧ (mm_w (x3 + 3)) < hi (90, 0, 0) (-1)) ∧ mm_Cl 42 [zR (1, 0, 0), zI (hi (90, 0, 0) (mm_w (x3 + 1))), zI (hi (90, 0, 0) (mm_w (x3 + 2))), zI (hi (90, 0, 0) (mm_w (x3 + 3)))] (mm_z hi dh nx ns) (fun r h3 => mm_Wp 297 (bk_297_63.drop 17) [zR (90, 0, 0), zR (1, 0, 0), zR (40, 0, 0), zI x3] (mm_push r []) h3 Q)))) :=
  mm_kb bq_297_63 ((wp_5_1).trans ((wp_5_0).trans ((wp_3_3).trans ((wp_1).trans ((wp_10).trans ((wp_70s).trans (mm_ae ((wp_5_0).trans ((wp_3_3).trans ((wp_1).trans ((wp_10).trans ((wp_70s).trans (mm_ae ((wp_5_0).trans ((wp_3_3).trans ((wp_1).trans ((wp_10).trans ((wp_70s).trans (mm_ae ((wp_v4 mm_n_42 (mm_leq mm_m_42 (mm_lb rfl)) (mm_lb rfl) (mm_o1 (mm_hxy hy))).trans rfl))))))))))))))))))))
theorem r_297_64 (x3 : Int) {hi : mm_Id → Int → Int} {dh : Int → Int} {nx ns : Int} {Q : mm_V → mm_H → Prop} (hy : 5306 ≤ nx) :
    mm_Wp 297 (mm_blk 297 64) [zR (90, 0, 0), zR (1, 0, 0), zR (40, 0, 0), zI x3] [] (mm_z hi dh nx ns) Q =
    ((0 ≤ (mm_w (x3 + 1)) ∧ (mm_w (x3 + 1)) < hi (90, 0, 0) (-1)) ∧ mm_Cl 43 [zR (1, 0, 0), zI (hi (90, 0, 0) (mm_w (x3 + 1)))] (mm_z hi dh nx ns) (fun r h3 => mm_Wp 297 (bk_297_64.drop 7) [zR (90, 0, 0), zR (1, 0, 0), zR (40, 0, 0), zI x3] (mm_push r []) h3 Q)) :=
  mm_kb bq_297_64 ((wp_5_1).trans ((wp_5_0).trans ((wp_3_3).trans ((wp_1).trans ((wp_10).trans ((wp_70s).trans (mm_ae ((wp_v2 mm_n_43 (mm_leq mm_m_43 (mm_lb rfl)) (mm_lb rfl) (mm_o1 (mm_hxy hy))).trans rfl))))))))
theorem r_297_65 (x3 : Int) {hi : mm_Id → Int → Int} {dh : Int → Int} {nx ns : Int} {Q : mm_V → mm_H → Prop} (hy : 5306 ≤ nx) :
    mm_Wp 297 (mm_blk 297 65) [zR (90, 0, 0), zR (1, 0, 0), zR (40, 0, 0), zI x3] [] (mm_z hi dh nx ns) Q =
    ((0 ≤ (mm_w (x3 + 1)) ∧ (mm_w (x3 + 1)) < hi (90, 0, 0) (-1)) ∧ ((0 ≤ (mm_w (x3 + 2)) ∧ (mm_w (x3 + 2)) < hi (90, 0, 0) (-1)) ∧ (if (hi (90, 0, 0) (mm_w (x3 + 2))) = 0 then mm_Wp 297 (mm_blk 297 67) [zR (90, 0, 0), zR (1, 0, 0), zR (40, 0, 0), zI x3] [zI 0, zI (hi (90, 0, 0) (mm_w (x3 + 1))), zR (1, 0, 0)] (mm_z hi dh nx ns) Q else mm_Wp 297 (mm_blk 297 67) [zR (90, 0, 0), zR (1, 0, 0), zR (40, 0, 0), zI x3] [zI 1, zI (hi (90, 0, 0) (mm_w (x3 + 1))), zR (1, 0, 0)] (mm_z hi dh nx ns) Q))) :=
  mm_kb bq_297_65 ((wp_5_1).trans ((wp_5_0).trans ((wp_3_3).trans ((wp_1).trans ((wp_10).trans ((wp_70s).trans (mm_ae ((wp_5_0).trans ((wp_3_3).trans ((wp_1).trans ((wp_10).trans ((wp_70s).trans (mm_ae ((wp_40).trans (mm_ic (mm_kb bq_297_66 ((wp_1).trans ((wp_0).trans (rfl)))) ((wp_1).trans ((wp_56).trans (rfl))))))))))))))))))
theorem r_297_70 (x3 : Int) {hi : mm_Id → Int → Int} {dh : Int → Int} {nx ns : Int} {Q : mm_V → mm_H → Prop} (hy : 5306 ≤ nx) :
    mm_Wp 297 (mm_blk 297 70) [zR (90, 0, 0), zR (1, 0, 0), zR (40, 0, 0), zI x3] [] (mm_z hi dh nx ns) Q =
    ((0 ≤ (mm_w (x3 + 1)) ∧ (mm_w (x3 + 1)) < hi (90, 0, 0) (-1)) ∧ (if (hi (90, 0, 0) (mm_w (x3 + 1))) = 0 then mm_Wp 297 (mm_blk 297 72) [zR (90, 0, 0), zR (1, 0, 0), zR (40, 0, 0), zI x3] [zI 0, zR (1, 0, 0)] (mm_z hi dh nx ns) Q else mm_Wp 297 (mm_blk 297 72) [zR (90, 0, 0), zR (1, 0, 0), zR (40, 0, 0), zI x3] [zI 1, zR (1, 0, 0)] (mm_z hi dh nx ns) Q)) :=
  mm_kb bq_297_70 ((wp_5_1).trans ((wp_5_0).trans ((wp_3_3).trans ((wp_1).trans ((wp_10).trans ((wp_70s).trans (mm_ae ((wp_40).trans (mm_ic (mm_kb bq_297_71 ((wp_1).trans ((wp_0).trans (rfl)))) ((wp_1).trans ((wp_56).trans (rfl))))))))))))
theorem r_297_75 (x3 : Int) {hi : mm_Id → Int → Int} {dh : Int → Int} {nx ns : Int} {Q : mm_V → mm_H → Prop} (hy : 5306 ≤ nx) :
    mm_Wp 297 (mm_blk 297 75) [zR (90, 0, 0), zR (1, 0, 0), zR (40, 0, 0), zI x3] [] (mm_z hi dh nx ns) Q =
    ((0 ≤ (mm_w (x3 + 1)) ∧ (mm_w (x3 + 1)) < hi (90, 0, 0) (-1)) ∧ mm_Cl 46 [zR (1, 0, 0), zI (hi (90, 0, 0) (mm_w (x3 + 1)))] (mm_z hi dh nx ns) (fun r h3 => mm_Wp 297 (bk_297_75.drop 7) [zR (90, 0, 0), zR (1, 0, 0), zR (40, 0, 0), zI x3] (mm_push r []) h3 Q)) :=
  mm_kb bq_297_75 ((wp_5_1).trans ((wp_5_0).trans ((wp_3_3).trans ((wp_1).trans ((wp_10).trans ((wp_70s).trans (mm_ae ((wp_v2 mm_n_46 (mm_leq mm_m_46 (mm_lb rfl)) (mm_lb rfl) (mm_o1 (mm_hxy hy))).trans rfl))))))))
theorem r_297_76 (x3 : Int) {hi : mm_Id → Int → Int} {dh : Int → Int} {nx ns : Int} {Q : mm_V → mm_H → Prop} (hy : 5306 ≤ nx) :
    mm_Wp 297 (mm_blk 297 76) [zR (90, 0, 0), zR (1, 0, 0), zR (40, 0, 0), zI x3] [] (mm_z hi dh nx ns) Q =
    ((0 ≤ (mm_w (x3 + 1)) ∧ (mm_w (x3 + 1)) < hi (90, 0, 0) (-1)) ∧ ((0 ≤ (mm_w (x3 + 2)) ∧ (mm_w (x3 + 2)) < hi (90, 0, 0) (-1)) ∧ ((0 ≤ (mm_w (x3 + 3)) ∧ (mm_w (x3 + 3)) < hi (90, 0, 0) (-1)) ∧ ((0 ≤ (mm_w (x3 + 4)) ∧ (mm_w (x3 + 4)) < hi (90, 0, 0) (-1)) ∧ ((0 ≤ (mm_w (x3 + 5)) ∧ (mm_w (x3 + 5)) < hi (90, 0, 0) (-1)) ∧ mm_Cl 47 [zR (1, 0, 0), zI (hi (90, 0, 0) (mm_w (x3 + 1))), zI (hi (90, 0, 0) (mm_w (x3 + 2))), zI (hi (90, 0, 0) (mm_w (x3 + 3))), zI (hi (90, 0, 0) (mm_w (x3 + 4))), zI (hi (90, 0, 0) (mm_w (x3 + 5)))] (mm_z hi dh nx ns) (fun r h3 => mm_Wp 297 (bk_297_76.drop 27) [zR (90, 0, 0), zR (1, 0, 0), zR (40, 0, 0), zI x3] (mm_push r []) h3 Q)))))) :=
  mm_kb bq_297_76 ((wp_5_1).trans ((wp_5_0).trans ((wp_3_3).trans ((wp_1).trans ((wp_10).trans ((wp_70s).trans (mm_ae ((wp_5_0).trans ((wp_3_3).trans ((wp_1).trans ((wp_10).trans ((wp_70s).trans (mm_ae ((wp_5_0).trans ((wp_3_3).trans ((wp_1).trans ((wp_10).trans ((wp_70s).trans (mm_ae ((wp_5_0).trans ((wp_3_3).trans ((wp_1).trans ((wp_10).trans ((wp_70s).trans (mm_ae ((wp_5_0).trans ((wp_3_3).trans ((wp_1).trans ((wp_10).trans ((wp_70s).trans (mm_ae ((wp_v6 mm_n_47 (mm_leq mm_m_47 (mm_lb rfl)) (mm_lb rfl) (mm_o1 (mm_hxy hy))).trans rfl))))))))))))))))))))))))))))))))
theorem r_297_77 (x3 : Int) {hi : mm_Id → Int → Int} {dh : Int → Int} {nx ns : Int} {Q : mm_V → mm_H → Prop} (hy : 5306 ≤ nx) :
    mm_Wp 297 (mm_blk 297 77) [zR (90, 0, 0), zR (1, 0, 0), zR (40, 0, 0), zI x3] [] (mm_z hi dh nx ns) Q =
    ((0 ≤ (mm_w (x3 + 1)) ∧ (mm_w (x3 + 1)) < hi (90, 0, 0) (-1)) ∧ mm_Cl 48 [zR (1, 0, 0), zI (hi (90, 0, 0) (mm_w (x3 + 1)))] (mm_z hi dh nx ns) (fun r h3 => mm_Wp 297 (bk_297_77.drop 7) [zR (90, 0, 0), zR (1, 0, 0), zR (40, 0, 0), zI x3] (mm_push r []) h3 Q)) :=
  mm_kb bq_297_77 ((wp_5_1).trans ((wp_5_0).trans ((wp_3_3).trans ((wp_1).trans ((wp_10).trans ((wp_70s).trans (mm_ae ((wp_v2 mm_n_48 (mm_leq mm_m_48 (mm_lb rfl)) (mm_lb rfl) (mm_o1 (mm_hxy hy))).trans rfl))))))))
theorem r_297_78 (x3 : Int) {hi : mm_Id → Int → Int} {dh : Int → Int} {nx ns : Int} {Q : mm_V → mm_H → Prop} (hy : 5306 ≤ nx) :
    mm_Wp 297 (mm_blk 297 78) [zR (90, 0, 0), zR (1, 0, 0), zR (40, 0, 0), zI x3] [] (mm_z hi dh nx ns) Q =
    mm_Cl 49 [zR (1, 0, 0)] (mm_z hi dh nx ns) (fun r h3 => mm_Wp 297 (bk_297_78.drop 2) [zR (90, 0, 0), zR (1, 0, 0), zR (40, 0, 0), zI x3] (mm_push r []) h3 Q) :=
  mm_kb bq_297_78 ((wp_5_1).trans ((wp_v1 mm_n_49 (mm_leq mm_m_49 (mm_lb rfl)) (mm_lb rfl) (mm_o1 (mm_hxy hy))).trans rfl))
theorem r_297_79 (x3 : Int) {hi : mm_Id → Int → Int} {dh : Int → Int} {nx ns : Int} {Q : mm_V → mm_H → Prop} (hy : 5306 ≤ nx) :
    mm_Wp 297 (mm_blk 297 79) [zR (90, 0, 0), zR (1, 0, 0), zR (40, 0, 0), zI x3] [] (mm_z hi dh nx ns) Q =
    ((0 ≤ (mm_w (x3 + 1)) ∧ (mm_w (x3 + 1)) < hi (90, 0, 0) (-1)) ∧ mm_Cl 50 [zR (1, 0, 0), zI (hi (90, 0, 0) (mm_w (x3 + 1)))] (mm_z hi dh nx ns) (fun r h3 => mm_Wp 297 (bk_297_79.drop 7) [zR (90, 0, 0), zR (1, 0, 0), zR (40, 0, 0), zI x3] (mm_push r []) h3 Q)) :=
  mm_kb bq_297_79 ((wp_5_1).trans ((wp_5_0).trans ((wp_3_3).trans ((wp_1).trans ((wp_10).trans ((wp_70s).trans (mm_ae ((wp_v2 mm_n_50 (mm_leq mm_m_50 (mm_lb rfl)) (mm_lb rfl) (mm_o1 (mm_hxy hy))).trans rfl))))))))
theorem r_297_80 (x3 : Int) {hi : mm_Id → Int → Int} {dh : Int → Int} {nx ns : Int} {Q : mm_V → mm_H → Prop} (hy : 5306 ≤ nx) :
    mm_Wp 297 (mm_blk 297 80) [zR (90, 0, 0), zR (1, 0, 0), zR (40, 0, 0), zI x3] [] (mm_z hi dh nx ns) Q =
    mm_Cl 51 [zR (1, 0, 0)] (mm_z hi dh nx ns) (fun r h3 => mm_Wp 297 (bk_297_80.drop 2) [zR (90, 0, 0), zR (1, 0, 0), zR (40, 0, 0), zI x3] (mm_push r []) h3 Q) :=
  mm_kb bq_297_80 ((wp_5_1).trans ((wp_v1 mm_n_51 (mm_leq mm_m_51 (mm_lb rfl)) (mm_lb rfl) (mm_o1 (mm_hxy hy))).trans rfl))
theorem r_297_81 (x3 : Int) {hi : mm_Id → Int → Int} {dh : Int → Int} {nx ns : Int} {Q : mm_V → mm_H → Prop} (hy : 5306 ≤ nx) :
    mm_Wp 297 (mm_blk 297 81) [zR (90, 0, 0), zR (1, 0, 0), zR (40, 0, 0), zI x3] [] (mm_z hi dh nx ns) Q =
    mm_Cl 52 [zR (1, 0, 0)] (mm_z hi dh nx ns) (fun r h3 => mm_Wp 297 (bk_297_81.drop 2) [zR (90, 0, 0), zR (1, 0, 0), zR (40, 0, 0), zI x3] (mm_push r []) h3 Q) :=
  mm_kb bq_297_81 ((wp_5_1).trans ((wp_v1 mm_n_52 (mm_leq mm_m_52 (mm_lb rfl)) (mm_lb rfl) (mm_o1 (mm_hxy hy))).trans rfl))
theorem r_297_82 (x3 : Int) {hi : mm_Id → Int → Int} {dh : Int → Int} {nx ns : Int} {Q : mm_V → mm_H → Prop} (hy : 5306 ≤ nx) :
    mm_Wp 297 (mm_blk 297 82) [zR (90, 0, 0), zR (1, 0, 0), zR (40, 0, 0), zI x3] [] (mm_z hi dh nx ns) Q =
    mm_Wp 297 (mm_blk 297 1) [zR (90, 0, 0), zR (1, 0, 0), zR (40, 0, 0), zI (mm_w (x3 + 7))] [] (mm_z hi dh nx ns) Q :=
  mm_kb bq_297_82 ((wp_9 (l2 := [zR (90, 0, 0), zR (1, 0, 0), zR (40, 0, 0), zI (mm_w (x3 + 7))]) rfl rfl).trans ((wp_56).trans (rfl)))
theorem r_297_2_22 (x3 : Int) (y0 : Int) {hi : mm_Id → Int → Int} {dh : Int → Int} {nx ns : Int} {Q : mm_V → mm_H → Prop} (hy : 5306 ≤ nx) :
    mm_Wp 297 (bk_297_2.drop 22) [zR (90, 0, 0), zR (1, 0, 0), zR (40, 0, 0), zI x3] [zI y0] (mm_z hi dh nx ns) Q =
    ((0 ≤ (mm_w (x3 + 1)) ∧ (mm_w (x3 + 1)) < hi (90, 0, 0) (-1)) ∧ ((0 ≤ (mm_w (x3 + 2)) ∧ (mm_w (x3 + 2)) < hi (90, 0, 0) (-1)) ∧ ((0 ≤ (mm_w (x3 + 3)) ∧ (mm_w (x3 + 3)) < hi (90, 0, 0) (-1)) ∧ ((0 ≤ (mm_w (x3 + 4)) ∧ (mm_w (x3 + 4)) < hi (90, 0, 0) (-1)) ∧ mm_Cl 212 [zR (40, 0, 0), zI (hi (90, 0, 0) (mm_w (x3 + 1))), zI (hi (90, 0, 0) (mm_w (x3 + 2))), zI (hi (90, 0, 0) (mm_w (x3 + 3))), zI (hi (90, 0, 0) (mm_w (x3 + 4)))] (mm_z hi dh nx ns) (fun r h3 => mm_Wp 297 (bk_297_2.drop 44) [zR (90, 0, 0), zR (1, 0, 0), zR (40, 0, 0), zI x3] (mm_push r [zI y0]) h3 Q))))) :=
  (wp_5_2).trans ((wp_5_0).trans ((wp_3_3).trans ((wp_1).trans ((wp_10).trans ((wp_70s).trans (mm_ae ((wp_5_0).trans ((wp_3_3).trans ((wp_1).trans ((wp_10).trans ((wp_70s).trans (mm_ae ((wp_5_0).trans ((wp_3_3).trans ((wp_1).trans ((wp_10).trans ((wp_70s).trans (mm_ae ((wp_5_0).trans ((wp_3_3).trans ((wp_1).trans ((wp_10).trans ((wp_70s).trans (mm_ae ((wp_v5 mm_n_212 (mm_leq mm_m_212 (mm_lb rfl)) (mm_lb rfl) (mm_o40 hy)).trans rfl)))))))))))))))))))))))))
theorem r_297_3_7 (x3 : Int) (y0 : Int) {hi : mm_Id → Int → Int} {dh : Int → Int} {nx ns : Int} {Q : mm_V → mm_H → Prop} (hy : 5306 ≤ nx) :
    mm_Wp 297 (bk_297_3.drop 7) [zR (90, 0, 0), zR (1, 0, 0), zR (40, 0, 0), zI x3] [zI y0] (mm_z hi dh nx ns) Q =
    ((0 ≤ (mm_w (x3 + 1)) ∧ (mm_w (x3 + 1)) < hi (90, 0, 0) (-1)) ∧ mm_Cl 214 [zR (40, 0, 0), zI (hi (90, 0, 0) (mm_w (x3 + 1)))] (mm_z hi dh nx ns) (fun r h3 => mm_Wp 297 (bk_297_3.drop 14) [zR (90, 0, 0), zR (1, 0, 0), zR (40, 0, 0), zI x3] (mm_push r [zI y0]) h3 Q)) :=
  (wp_5_2).trans ((wp_5_0).trans ((wp_3_3).trans ((wp_1).trans ((wp_10).trans ((wp_70s).trans (mm_ae ((wp_v2 mm_n_214 (mm_leq mm_m_214 (mm_lb rfl)) (mm_lb rfl) (mm_o40 hy)).trans rfl)))))))
theorem r_297_6 (x3 : Int) (y0 : Int) (y1 : Int) (y2 : Int) (y3 : Int) {hi : mm_Id → Int → Int} {dh : Int → Int} {nx ns : Int} {Q : mm_V → mm_H → Prop} (hy : 5306 ≤ nx) :
    mm_Wp 297 (mm_blk 297 6) [zR (90, 0, 0), zR (1, 0, 0), zR (40, 0, 0), zI x3] [zI y0, zI y1, zI y2, zI y3, zR (1, 0, 0)] (mm_z hi dh nx ns) Q =
    mm_Cl 3 [zR (1, 0, 0), zI y3, zI y2, zI y1, zI y0] (mm_z hi dh nx ns) (fun r h3 => mm_Wp 297 (bk_297_6.drop 1) [zR (90, 0, 0), zR (1, 0, 0), zR (40, 0, 0), zI x3] (mm_push r []) h3 Q) :=
  mm_kb bq_297_6 ((wp_v5 mm_n_3 (mm_leq mm_m_3 (mm_lb rfl)) (mm_lb rfl) (mm_o1 (mm_hxy hy))).trans rfl)
theorem r_297_11 (x3 : Int) (y0 : Int) (y1 : Int) (y2 : Int) {hi : mm_Id → Int → Int} {dh : Int → Int} {nx ns : Int} {Q : mm_V → mm_H → Prop} (hy : 5306 ≤ nx) :
    mm_Wp 297 (mm_blk 297 11) [zR (90, 0, 0), zR (1, 0, 0), zR (40, 0, 0), zI x3] [zI y0, zI y1, zI y2, zR (1, 0, 0)] (mm_z hi dh nx ns) Q =
    mm_Cl 4 [zR (1, 0, 0), zI y2, zI y1, zI y0] (mm_z hi dh nx ns) (fun r h3 => mm_Wp 297 (bk_297_11.drop 1) [zR (90, 0, 0), zR (1, 0, 0), zR (40, 0, 0), zI x3] (mm_push r []) h3 Q) :=
  mm_kb bq_297_11 ((wp_v4 mm_n_4 (mm_leq mm_m_4 (mm_lb rfl)) (mm_lb rfl) (mm_o1 (mm_hxy hy))).trans rfl)
theorem r_297_14_17 (x3 : Int) (y0 : Int) {hi : mm_Id → Int → Int} {dh : Int → Int} {nx ns : Int} {Q : mm_V → mm_H → Prop} (hy : 5306 ≤ nx) :
    mm_Wp 297 (bk_297_14.drop 17) [zR (90, 0, 0), zR (1, 0, 0), zR (40, 0, 0), zI x3] [zI y0] (mm_z hi dh nx ns) Q =
    ((0 ≤ (mm_w (x3 + 1)) ∧ (mm_w (x3 + 1)) < hi (90, 0, 0) (-1)) ∧ ((0 ≤ (mm_w (x3 + 2)) ∧ (mm_w (x3 + 2)) < hi (90, 0, 0) (-1)) ∧ ((0 ≤ (mm_w (x3 + 3)) ∧ (mm_w (x3 + 3)) < hi (90, 0, 0) (-1)) ∧ mm_Cl 217 [zR (40, 0, 0), zI (hi (90, 0, 0) (mm_w (x3 + 1))), zI (hi (90, 0, 0) (mm_w (x3 + 2))), zI (hi (90, 0, 0) (mm_w (x3 + 3)))] (mm_z hi dh nx ns) (fun r h3 => mm_Wp 297 (bk_297_14.drop 34) [zR (90, 0, 0), zR (1, 0, 0), zR (40, 0, 0), zI x3] (mm_push r [zI y0]) h3 Q)))) :=
  (wp_5_2).trans ((wp_5_0).trans ((wp_3_3).trans ((wp_1).trans ((wp_10).trans ((wp_70s).trans (mm_ae ((wp_5_0).trans ((wp_3_3).trans ((wp_1).trans ((wp_10).trans ((wp_70s).trans (mm_ae ((wp_5_0).trans ((wp_3_3).trans ((wp_1).trans ((wp_10).trans ((wp_70s).trans (mm_ae ((wp_v4 mm_n_217 (mm_leq mm_m_217 (mm_lb rfl)) (mm_lb rfl) (mm_o40 hy)).trans rfl)))))))))))))))))))
theorem r_297_15_17 (x3 : Int) (y0 : Int) {hi : mm_Id → Int → Int} {dh : Int → Int} {nx ns : Int} {Q : mm_V → mm_H → Prop} (hy : 5306 ≤ nx) :
    mm_Wp 297 (bk_297_15.drop 17) [zR (90, 0, 0), zR (1, 0, 0), zR (40, 0, 0), zI x3] [zI y0] (mm_z hi dh nx ns) Q =
    ((0 ≤ (mm_w (x3 + 1)) ∧ (mm_w (x3 + 1)) < hi (90, 0, 0) (-1)) ∧ ((0 ≤ (mm_w (x3 + 2)) ∧ (mm_w (x3 + 2)) < hi (90, 0, 0) (-1)) ∧ ((0 ≤ (mm_w (x3 + 3)) ∧ (mm_w (x3 + 3)) < hi (90, 0, 0) (-1)) ∧ mm_Cl 218 [zR (40, 0, 0), zI (hi (90, 0, 0) (mm_w (x3 + 1))), zI (hi (90, 0, 0) (mm_w (x3 + 2))), zI (hi (90, 0, 0) (mm_w (x3 + 3)))] (mm_z hi dh nx ns) (fun r h3 => mm_Wp 297 (bk_297_15.drop 34) [zR (90, 0, 0), zR (1, 0, 0), zR (40, 0, 0), zI x3] (mm_push r [zI y0]) h3 Q)))) :=
  (wp_5_2).trans ((wp_5_0).trans ((wp_3_3).trans ((wp_1).trans ((wp_10).trans ((wp_70s).trans (mm_ae ((wp_5_0).trans ((wp_3_3).trans ((wp_1).trans ((wp_10).trans ((wp_70s).trans (mm_ae ((wp_5_0).trans ((wp_3_3).trans ((wp_1).trans ((wp_10).trans ((wp_70s).trans (mm_ae ((wp_v4 mm_n_218 (mm_leq mm_m_218 (mm_lb rfl)) (mm_lb rfl) (mm_o40 hy)).trans rfl)))))))))))))))))))
theorem r_297_16_39 (x3 : Int) (y0 : Int) {hi : mm_Id → Int → Int} {dh : Int → Int} {nx ns : Int} {Q : mm_V → mm_H → Prop} (hy : 5306 ≤ nx) :
    mm_Wp 297 (bk_297_16.drop 39) [zR (90, 0, 0), zR (1, 0, 0), zR (40, 0, 0), zI x3] [zI y0] (mm_z hi dh nx ns) Q =
    ((0 ≤ (mm_w (x3 + 1)) ∧ (mm_w (x3 + 1)) < hi (90, 0, 0) (-1)) ∧ ((0 ≤ (mm_w (x3 + 2)) ∧ (mm_w (x3 + 2)) < hi (90, 0, 0) (-1)) ∧ ((0 ≤ (mm_w (x3 + 3)) ∧ (mm_w (x3 + 3)) < hi (90, 0, 0) (-1)) ∧ ((0 ≤ (mm_w (x3 + 4)) ∧ (mm_w (x3 + 4)) < hi (90, 0, 0) (-1)) ∧ ((0 ≤ (mm_w (x3 + 5)) ∧ (mm_w (x3 + 5)) < hi (90, 0, 0) (-1)) ∧ ((0 ≤ (mm_w (x3 + 6)) ∧ (mm_w (x3 + 6)) < hi (90, 0, 0) (-1)) ∧ mm_Cl 220 [zR (40, 0, 0), zI (hi (90, 0, 0) (mm_w (x3 + 1))), zI (hi (90, 0, 0) (mm_w (x3 + 2))), zI (hi (90, 0, 0) (mm_w (x3 + 3))), zL (mm_lor (mm_lshl (hi (90, 0, 0) (mm_w (x3 + 4))) 32) (mm_land (hi (90, 0, 0) (mm_w (x3 + 5))) 4294967295)), zI (hi (90, 0, 0) (mm_w (x3 + 6)))] (mm_z hi dh nx ns) (fun r h3 => mm_Wp 297 (bk_297_16.drop 78) [zR (90, 0, 0), zR (1, 0, 0), zR (40, 0, 0), zI x3] (mm_push r [zI y0]) h3 Q))))))) :=
  (wp_5_2).trans ((wp_5_0).trans ((wp_3_3).trans ((wp_1).trans ((wp_10).trans ((wp_70s).trans (mm_ae ((wp_5_0).trans ((wp_3_3).trans ((wp_1).trans ((wp_10).trans ((wp_70s).trans (mm_ae ((wp_5_0).trans ((wp_3_3).trans ((wp_1).trans ((wp_10).trans ((wp_70s).trans (mm_ae ((wp_5_0).trans ((wp_3_3).trans ((wp_1).trans ((wp_10).trans ((wp_70s).trans (mm_ae ((wp_31).trans ((wp_1).trans ((wp_28).trans ((wp_5_0).trans ((wp_3_3).trans ((wp_1).trans ((wp_10).trans ((wp_70s).trans (mm_ae ((wp_31).trans ((wp_2).trans ((wp_26).trans ((wp_27).trans ((wp_5_0).trans ((wp_3_3).trans ((wp_1).trans ((wp_10).trans ((wp_70s).trans (mm_ae ((wp_v6 mm_n_220 (mm_leq mm_m_220 (mm_lb rfl)) (mm_lb rfl) (mm_o40 hy)).trans rfl))))))))))))))))))))))))))))))))))))))))))))
theorem r_297_17_17 (x3 : Int) (y0 : Int) {hi : mm_Id → Int → Int} {dh : Int → Int} {nx ns : Int} {Q : mm_V → mm_H → Prop} (hy : 5306 ≤ nx) :
    mm_Wp 297 (bk_297_17.drop 17) [zR (90, 0, 0), zR (1, 0, 0), zR (40, 0, 0), zI x3] [zI y0] (mm_z hi dh nx ns) Q =
    ((0 ≤ (mm_w (x3 + 1)) ∧ (mm_w (x3 + 1)) < hi (90, 0, 0) (-1)) ∧ ((0 ≤ (mm_w (x3 + 2)) ∧ (mm_w (x3 + 2)) < hi (90, 0, 0) (-1)) ∧ ((0 ≤ (mm_w (x3 + 3)) ∧ (mm_w (x3 + 3)) < hi (90, 0, 0) (-1)) ∧ mm_Cl 221 [zR (40, 0, 0), zI (hi (90, 0, 0) (mm_w (x3 + 1))), zI (hi (90, 0, 0) (mm_w (x3 + 2))), zI (hi (90, 0, 0) (mm_w (x3 + 3)))] (mm_z hi dh nx ns) (fun r h3 => mm_Wp 297 (bk_297_17.drop 34) [zR (90, 0, 0), zR (1, 0, 0), zR (40, 0, 0), zI x3] (mm_push r [zI y0]) h3 Q)))) :=
  (wp_5_2).trans ((wp_5_0).trans ((wp_3_3).trans ((wp_1).trans ((wp_10).trans ((wp_70s).trans (mm_ae ((wp_5_0).trans ((wp_3_3).trans ((wp_1).trans ((wp_10).trans ((wp_70s).trans (mm_ae ((wp_5_0).trans ((wp_3_3).trans ((wp_1).trans ((wp_10).trans ((wp_70s).trans (mm_ae ((wp_v4 mm_n_221 (mm_leq mm_m_221 (mm_lb rfl)) (mm_lb rfl) (mm_o40 hy)).trans rfl)))))))))))))))))))
theorem r_297_18_17 (x3 : Int) (y0 : Int) {hi : mm_Id → Int → Int} {dh : Int → Int} {nx ns : Int} {Q : mm_V → mm_H → Prop} (hy : 5306 ≤ nx) :
    mm_Wp 297 (bk_297_18.drop 17) [zR (90, 0, 0), zR (1, 0, 0), zR (40, 0, 0), zI x3] [zI y0] (mm_z hi dh nx ns) Q =
    ((0 ≤ (mm_w (x3 + 1)) ∧ (mm_w (x3 + 1)) < hi (90, 0, 0) (-1)) ∧ ((0 ≤ (mm_w (x3 + 2)) ∧ (mm_w (x3 + 2)) < hi (90, 0, 0) (-1)) ∧ ((0 ≤ (mm_w (x3 + 3)) ∧ (mm_w (x3 + 3)) < hi (90, 0, 0) (-1)) ∧ mm_Cl 222 [zR (40, 0, 0), zI (hi (90, 0, 0) (mm_w (x3 + 1))), zI (hi (90, 0, 0) (mm_w (x3 + 2))), zI (hi (90, 0, 0) (mm_w (x3 + 3)))] (mm_z hi dh nx ns) (fun r h3 => mm_Wp 297 (bk_297_18.drop 34) [zR (90, 0, 0), zR (1, 0, 0), zR (40, 0, 0), zI x3] (mm_push r [zI y0]) h3 Q)))) :=
  (wp_5_2).trans ((wp_5_0).trans ((wp_3_3).trans ((wp_1).trans ((wp_10).trans ((wp_70s).trans (mm_ae ((wp_5_0).trans ((wp_3_3).trans ((wp_1).trans ((wp_10).trans ((wp_70s).trans (mm_ae ((wp_5_0).trans ((wp_3_3).trans ((wp_1).trans ((wp_10).trans ((wp_70s).trans (mm_ae ((wp_v4 mm_n_222 (mm_leq mm_m_222 (mm_lb rfl)) (mm_lb rfl) (mm_o40 hy)).trans rfl)))))))))))))))))))
theorem r_297_19_22 (x3 : Int) (y0 : Int) {hi : mm_Id → Int → Int} {dh : Int → Int} {nx ns : Int} {Q : mm_V → mm_H → Prop} (hy : 5306 ≤ nx) :
    mm_Wp 297 (bk_297_19.drop 22) [zR (90, 0, 0), zR (1, 0, 0), zR (40, 0, 0), zI x3] [zI y0] (mm_z hi dh nx ns) Q =
    ((0 ≤ (mm_w (x3 + 1)) ∧ (mm_w (x3 + 1)) < hi (90, 0, 0) (-1)) ∧ ((0 ≤ (mm_w (x3 + 2)) ∧ (mm_w (x3 + 2)) < hi (90, 0, 0) (-1)) ∧ ((0 ≤ (mm_w (x3 + 3)) ∧ (mm_w (x3 + 3)) < hi (90, 0, 0) (-1)) ∧ ((0 ≤ (mm_w (x3 + 4)) ∧ (mm_w (x3 + 4)) < hi (90, 0, 0) (-1)) ∧ mm_Cl 223 [zR (40, 0, 0), zI (hi (90, 0, 0) (mm_w (x3 + 1))), zI (hi (90, 0, 0) (mm_w (x3 + 2))), zI (hi (90, 0, 0) (mm_w (x3 + 3))), zI (hi (90, 0, 0) (mm_w (x3 + 4)))] (mm_z hi dh nx ns) (fun r h3 => mm_Wp 297 (bk_297_19.drop 44) [zR (90, 0, 0), zR (1, 0, 0), zR (40, 0, 0), zI x3] (mm_push r [zI y0]) h3 Q))))) :=
  (wp_5_2).trans ((wp_5_0).trans ((wp_3_3).trans ((wp_1).trans ((wp_10).trans ((wp_70s).trans (mm_ae ((wp_5_0).trans ((wp_3_3).trans ((wp_1).trans ((wp_10).trans ((wp_70s).trans (mm_ae ((wp_5_0).trans ((wp_3_3).trans ((wp_1).trans ((wp_10).trans ((wp_70s).trans (mm_ae ((wp_5_0).trans ((wp_3_3).trans ((wp_1).trans ((wp_10).trans ((wp_70s).trans (mm_ae ((wp_v5 mm_n_223 (mm_leq mm_m_223 (mm_lb rfl)) (mm_lb rfl) (mm_o40 hy)).trans rfl)))))))))))))))))))))))))
theorem r_297_20_17 (x3 : Int) (y0 : Int) {hi : mm_Id → Int → Int} {dh : Int → Int} {nx ns : Int} {Q : mm_V → mm_H → Prop} (hy : 5306 ≤ nx) :
    mm_Wp 297 (bk_297_20.drop 17) [zR (90, 0, 0), zR (1, 0, 0), zR (40, 0, 0), zI x3] [zI y0] (mm_z hi dh nx ns) Q =
    ((0 ≤ (mm_w (x3 + 1)) ∧ (mm_w (x3 + 1)) < hi (90, 0, 0) (-1)) ∧ ((0 ≤ (mm_w (x3 + 2)) ∧ (mm_w (x3 + 2)) < hi (90, 0, 0) (-1)) ∧ ((0 ≤ (mm_w (x3 + 3)) ∧ (mm_w (x3 + 3)) < hi (90, 0, 0) (-1)) ∧ mm_Cl 225 [zR (40, 0, 0), zI (hi (90, 0, 0) (mm_w (x3 + 1))), zI (hi (90, 0, 0) (mm_w (x3 + 2))), zI (hi (90, 0, 0) (mm_w (x3 + 3)))] (mm_z hi dh nx ns) (fun r h3 => mm_Wp 297 (bk_297_20.drop 34) [zR (90, 0, 0), zR (1, 0, 0), zR (40, 0, 0), zI x3] (mm_push r [zI y0]) h3 Q)))) :=
  (wp_5_2).trans ((wp_5_0).trans ((wp_3_3).trans ((wp_1).trans ((wp_10).trans ((wp_70s).trans (mm_ae ((wp_5_0).trans ((wp_3_3).trans ((wp_1).trans ((wp_10).trans ((wp_70s).trans (mm_ae ((wp_5_0).trans ((wp_3_3).trans ((wp_1).trans ((wp_10).trans ((wp_70s).trans (mm_ae ((wp_v4 mm_n_225 (mm_leq mm_m_225 (mm_lb rfl)) (mm_lb rfl) (mm_o40 hy)).trans rfl)))))))))))))))))))
theorem r_297_21_27 (x3 : Int) (y0 : Int) {hi : mm_Id → Int → Int} {dh : Int → Int} {nx ns : Int} {Q : mm_V → mm_H → Prop} (hy : 5306 ≤ nx) :
    mm_Wp 297 (bk_297_21.drop 27) [zR (90, 0, 0), zR (1, 0, 0), zR (40, 0, 0), zI x3] [zI y0] (mm_z hi dh nx ns) Q =
    ((0 ≤ (mm_w (x3 + 1)) ∧ (mm_w (x3 + 1)) < hi (90, 0, 0) (-1)) ∧ ((0 ≤ (mm_w (x3 + 2)) ∧ (mm_w (x3 + 2)) < hi (90, 0, 0) (-1)) ∧ ((0 ≤ (mm_w (x3 + 3)) ∧ (mm_w (x3 + 3)) < hi (90, 0, 0) (-1)) ∧ ((0 ≤ (mm_w (x3 + 4)) ∧ (mm_w (x3 + 4)) < hi (90, 0, 0) (-1)) ∧ ((0 ≤ (mm_w (x3 + 5)) ∧ (mm_w (x3 + 5)) < hi (90, 0, 0) (-1)) ∧ mm_Cl 227 [zR (40, 0, 0), zI (hi (90, 0, 0) (mm_w (x3 + 1))), zI (hi (90, 0, 0) (mm_w (x3 + 2))), zI (hi (90, 0, 0) (mm_w (x3 + 3))), zI (hi (90, 0, 0) (mm_w (x3 + 4))), zI (hi (90, 0, 0) (mm_w (x3 + 5)))] (mm_z hi dh nx ns) (fun r h3 => mm_Wp 297 (bk_297_21.drop 54) [zR (90, 0, 0), zR (1, 0, 0), zR (40, 0, 0), zI x3] (mm_push r [zI y0]) h3 Q)))))) :=
  (wp_5_2).trans ((wp_5_0).trans ((wp_3_3).trans ((wp_1).trans ((wp_10).trans ((wp_70s).trans (mm_ae ((wp_5_0).trans ((wp_3_3).trans ((wp_1).trans ((wp_10).trans ((wp_70s).trans (mm_ae ((wp_5_0).trans ((wp_3_3).trans ((wp_1).trans ((wp_10).trans ((wp_70s).trans (mm_ae ((wp_5_0).trans ((wp_3_3).trans ((wp_1).trans ((wp_10).trans ((wp_70s).trans (mm_ae ((wp_5_0).trans ((wp_3_3).trans ((wp_1).trans ((wp_10).trans ((wp_70s).trans (mm_ae ((wp_v6 mm_n_227 (mm_leq mm_m_227 (mm_lb rfl)) (mm_lb rfl) (mm_o40 hy)).trans rfl)))))))))))))))))))))))))))))))
theorem r_297_22_17 (x3 : Int) (y0 : Int) {hi : mm_Id → Int → Int} {dh : Int → Int} {nx ns : Int} {Q : mm_V → mm_H → Prop} (hy : 5306 ≤ nx) :
    mm_Wp 297 (bk_297_22.drop 17) [zR (90, 0, 0), zR (1, 0, 0), zR (40, 0, 0), zI x3] [zI y0] (mm_z hi dh nx ns) Q =
    ((0 ≤ (mm_w (x3 + 1)) ∧ (mm_w (x3 + 1)) < hi (90, 0, 0) (-1)) ∧ ((0 ≤ (mm_w (x3 + 2)) ∧ (mm_w (x3 + 2)) < hi (90, 0, 0) (-1)) ∧ ((0 ≤ (mm_w (x3 + 3)) ∧ (mm_w (x3 + 3)) < hi (90, 0, 0) (-1)) ∧ mm_Cl 228 [zR (40, 0, 0), zI (hi (90, 0, 0) (mm_w (x3 + 1))), zI (hi (90, 0, 0) (mm_w (x3 + 2))), zI (hi (90, 0, 0) (mm_w (x3 + 3)))] (mm_z hi dh nx ns) (fun r h3 => mm_Wp 297 (bk_297_22.drop 34) [zR (90, 0, 0), zR (1, 0, 0), zR (40, 0, 0), zI x3] (mm_push r [zI y0]) h3 Q)))) :=
  (wp_5_2).trans ((wp_5_0).trans ((wp_3_3).trans ((wp_1).trans ((wp_10).trans ((wp_70s).trans (mm_ae ((wp_5_0).trans ((wp_3_3).trans ((wp_1).trans ((wp_10).trans ((wp_70s).trans (mm_ae ((wp_5_0).trans ((wp_3_3).trans ((wp_1).trans ((wp_10).trans ((wp_70s).trans (mm_ae ((wp_v4 mm_n_228 (mm_leq mm_m_228 (mm_lb rfl)) (mm_lb rfl) (mm_o40 hy)).trans rfl)))))))))))))))))))
theorem r_297_23_17 (x3 : Int) (y0 : Int) {hi : mm_Id → Int → Int} {dh : Int → Int} {nx ns : Int} {Q : mm_V → mm_H → Prop} (hy : 5306 ≤ nx) :
    mm_Wp 297 (bk_297_23.drop 17) [zR (90, 0, 0), zR (1, 0, 0), zR (40, 0, 0), zI x3] [zI y0] (mm_z hi dh nx ns) Q =
    ((0 ≤ (mm_w (x3 + 1)) ∧ (mm_w (x3 + 1)) < hi (90, 0, 0) (-1)) ∧ ((0 ≤ (mm_w (x3 + 2)) ∧ (mm_w (x3 + 2)) < hi (90, 0, 0) (-1)) ∧ ((0 ≤ (mm_w (x3 + 3)) ∧ (mm_w (x3 + 3)) < hi (90, 0, 0) (-1)) ∧ mm_Cl 229 [zR (40, 0, 0), zI (hi (90, 0, 0) (mm_w (x3 + 1))), zI (hi (90, 0, 0) (mm_w (x3 + 2))), zI (hi (90, 0, 0) (mm_w (x3 + 3)))] (mm_z hi dh nx ns) (fun r h3 => mm_Wp 297 (bk_297_23.drop 34) [zR (90, 0, 0), zR (1, 0, 0), zR (40, 0, 0), zI x3] (mm_push r [zI y0]) h3 Q)))) :=
  (wp_5_2).trans ((wp_5_0).trans ((wp_3_3).trans ((wp_1).trans ((wp_10).trans ((wp_70s).trans (mm_ae ((wp_5_0).trans ((wp_3_3).trans ((wp_1).trans ((wp_10).trans ((wp_70s).trans (mm_ae ((wp_5_0).trans ((wp_3_3).trans ((wp_1).trans ((wp_10).trans ((wp_70s).trans (mm_ae ((wp_v4 mm_n_229 (mm_leq mm_m_229 (mm_lb rfl)) (mm_lb rfl) (mm_o40 hy)).trans rfl)))))))))))))))))))
theorem r_297_24_17 (x3 : Int) (y0 : Int) {hi : mm_Id → Int → Int} {dh : Int → Int} {nx ns : Int} {Q : mm_V → mm_H → Prop} (hy : 5306 ≤ nx) :
    mm_Wp 297 (bk_297_24.drop 17) [zR (90, 0, 0), zR (1, 0, 0), zR (40, 0, 0), zI x3] [zI y0] (mm_z hi dh nx ns) Q =
    ((0 ≤ (mm_w (x3 + 1)) ∧ (mm_w (x3 + 1)) < hi (90, 0, 0) (-1)) ∧ ((0 ≤ (mm_w (x3 + 2)) ∧ (mm_w (x3 + 2)) < hi (90, 0, 0) (-1)) ∧ ((0 ≤ (mm_w (x3 + 3)) ∧ (mm_w (x3 + 3)) < hi (90, 0, 0) (-1)) ∧ mm_Cl 230 [zR (40, 0, 0), zI (hi (90, 0, 0) (mm_w (x3 + 1))), zI (hi (90, 0, 0) (mm_w (x3 + 2))), zI (hi (90, 0, 0) (mm_w (x3 + 3)))] (mm_z hi dh nx ns) (fun r h3 => mm_Wp 297 (bk_297_24.drop 34) [zR (90, 0, 0), zR (1, 0, 0), zR (40, 0, 0), zI x3] (mm_push r [zI y0]) h3 Q)))) :=
  (wp_5_2).trans ((wp_5_0).trans ((wp_3_3).trans ((wp_1).trans ((wp_10).trans ((wp_70s).trans (mm_ae ((wp_5_0).trans ((wp_3_3).trans ((wp_1).trans ((wp_10).trans ((wp_70s).trans (mm_ae ((wp_5_0).trans ((wp_3_3).trans ((wp_1).trans ((wp_10).trans ((wp_70s).trans (mm_ae ((wp_v4 mm_n_230 (mm_leq mm_m_230 (mm_lb rfl)) (mm_lb rfl) (mm_o40 hy)).trans rfl)))))))))))))))))))
theorem r_297_25_17 (x3 : Int) (y0 : Int) {hi : mm_Id → Int → Int} {dh : Int → Int} {nx ns : Int} {Q : mm_V → mm_H → Prop} (hy : 5306 ≤ nx) :
    mm_Wp 297 (bk_297_25.drop 17) [zR (90, 0, 0), zR (1, 0, 0), zR (40, 0, 0), zI x3] [zI y0] (mm_z hi dh nx ns) Q =
    ((0 ≤ (mm_w (x3 + 1)) ∧ (mm_w (x3 + 1)) < hi (90, 0, 0) (-1)) ∧ ((0 ≤ (mm_w (x3 + 2)) ∧ (mm_w (x3 + 2)) < hi (90, 0, 0) (-1)) ∧ ((0 ≤ (mm_w (x3 + 3)) ∧ (mm_w (x3 + 3)) < hi (90, 0, 0) (-1)) ∧ mm_Cl 232 [zR (40, 0, 0), zI (hi (90, 0, 0) (mm_w (x3 + 1))), zI (hi (90, 0, 0) (mm_w (x3 + 2))), zI (hi (90, 0, 0) (mm_w (x3 + 3)))] (mm_z hi dh nx ns) (fun r h3 => mm_Wp 297 (bk_297_25.drop 34) [zR (90, 0, 0), zR (1, 0, 0), zR (40, 0, 0), zI x3] (mm_push r [zI y0]) h3 Q)))) :=
  (wp_5_2).trans ((wp_5_0).trans ((wp_3_3).trans ((wp_1).trans ((wp_10).trans ((wp_70s).trans (mm_ae ((wp_5_0).trans ((wp_3_3).trans ((wp_1).trans ((wp_10).trans ((wp_70s).trans (mm_ae ((wp_5_0).trans ((wp_3_3).trans ((wp_1).trans ((wp_10).trans ((wp_70s).trans (mm_ae ((wp_v4 mm_n_232 (mm_leq mm_m_232 (mm_lb rfl)) (mm_lb rfl) (mm_o40 hy)).trans rfl)))))))))))))))))))
theorem r_297_28 (x3 : Int) (y0 : Int) (y1 : Int) (y2 : Int) (y3 : Int) (y4 : Int) {hi : mm_Id → Int → Int} {dh : Int → Int} {nx ns : Int} {Q : mm_V → mm_H → Prop} (hy : 5306 ≤ nx) :
    mm_Wp 297 (mm_blk 297 28) [zR (90, 0, 0), zR (1, 0, 0), zR (40, 0, 0), zI x3] [zI y0, zL y1, zI y2, zI y3, zI y4, zR (1, 0, 0)] (mm_z hi dh nx ns) Q =
    mm_Cl 17 [zR (1, 0, 0), zI y4, zI y3, zI y2, zL y1, zI y0] (mm_z hi dh nx ns) (fun r h3 => mm_Wp 297 (bk_297_28.drop 1) [zR (90, 0, 0), zR (1, 0, 0), zR (40, 0, 0), zI x3] (mm_push r []) h3 Q) :=
  mm_kb bq_297_28 ((wp_v6 mm_n_17 (mm_leq mm_m_17 (mm_lb rfl)) (mm_lb rfl) (mm_o1 (mm_hxy hy))).trans rfl)
theorem r_297_31_17 (x3 : Int) (y0 : Int) {hi : mm_Id → Int → Int} {dh : Int → Int} {nx ns : Int} {Q : mm_V → mm_H → Prop} (hy : 5306 ≤ nx) :
    mm_Wp 297 (bk_297_31.drop 17) [zR (90, 0, 0), zR (1, 0, 0), zR (40, 0, 0), zI x3] [zL y0] (mm_z hi dh nx ns) Q =
    ((0 ≤ (mm_w (x3 + 1)) ∧ (mm_w (x3 + 1)) < hi (90, 0, 0) (-1)) ∧ ((0 ≤ (mm_w (x3 + 2)) ∧ (mm_w (x3 + 2)) < hi (90, 0, 0) (-1)) ∧ ((0 ≤ (mm_w (x3 + 3)) ∧ (mm_w (x3 + 3)) < hi (90, 0, 0) (-1)) ∧ mm_Cl 236 [zR (40, 0, 0), zI (hi (90, 0, 0) (mm_w (x3 + 1))), zI (hi (90, 0, 0) (mm_w (x3 + 2))), zI (hi (90, 0, 0) (mm_w (x3 + 3)))] (mm_z hi dh nx ns) (fun r h3 => mm_Wp 297 (bk_297_31.drop 34) [zR (90, 0, 0), zR (1, 0, 0), zR (40, 0, 0), zI x3] (mm_push r [zL y0]) h3 Q)))) :=
  (wp_5_2).trans ((wp_5_0).trans ((wp_3_3).trans ((wp_1).trans ((wp_10).trans ((wp_70s).trans (mm_ae ((wp_5_0).trans ((wp_3_3).trans ((wp_1).trans ((wp_10).trans ((wp_70s).trans (mm_ae ((wp_5_0).trans ((wp_3_3).trans ((wp_1).trans ((wp_10).trans ((wp_70s).trans (mm_ae ((wp_v4 mm_n_236 (mm_leq mm_m_236 (mm_lb rfl)) (mm_lb rfl) (mm_o40 hy)).trans rfl)))))))))))))))))))
theorem r_297_32_17 (x3 : Int) (y0 : Int) {hi : mm_Id → Int → Int} {dh : Int → Int} {nx ns : Int} {Q : mm_V → mm_H → Prop} (hy : 5306 ≤ nx) :
    mm_Wp 297 (bk_297_32.drop 17) [zR (90, 0, 0), zR (1, 0, 0), zR (40, 0, 0), zI x3] [zI y0] (mm_z hi dh nx ns) Q =
    ((0 ≤ (mm_w (x3 + 1)) ∧ (mm_w (x3 + 1)) < hi (90, 0, 0) (-1)) ∧ ((0 ≤ (mm_w (x3 + 2)) ∧ (mm_w (x3 + 2)) < hi (90, 0, 0) (-1)) ∧ ((0 ≤ (mm_w (x3 + 3)) ∧ (mm_w (x3 + 3)) < hi (90, 0, 0) (-1)) ∧ mm_Cl 237 [zR (40, 0, 0), zI (hi (90, 0, 0) (mm_w (x3 + 1))), zI (hi (90, 0, 0) (mm_w (x3 + 2))), zI (hi (90, 0, 0) (mm_w (x3 + 3)))] (mm_z hi dh nx ns) (fun r h3 => mm_Wp 297 (bk_297_32.drop 34) [zR (90, 0, 0), zR (1, 0, 0), zR (40, 0, 0), zI x3] (mm_push r [zI y0]) h3 Q)))) :=
  (wp_5_2).trans ((wp_5_0).trans ((wp_3_3).trans ((wp_1).trans ((wp_10).trans ((wp_70s).trans (mm_ae ((wp_5_0).trans ((wp_3_3).trans ((wp_1).trans ((wp_10).trans ((wp_70s).trans (mm_ae ((wp_5_0).trans ((wp_3_3).trans ((wp_1).trans ((wp_10).trans ((wp_70s).trans (mm_ae ((wp_v4 mm_n_237 (mm_leq mm_m_237 (mm_lb rfl)) (mm_lb rfl) (mm_o40 hy)).trans rfl)))))))))))))))))))
theorem r_297_33_7 (x3 : Int) (y0 : Int) {hi : mm_Id → Int → Int} {dh : Int → Int} {nx ns : Int} {Q : mm_V → mm_H → Prop} (hy : 5306 ≤ nx) :
    mm_Wp 297 (bk_297_33.drop 7) [zR (90, 0, 0), zR (1, 0, 0), zR (40, 0, 0), zI x3] [zI y0] (mm_z hi dh nx ns) Q =
    ((0 ≤ (mm_w (x3 + 1)) ∧ (mm_w (x3 + 1)) < hi (90, 0, 0) (-1)) ∧ mm_Cl 238 [zR (40, 0, 0), zI (hi (90, 0, 0) (mm_w (x3 + 1)))] (mm_z hi dh nx ns) (fun r h3 => mm_Wp 297 (bk_297_33.drop 14) [zR (90, 0, 0), zR (1, 0, 0), zR (40, 0, 0), zI x3] (mm_push r [zI y0]) h3 Q)) :=
  (wp_5_2).trans ((wp_5_0).trans ((wp_3_3).trans ((wp_1).trans ((wp_10).trans ((wp_70s).trans (mm_ae ((wp_v2 mm_n_238 (mm_leq mm_m_238 (mm_lb rfl)) (mm_lb rfl) (mm_o40 hy)).trans rfl)))))))
theorem r_297_34_12 (x3 : Int) (y0 : Int) {hi : mm_Id → Int → Int} {dh : Int → Int} {nx ns : Int} {Q : mm_V → mm_H → Prop} (hy : 5306 ≤ nx) :
    mm_Wp 297 (bk_297_34.drop 12) [zR (90, 0, 0), zR (1, 0, 0), zR (40, 0, 0), zI x3] [zI y0] (mm_z hi dh nx ns) Q =
    ((0 ≤ (mm_w (x3 + 1)) ∧ (mm_w (x3 + 1)) < hi (90, 0, 0) (-1)) ∧ ((0 ≤ (mm_w (x3 + 2)) ∧ (mm_w (x3 + 2)) < hi (90, 0, 0) (-1)) ∧ mm_Cl 239 [zR (40, 0, 0), zI (hi (90, 0, 0) (mm_w (x3 + 1))), zI (hi (90, 0, 0) (mm_w (x3 + 2)))] (mm_z hi dh nx ns) (fun r h3 => mm_Wp 297 (bk_297_34.drop 24) [zR (90, 0, 0), zR (1, 0, 0), zR (40, 0, 0), zI x3] (mm_push r [zI y0]) h3 Q))) :=
  (wp_5_2).trans ((wp_5_0).trans ((wp_3_3).trans ((wp_1).trans ((wp_10).trans ((wp_70s).trans (mm_ae ((wp_5_0).trans ((wp_3_3).trans ((wp_1).trans ((wp_10).trans ((wp_70s).trans (mm_ae ((wp_v3 mm_n_239 (mm_leq mm_m_239 (mm_lb rfl)) (mm_lb rfl) (mm_o40 hy)).trans rfl)))))))))))))
theorem r_297_35_17 (x3 : Int) (y0 : Int) {hi : mm_Id → Int → Int} {dh : Int → Int} {nx ns : Int} {Q : mm_V → mm_H → Prop} (hy : 5306 ≤ nx) :
    mm_Wp 297 (bk_297_35.drop 17) [zR (90, 0, 0), zR (1, 0, 0), zR (40, 0, 0), zI x3] [zI y0] (mm_z hi dh nx ns) Q =
    ((0 ≤ (mm_w (x3 + 1)) ∧ (mm_w (x3 + 1)) < hi (90, 0, 0) (-1)) ∧ ((0 ≤ (mm_w (x3 + 2)) ∧ (mm_w (x3 + 2)) < hi (90, 0, 0) (-1)) ∧ ((0 ≤ (mm_w (x3 + 3)) ∧ (mm_w (x3 + 3)) < hi (90, 0, 0) (-1)) ∧ mm_Cl 240 [zR (40, 0, 0), zI (hi (90, 0, 0) (mm_w (x3 + 1))), zI (hi (90, 0, 0) (mm_w (x3 + 2))), zI (hi (90, 0, 0) (mm_w (x3 + 3)))] (mm_z hi dh nx ns) (fun r h3 => mm_Wp 297 (bk_297_35.drop 34) [zR (90, 0, 0), zR (1, 0, 0), zR (40, 0, 0), zI x3] (mm_push r [zI y0]) h3 Q)))) :=
  (wp_5_2).trans ((wp_5_0).trans ((wp_3_3).trans ((wp_1).trans ((wp_10).trans ((wp_70s).trans (mm_ae ((wp_5_0).trans ((wp_3_3).trans ((wp_1).trans ((wp_10).trans ((wp_70s).trans (mm_ae ((wp_5_0).trans ((wp_3_3).trans ((wp_1).trans ((wp_10).trans ((wp_70s).trans (mm_ae ((wp_v4 mm_n_240 (mm_leq mm_m_240 (mm_lb rfl)) (mm_lb rfl) (mm_o40 hy)).trans rfl)))))))))))))))))))
theorem r_297_36_22 (x3 : Int) (y0 : Int) {hi : mm_Id → Int → Int} {dh : Int → Int} {nx ns : Int} {Q : mm_V → mm_H → Prop} (hy : 5306 ≤ nx) :
    mm_Wp 297 (bk_297_36.drop 22) [zR (90, 0, 0), zR (1, 0, 0), zR (40, 0, 0), zI x3] [zI y0] (mm_z hi dh nx ns) Q =
    ((0 ≤ (mm_w (x3 + 1)) ∧ (mm_w (x3 + 1)) < hi (90, 0, 0) (-1)) ∧ ((0 ≤ (mm_w (x3 + 2)) ∧ (mm_w (x3 + 2)) < hi (90, 0, 0) (-1)) ∧ ((0 ≤ (mm_w (x3 + 3)) ∧ (mm_w (x3 + 3)) < hi (90, 0, 0) (-1)) ∧ ((0 ≤ (mm_w (x3 + 4)) ∧ (mm_w (x3 + 4)) < hi (90, 0, 0) (-1)) ∧ mm_Cl 246 [zR (40, 0, 0), zI (hi (90, 0, 0) (mm_w (x3 + 1))), zI (hi (90, 0, 0) (mm_w (x3 + 2))), zI (hi (90, 0, 0) (mm_w (x3 + 3))), zI (hi (90, 0, 0) (mm_w (x3 + 4)))] (mm_z hi dh nx ns) (fun r h3 => mm_Wp 297 (bk_297_36.drop 44) [zR (90, 0, 0), zR (1, 0, 0), zR (40, 0, 0), zI x3] (mm_push r [zI y0]) h3 Q))))) :=
  (wp_5_2).trans ((wp_5_0).trans ((wp_3_3).trans ((wp_1).trans ((wp_10).trans ((wp_70s).trans (mm_ae ((wp_5_0).trans ((wp_3_3).trans ((wp_1).trans ((wp_10).trans ((wp_70s).trans (mm_ae ((wp_5_0).trans ((wp_3_3).trans ((wp_1).trans ((wp_10).trans ((wp_70s).trans (mm_ae ((wp_5_0).trans ((wp_3_3).trans ((wp_1).trans ((wp_10).trans ((wp_70s).trans (mm_ae ((wp_v5 mm_n_246 (mm_leq mm_m_246 (mm_lb rfl)) (mm_lb rfl) (mm_o40 hy)).trans rfl)))))))))))))))))))))))))
theorem r_297_37_12 (x3 : Int) (y0 : Int) {hi : mm_Id → Int → Int} {dh : Int → Int} {nx ns : Int} {Q : mm_V → mm_H → Prop} (hy : 5306 ≤ nx) :
    mm_Wp 297 (bk_297_37.drop 12) [zR (90, 0, 0), zR (1, 0, 0), zR (40, 0, 0), zI x3] [zI y0] (mm_z hi dh nx ns) Q =
    ((0 ≤ (mm_w (x3 + 1)) ∧ (mm_w (x3 + 1)) < hi (90, 0, 0) (-1)) ∧ ((0 ≤ (mm_w (x3 + 2)) ∧ (mm_w (x3 + 2)) < hi (90, 0, 0) (-1)) ∧ mm_Cl 247 [zR (40, 0, 0), zI (hi (90, 0, 0) (mm_w (x3 + 1))), zI (hi (90, 0, 0) (mm_w (x3 + 2)))] (mm_z hi dh nx ns) (fun r h3 => mm_Wp 297 (bk_297_37.drop 24) [zR (90, 0, 0), zR (1, 0, 0), zR (40, 0, 0), zI x3] (mm_push r [zI y0]) h3 Q))) :=
  (wp_5_2).trans ((wp_5_0).trans ((wp_3_3).trans ((wp_1).trans ((wp_10).trans ((wp_70s).trans (mm_ae ((wp_5_0).trans ((wp_3_3).trans ((wp_1).trans ((wp_10).trans ((wp_70s).trans (mm_ae ((wp_v3 mm_n_247 (mm_leq mm_m_247 (mm_lb rfl)) (mm_lb rfl) (mm_o40 hy)).trans rfl)))))))))))))
theorem r_297_38_12 (x3 : Int) (y0 : Int) {hi : mm_Id → Int → Int} {dh : Int → Int} {nx ns : Int} {Q : mm_V → mm_H → Prop} (hy : 5306 ≤ nx) :
    mm_Wp 297 (bk_297_38.drop 12) [zR (90, 0, 0), zR (1, 0, 0), zR (40, 0, 0), zI x3] [zI y0] (mm_z hi dh nx ns) Q =
    ((0 ≤ (mm_w (x3 + 1)) ∧ (mm_w (x3 + 1)) < hi (90, 0, 0) (-1)) ∧ ((0 ≤ (mm_w (x3 + 2)) ∧ (mm_w (x3 + 2)) < hi (90, 0, 0) (-1)) ∧ mm_Cl 241 [zR (40, 0, 0), zI (hi (90, 0, 0) (mm_w (x3 + 1))), zI (hi (90, 0, 0) (mm_w (x3 + 2)))] (mm_z hi dh nx ns) (fun r h3 => mm_Wp 297 (bk_297_38.drop 24) [zR (90, 0, 0), zR (1, 0, 0), zR (40, 0, 0), zI x3] (mm_push r [zI y0]) h3 Q))) :=
  (wp_5_2).trans ((wp_5_0).trans ((wp_3_3).trans ((wp_1).trans ((wp_10).trans ((wp_70s).trans (mm_ae ((wp_5_0).trans ((wp_3_3).trans ((wp_1).trans ((wp_10).trans ((wp_70s).trans (mm_ae ((wp_v3 mm_n_241 (mm_leq mm_m_241 (mm_lb rfl)) (mm_lb rfl) (mm_o40 hy)).trans rfl)))))))))))))
theorem r_297_39_7 (x3 : Int) (y0 : Int) {hi : mm_Id → Int → Int} {dh : Int → Int} {nx ns : Int} {Q : mm_V → mm_H → Prop} (hy : 5306 ≤ nx) :
    mm_Wp 297 (bk_297_39.drop 7) [zR (90, 0, 0), zR (1, 0, 0), zR (40, 0, 0), zI x3] [zI y0] (mm_z hi dh nx ns) Q =
    ((0 ≤ (mm_w (x3 + 1)) ∧ (mm_w (x3 + 1)) < hi (90, 0, 0) (-1)) ∧ mm_Cl 243 [zR (40, 0, 0), zI (hi (90, 0, 0) (mm_w (x3 + 1)))] (mm_z hi dh nx ns) (fun r h3 => mm_Wp 297 (bk_297_39.drop 14) [zR (90, 0, 0), zR (1, 0, 0), zR (40, 0, 0), zI x3] (mm_push r [zI y0]) h3 Q)) :=
  (wp_5_2).trans ((wp_5_0).trans ((wp_3_3).trans ((wp_1).trans ((wp_10).trans ((wp_70s).trans (mm_ae ((wp_v2 mm_n_243 (mm_leq mm_m_243 (mm_lb rfl)) (mm_lb rfl) (mm_o40 hy)).trans rfl)))))))
theorem r_297_40_12 (x3 : Int) (y0 : Int) {hi : mm_Id → Int → Int} {dh : Int → Int} {nx ns : Int} {Q : mm_V → mm_H → Prop} (hy : 5306 ≤ nx) :
    mm_Wp 297 (bk_297_40.drop 12) [zR (90, 0, 0), zR (1, 0, 0), zR (40, 0, 0), zI x3] [zI y0] (mm_z hi dh nx ns) Q =
    ((0 ≤ (mm_w (x3 + 1)) ∧ (mm_w (x3 + 1)) < hi (90, 0, 0) (-1)) ∧ ((0 ≤ (mm_w (x3 + 2)) ∧ (mm_w (x3 + 2)) < hi (90, 0, 0) (-1)) ∧ mm_Cl 244 [zR (40, 0, 0), zI (hi (90, 0, 0) (mm_w (x3 + 1))), zI (hi (90, 0, 0) (mm_w (x3 + 2)))] (mm_z hi dh nx ns) (fun r h3 => mm_Wp 297 (bk_297_40.drop 24) [zR (90, 0, 0), zR (1, 0, 0), zR (40, 0, 0), zI x3] (mm_push r [zI y0]) h3 Q))) :=
  (wp_5_2).trans ((wp_5_0).trans ((wp_3_3).trans ((wp_1).trans ((wp_10).trans ((wp_70s).trans (mm_ae ((wp_5_0).trans ((wp_3_3).trans ((wp_1).trans ((wp_10).trans ((wp_70s).trans (mm_ae ((wp_v3 mm_n_244 (mm_leq mm_m_244 (mm_lb rfl)) (mm_lb rfl) (mm_o40 hy)).trans rfl)))))))))))))
theorem r_297_41_7 (x3 : Int) (y0 : Int) {hi : mm_Id → Int → Int} {dh : Int → Int} {nx ns : Int} {Q : mm_V → mm_H → Prop} (hy : 5306 ≤ nx) :
    mm_Wp 297 (bk_297_41.drop 7) [zR (90, 0, 0), zR (1, 0, 0), zR (40, 0, 0), zI x3] [zI y0] (mm_z hi dh nx ns) Q =
    ((0 ≤ (mm_w (x3 + 1)) ∧ (mm_w (x3 + 1)) < hi (90, 0, 0) (-1)) ∧ mm_Cl 250 [zR (40, 0, 0), zI (hi (90, 0, 0) (mm_w (x3 + 1)))] (mm_z hi dh nx ns) (fun r h3 => mm_Wp 297 (bk_297_41.drop 14) [zR (90, 0, 0), zR (1, 0, 0), zR (40, 0, 0), zI x3] (mm_push r [zI y0]) h3 Q)) :=
  (wp_5_2).trans ((wp_5_0).trans ((wp_3_3).trans ((wp_1).trans ((wp_10).trans ((wp_70s).trans (mm_ae ((wp_v2 mm_n_250 (mm_leq mm_m_250 (mm_lb rfl)) (mm_lb rfl) (mm_o40 hy)).trans rfl)))))))
theorem r_297_42_7 (x3 : Int) (y0 : Int) {hi : mm_Id → Int → Int} {dh : Int → Int} {nx ns : Int} {Q : mm_V → mm_H → Prop} (hy : 5306 ≤ nx) :
    mm_Wp 297 (bk_297_42.drop 7) [zR (90, 0, 0), zR (1, 0, 0), zR (40, 0, 0), zI x3] [zI y0] (mm_z hi dh nx ns) Q =
    ((0 ≤ (mm_w (x3 + 1)) ∧ (mm_w (x3 + 1)) < hi (90, 0, 0) (-1)) ∧ mm_Cl 251 [zR (40, 0, 0), zI (hi (90, 0, 0) (mm_w (x3 + 1)))] (mm_z hi dh nx ns) (fun r h3 => mm_Wp 297 (bk_297_42.drop 14) [zR (90, 0, 0), zR (1, 0, 0), zR (40, 0, 0), zI x3] (mm_push r [zI y0]) h3 Q)) :=
  (wp_5_2).trans ((wp_5_0).trans ((wp_3_3).trans ((wp_1).trans ((wp_10).trans ((wp_70s).trans (mm_ae ((wp_v2 mm_n_251 (mm_leq mm_m_251 (mm_lb rfl)) (mm_lb rfl) (mm_o40 hy)).trans rfl)))))))
theorem r_297_43_12 (x3 : Int) (y0 : Int) {hi : mm_Id → Int → Int} {dh : Int → Int} {nx ns : Int} {Q : mm_V → mm_H → Prop} (hy : 5306 ≤ nx) :
    mm_Wp 297 (bk_297_43.drop 12) [zR (90, 0, 0), zR (1, 0, 0), zR (40, 0, 0), zI x3] [zI y0] (mm_z hi dh nx ns) Q =
    ((0 ≤ (mm_w (x3 + 1)) ∧ (mm_w (x3 + 1)) < hi (90, 0, 0) (-1)) ∧ ((0 ≤ (mm_w (x3 + 2)) ∧ (mm_w (x3 + 2)) < hi (90, 0, 0) (-1)) ∧ mm_Cl 252 [zR (40, 0, 0), zI (hi (90, 0, 0) (mm_w (x3 + 1))), zI (hi (90, 0, 0) (mm_w (x3 + 2)))] (mm_z hi dh nx ns) (fun r h3 => mm_Wp 297 (bk_297_43.drop 24) [zR (90, 0, 0), zR (1, 0, 0), zR (40, 0, 0), zI x3] (mm_push r [zI y0]) h3 Q))) :=
  (wp_5_2).trans ((wp_5_0).trans ((wp_3_3).trans ((wp_1).trans ((wp_10).trans ((wp_70s).trans (mm_ae ((wp_5_0).trans ((wp_3_3).trans ((wp_1).trans ((wp_10).trans ((wp_70s).trans (mm_ae ((wp_v3 mm_n_252 (mm_leq mm_m_252 (mm_lb rfl)) (mm_lb rfl) (mm_o40 hy)).trans rfl)))))))))))))
theorem r_297_44_7 (x3 : Int) (y0 : Int) {hi : mm_Id → Int → Int} {dh : Int → Int} {nx ns : Int} {Q : mm_V → mm_H → Prop} (hy : 5306 ≤ nx) :
    mm_Wp 297 (bk_297_44.drop 7) [zR (90, 0, 0), zR (1, 0, 0), zR (40, 0, 0), zI x3] [zI y0] (mm_z hi dh nx ns) Q =
    ((0 ≤ (mm_w (x3 + 1)) ∧ (mm_w (x3 + 1)) < hi (90, 0, 0) (-1)) ∧ mm_Cl 253 [zR (40, 0, 0), zI (hi (90, 0, 0) (mm_w (x3 + 1)))] (mm_z hi dh nx ns) (fun r h3 => mm_Wp 297 (bk_297_44.drop 14) [zR (90, 0, 0), zR (1, 0, 0), zR (40, 0, 0), zI x3] (mm_push r [zI y0]) h3 Q)) :=
  (wp_5_2).trans ((wp_5_0).trans ((wp_3_3).trans ((wp_1).trans ((wp_10).trans ((wp_70s).trans (mm_ae ((wp_v2 mm_n_253 (mm_leq mm_m_253 (mm_lb rfl)) (mm_lb rfl) (mm_o40 hy)).trans rfl)))))))
theorem r_297_47 (x3 : Int) (y0 : Int) (y1 : Int) {hi : mm_Id → Int → Int} {dh : Int → Int} {nx ns : Int} {Q : mm_V → mm_H → Prop} (hy : 5306 ≤ nx) :
    mm_Wp 297 (mm_blk 297 47) [zR (90, 0, 0), zR (1, 0, 0), zR (40, 0, 0), zI x3] [zI y0, zI y1, zR (1, 0, 0)] (mm_z hi dh nx ns) Q =
    mm_Cl 32 [zR (1, 0, 0), zI y1, zI y0] (mm_z hi dh nx ns) (fun r h3 => mm_Wp 297 (bk_297_47.drop 1) [zR (90, 0, 0), zR (1, 0, 0), zR (40, 0, 0), zI x3] (mm_push r []) h3 Q) :=
  mm_kb bq_297_47 ((wp_v3 mm_n_32 (mm_leq mm_m_32 (mm_lb rfl)) (mm_lb rfl) (mm_o1 (mm_hxy hy))).trans rfl)
theorem r_297_50_12 (x3 : Int) (y0 : Int) {hi : mm_Id → Int → Int} {dh : Int → Int} {nx ns : Int} {Q : mm_V → mm_H → Prop} (hy : 5306 ≤ nx) :
    mm_Wp 297 (bk_297_50.drop 12) [zR (90, 0, 0), zR (1, 0, 0), zR (40, 0, 0), zI x3] [zI y0] (mm_z hi dh nx ns) Q =
    ((0 ≤ (mm_w (x3 + 1)) ∧ (mm_w (x3 + 1)) < hi (90, 0, 0) (-1)) ∧ ((0 ≤ (mm_w (x3 + 2)) ∧ (mm_w (x3 + 2)) < hi (90, 0, 0) (-1)) ∧ mm_Cl 255 [zR (40, 0, 0), zI (hi (90, 0, 0) (mm_w (x3 + 1))), zI (hi (90, 0, 0) (mm_w (x3 + 2)))] (mm_z hi dh nx ns) (fun r h3 => mm_Wp 297 (bk_297_50.drop 24) [zR (90, 0, 0), zR (1, 0, 0), zR (40, 0, 0), zI x3] (mm_push r [zI y0]) h3 Q))) :=
  (wp_5_2).trans ((wp_5_0).trans ((wp_3_3).trans ((wp_1).trans ((wp_10).trans ((wp_70s).trans (mm_ae ((wp_5_0).trans ((wp_3_3).trans ((wp_1).trans ((wp_10).trans ((wp_70s).trans (mm_ae ((wp_v3 mm_n_255 (mm_leq mm_m_255 (mm_lb rfl)) (mm_lb rfl) (mm_o40 hy)).trans rfl)))))))))))))
theorem r_297_53 (x3 : Int) (y0 : Int) (y1 : Int) {hi : mm_Id → Int → Int} {dh : Int → Int} {nx ns : Int} {Q : mm_V → mm_H → Prop} (hy : 5306 ≤ nx) :
    mm_Wp 297 (mm_blk 297 53) [zR (90, 0, 0), zR (1, 0, 0), zR (40, 0, 0), zI x3] [zI y0, zI y1, zR (1, 0, 0)] (mm_z hi dh nx ns) Q =
    mm_Cl 34 [zR (1, 0, 0), zI y1, zI y0] (mm_z hi dh nx ns) (fun r h3 => mm_Wp 297 (bk_297_53.drop 1) [zR (90, 0, 0), zR (1, 0, 0), zR (40, 0, 0), zI x3] (mm_push r []) h3 Q) :=
  mm_kb bq_297_53 ((wp_v3 mm_n_34 (mm_leq mm_m_34 (mm_lb rfl)) (mm_lb rfl) (mm_o1 (mm_hxy hy))).trans rfl)
theorem r_297_56_12 (x3 : Int) (y0 : Int) {hi : mm_Id → Int → Int} {dh : Int → Int} {nx ns : Int} {Q : mm_V → mm_H → Prop} (hy : 5306 ≤ nx) :
    mm_Wp 297 (bk_297_56.drop 12) [zR (90, 0, 0), zR (1, 0, 0), zR (40, 0, 0), zI x3] [zI y0] (mm_z hi dh nx ns) Q =
    ((0 ≤ (mm_w (x3 + 1)) ∧ (mm_w (x3 + 1)) < hi (90, 0, 0) (-1)) ∧ ((0 ≤ (mm_w (x3 + 2)) ∧ (mm_w (x3 + 2)) < hi (90, 0, 0) (-1)) ∧ mm_Cl 257 [zR (40, 0, 0), zI (hi (90, 0, 0) (mm_w (x3 + 1))), zI (hi (90, 0, 0) (mm_w (x3 + 2)))] (mm_z hi dh nx ns) (fun r h3 => mm_Wp 297 (bk_297_56.drop 24) [zR (90, 0, 0), zR (1, 0, 0), zR (40, 0, 0), zI x3] (mm_push r [zI y0]) h3 Q))) :=
  (wp_5_2).trans ((wp_5_0).trans ((wp_3_3).trans ((wp_1).trans ((wp_10).trans ((wp_70s).trans (mm_ae ((wp_5_0).trans ((wp_3_3).trans ((wp_1).trans ((wp_10).trans ((wp_70s).trans (mm_ae ((wp_v3 mm_n_257 (mm_leq mm_m_257 (mm_lb rfl)) (mm_lb rfl) (mm_o40 hy)).trans rfl)))))))))))))
theorem r_297_57_17 (x3 : Int) (y0 : Int) {hi : mm_Id → Int → Int} {dh : Int → Int} {nx ns : Int} {Q : mm_V → mm_H → Prop} (hy : 5306 ≤ nx) :
    mm_Wp 297 (bk_297_57.drop 17) [zR (90, 0, 0), zR (1, 0, 0), zR (40, 0, 0), zI x3] [zI y0] (mm_z hi dh nx ns) Q =
    ((0 ≤ (mm_w (x3 + 1)) ∧ (mm_w (x3 + 1)) < hi (90, 0, 0) (-1)) ∧ ((0 ≤ (mm_w (x3 + 2)) ∧ (mm_w (x3 + 2)) < hi (90, 0, 0) (-1)) ∧ ((0 ≤ (mm_w (x3 + 3)) ∧ (mm_w (x3 + 3)) < hi (90, 0, 0) (-1)) ∧ mm_Cl 259 [zR (40, 0, 0), zI (hi (90, 0, 0) (mm_w (x3 + 1))), zI (hi (90, 0, 0) (mm_w (x3 + 2))), zI (hi (90, 0, 0) (mm_w (x3 + 3)))] (mm_z hi dh nx ns) (fun r h3 => mm_Wp 297 (bk_297_57.drop 34) [zR (90, 0, 0), zR (1, 0, 0), zR (40, 0, 0), zI x3] (mm_push r [zI y0]) h3 Q)))) :=
  (wp_5_2).trans ((wp_5_0).trans ((wp_3_3).trans ((wp_1).trans ((wp_10).trans ((wp_70s).trans (mm_ae ((wp_5_0).trans ((wp_3_3).trans ((wp_1).trans ((wp_10).trans ((wp_70s).trans (mm_ae ((wp_5_0).trans ((wp_3_3).trans ((wp_1).trans ((wp_10).trans ((wp_70s).trans (mm_ae ((wp_v4 mm_n_259 (mm_leq mm_m_259 (mm_lb rfl)) (mm_lb rfl) (mm_o40 hy)).trans rfl)))))))))))))))))))
theorem r_297_58_12 (x3 : Int) (y0 : Int) {hi : mm_Id → Int → Int} {dh : Int → Int} {nx ns : Int} {Q : mm_V → mm_H → Prop} (hy : 5306 ≤ nx) :
    mm_Wp 297 (bk_297_58.drop 12) [zR (90, 0, 0), zR (1, 0, 0), zR (40, 0, 0), zI x3] [zI y0] (mm_z hi dh nx ns) Q =
    ((0 ≤ (mm_w (x3 + 1)) ∧ (mm_w (x3 + 1)) < hi (90, 0, 0) (-1)) ∧ ((0 ≤ (mm_w (x3 + 2)) ∧ (mm_w (x3 + 2)) < hi (90, 0, 0) (-1)) ∧ mm_Cl 260 [zR (40, 0, 0), zI (hi (90, 0, 0) (mm_w (x3 + 1))), zI (hi (90, 0, 0) (mm_w (x3 + 2)))] (mm_z hi dh nx ns) (fun r h3 => mm_Wp 297 (bk_297_58.drop 24) [zR (90, 0, 0), zR (1, 0, 0), zR (40, 0, 0), zI x3] (mm_push r [zI y0]) h3 Q))) :=
  (wp_5_2).trans ((wp_5_0).trans ((wp_3_3).trans ((wp_1).trans ((wp_10).trans ((wp_70s).trans (mm_ae ((wp_5_0).trans ((wp_3_3).trans ((wp_1).trans ((wp_10).trans ((wp_70s).trans (mm_ae ((wp_v3 mm_n_260 (mm_leq mm_m_260 (mm_lb rfl)) (mm_lb rfl) (mm_o40 hy)).trans rfl)))))))))))))
theorem r_297_59_7 (x3 : Int) (y0 : Int) {hi : mm_Id → Int → Int} {dh : Int → Int} {nx ns : Int} {Q : mm_V → mm_H → Prop} (hy : 5306 ≤ nx) :
    mm_Wp 297 (bk_297_59.drop 7) [zR (90, 0, 0), zR (1, 0, 0), zR (40, 0, 0), zI x3] [zI y0] (mm_z hi dh nx ns) Q =
    ((0 ≤ (mm_w (x3 + 1)) ∧ (mm_w (x3 + 1)) < hi (90, 0, 0) (-1)) ∧ mm_Cl 264 [zR (40, 0, 0), zI (hi (90, 0, 0) (mm_w (x3 + 1)))] (mm_z hi dh nx ns) (fun r h3 => mm_Wp 297 (bk_297_59.drop 14) [zR (90, 0, 0), zR (1, 0, 0), zR (40, 0, 0), zI x3] (mm_push r [zI y0]) h3 Q)) :=
  (wp_5_2).trans ((wp_5_0).trans ((wp_3_3).trans ((wp_1).trans ((wp_10).trans ((wp_70s).trans (mm_ae ((wp_v2 mm_n_264 (mm_leq mm_m_264 (mm_lb rfl)) (mm_lb rfl) (mm_o40 hy)).trans rfl)))))))
theorem r_297_60_2 (x3 : Int) (y0 : Int) {hi : mm_Id → Int → Int} {dh : Int → Int} {nx ns : Int} {Q : mm_V → mm_H → Prop} (hy : 5306 ≤ nx) :
    mm_Wp 297 (bk_297_60.drop 2) [zR (90, 0, 0), zR (1, 0, 0), zR (40, 0, 0), zI x3] [zI y0] (mm_z hi dh nx ns) Q =
    mm_Cl 265 [zR (40, 0, 0)] (mm_z hi dh nx ns) (fun r h3 => mm_Wp 297 (bk_297_60.drop 4) [zR (90, 0, 0), zR (1, 0, 0), zR (40, 0, 0), zI x3] (mm_push r [zI y0]) h3 Q) :=
  (wp_5_2).trans ((wp_v1 mm_n_265 (mm_leq mm_m_265 (mm_lb rfl)) (mm_lb rfl) (mm_o40 hy)).trans rfl)
theorem r_297_61_2 (x3 : Int) (y0 : Int) {hi : mm_Id → Int → Int} {dh : Int → Int} {nx ns : Int} {Q : mm_V → mm_H → Prop} (hy : 5306 ≤ nx) :
    mm_Wp 297 (bk_297_61.drop 2) [zR (90, 0, 0), zR (1, 0, 0), zR (40, 0, 0), zI x3] [zI y0] (mm_z hi dh nx ns) Q =
    mm_Cl 266 [zR (40, 0, 0)] (mm_z hi dh nx ns) (fun r h3 => mm_Wp 297 (bk_297_61.drop 4) [zR (90, 0, 0), zR (1, 0, 0), zR (40, 0, 0), zI x3] (mm_push r [zI y0]) h3 Q) :=
  (wp_5_2).trans ((wp_v1 mm_n_266 (mm_leq mm_m_266 (mm_lb rfl)) (mm_lb rfl) (mm_o40 hy)).trans rfl)
theorem r_297_62_7 (x3 : Int) (y0 : Int) {hi : mm_Id → Int → Int} {dh : Int → Int} {nx ns : Int} {Q : mm_V → mm_H → Prop} (hy : 5306 ≤ nx) :
    mm_Wp 297 (bk_297_62.drop 7) [zR (90, 0, 0), zR (1, 0, 0), zR (40, 0, 0), zI x3] [zI y0] (mm_z hi dh nx ns) Q =
    ((0 ≤ (mm_w (x3 + 1)) ∧ (mm_w (x3 + 1)) < hi (90, 0, 0) (-1)) ∧ mm_Cl 267 [zR (40, 0, 0), zI (hi (90, 0, 0) (mm_w (x3 + 1)))] (mm_z hi dh nx ns) (fun r h3 => mm_Wp 297 (bk_297_62.drop 14) [zR (90, 0, 0), zR (1, 0, 0), zR (40, 0, 0), zI x3] (mm_push r [zI y0]) h3 Q)) :=
  (wp_5_2).trans ((wp_5_0).trans ((wp_3_3).trans ((wp_1).trans ((wp_10).trans ((wp_70s).trans (mm_ae ((wp_v2 mm_n_267 (mm_leq mm_m_267 (mm_lb rfl)) (mm_lb rfl) (mm_o40 hy)).trans rfl)))))))
theorem r_297_63_17 (x3 : Int) (y0 : Int) {hi : mm_Id → Int → Int} {dh : Int → Int} {nx ns : Int} {Q : mm_V → mm_H → Prop} (hy : 5306 ≤ nx) :
    mm_Wp 297 (bk_297_63.drop 17) [zR (90, 0, 0), zR (1, 0, 0), zR (40, 0, 0), zI x3] [zI y0] (mm_z hi dh nx ns) Q =
    ((0 ≤ (mm_w (x3 + 1)) ∧ (mm_w (x3 + 1)) < hi (90, 0, 0) (-1)) ∧ ((0 ≤ (mm_w (x3 + 2)) ∧ (mm_w (x3 + 2)) < hi (90, 0, 0) (-1)) ∧ ((0 ≤ (mm_w (x3 + 3)) ∧ (mm_w (x3 + 3)) < hi (90, 0, 0) (-1)) ∧ mm_Cl 270 [zR (40, 0, 0), zI (hi (90, 0, 0) (mm_w (x3 + 1))), zI (hi (90, 0, 0) (mm_w (x3 + 2))), zI (hi (90, 0, 0) (mm_w (x3 + 3)))] (mm_z hi dh nx ns) (fun r h3 => mm_Wp 297 (bk_297_63.drop 34) [zR (90, 0, 0), zR (1, 0, 0), zR (40, 0, 0), zI x3] (mm_push r [zI y0]) h3 Q)))) :=
  (wp_5_2).trans ((wp_5_0).trans ((wp_3_3).trans ((wp_1).trans ((wp_10).trans ((wp_70s).trans (mm_ae ((wp_5_0).trans ((wp_3_3).trans ((wp_1).trans ((wp_10).trans ((wp_70s).trans (mm_ae ((wp_5_0).trans ((wp_3_3).trans ((wp_1).trans ((wp_10).trans ((wp_70s).trans (mm_ae ((wp_v4 mm_n_270 (mm_leq mm_m_270 (mm_lb rfl)) (mm_lb rfl) (mm_o40 hy)).trans rfl)))))))))))))))))))
theorem r_297_64_7 (x3 : Int) (y0 : Int) {hi : mm_Id → Int → Int} {dh : Int → Int} {nx ns : Int} {Q : mm_V → mm_H → Prop} (hy : 5306 ≤ nx) :
    mm_Wp 297 (bk_297_64.drop 7) [zR (90, 0, 0), zR (1, 0, 0), zR (40, 0, 0), zI x3] [zI y0] (mm_z hi dh nx ns) Q =
    ((0 ≤ (mm_w (x3 + 1)) ∧ (mm_w (x3 + 1)) < hi (90, 0, 0) (-1)) ∧ mm_Cl 271 [zR (40, 0, 0), zI (hi (90, 0, 0) (mm_w (x3 + 1)))] (mm_z hi dh nx ns) (fun r h3 => mm_Wp 297 (bk_297_64.drop 14) [zR (90, 0, 0), zR (1, 0, 0), zR (40, 0, 0), zI x3] (mm_push r [zI y0]) h3 Q)) :=
  (wp_5_2).trans ((wp_5_0).trans ((wp_3_3).trans ((wp_1).trans ((wp_10).trans ((wp_70s).trans (mm_ae ((wp_v2 mm_n_271 (mm_leq mm_m_271 (mm_lb rfl)) (mm_lb rfl) (mm_o40 hy)).trans rfl)))))))
theorem r_297_67 (x3 : Int) (y0 : Int) (y1 : Int) {hi : mm_Id → Int → Int} {dh : Int → Int} {nx ns : Int} {Q : mm_V → mm_H → Prop} (hy : 5306 ≤ nx) :
    mm_Wp 297 (mm_blk 297 67) [zR (90, 0, 0), zR (1, 0, 0), zR (40, 0, 0), zI x3] [zI y0, zI y1, zR (1, 0, 0)] (mm_z hi dh nx ns) Q =
    mm_Cl 44 [zR (1, 0, 0), zI y1, zI y0] (mm_z hi dh nx ns) (fun r h3 => mm_Wp 297 (bk_297_67.drop 1) [zR (90, 0, 0), zR (1, 0, 0), zR (40, 0, 0), zI x3] (mm_push r []) h3 Q) :=
  mm_kb bq_297_67 ((wp_v3 mm_n_44 (mm_leq mm_m_44 (mm_lb rfl)) (mm_lb rfl) (mm_o1 (mm_hxy hy))).trans rfl)
theorem r_297_72 (x3 : Int) (y0 : Int) {hi : mm_Id → Int → Int} {dh : Int → Int} {nx ns : Int} {Q : mm_V → mm_H → Prop} (hy : 5306 ≤ nx) :
    mm_Wp 297 (mm_blk 297 72) [zR (90, 0, 0), zR (1, 0, 0), zR (40, 0, 0), zI x3] [zI y0, zR (1, 0, 0)] (mm_z hi dh nx ns) Q =
    mm_Cl 45 [zR (1, 0, 0), zI y0] (mm_z hi dh nx ns) (fun r h3 => mm_Wp 297 (bk_297_72.drop 1) [zR (90, 0, 0), zR (1, 0, 0), zR (40, 0, 0), zI x3] (mm_push r []) h3 Q) :=
  mm_kb bq_297_72 ((wp_v2 mm_n_45 (mm_leq mm_m_45 (mm_lb rfl)) (mm_lb rfl) (mm_o1 (mm_hxy hy))).trans rfl)
theorem r_297_75_7 (x3 : Int) (y0 : Int) {hi : mm_Id → Int → Int} {dh : Int → Int} {nx ns : Int} {Q : mm_V → mm_H → Prop} (hy : 5306 ≤ nx) :
    mm_Wp 297 (bk_297_75.drop 7) [zR (90, 0, 0), zR (1, 0, 0), zR (40, 0, 0), zI x3] [zI y0] (mm_z hi dh nx ns) Q =
    ((0 ≤ (mm_w (x3 + 1)) ∧ (mm_w (x3 + 1)) < hi (90, 0, 0) (-1)) ∧ mm_Cl 274 [zR (40, 0, 0), zI (hi (90, 0, 0) (mm_w (x3 + 1)))] (mm_z hi dh nx ns) (fun r h3 => mm_Wp 297 (bk_297_75.drop 14) [zR (90, 0, 0), zR (1, 0, 0), zR (40, 0, 0), zI x3] (mm_push r [zI y0]) h3 Q)) :=
  (wp_5_2).trans ((wp_5_0).trans ((wp_3_3).trans ((wp_1).trans ((wp_10).trans ((wp_70s).trans (mm_ae ((wp_v2 mm_n_274 (mm_leq mm_m_274 (mm_lb rfl)) (mm_lb rfl) (mm_o40 hy)).trans rfl)))))))
theorem r_297_76_27 (x3 : Int) (y0 : Int) {hi : mm_Id → Int → Int} {dh : Int → Int} {nx ns : Int} {Q : mm_V → mm_H → Prop} (hy : 5306 ≤ nx) :
    mm_Wp 297 (bk_297_76.drop 27) [zR (90, 0, 0), zR (1, 0, 0), zR (40, 0, 0), zI x3] [zI y0] (mm_z hi dh nx ns) Q =
    ((0 ≤ (mm_w (x3 + 1)) ∧ (mm_w (x3 + 1)) < hi (90, 0, 0) (-1)) ∧ ((0 ≤ (mm_w (x3 + 2)) ∧ (mm_w (x3 + 2)) < hi (90, 0, 0) (-1)) ∧ ((0 ≤ (mm_w (x3 + 3)) ∧ (mm_w (x3 + 3)) < hi (90, 0, 0) (-1)) ∧ ((0 ≤ (mm_w (x3 + 4)) ∧ (mm_w (x3 + 4)) < hi (90, 0, 0) (-1)) ∧ ((0 ≤ (mm_w (x3 + 5)) ∧ (mm_w (x3 + 5)) < hi (90, 0, 0) (-1)) ∧ mm_Cl 276 [zR (40, 0, 0), zI (hi (90, 0, 0) (mm_w (x3 + 1))), zI (hi (90, 0, 0) (mm_w (x3 + 2))), zI (hi (90, 0, 0) (mm_w (x3 + 3))), zI (hi (90, 0, 0) (mm_w (x3 + 4))), zI (hi (90, 0, 0) (mm_w (x3 + 5)))] (mm_z hi dh nx ns) (fun r h3 => mm_Wp 297 (bk_297_76.drop 54) [zR (90, 0, 0), zR (1, 0, 0), zR (40, 0, 0), zI x3] (mm_push r [zI y0]) h3 Q)))))) :=
  (wp_5_2).trans ((wp_5_0).trans ((wp_3_3).trans ((wp_1).trans ((wp_10).trans ((wp_70s).trans (mm_ae ((wp_5_0).trans ((wp_3_3).trans ((wp_1).trans ((wp_10).trans ((wp_70s).trans (mm_ae ((wp_5_0).trans ((wp_3_3).trans ((wp_1).trans ((wp_10).trans ((wp_70s).trans (mm_ae ((wp_5_0).trans ((wp_3_3).trans ((wp_1).trans ((wp_10).trans ((wp_70s).trans (mm_ae ((wp_5_0).trans ((wp_3_3).trans ((wp_1).trans ((wp_10).trans ((wp_70s).trans (mm_ae ((wp_v6 mm_n_276 (mm_leq mm_m_276 (mm_lb rfl)) (mm_lb rfl) (mm_o40 hy)).trans rfl)))))))))))))))))))))))))))))))
theorem r_297_77_7 (x3 : Int) (y0 : Int) {hi : mm_Id → Int → Int} {dh : Int → Int} {nx ns : Int} {Q : mm_V → mm_H → Prop} (hy : 5306 ≤ nx) :
    mm_Wp 297 (bk_297_77.drop 7) [zR (90, 0, 0), zR (1, 0, 0), zR (40, 0, 0), zI x3] [zI y0] (mm_z hi dh nx ns) Q =
    ((0 ≤ (mm_w (x3 + 1)) ∧ (mm_w (x3 + 1)) < hi (90, 0, 0) (-1)) ∧ mm_Cl 277 [zR (40, 0, 0), zI (hi (90, 0, 0) (mm_w (x3 + 1)))] (mm_z hi dh nx ns) (fun r h3 => mm_Wp 297 (bk_297_77.drop 14) [zR (90, 0, 0), zR (1, 0, 0), zR (40, 0, 0), zI x3] (mm_push r [zI y0]) h3 Q)) :=
  (wp_5_2).trans ((wp_5_0).trans ((wp_3_3).trans ((wp_1).trans ((wp_10).trans ((wp_70s).trans (mm_ae ((wp_v2 mm_n_277 (mm_leq mm_m_277 (mm_lb rfl)) (mm_lb rfl) (mm_o40 hy)).trans rfl)))))))
theorem r_297_78_2 (x3 : Int) (y0 : Int) {hi : mm_Id → Int → Int} {dh : Int → Int} {nx ns : Int} {Q : mm_V → mm_H → Prop} (hy : 5306 ≤ nx) :
    mm_Wp 297 (bk_297_78.drop 2) [zR (90, 0, 0), zR (1, 0, 0), zR (40, 0, 0), zI x3] [zI y0] (mm_z hi dh nx ns) Q =
    mm_Cl 293 [zR (40, 0, 0)] (mm_z hi dh nx ns) (fun r h3 => mm_Wp 297 (bk_297_78.drop 4) [zR (90, 0, 0), zR (1, 0, 0), zR (40, 0, 0), zI x3] (mm_push r [zI y0]) h3 Q) :=
  (wp_5_2).trans ((wp_v1 mm_n_293 (mm_leq mm_m_293 (mm_lb rfl)) (mm_lb rfl) (mm_o40 hy)).trans rfl)
theorem r_297_79_7 (x3 : Int) (y0 : Int) {hi : mm_Id → Int → Int} {dh : Int → Int} {nx ns : Int} {Q : mm_V → mm_H → Prop} (hy : 5306 ≤ nx) :
    mm_Wp 297 (bk_297_79.drop 7) [zR (90, 0, 0), zR (1, 0, 0), zR (40, 0, 0), zI x3] [zI y0] (mm_z hi dh nx ns) Q =
    ((0 ≤ (mm_w (x3 + 1)) ∧ (mm_w (x3 + 1)) < hi (90, 0, 0) (-1)) ∧ mm_Cl 294 [zR (40, 0, 0), zI (hi (90, 0, 0) (mm_w (x3 + 1)))] (mm_z hi dh nx ns) (fun r h3 => mm_Wp 297 (bk_297_79.drop 14) [zR (90, 0, 0), zR (1, 0, 0), zR (40, 0, 0), zI x3] (mm_push r [zI y0]) h3 Q)) :=
  (wp_5_2).trans ((wp_5_0).trans ((wp_3_3).trans ((wp_1).trans ((wp_10).trans ((wp_70s).trans (mm_ae ((wp_v2 mm_n_294 (mm_leq mm_m_294 (mm_lb rfl)) (mm_lb rfl) (mm_o40 hy)).trans rfl)))))))
theorem r_297_80_2 (x3 : Int) (y0 : Int) {hi : mm_Id → Int → Int} {dh : Int → Int} {nx ns : Int} {Q : mm_V → mm_H → Prop} (hy : 5306 ≤ nx) :
    mm_Wp 297 (bk_297_80.drop 2) [zR (90, 0, 0), zR (1, 0, 0), zR (40, 0, 0), zI x3] [zI y0] (mm_z hi dh nx ns) Q =
    mm_Cl 295 [zR (40, 0, 0)] (mm_z hi dh nx ns) (fun r h3 => mm_Wp 297 (bk_297_80.drop 4) [zR (90, 0, 0), zR (1, 0, 0), zR (40, 0, 0), zI x3] (mm_push r [zI y0]) h3 Q) :=
  (wp_5_2).trans ((wp_v1 mm_n_295 (mm_leq mm_m_295 (mm_lb rfl)) (mm_lb rfl) (mm_o40 hy)).trans rfl)
theorem r_297_81_2 (x3 : Int) (y0 : Int) {hi : mm_Id → Int → Int} {dh : Int → Int} {nx ns : Int} {Q : mm_V → mm_H → Prop} (hy : 5306 ≤ nx) :
    mm_Wp 297 (bk_297_81.drop 2) [zR (90, 0, 0), zR (1, 0, 0), zR (40, 0, 0), zI x3] [zI y0] (mm_z hi dh nx ns) Q =
    mm_Cl 275 [zR (40, 0, 0)] (mm_z hi dh nx ns) (fun r h3 => mm_Wp 297 (bk_297_81.drop 4) [zR (90, 0, 0), zR (1, 0, 0), zR (40, 0, 0), zI x3] (mm_push r [zI y0]) h3 Q) :=
  (wp_5_2).trans ((wp_v1 mm_n_275 (mm_leq mm_m_275 (mm_lb rfl)) (mm_lb rfl) (mm_o40 hy)).trans rfl)
theorem r_297_2_44 (x3 : Int) (y0 : Int) (y1 : Int) {hi : mm_Id → Int → Int} {dh : Int → Int} {nx ns : Int} {Q : mm_V → mm_H → Prop} (hy : 5306 ≤ nx) :
    mm_Wp 297 (bk_297_2.drop 44) [zR (90, 0, 0), zR (1, 0, 0), zR (40, 0, 0), zI x3] [zI y0, zI y1] (mm_z hi dh nx ns) Q =
    (if y1 = y0 then mm_Wp 297 (mm_blk 297 82) [zR (90, 0, 0), zR (1, 0, 0), zR (40, 0, 0), zI x3] [] (mm_z hi dh nx ns) Q else Q (zI 0) (mm_z hi dh nx ns)) :=
  (wp_46).trans (mm_ic (rfl) ((wp_1).trans (wp_94k (by decide))))
theorem r_297_3_14 (x3 : Int) (y0 : Int) (y1 : Int) {hi : mm_Id → Int → Int} {dh : Int → Int} {nx ns : Int} {Q : mm_V → mm_H → Prop} (hy : 5306 ≤ nx) :
    mm_Wp 297 (bk_297_3.drop 14) [zR (90, 0, 0), zR (1, 0, 0), zR (40, 0, 0), zI x3] [zI y0, zI y1] (mm_z hi dh nx ns) Q =
    (if y1 = y0 then mm_Wp 297 (mm_blk 297 82) [zR (90, 0, 0), zR (1, 0, 0), zR (40, 0, 0), zI x3] [] (mm_z hi dh nx ns) Q else Q (zI 0) (mm_z hi dh nx ns)) :=
  (wp_46).trans (mm_ic (rfl) ((wp_1).trans (wp_94k (by decide))))
theorem r_297_6_1 (x3 : Int) (y0 : Int) {hi : mm_Id → Int → Int} {dh : Int → Int} {nx ns : Int} {Q : mm_V → mm_H → Prop} (hy : 5306 ≤ nx) :
    mm_Wp 297 (bk_297_6.drop 1) [zR (90, 0, 0), zR (1, 0, 0), zR (40, 0, 0), zI x3] [zI y0] (mm_z hi dh nx ns) Q =
    ((0 ≤ (mm_w (x3 + 1)) ∧ (mm_w (x3 + 1)) < hi (90, 0, 0) (-1)) ∧ ((0 ≤ (mm_w (x3 + 2)) ∧ (mm_w (x3 + 2)) < hi (90, 0, 0) (-1)) ∧ ((0 ≤ (mm_w (x3 + 3)) ∧ (mm_w (x3 + 3)) < hi (90, 0, 0) (-1)) ∧ ((0 ≤ (mm_w (x3 + 4)) ∧ (mm_w (x3 + 4)) < hi (90, 0, 0) (-1)) ∧ (if (hi (90, 0, 0) (mm_w (x3 + 4))) = 0 then mm_Wp 297 (mm_blk 297 8) [zR (90, 0, 0), zR (1, 0, 0), zR (40, 0, 0), zI x3] [zI 0, zI (hi (90, 0, 0) (mm_w (x3 + 3))), zI (hi (90, 0, 0) (mm_w (x3 + 2))), zI (hi (90, 0, 0) (mm_w (x3 + 1))), zR (40, 0, 0), zI y0] (mm_z hi dh nx ns) Q else mm_Wp 297 (mm_blk 297 8) [zR (90, 0, 0), zR (1, 0, 0), zR (40, 0, 0), zI x3] [zI 1, zI (hi (90, 0, 0) (mm_w (x3 + 3))), zI (hi (90, 0, 0) (mm_w (x3 + 2))), zI (hi (90, 0, 0) (mm_w (x3 + 1))), zR (40, 0, 0), zI y0] (mm_z hi dh nx ns) Q))))) :=
  (wp_5_2).trans ((wp_5_0).trans ((wp_3_3).trans ((wp_1).trans ((wp_10).trans ((wp_70s).trans (mm_ae ((wp_5_0).trans ((wp_3_3).trans ((wp_1).trans ((wp_10).trans ((wp_70s).trans (mm_ae ((wp_5_0).trans ((wp_3_3).trans ((wp_1).trans ((wp_10).trans ((wp_70s).trans (mm_ae ((wp_5_0).trans ((wp_3_3).trans ((wp_1).trans ((wp_10).trans ((wp_70s).trans (mm_ae ((wp_40).trans (mm_ic (mm_kb bq_297_7 ((wp_1).trans ((wp_0).trans (rfl)))) ((wp_1).trans ((wp_56).trans (rfl)))))))))))))))))))))))))))))
theorem r_297_11_1 (x3 : Int) (y0 : Int) {hi : mm_Id → Int → Int} {dh : Int → Int} {nx ns : Int} {Q : mm_V → mm_H → Prop} (hy : 5306 ≤ nx) :
    mm_Wp 297 (bk_297_11.drop 1) [zR (90, 0, 0), zR (1, 0, 0), zR (40, 0, 0), zI x3] [zI y0] (mm_z hi dh nx ns) Q =
    ((0 ≤ (mm_w (x3 + 1)) ∧ (mm_w (x3 + 1)) < hi (90, 0, 0) (-1)) ∧ ((0 ≤ (mm_w (x3 + 2)) ∧ (mm_w (x3 + 2)) < hi (90, 0, 0) (-1)) ∧ ((0 ≤ (mm_w (x3 + 3)) ∧ (mm_w (x3 + 3)) < hi (90, 0, 0) (-1)) ∧ (if (hi (90, 0, 0) (mm_w (x3 + 3))) = 0 then mm_Wp 297 (mm_blk 297 13) [zR (90, 0, 0), zR (1, 0, 0), zR (40, 0, 0), zI x3] [zI 0, zI (hi (90, 0, 0) (mm_w (x3 + 2))), zI (hi (90, 0, 0) (mm_w (x3 + 1))), zR (40, 0, 0), zI y0] (mm_z hi dh nx ns) Q else mm_Wp 297 (mm_blk 297 13) [zR (90, 0, 0), zR (1, 0, 0), zR (40, 0, 0), zI x3] [zI 1, zI (hi (90, 0, 0) (mm_w (x3 + 2))), zI (hi (90, 0, 0) (mm_w (x3 + 1))), zR (40, 0, 0), zI y0] (mm_z hi dh nx ns) Q)))) :=
  (wp_5_2).trans ((wp_5_0).trans ((wp_3_3).trans ((wp_1).trans ((wp_10).trans ((wp_70s).trans (mm_ae ((wp_5_0).trans ((wp_3_3).trans ((wp_1).trans ((wp_10).trans ((wp_70s).trans (mm_ae ((wp_5_0).trans ((wp_3_3).trans ((wp_1).trans ((wp_10).trans ((wp_70s).trans (mm_ae ((wp_40).trans (mm_ic (mm_kb bq_297_12 ((wp_1).trans ((wp_0).trans (rfl)))) ((wp_1).trans ((wp_56).trans (rfl)))))))))))))))))))))))
theorem r_297_14_34 (x3 : Int) (y0 : Int) (y1 : Int) {hi : mm_Id → Int → Int} {dh : Int → Int} {nx ns : Int} {Q : mm_V → mm_H → Prop} (hy : 5306 ≤ nx) :
    mm_Wp 297 (bk_297_14.drop 34) [zR (90, 0, 0), zR (1, 0, 0), zR (40, 0, 0), zI x3] [zI y0, zI y1] (mm_z hi dh nx ns) Q =
    (if y1 = y0 then mm_Wp 297 (mm_blk 297 82) [zR (90, 0, 0), zR (1, 0, 0), zR (40, 0, 0), zI x3] [] (mm_z hi dh nx ns) Q else Q (zI 0) (mm_z hi dh nx ns)) :=
  (wp_46).trans (mm_ic (rfl) ((wp_1).trans (wp_94k (by decide))))
theorem r_297_15_34 (x3 : Int) (y0 : Int) (y1 : Int) {hi : mm_Id → Int → Int} {dh : Int → Int} {nx ns : Int} {Q : mm_V → mm_H → Prop} (hy : 5306 ≤ nx) :
    mm_Wp 297 (bk_297_15.drop 34) [zR (90, 0, 0), zR (1, 0, 0), zR (40, 0, 0), zI x3] [zI y0, zI y1] (mm_z hi dh nx ns) Q =
    (if y1 = y0 then mm_Wp 297 (mm_blk 297 82) [zR (90, 0, 0), zR (1, 0, 0), zR (40, 0, 0), zI x3] [] (mm_z hi dh nx ns) Q else Q (zI 0) (mm_z hi dh nx ns)) :=
  (wp_46).trans (mm_ic (rfl) ((wp_1).trans (wp_94k (by decide))))
theorem r_297_16_78 (x3 : Int) (y0 : Int) (y1 : Int) {hi : mm_Id → Int → Int} {dh : Int → Int} {nx ns : Int} {Q : mm_V → mm_H → Prop} (hy : 5306 ≤ nx) :
    mm_Wp 297 (bk_297_16.drop 78) [zR (90, 0, 0), zR (1, 0, 0), zR (40, 0, 0), zI x3] [zI y0, zI y1] (mm_z hi dh nx ns) Q =
    (if y1 = y0 then mm_Wp 297 (mm_blk 297 82) [zR (90, 0, 0), zR (1, 0, 0), zR (40, 0, 0), zI x3] [] (mm_z hi dh nx ns) Q else Q (zI 0) (mm_z hi dh nx ns)) :=
  (wp_46).trans (mm_ic (rfl) ((wp_1).trans (wp_94k (by decide))))
theorem r_297_17_34 (x3 : Int) (y0 : Int) (y1 : Int) {hi : mm_Id → Int → Int} {dh : Int → Int} {nx ns : Int} {Q : mm_V → mm_H → Prop} (hy : 5306 ≤ nx) :
    mm_Wp 297 (bk_297_17.drop 34) [zR (90, 0, 0), zR (1, 0, 0), zR (40, 0, 0), zI x3] [zI y0, zI y1] (mm_z hi dh nx ns) Q =
    (if y1 = y0 then mm_Wp 297 (mm_blk 297 82) [zR (90, 0, 0), zR (1, 0, 0), zR (40, 0, 0), zI x3] [] (mm_z hi dh nx ns) Q else Q (zI 0) (mm_z hi dh nx ns)) :=
  (wp_46).trans (mm_ic (rfl) ((wp_1).trans (wp_94k (by decide))))
theorem r_297_18_34 (x3 : Int) (y0 : Int) (y1 : Int) {hi : mm_Id → Int → Int} {dh : Int → Int} {nx ns : Int} {Q : mm_V → mm_H → Prop} (hy : 5306 ≤ nx) :
    mm_Wp 297 (bk_297_18.drop 34) [zR (90, 0, 0), zR (1, 0, 0), zR (40, 0, 0), zI x3] [zI y0, zI y1] (mm_z hi dh nx ns) Q =
    (if y1 = y0 then mm_Wp 297 (mm_blk 297 82) [zR (90, 0, 0), zR (1, 0, 0), zR (40, 0, 0), zI x3] [] (mm_z hi dh nx ns) Q else Q (zI 0) (mm_z hi dh nx ns)) :=
  (wp_46).trans (mm_ic (rfl) ((wp_1).trans (wp_94k (by decide))))
theorem r_297_19_44 (x3 : Int) (y0 : Int) (y1 : Int) {hi : mm_Id → Int → Int} {dh : Int → Int} {nx ns : Int} {Q : mm_V → mm_H → Prop} (hy : 5306 ≤ nx) :
    mm_Wp 297 (bk_297_19.drop 44) [zR (90, 0, 0), zR (1, 0, 0), zR (40, 0, 0), zI x3] [zI y0, zI y1] (mm_z hi dh nx ns) Q =
    (if y1 = y0 then mm_Wp 297 (mm_blk 297 82) [zR (90, 0, 0), zR (1, 0, 0), zR (40, 0, 0), zI x3] [] (mm_z hi dh nx ns) Q else Q (zI 0) (mm_z hi dh nx ns)) :=
  (wp_46).trans (mm_ic (rfl) ((wp_1).trans (wp_94k (by decide))))
theorem r_297_20_34 (x3 : Int) (y0 : Int) (y1 : Int) {hi : mm_Id → Int → Int} {dh : Int → Int} {nx ns : Int} {Q : mm_V → mm_H → Prop} (hy : 5306 ≤ nx) :
    mm_Wp 297 (bk_297_20.drop 34) [zR (90, 0, 0), zR (1, 0, 0), zR (40, 0, 0), zI x3] [zI y0, zI y1] (mm_z hi dh nx ns) Q =
    (if y1 = y0 then mm_Wp 297 (mm_blk 297 82) [zR (90, 0, 0), zR (1, 0, 0), zR (40, 0, 0), zI x3] [] (mm_z hi dh nx ns) Q else Q (zI 0) (mm_z hi dh nx ns)) :=
  (wp_46).trans (mm_ic (rfl) ((wp_1).trans (wp_94k (by decide))))
theorem r_297_21_54 (x3 : Int) (y0 : Int) (y1 : Int) {hi : mm_Id → Int → Int} {dh : Int → Int} {nx ns : Int} {Q : mm_V → mm_H → Prop} (hy : 5306 ≤ nx) :
    mm_Wp 297 (bk_297_21.drop 54) [zR (90, 0, 0), zR (1, 0, 0), zR (40, 0, 0), zI x3] [zI y0, zI y1] (mm_z hi dh nx ns) Q =
    (if y1 = y0 then mm_Wp 297 (mm_blk 297 82) [zR (90, 0, 0), zR (1, 0, 0), zR (40, 0, 0), zI x3] [] (mm_z hi dh nx ns) Q else Q (zI 0) (mm_z hi dh nx ns)) :=
  (wp_46).trans (mm_ic (rfl) ((wp_1).trans (wp_94k (by decide))))
theorem r_297_22_34 (x3 : Int) (y0 : Int) (y1 : Int) {hi : mm_Id → Int → Int} {dh : Int → Int} {nx ns : Int} {Q : mm_V → mm_H → Prop} (hy : 5306 ≤ nx) :
    mm_Wp 297 (bk_297_22.drop 34) [zR (90, 0, 0), zR (1, 0, 0), zR (40, 0, 0), zI x3] [zI y0, zI y1] (mm_z hi dh nx ns) Q =
    (if y1 = y0 then mm_Wp 297 (mm_blk 297 82) [zR (90, 0, 0), zR (1, 0, 0), zR (40, 0, 0), zI x3] [] (mm_z hi dh nx ns) Q else Q (zI 0) (mm_z hi dh nx ns)) :=
  (wp_46).trans (mm_ic (rfl) ((wp_1).trans (wp_94k (by decide))))
theorem r_297_23_34 (x3 : Int) (y0 : Int) (y1 : Int) {hi : mm_Id → Int → Int} {dh : Int → Int} {nx ns : Int} {Q : mm_V → mm_H → Prop} (hy : 5306 ≤ nx) :
    mm_Wp 297 (bk_297_23.drop 34) [zR (90, 0, 0), zR (1, 0, 0), zR (40, 0, 0), zI x3] [zI y0, zI y1] (mm_z hi dh nx ns) Q =
    (if y1 = y0 then mm_Wp 297 (mm_blk 297 82) [zR (90, 0, 0), zR (1, 0, 0), zR (40, 0, 0), zI x3] [] (mm_z hi dh nx ns) Q else Q (zI 0) (mm_z hi dh nx ns)) :=
  (wp_46).trans (mm_ic (rfl) ((wp_1).trans (wp_94k (by decide))))
theorem r_297_24_34 (x3 : Int) (y0 : Int) (y1 : Int) {hi : mm_Id → Int → Int} {dh : Int → Int} {nx ns : Int} {Q : mm_V → mm_H → Prop} (hy : 5306 ≤ nx) :
    mm_Wp 297 (bk_297_24.drop 34) [zR (90, 0, 0), zR (1, 0, 0), zR (40, 0, 0), zI x3] [zI y0, zI y1] (mm_z hi dh nx ns) Q =
    (if y1 = y0 then mm_Wp 297 (mm_blk 297 82) [zR (90, 0, 0), zR (1, 0, 0), zR (40, 0, 0), zI x3] [] (mm_z hi dh nx ns) Q else Q (zI 0) (mm_z hi dh nx ns)) :=
  (wp_46).trans (mm_ic (rfl) ((wp_1).trans (wp_94k (by decide))))
theorem r_297_25_34 (x3 : Int) (y0 : Int) (y1 : Int) {hi : mm_Id → Int → Int} {dh : Int → Int} {nx ns : Int} {Q : mm_V → mm_H → Prop} (hy : 5306 ≤ nx) :
    mm_Wp 297 (bk_297_25.drop 34) [zR (90, 0, 0), zR (1, 0, 0), zR (40, 0, 0), zI x3] [zI y0, zI y1] (mm_z hi dh nx ns) Q =
    (if y1 = y0 then mm_Wp 297 (mm_blk 297 82) [zR (90, 0, 0), zR (1, 0, 0), zR (40, 0, 0), zI x3] [] (mm_z hi dh nx ns) Q else Q (zI 0) (mm_z hi dh nx ns)) :=
  (wp_46).trans (mm_ic (rfl) ((wp_1).trans (wp_94k (by decide))))
theorem r_297_28_1 (x3 : Int) (y0 : Int) {hi : mm_Id → Int → Int} {dh : Int → Int} {nx ns : Int} {Q : mm_V → mm_H → Prop} (hy : 5306 ≤ nx) :
    mm_Wp 297 (bk_297_28.drop 1) [zR (90, 0, 0), zR (1, 0, 0), zR (40, 0, 0), zI x3] [zI y0] (mm_z hi dh nx ns) Q =
    ((0 ≤ (mm_w (x3 + 1)) ∧ (mm_w (x3 + 1)) < hi (90, 0, 0) (-1)) ∧ ((0 ≤ (mm_w (x3 + 2)) ∧ (mm_w (x3 + 2)) < hi (90, 0, 0) (-1)) ∧ ((0 ≤ (mm_w (x3 + 3)) ∧ (mm_w (x3 + 3)) < hi (90, 0, 0) (-1)) ∧ ((0 ≤ (mm_w (x3 + 4)) ∧ (mm_w (x3 + 4)) < hi (90, 0, 0) (-1)) ∧ ((0 ≤ (mm_w (x3 + 5)) ∧ (mm_w (x3 + 5)) < hi (90, 0, 0) (-1)) ∧ ((0 ≤ (mm_w (x3 + 6)) ∧ (mm_w (x3 + 6)) < hi (90, 0, 0) (-1)) ∧ (if (hi (90, 0, 0) (mm_w (x3 + 6))) = 0 then mm_Wp 297 (mm_blk 297 30) [zR (90, 0, 0), zR (1, 0, 0), zR (40, 0, 0), zI x3] [zI 0, zL (mm_lor (mm_lshl (hi (90, 0, 0) (mm_w (x3 + 4))) 32) (mm_land (hi (90, 0, 0) (mm_w (x3 + 5))) 4294967295)), zI (hi (90, 0, 0) (mm_w (x3 + 3))), zI (hi (90, 0, 0) (mm_w (x3 + 2))), zI (hi (90, 0, 0) (mm_w (x3 + 1))), zR (40, 0, 0), zI y0] (mm_z hi dh nx ns) Q else mm_Wp 297 (mm_blk 297 30) [zR (90, 0, 0), zR (1, 0, 0), zR (40, 0, 0), zI x3] [zI 1, zL (mm_lor (mm_lshl (hi (90, 0, 0) (mm_w (x3 + 4))) 32) (mm_land (hi (90, 0, 0) (mm_w (x3 + 5))) 4294967295)), zI (hi (90, 0, 0) (mm_w (x3 + 3))), zI (hi (90, 0, 0) (mm_w (x3 + 2))), zI (hi (90, 0, 0) (mm_w (x3 + 1))), zR (40, 0, 0), zI y0] (mm_z hi dh nx ns) Q))))))) :=
  (wp_5_2).trans ((wp_5_0).trans ((wp_3_3).trans ((wp_1).trans ((wp_10).trans ((wp_70s).trans (mm_ae ((wp_5_0).trans ((wp_3_3).trans ((wp_1).trans ((wp_10).trans ((wp_70s).trans (mm_ae ((wp_5_0).trans ((wp_3_3).trans ((wp_1).trans ((wp_10).trans ((wp_70s).trans (mm_ae ((wp_5_0).trans ((wp_3_3).trans ((wp_1).trans ((wp_10).trans ((wp_70s).trans (mm_ae ((wp_31).trans ((wp_1).trans ((wp_28).trans ((wp_5_0).trans ((wp_3_3).trans ((wp_1).trans ((wp_10).trans ((wp_70s).trans (mm_ae ((wp_31).trans ((wp_2).trans ((wp_26).trans ((wp_27).trans ((wp_5_0).trans ((wp_3_3).trans ((wp_1).trans ((wp_10).trans ((wp_70s).trans (mm_ae ((wp_40).trans (mm_ic (mm_kb bq_297_29 ((wp_1).trans ((wp_0).trans (rfl)))) ((wp_1).trans ((wp_56).trans (rfl))))))))))))))))))))))))))))))))))))))))))))))))
theorem r_297_31_34 (x3 : Int) (y0 : Int) (y1 : Int) {hi : mm_Id → Int → Int} {dh : Int → Int} {nx ns : Int} {Q : mm_V → mm_H → Prop} (hy : 5306 ≤ nx) :
    mm_Wp 297 (bk_297_31.drop 34) [zR (90, 0, 0), zR (1, 0, 0), zR (40, 0, 0), zI x3] [zL y0, zL y1] (mm_z hi dh nx ns) Q =
    (if (mm_cmp y1 y0) = 0 then mm_Wp 297 (mm_blk 297 82) [zR (90, 0, 0), zR (1, 0, 0), zR (40, 0, 0), zI x3] [] (mm_z hi dh nx ns) Q else Q (zI 0) (mm_z hi dh nx ns)) :=
  (wp_34).trans ((wp_40).trans (mm_ic (rfl) ((wp_1).trans (wp_94k (by decide)))))
theorem r_297_32_34 (x3 : Int) (y0 : Int) (y1 : Int) {hi : mm_Id → Int → Int} {dh : Int → Int} {nx ns : Int} {Q : mm_V → mm_H → Prop} (hy : 5306 ≤ nx) :
    mm_Wp 297 (bk_297_32.drop 34) [zR (90, 0, 0), zR (1, 0, 0), zR (40, 0, 0), zI x3] [zI y0, zI y1] (mm_z hi dh nx ns) Q =
    (if y1 = y0 then mm_Wp 297 (mm_blk 297 82) [zR (90, 0, 0), zR (1, 0, 0), zR (40, 0, 0), zI x3] [] (mm_z hi dh nx ns) Q else Q (zI 0) (mm_z hi dh nx ns)) :=
  (wp_46).trans (mm_ic (rfl) ((wp_1).trans (wp_94k (by decide))))
theorem r_297_33_14 (x3 : Int) (y0 : Int) (y1 : Int) {hi : mm_Id → Int → Int} {dh : Int → Int} {nx ns : Int} {Q : mm_V → mm_H → Prop} (hy : 5306 ≤ nx) :
    mm_Wp 297 (bk_297_33.drop 14) [zR (90, 0, 0), zR (1, 0, 0), zR (40, 0, 0), zI x3] [zI y0, zI y1] (mm_z hi dh nx ns) Q =
    (if y1 = y0 then mm_Wp 297 (mm_blk 297 82) [zR (90, 0, 0), zR (1, 0, 0), zR (40, 0, 0), zI x3] [] (mm_z hi dh nx ns) Q else Q (zI 0) (mm_z hi dh nx ns)) :=
  (wp_46).trans (mm_ic (rfl) ((wp_1).trans (wp_94k (by decide))))
theorem r_297_34_24 (x3 : Int) (y0 : Int) (y1 : Int) {hi : mm_Id → Int → Int} {dh : Int → Int} {nx ns : Int} {Q : mm_V → mm_H → Prop} (hy : 5306 ≤ nx) :
    mm_Wp 297 (bk_297_34.drop 24) [zR (90, 0, 0), zR (1, 0, 0), zR (40, 0, 0), zI x3] [zI y0, zI y1] (mm_z hi dh nx ns) Q =
    (if y1 = y0 then mm_Wp 297 (mm_blk 297 82) [zR (90, 0, 0), zR (1, 0, 0), zR (40, 0, 0), zI x3] [] (mm_z hi dh nx ns) Q else Q (zI 0) (mm_z hi dh nx ns)) :=
  (wp_46).trans (mm_ic (rfl) ((wp_1).trans (wp_94k (by decide))))
theorem r_297_35_34 (x3 : Int) (y0 : Int) (y1 : Int) {hi : mm_Id → Int → Int} {dh : Int → Int} {nx ns : Int} {Q : mm_V → mm_H → Prop} (hy : 5306 ≤ nx) :
    mm_Wp 297 (bk_297_35.drop 34) [zR (90, 0, 0), zR (1, 0, 0), zR (40, 0, 0), zI x3] [zI y0, zI y1] (mm_z hi dh nx ns) Q =
    (if y1 = y0 then mm_Wp 297 (mm_blk 297 82) [zR (90, 0, 0), zR (1, 0, 0), zR (40, 0, 0), zI x3] [] (mm_z hi dh nx ns) Q else Q (zI 0) (mm_z hi dh nx ns)) :=
  (wp_46).trans (mm_ic (rfl) ((wp_1).trans (wp_94k (by decide))))
theorem r_297_36_44 (x3 : Int) (y0 : Int) (y1 : Int) {hi : mm_Id → Int → Int} {dh : Int → Int} {nx ns : Int} {Q : mm_V → mm_H → Prop} (hy : 5306 ≤ nx) :
    mm_Wp 297 (bk_297_36.drop 44) [zR (90, 0, 0), zR (1, 0, 0), zR (40, 0, 0), zI x3] [zI y0, zI y1] (mm_z hi dh nx ns) Q =
    (if y1 = y0 then mm_Wp 297 (mm_blk 297 82) [zR (90, 0, 0), zR (1, 0, 0), zR (40, 0, 0), zI x3] [] (mm_z hi dh nx ns) Q else Q (zI 0) (mm_z hi dh nx ns)) :=
  (wp_46).trans (mm_ic (rfl) ((wp_1).trans (wp_94k (by decide))))
theorem r_297_37_24 (x3 : Int) (y0 : Int) (y1 : Int) {hi : mm_Id → Int → Int} {dh : Int → Int} {nx ns : Int} {Q : mm_V → mm_H → Prop} (hy : 5306 ≤ nx) :
    mm_Wp 297 (bk_297_37.drop 24) [zR (90, 0, 0), zR (1, 0, 0), zR (40, 0, 0), zI x3] [zI y0, zI y1] (mm_z hi dh nx ns) Q =
    (if y1 = y0 then mm_Wp 297 (mm_blk 297 82) [zR (90, 0, 0), zR (1, 0, 0), zR (40, 0, 0), zI x3] [] (mm_z hi dh nx ns) Q else Q (zI 0) (mm_z hi dh nx ns)) :=
  (wp_46).trans (mm_ic (rfl) ((wp_1).trans (wp_94k (by decide))))
theorem r_297_38_24 (x3 : Int) (y0 : Int) (y1 : Int) {hi : mm_Id → Int → Int} {dh : Int → Int} {nx ns : Int} {Q : mm_V → mm_H → Prop} (hy : 5306 ≤ nx) :
    mm_Wp 297 (bk_297_38.drop 24) [zR (90, 0, 0), zR (1, 0, 0), zR (40, 0, 0), zI x3] [zI y0, zI y1] (mm_z hi dh nx ns) Q =
    (if y1 = y0 then mm_Wp 297 (mm_blk 297 82) [zR (90, 0, 0), zR (1, 0, 0), zR (40, 0, 0), zI x3] [] (mm_z hi dh nx ns) Q else Q (zI 0) (mm_z hi dh nx ns)) :=
  (wp_46).trans (mm_ic (rfl) ((wp_1).trans (wp_94k (by decide))))
theorem r_297_39_14 (x3 : Int) (y0 : Int) (y1 : Int) {hi : mm_Id → Int → Int} {dh : Int → Int} {nx ns : Int} {Q : mm_V → mm_H → Prop} (hy : 5306 ≤ nx) :
    mm_Wp 297 (bk_297_39.drop 14) [zR (90, 0, 0), zR (1, 0, 0), zR (40, 0, 0), zI x3] [zI y0, zI y1] (mm_z hi dh nx ns) Q =
    (if y1 = y0 then mm_Wp 297 (mm_blk 297 82) [zR (90, 0, 0), zR (1, 0, 0), zR (40, 0, 0), zI x3] [] (mm_z hi dh nx ns) Q else Q (zI 0) (mm_z hi dh nx ns)) :=
  (wp_46).trans (mm_ic (rfl) ((wp_1).trans (wp_94k (by decide))))
theorem r_297_40_24 (x3 : Int) (y0 : Int) (y1 : Int) {hi : mm_Id → Int → Int} {dh : Int → Int} {nx ns : Int} {Q : mm_V → mm_H → Prop} (hy : 5306 ≤ nx) :
    mm_Wp 297 (bk_297_40.drop 24) [zR (90, 0, 0), zR (1, 0, 0), zR (40, 0, 0), zI x3] [zI y0, zI y1] (mm_z hi dh nx ns) Q =
    (if y1 = y0 then mm_Wp 297 (mm_blk 297 82) [zR (90, 0, 0), zR (1, 0, 0), zR (40, 0, 0), zI x3] [] (mm_z hi dh nx ns) Q else Q (zI 0) (mm_z hi dh nx ns)) :=
  (wp_46).trans (mm_ic (rfl) ((wp_1).trans (wp_94k (by decide))))
theorem r_297_41_14 (x3 : Int) (y0 : Int) (y1 : Int) {hi : mm_Id → Int → Int} {dh : Int → Int} {nx ns : Int} {Q : mm_V → mm_H → Prop} (hy : 5306 ≤ nx) :
    mm_Wp 297 (bk_297_41.drop 14) [zR (90, 0, 0), zR (1, 0, 0), zR (40, 0, 0), zI x3] [zI y0, zI y1] (mm_z hi dh nx ns) Q =
    (if y1 = y0 then mm_Wp 297 (mm_blk 297 82) [zR (90, 0, 0), zR (1, 0, 0), zR (40, 0, 0), zI x3] [] (mm_z hi dh nx ns) Q else Q (zI 0) (mm_z hi dh nx ns)) :=
  (wp_46).trans (mm_ic (rfl) ((wp_1).trans (wp_94k (by decide))))
theorem r_297_42_14 (x3 : Int) (y0 : Int) (y1 : Int) {hi : mm_Id → Int → Int} {dh : Int → Int} {nx ns : Int} {Q : mm_V → mm_H → Prop} (hy : 5306 ≤ nx) :
    mm_Wp 297 (bk_297_42.drop 14) [zR (90, 0, 0), zR (1, 0, 0), zR (40, 0, 0), zI x3] [zI y0, zI y1] (mm_z hi dh nx ns) Q =
    (if y1 = y0 then mm_Wp 297 (mm_blk 297 82) [zR (90, 0, 0), zR (1, 0, 0), zR (40, 0, 0), zI x3] [] (mm_z hi dh nx ns) Q else Q (zI 0) (mm_z hi dh nx ns)) :=
  (wp_46).trans (mm_ic (rfl) ((wp_1).trans (wp_94k (by decide))))
theorem r_297_43_24 (x3 : Int) (y0 : Int) (y1 : Int) {hi : mm_Id → Int → Int} {dh : Int → Int} {nx ns : Int} {Q : mm_V → mm_H → Prop} (hy : 5306 ≤ nx) :
    mm_Wp 297 (bk_297_43.drop 24) [zR (90, 0, 0), zR (1, 0, 0), zR (40, 0, 0), zI x3] [zI y0, zI y1] (mm_z hi dh nx ns) Q =
    (if y1 = y0 then mm_Wp 297 (mm_blk 297 82) [zR (90, 0, 0), zR (1, 0, 0), zR (40, 0, 0), zI x3] [] (mm_z hi dh nx ns) Q else Q (zI 0) (mm_z hi dh nx ns)) :=
  (wp_46).trans (mm_ic (rfl) ((wp_1).trans (wp_94k (by decide))))
theorem r_297_44_14 (x3 : Int) (y0 : Int) (y1 : Int) {hi : mm_Id → Int → Int} {dh : Int → Int} {nx ns : Int} {Q : mm_V → mm_H → Prop} (hy : 5306 ≤ nx) :
    mm_Wp 297 (bk_297_44.drop 14) [zR (90, 0, 0), zR (1, 0, 0), zR (40, 0, 0), zI x3] [zI y0, zI y1] (mm_z hi dh nx ns) Q =
    (if y1 = y0 then mm_Wp 297 (mm_blk 297 82) [zR (90, 0, 0), zR (1, 0, 0), zR (40, 0, 0), zI x3] [] (mm_z hi dh nx ns) Q else Q (zI 0) (mm_z hi dh nx ns)) :=
  (wp_46).trans (mm_ic (rfl) ((wp_1).trans (wp_94k (by decide))))
theorem r_297_47_1 (x3 : Int) (y0 : Int) {hi : mm_Id → Int → Int} {dh : Int → Int} {nx ns : Int} {Q : mm_V → mm_H → Prop} (hy : 5306 ≤ nx) :
    mm_Wp 297 (bk_297_47.drop 1) [zR (90, 0, 0), zR (1, 0, 0), zR (40, 0, 0), zI x3] [zI y0] (mm_z hi dh nx ns) Q =
    ((0 ≤ (mm_w (x3 + 1)) ∧ (mm_w (x3 + 1)) < hi (90, 0, 0) (-1)) ∧ ((0 ≤ (mm_w (x3 + 2)) ∧ (mm_w (x3 + 2)) < hi (90, 0, 0) (-1)) ∧ (if (hi (90, 0, 0) (mm_w (x3 + 2))) = 0 then mm_Wp 297 (mm_blk 297 49) [zR (90, 0, 0), zR (1, 0, 0), zR (40, 0, 0), zI x3] [zI 0, zI (hi (90, 0, 0) (mm_w (x3 + 1))), zR (40, 0, 0), zI y0] (mm_z hi dh nx ns) Q else mm_Wp 297 (mm_blk 297 49) [zR (90, 0, 0), zR (1, 0, 0), zR (40, 0, 0), zI x3] [zI 1, zI (hi (90, 0, 0) (mm_w (x3 + 1))), zR (40, 0, 0), zI y0] (mm_z hi dh nx ns) Q))) :=
  (wp_5_2).trans ((wp_5_0).trans ((wp_3_3).trans ((wp_1).trans ((wp_10).trans ((wp_70s).trans (mm_ae ((wp_5_0).trans ((wp_3_3).trans ((wp_1).trans ((wp_10).trans ((wp_70s).trans (mm_ae ((wp_40).trans (mm_ic (mm_kb bq_297_48 ((wp_1).trans ((wp_0).trans (rfl)))) ((wp_1).trans ((wp_56).trans (rfl)))))))))))))))))
theorem r_297_50_24 (x3 : Int) (y0 : Int) (y1 : Int) {hi : mm_Id → Int → Int} {dh : Int → Int} {nx ns : Int} {Q : mm_V → mm_H → Prop} (hy : 5306 ≤ nx) :
    mm_Wp 297 (bk_297_50.drop 24) [zR (90, 0, 0), zR (1, 0, 0), zR (40, 0, 0), zI x3] [zI y0, zI y1] (mm_z hi dh nx ns) Q =
    (if y1 = y0 then mm_Wp 297 (mm_blk 297 82) [zR (90, 0, 0), zR (1, 0, 0), zR (40, 0, 0), zI x3] [] (mm_z hi dh nx ns) Q else Q (zI 0) (mm_z hi dh nx ns)) :=
  (wp_46).trans (mm_ic (rfl) ((wp_1).trans (wp_94k (by decide))))
theorem r_297_53_1 (x3 : Int) (y0 : Int) {hi : mm_Id → Int → Int} {dh : Int → Int} {nx ns : Int} {Q : mm_V → mm_H → Prop} (hy : 5306 ≤ nx) :
    mm_Wp 297 (bk_297_53.drop 1) [zR (90, 0, 0), zR (1, 0, 0), zR (40, 0, 0), zI x3] [zI y0] (mm_z hi dh nx ns) Q =
    ((0 ≤ (mm_w (x3 + 1)) ∧ (mm_w (x3 + 1)) < hi (90, 0, 0) (-1)) ∧ ((0 ≤ (mm_w (x3 + 2)) ∧ (mm_w (x3 + 2)) < hi (90, 0, 0) (-1)) ∧ (if (hi (90, 0, 0) (mm_w (x3 + 2))) = 0 then mm_Wp 297 (mm_blk 297 55) [zR (90, 0, 0), zR (1, 0, 0), zR (40, 0, 0), zI x3] [zI 0, zI (hi (90, 0, 0) (mm_w (x3 + 1))), zR (40, 0, 0), zI y0] (mm_z hi dh nx ns) Q else mm_Wp 297 (mm_blk 297 55) [zR (90, 0, 0), zR (1, 0, 0), zR (40, 0, 0), zI x3] [zI 1, zI (hi (90, 0, 0) (mm_w (x3 + 1))), zR (40, 0, 0), zI y0] (mm_z hi dh nx ns) Q))) :=
  (wp_5_2).trans ((wp_5_0).trans ((wp_3_3).trans ((wp_1).trans ((wp_10).trans ((wp_70s).trans (mm_ae ((wp_5_0).trans ((wp_3_3).trans ((wp_1).trans ((wp_10).trans ((wp_70s).trans (mm_ae ((wp_40).trans (mm_ic (mm_kb bq_297_54 ((wp_1).trans ((wp_0).trans (rfl)))) ((wp_1).trans ((wp_56).trans (rfl)))))))))))))))))
theorem r_297_56_24 (x3 : Int) (y0 : Int) (y1 : Int) {hi : mm_Id → Int → Int} {dh : Int → Int} {nx ns : Int} {Q : mm_V → mm_H → Prop} (hy : 5306 ≤ nx) :
    mm_Wp 297 (bk_297_56.drop 24) [zR (90, 0, 0), zR (1, 0, 0), zR (40, 0, 0), zI x3] [zI y0, zI y1] (mm_z hi dh nx ns) Q =
    (if y1 = y0 then mm_Wp 297 (mm_blk 297 82) [zR (90, 0, 0), zR (1, 0, 0), zR (40, 0, 0), zI x3] [] (mm_z hi dh nx ns) Q else Q (zI 0) (mm_z hi dh nx ns)) :=
  (wp_46).trans (mm_ic (rfl) ((wp_1).trans (wp_94k (by decide))))
theorem r_297_57_34 (x3 : Int) (y0 : Int) (y1 : Int) {hi : mm_Id → Int → Int} {dh : Int → Int} {nx ns : Int} {Q : mm_V → mm_H → Prop} (hy : 5306 ≤ nx) :
    mm_Wp 297 (bk_297_57.drop 34) [zR (90, 0, 0), zR (1, 0, 0), zR (40, 0, 0), zI x3] [zI y0, zI y1] (mm_z hi dh nx ns) Q =
    (if y1 = y0 then mm_Wp 297 (mm_blk 297 82) [zR (90, 0, 0), zR (1, 0, 0), zR (40, 0, 0), zI x3] [] (mm_z hi dh nx ns) Q else Q (zI 0) (mm_z hi dh nx ns)) :=
  (wp_46).trans (mm_ic (rfl) ((wp_1).trans (wp_94k (by decide))))
theorem r_297_58_24 (x3 : Int) (y0 : Int) (y1 : Int) {hi : mm_Id → Int → Int} {dh : Int → Int} {nx ns : Int} {Q : mm_V → mm_H → Prop} (hy : 5306 ≤ nx) :
    mm_Wp 297 (bk_297_58.drop 24) [zR (90, 0, 0), zR (1, 0, 0), zR (40, 0, 0), zI x3] [zI y0, zI y1] (mm_z hi dh nx ns) Q =
    (if y1 = y0 then mm_Wp 297 (mm_blk 297 82) [zR (90, 0, 0), zR (1, 0, 0), zR (40, 0, 0), zI x3] [] (mm_z hi dh nx ns) Q else Q (zI 0) (mm_z hi dh nx ns)) :=
  (wp_46).trans (mm_ic (rfl) ((wp_1).trans (wp_94k (by decide))))
theorem r_297_59_14 (x3 : Int) (y0 : Int) (y1 : Int) {hi : mm_Id → Int → Int} {dh : Int → Int} {nx ns : Int} {Q : mm_V → mm_H → Prop} (hy : 5306 ≤ nx) :
    mm_Wp 297 (bk_297_59.drop 14) [zR (90, 0, 0), zR (1, 0, 0), zR (40, 0, 0), zI x3] [zI y0, zI y1] (mm_z hi dh nx ns) Q =
    (if y1 = y0 then mm_Wp 297 (mm_blk 297 82) [zR (90, 0, 0), zR (1, 0, 0), zR (40, 0, 0), zI x3] [] (mm_z hi dh nx ns) Q else Q (zI 0) (mm_z hi dh nx ns)) :=
  (wp_46).trans (mm_ic (rfl) ((wp_1).trans (wp_94k (by decide))))
theorem r_297_60_4 (x3 : Int) (y0 : Int) (y1 : Int) {hi : mm_Id → Int → Int} {dh : Int → Int} {nx ns : Int} {Q : mm_V → mm_H → Prop} (hy : 5306 ≤ nx) :
    mm_Wp 297 (bk_297_60.drop 4) [zR (90, 0, 0), zR (1, 0, 0), zR (40, 0, 0), zI x3] [zI y0, zI y1] (mm_z hi dh nx ns) Q =
    (if y1 = y0 then mm_Wp 297 (mm_blk 297 82) [zR (90, 0, 0), zR (1, 0, 0), zR (40, 0, 0), zI x3] [] (mm_z hi dh nx ns) Q else Q (zI 0) (mm_z hi dh nx ns)) :=
  (wp_46).trans (mm_ic (rfl) ((wp_1).trans (wp_94k (by decide))))
theorem r_297_61_4 (x3 : Int) (y0 : Int) (y1 : Int) {hi : mm_Id → Int → Int} {dh : Int → Int} {nx ns : Int} {Q : mm_V → mm_H → Prop} (hy : 5306 ≤ nx) :
    mm_Wp 297 (bk_297_61.drop 4) [zR (90, 0, 0), zR (1, 0, 0), zR (40, 0, 0), zI x3] [zI y0, zI y1] (mm_z hi dh nx ns) Q =
    (if y1 = y0 then mm_Wp 297 (mm_blk 297 82) [zR (90, 0, 0), zR (1, 0, 0), zR (40, 0, 0), zI x3] [] (mm_z hi dh nx ns) Q else Q (zI 0) (mm_z hi dh nx ns)) :=
  (wp_46).trans (mm_ic (rfl) ((wp_1).trans (wp_94k (by decide))))
theorem r_297_62_14 (x3 : Int) (y0 : Int) (y1 : Int) {hi : mm_Id → Int → Int} {dh : Int → Int} {nx ns : Int} {Q : mm_V → mm_H → Prop} (hy : 5306 ≤ nx) :
    mm_Wp 297 (bk_297_62.drop 14) [zR (90, 0, 0), zR (1, 0, 0), zR (40, 0, 0), zI x3] [zI y0, zI y1] (mm_z hi dh nx ns) Q =
    (if y1 = y0 then mm_Wp 297 (mm_blk 297 82) [zR (90, 0, 0), zR (1, 0, 0), zR (40, 0, 0), zI x3] [] (mm_z hi dh nx ns) Q else Q (zI 0) (mm_z hi dh nx ns)) :=
  (wp_46).trans (mm_ic (rfl) ((wp_1).trans (wp_94k (by decide))))
theorem r_297_63_34 (x3 : Int) (y0 : Int) (y1 : Int) {hi : mm_Id → Int → Int} {dh : Int → Int} {nx ns : Int} {Q : mm_V → mm_H → Prop} (hy : 5306 ≤ nx) :
    mm_Wp 297 (bk_297_63.drop 34) [zR (90, 0, 0), zR (1, 0, 0), zR (40, 0, 0), zI x3] [zI y0, zI y1] (mm_z hi dh nx ns) Q =
    (if y1 = y0 then mm_Wp 297 (mm_blk 297 82) [zR (90, 0, 0), zR (1, 0, 0), zR (40, 0, 0), zI x3] [] (mm_z hi dh nx ns) Q else Q (zI 0) (mm_z hi dh nx ns)) :=
  (wp_46).trans (mm_ic (rfl) ((wp_1).trans (wp_94k (by decide))))
theorem r_297_64_14 (x3 : Int) (y0 : Int) (y1 : Int) {hi : mm_Id → Int → Int} {dh : Int → Int} {nx ns : Int} {Q : mm_V → mm_H → Prop} (hy : 5306 ≤ nx) :
    mm_Wp 297 (bk_297_64.drop 14) [zR (90, 0, 0), zR (1, 0, 0), zR (40, 0, 0), zI x3] [zI y0, zI y1] (mm_z hi dh nx ns) Q =
    (if y1 = y0 then mm_Wp 297 (mm_blk 297 82) [zR (90, 0, 0), zR (1, 0, 0), zR (40, 0, 0), zI x3] [] (mm_z hi dh nx ns) Q else Q (zI 0) (mm_z hi dh nx ns)) :=
  (wp_46).trans (mm_ic (rfl) ((wp_1).trans (wp_94k (by decide))))
theorem r_297_67_1 (x3 : Int) (y0 : Int) {hi : mm_Id → Int → Int} {dh : Int → Int} {nx ns : Int} {Q : mm_V → mm_H → Prop} (hy : 5306 ≤ nx) :
    mm_Wp 297 (bk_297_67.drop 1) [zR (90, 0, 0), zR (1, 0, 0), zR (40, 0, 0), zI x3] [zI y0] (mm_z hi dh nx ns) Q =
    ((0 ≤ (mm_w (x3 + 1)) ∧ (mm_w (x3 + 1)) < hi (90, 0, 0) (-1)) ∧ ((0 ≤ (mm_w (x3 + 2)) ∧ (mm_w (x3 + 2)) < hi (90, 0, 0) (-1)) ∧ (if (hi (90, 0, 0) (mm_w (x3 + 2))) = 0 then mm_Wp 297 (mm_blk 297 69) [zR (90, 0, 0), zR (1, 0, 0), zR (40, 0, 0), zI x3] [zI 0, zI (hi (90, 0, 0) (mm_w (x3 + 1))), zR (40, 0, 0), zI y0] (mm_z hi dh nx ns) Q else mm_Wp 297 (mm_blk 297 69) [zR (90, 0, 0), zR (1, 0, 0), zR (40, 0, 0), zI x3] [zI 1, zI (hi (90, 0, 0) (mm_w (x3 + 1))), zR (40, 0, 0), zI y0] (mm_z hi dh nx ns) Q))) :=
  (wp_5_2).trans ((wp_5_0).trans ((wp_3_3).trans ((wp_1).trans ((wp_10).trans ((wp_70s).trans (mm_ae ((wp_5_0).trans ((wp_3_3).trans ((wp_1).trans ((wp_10).trans ((wp_70s).trans (mm_ae ((wp_40).trans (mm_ic (mm_kb bq_297_68 ((wp_1).trans ((wp_0).trans (rfl)))) ((wp_1).trans ((wp_56).trans (rfl)))))))))))))))))
theorem r_297_72_1 (x3 : Int) (y0 : Int) {hi : mm_Id → Int → Int} {dh : Int → Int} {nx ns : Int} {Q : mm_V → mm_H → Prop} (hy : 5306 ≤ nx) :
    mm_Wp 297 (bk_297_72.drop 1) [zR (90, 0, 0), zR (1, 0, 0), zR (40, 0, 0), zI x3] [zI y0] (mm_z hi dh nx ns) Q =
    ((0 ≤ (mm_w (x3 + 1)) ∧ (mm_w (x3 + 1)) < hi (90, 0, 0) (-1)) ∧ (if (hi (90, 0, 0) (mm_w (x3 + 1))) = 0 then mm_Wp 297 (mm_blk 297 74) [zR (90, 0, 0), zR (1, 0, 0), zR (40, 0, 0), zI x3] [zI 0, zR (40, 0, 0), zI y0] (mm_z hi dh nx ns) Q else mm_Wp 297 (mm_blk 297 74) [zR (90, 0, 0), zR (1, 0, 0), zR (40, 0, 0), zI x3] [zI 1, zR (40, 0, 0), zI y0] (mm_z hi dh nx ns) Q)) :=
  (wp_5_2).trans ((wp_5_0).trans ((wp_3_3).trans ((wp_1).trans ((wp_10).trans ((wp_70s).trans (mm_ae ((wp_40).trans (mm_ic (mm_kb bq_297_73 ((wp_1).trans ((wp_0).trans (rfl)))) ((wp_1).trans ((wp_56).trans (rfl)))))))))))
theorem r_297_75_14 (x3 : Int) (y0 : Int) (y1 : Int) {hi : mm_Id → Int → Int} {dh : Int → Int} {nx ns : Int} {Q : mm_V → mm_H → Prop} (hy : 5306 ≤ nx) :
    mm_Wp 297 (bk_297_75.drop 14) [zR (90, 0, 0), zR (1, 0, 0), zR (40, 0, 0), zI x3] [zI y0, zI y1] (mm_z hi dh nx ns) Q =
    (if y1 = y0 then mm_Wp 297 (mm_blk 297 82) [zR (90, 0, 0), zR (1, 0, 0), zR (40, 0, 0), zI x3] [] (mm_z hi dh nx ns) Q else Q (zI 0) (mm_z hi dh nx ns)) :=
  (wp_46).trans (mm_ic (rfl) ((wp_1).trans (wp_94k (by decide))))
theorem r_297_76_54 (x3 : Int) (y0 : Int) (y1 : Int) {hi : mm_Id → Int → Int} {dh : Int → Int} {nx ns : Int} {Q : mm_V → mm_H → Prop} (hy : 5306 ≤ nx) :
    mm_Wp 297 (bk_297_76.drop 54) [zR (90, 0, 0), zR (1, 0, 0), zR (40, 0, 0), zI x3] [zI y0, zI y1] (mm_z hi dh nx ns) Q =
    (if y1 = y0 then mm_Wp 297 (mm_blk 297 82) [zR (90, 0, 0), zR (1, 0, 0), zR (40, 0, 0), zI x3] [] (mm_z hi dh nx ns) Q else Q (zI 0) (mm_z hi dh nx ns)) :=
  (wp_46).trans (mm_ic (rfl) ((wp_1).trans (wp_94k (by decide))))
theorem r_297_77_14 (x3 : Int) (y0 : Int) (y1 : Int) {hi : mm_Id → Int → Int} {dh : Int → Int} {nx ns : Int} {Q : mm_V → mm_H → Prop} (hy : 5306 ≤ nx) :
    mm_Wp 297 (bk_297_77.drop 14) [zR (90, 0, 0), zR (1, 0, 0), zR (40, 0, 0), zI x3] [zI y0, zI y1] (mm_z hi dh nx ns) Q =
    (if y1 = y0 then mm_Wp 297 (mm_blk 297 82) [zR (90, 0, 0), zR (1, 0, 0), zR (40, 0, 0), zI x3] [] (mm_z hi dh nx ns) Q else Q (zI 0) (mm_z hi dh nx ns)) :=
  (wp_46).trans (mm_ic (rfl) ((wp_1).trans (wp_94k (by decide))))
theorem r_297_78_4 (x3 : Int) (y0 : Int) (y1 : Int) {hi : mm_Id → Int → Int} {dh : Int → Int} {nx ns : Int} {Q : mm_V → mm_H → Prop} (hy : 5306 ≤ nx) :
    mm_Wp 297 (bk_297_78.drop 4) [zR (90, 0, 0), zR (1, 0, 0), zR (40, 0, 0), zI x3] [zI y0, zI y1] (mm_z hi dh nx ns) Q =
    (if y1 = y0 then mm_Wp 297 (mm_blk 297 82) [zR (90, 0, 0), zR (1, 0, 0), zR (40, 0, 0), zI x3] [] (mm_z hi dh nx ns) Q else Q (zI 0) (mm_z hi dh nx ns)) :=
  (wp_46).trans (mm_ic (rfl) ((wp_1).trans (wp_94k (by decide))))
theorem r_297_79_14 (x3 : Int) (y0 : Int) (y1 : Int) {hi : mm_Id → Int → Int} {dh : Int → Int} {nx ns : Int} {Q : mm_V → mm_H → Prop} (hy : 5306 ≤ nx) :
    mm_Wp 297 (bk_297_79.drop 14) [zR (90, 0, 0), zR (1, 0, 0), zR (40, 0, 0), zI x3] [zI y0, zI y1] (mm_z hi dh nx ns) Q =
    (if y1 = y0 then mm_Wp 297 (mm_blk 297 82) [zR (90, 0, 0), zR (1, 0, 0), zR (40, 0, 0), zI x3] [] (mm_z hi dh nx ns) Q else Q (zI 0) (mm_z hi dh nx ns)) :=
  (wp_46).trans (mm_ic (rfl) ((wp_1).trans (wp_94k (by decide))))
theorem r_297_80_4 (x3 : Int) (y0 : Int) (y1 : Int) {hi : mm_Id → Int → Int} {dh : Int → Int} {nx ns : Int} {Q : mm_V → mm_H → Prop} (hy : 5306 ≤ nx) :
    mm_Wp 297 (bk_297_80.drop 4) [zR (90, 0, 0), zR (1, 0, 0), zR (40, 0, 0), zI x3] [zI y0, zI y1] (mm_z hi dh nx ns) Q =
    (if y1 = y0 then mm_Wp 297 (mm_blk 297 82) [zR (90, 0, 0), zR (1, 0, 0), zR (40, 0, 0), zI x3] [] (mm_z hi dh nx ns) Q else Q (zI 0) (mm_z hi dh nx ns)) :=
  (wp_46).trans (mm_ic (rfl) ((wp_1).trans (wp_94k (by decide))))
theorem r_297_81_4 (x3 : Int) (y0 : Int) (y1 : Int) {hi : mm_Id → Int → Int} {dh : Int → Int} {nx ns : Int} {Q : mm_V → mm_H → Prop} (hy : 5306 ≤ nx) :
    mm_Wp 297 (bk_297_81.drop 4) [zR (90, 0, 0), zR (1, 0, 0), zR (40, 0, 0), zI x3] [zI y0, zI y1] (mm_z hi dh nx ns) Q =
    (if y1 = y0 then mm_Wp 297 (mm_blk 297 82) [zR (90, 0, 0), zR (1, 0, 0), zR (40, 0, 0), zI x3] [] (mm_z hi dh nx ns) Q else Q (zI 0) (mm_z hi dh nx ns)) :=
  (wp_46).trans (mm_ic (rfl) ((wp_1).trans (wp_94k (by decide))))
theorem r_297_8 (x3 : Int) (y0 : Int) (y1 : Int) (y2 : Int) (y3 : Int) (y5 : Int) {hi : mm_Id → Int → Int} {dh : Int → Int} {nx ns : Int} {Q : mm_V → mm_H → Prop} (hy : 5306 ≤ nx) :
    mm_Wp 297 (mm_blk 297 8) [zR (90, 0, 0), zR (1, 0, 0), zR (40, 0, 0), zI x3] [zI y0, zI y1, zI y2, zI y3, zR (40, 0, 0), zI y5] (mm_z hi dh nx ns) Q =
    mm_Cl 215 [zR (40, 0, 0), zI y3, zI y2, zI y1, zI y0] (mm_z hi dh nx ns) (fun r h3 => mm_Wp 297 (bk_297_8.drop 1) [zR (90, 0, 0), zR (1, 0, 0), zR (40, 0, 0), zI x3] (mm_push r [zI y5]) h3 Q) :=
  mm_kb bq_297_8 ((wp_v5 mm_n_215 (mm_leq mm_m_215 (mm_lb rfl)) (mm_lb rfl) (mm_o40 hy)).trans rfl)
theorem r_297_13 (x3 : Int) (y0 : Int) (y1 : Int) (y2 : Int) (y4 : Int) {hi : mm_Id → Int → Int} {dh : Int → Int} {nx ns : Int} {Q : mm_V → mm_H → Prop} (hy : 5306 ≤ nx) :
    mm_Wp 297 (mm_blk 297 13) [zR (90, 0, 0), zR (1, 0, 0), zR (40, 0, 0), zI x3] [zI y0, zI y1, zI y2, zR (40, 0, 0), zI y4] (mm_z hi dh nx ns) Q =
    mm_Cl 216 [zR (40, 0, 0), zI y2, zI y1, zI y0] (mm_z hi dh nx ns) (fun r h3 => mm_Wp 297 (bk_297_13.drop 1) [zR (90, 0, 0), zR (1, 0, 0), zR (40, 0, 0), zI x3] (mm_push r [zI y4]) h3 Q) :=
  mm_kb bq_297_13 ((wp_v4 mm_n_216 (mm_leq mm_m_216 (mm_lb rfl)) (mm_lb rfl) (mm_o40 hy)).trans rfl)
theorem r_297_30 (x3 : Int) (y0 : Int) (y1 : Int) (y2 : Int) (y3 : Int) (y4 : Int) (y6 : Int) {hi : mm_Id → Int → Int} {dh : Int → Int} {nx ns : Int} {Q : mm_V → mm_H → Prop} (hy : 5306 ≤ nx) :
    mm_Wp 297 (mm_blk 297 30) [zR (90, 0, 0), zR (1, 0, 0), zR (40, 0, 0), zI x3] [zI y0, zL y1, zI y2, zI y3, zI y4, zR (40, 0, 0), zI y6] (mm_z hi dh nx ns) Q =
    mm_Cl 235 [zR (40, 0, 0), zI y4, zI y3, zI y2, zL y1, zI y0] (mm_z hi dh nx ns) (fun r h3 => mm_Wp 297 (bk_297_30.drop 1) [zR (90, 0, 0), zR (1, 0, 0), zR (40, 0, 0), zI x3] (mm_push r [zI y6]) h3 Q) :=
  mm_kb bq_297_30 ((wp_v6 mm_n_235 (mm_leq mm_m_235 (mm_lb rfl)) (mm_lb rfl) (mm_o40 hy)).trans rfl)
theorem r_297_49 (x3 : Int) (y0 : Int) (y1 : Int) (y3 : Int) {hi : mm_Id → Int → Int} {dh : Int → Int} {nx ns : Int} {Q : mm_V → mm_H → Prop} (hy : 5306 ≤ nx) :
    mm_Wp 297 (mm_blk 297 49) [zR (90, 0, 0), zR (1, 0, 0), zR (40, 0, 0), zI x3] [zI y0, zI y1, zR (40, 0, 0), zI y3] (mm_z hi dh nx ns) Q =
    mm_Cl 254 [zR (40, 0, 0), zI y1, zI y0] (mm_z hi dh nx ns) (fun r h3 => mm_Wp 297 (bk_297_49.drop 1) [zR (90, 0, 0), zR (1, 0, 0), zR (40, 0, 0), zI x3] (mm_push r [zI y3]) h3 Q) :=
  mm_kb bq_297_49 ((wp_v3 mm_n_254 (mm_leq mm_m_254 (mm_lb rfl)) (mm_lb rfl) (mm_o40 hy)).trans rfl)
theorem r_297_55 (x3 : Int) (y0 : Int) (y1 : Int) (y3 : Int) {hi : mm_Id → Int → Int} {dh : Int → Int} {nx ns : Int} {Q : mm_V → mm_H → Prop} (hy : 5306 ≤ nx) :
    mm_Wp 297 (mm_blk 297 55) [zR (90, 0, 0), zR (1, 0, 0), zR (40, 0, 0), zI x3] [zI y0, zI y1, zR (40, 0, 0), zI y3] (mm_z hi dh nx ns) Q =
    mm_Cl 256 [zR (40, 0, 0), zI y1, zI y0] (mm_z hi dh nx ns) (fun r h3 => mm_Wp 297 (bk_297_55.drop 1) [zR (90, 0, 0), zR (1, 0, 0), zR (40, 0, 0), zI x3] (mm_push r [zI y3]) h3 Q) :=
  mm_kb bq_297_55 ((wp_v3 mm_n_256 (mm_leq mm_m_256 (mm_lb rfl)) (mm_lb rfl) (mm_o40 hy)).trans rfl)
theorem r_297_69 (x3 : Int) (y0 : Int) (y1 : Int) (y3 : Int) {hi : mm_Id → Int → Int} {dh : Int → Int} {nx ns : Int} {Q : mm_V → mm_H → Prop} (hy : 5306 ≤ nx) :
    mm_Wp 297 (mm_blk 297 69) [zR (90, 0, 0), zR (1, 0, 0), zR (40, 0, 0), zI x3] [zI y0, zI y1, zR (40, 0, 0), zI y3] (mm_z hi dh nx ns) Q =
    mm_Cl 272 [zR (40, 0, 0), zI y1, zI y0] (mm_z hi dh nx ns) (fun r h3 => mm_Wp 297 (bk_297_69.drop 1) [zR (90, 0, 0), zR (1, 0, 0), zR (40, 0, 0), zI x3] (mm_push r [zI y3]) h3 Q) :=
  mm_kb bq_297_69 ((wp_v3 mm_n_272 (mm_leq mm_m_272 (mm_lb rfl)) (mm_lb rfl) (mm_o40 hy)).trans rfl)
theorem r_297_74 (x3 : Int) (y0 : Int) (y2 : Int) {hi : mm_Id → Int → Int} {dh : Int → Int} {nx ns : Int} {Q : mm_V → mm_H → Prop} (hy : 5306 ≤ nx) :
    mm_Wp 297 (mm_blk 297 74) [zR (90, 0, 0), zR (1, 0, 0), zR (40, 0, 0), zI x3] [zI y0, zR (40, 0, 0), zI y2] (mm_z hi dh nx ns) Q =
    mm_Cl 273 [zR (40, 0, 0), zI y0] (mm_z hi dh nx ns) (fun r h3 => mm_Wp 297 (bk_297_74.drop 1) [zR (90, 0, 0), zR (1, 0, 0), zR (40, 0, 0), zI x3] (mm_push r [zI y2]) h3 Q) :=
  mm_kb bq_297_74 ((wp_v2 mm_n_273 (mm_leq mm_m_273 (mm_lb rfl)) (mm_lb rfl) (mm_o40 hy)).trans rfl)
theorem r_297_8_1 (x3 : Int) (y0 : Int) (y1 : Int) {hi : mm_Id → Int → Int} {dh : Int → Int} {nx ns : Int} {Q : mm_V → mm_H → Prop} (hy : 5306 ≤ nx) :
    mm_Wp 297 (bk_297_8.drop 1) [zR (90, 0, 0), zR (1, 0, 0), zR (40, 0, 0), zI x3] [zI y0, zI y1] (mm_z hi dh nx ns) Q =
    (if y1 = y0 then mm_Wp 297 (mm_blk 297 82) [zR (90, 0, 0), zR (1, 0, 0), zR (40, 0, 0), zI x3] [] (mm_z hi dh nx ns) Q else Q (zI 0) (mm_z hi dh nx ns)) :=
  (wp_46).trans (mm_ic (rfl) ((wp_1).trans (wp_94k (by decide))))
theorem r_297_13_1 (x3 : Int) (y0 : Int) (y1 : Int) {hi : mm_Id → Int → Int} {dh : Int → Int} {nx ns : Int} {Q : mm_V → mm_H → Prop} (hy : 5306 ≤ nx) :
    mm_Wp 297 (bk_297_13.drop 1) [zR (90, 0, 0), zR (1, 0, 0), zR (40, 0, 0), zI x3] [zI y0, zI y1] (mm_z hi dh nx ns) Q =
    (if y1 = y0 then mm_Wp 297 (mm_blk 297 82) [zR (90, 0, 0), zR (1, 0, 0), zR (40, 0, 0), zI x3] [] (mm_z hi dh nx ns) Q else Q (zI 0) (mm_z hi dh nx ns)) :=
  (wp_46).trans (mm_ic (rfl) ((wp_1).trans (wp_94k (by decide))))
theorem r_297_30_1 (x3 : Int) (y0 : Int) (y1 : Int) {hi : mm_Id → Int → Int} {dh : Int → Int} {nx ns : Int} {Q : mm_V → mm_H → Prop} (hy : 5306 ≤ nx) :
    mm_Wp 297 (bk_297_30.drop 1) [zR (90, 0, 0), zR (1, 0, 0), zR (40, 0, 0), zI x3] [zI y0, zI y1] (mm_z hi dh nx ns) Q =
    (if y1 = y0 then mm_Wp 297 (mm_blk 297 82) [zR (90, 0, 0), zR (1, 0, 0), zR (40, 0, 0), zI x3] [] (mm_z hi dh nx ns) Q else Q (zI 0) (mm_z hi dh nx ns)) :=
  (wp_46).trans (mm_ic (rfl) ((wp_1).trans (wp_94k (by decide))))
theorem r_297_49_1 (x3 : Int) (y0 : Int) (y1 : Int) {hi : mm_Id → Int → Int} {dh : Int → Int} {nx ns : Int} {Q : mm_V → mm_H → Prop} (hy : 5306 ≤ nx) :
    mm_Wp 297 (bk_297_49.drop 1) [zR (90, 0, 0), zR (1, 0, 0), zR (40, 0, 0), zI x3] [zI y0, zI y1] (mm_z hi dh nx ns) Q =
    (if y1 = y0 then mm_Wp 297 (mm_blk 297 82) [zR (90, 0, 0), zR (1, 0, 0), zR (40, 0, 0), zI x3] [] (mm_z hi dh nx ns) Q else Q (zI 0) (mm_z hi dh nx ns)) :=
  (wp_46).trans (mm_ic (rfl) ((wp_1).trans (wp_94k (by decide))))
theorem r_297_55_1 (x3 : Int) (y0 : Int) (y1 : Int) {hi : mm_Id → Int → Int} {dh : Int → Int} {nx ns : Int} {Q : mm_V → mm_H → Prop} (hy : 5306 ≤ nx) :
    mm_Wp 297 (bk_297_55.drop 1) [zR (90, 0, 0), zR (1, 0, 0), zR (40, 0, 0), zI x3] [zI y0, zI y1] (mm_z hi dh nx ns) Q =
    (if y1 = y0 then mm_Wp 297 (mm_blk 297 82) [zR (90, 0, 0), zR (1, 0, 0), zR (40, 0, 0), zI x3] [] (mm_z hi dh nx ns) Q else Q (zI 0) (mm_z hi dh nx ns)) :=
  (wp_46).trans (mm_ic (rfl) ((wp_1).trans (wp_94k (by decide))))
theorem r_297_69_1 (x3 : Int) (y0 : Int) (y1 : Int) {hi : mm_Id → Int → Int} {dh : Int → Int} {nx ns : Int} {Q : mm_V → mm_H → Prop} (hy : 5306 ≤ nx) :
    mm_Wp 297 (bk_297_69.drop 1) [zR (90, 0, 0), zR (1, 0, 0), zR (40, 0, 0), zI x3] [zI y0, zI y1] (mm_z hi dh nx ns) Q =
    (if y1 = y0 then mm_Wp 297 (mm_blk 297 82) [zR (90, 0, 0), zR (1, 0, 0), zR (40, 0, 0), zI x3] [] (mm_z hi dh nx ns) Q else Q (zI 0) (mm_z hi dh nx ns)) :=
  (wp_46).trans (mm_ic (rfl) ((wp_1).trans (wp_94k (by decide))))
theorem r_297_74_1 (x3 : Int) (y0 : Int) (y1 : Int) {hi : mm_Id → Int → Int} {dh : Int → Int} {nx ns : Int} {Q : mm_V → mm_H → Prop} (hy : 5306 ≤ nx) :
    mm_Wp 297 (bk_297_74.drop 1) [zR (90, 0, 0), zR (1, 0, 0), zR (40, 0, 0), zI x3] [zI y0, zI y1] (mm_z hi dh nx ns) Q =
    (if y1 = y0 then mm_Wp 297 (mm_blk 297 82) [zR (90, 0, 0), zR (1, 0, 0), zR (40, 0, 0), zI x3] [] (mm_z hi dh nx ns) Q else Q (zI 0) (mm_z hi dh nx ns)) :=
  (wp_46).trans (mm_ic (rfl) ((wp_1).trans (wp_94k (by decide))))
/-- java/lang/String.length()I -/
theorem bq_300_0 : mm_blk 300 0 = bk_300_0 := by decide +kernel
theorem r_300_e {tx0 : Int} {hi : mm_Id → Int → Int} {dh : Int → Int} {nx ns : Int} {Q : mm_V → mm_H → Prop} (htx0 : mm_isG tx0) (hx : 5275 ≤ nx) :
    mm_Cl 300 [zR (93, tx0, 0)] (mm_z hi dh nx ns) Q =
    mm_Cl 301 [zR (93, tx0, 0)] (mm_z hi dh nx ns) (fun r h3 => mm_Wp 300 (bk_300_0.drop 5) [zR (93, tx0, 0)] (mm_push r [zI (mm_sl tx0)]) h3 Q) :=
  mm_ce (l2 := [zR (93, tx0, 0)]) rfl (mm_kb bq_300_0 ((wp_5_0).trans ((wp_62t (mm_c93 htx0) rfl).trans ((wp_78t htx0).trans ((wp_5_0).trans ((wp_t1 mm_n_301 (mm_leq mm_m_301 (mm_lb rfl)) (mm_lb rfl) (mm_c93 htx0)).trans rfl))))))
theorem r_300_0_5 (vx0 : mm_V) (y0 : Int) (y1 : Int) {hi : mm_Id → Int → Int} {dh : Int → Int} {nx ns : Int} {Q : mm_V → mm_H → Prop} (hx : 5275 ≤ nx) :
    mm_Wp 300 (bk_300_0.drop 5) [vx0] [zI y0, zI y1] (mm_z hi dh nx ns) Q =
    Q (zI (mm_shr y1 y0)) (mm_z hi dh nx ns) :=
  (wp_17).trans (wp_90)
/-- java/lang/String.coder()B -/
theorem bq_301_0 : mm_blk 301 0 = bk_301_0 := by decide +kernel
theorem bq_301_1 : mm_blk 301 1 = bk_301_1 := by decide +kernel
theorem bq_301_2 : mm_blk 301 2 = bk_301_2 := by decide +kernel
theorem r_301_e {tx0 : Int} {hi : mm_Id → Int → Int} {dh : Int → Int} {nx ns : Int} {Q : mm_V → mm_H → Prop} (htx0 : mm_isG tx0) (hx : 5275 ≤ nx) :
    mm_Cl 301 [zR (93, tx0, 0)] (mm_z hi dh nx ns) Q =
    (if 1 = 0 then mm_Wp 301 (mm_blk 301 2) [zR (93, tx0, 0)] [zI 1] (mm_z hi dh nx ns) Q else mm_Wp 301 (mm_blk 301 2) [zR (93, tx0, 0)] [zI 0] (mm_z hi dh nx ns) Q) :=
  mm_ce (l2 := [zR (93, tx0, 0)]) rfl (mm_kb bq_301_0 ((wp_67_2).trans ((wp_40).trans (mm_ic (mm_kb bq_301_1 ((wp_1).trans ((wp_0).trans (rfl)))) ((wp_5_0).trans ((wp_60t (mm_c93 htx0)).trans ((wp_56).trans (rfl))))))))
theorem r_301_2 (vx0 : mm_V) (y0 : Int) {hi : mm_Id → Int → Int} {dh : Int → Int} {nx ns : Int} {Q : mm_V → mm_H → Prop} (hx : 5275 ≤ nx) :
    mm_Wp 301 (mm_blk 301 2) [vx0] [zI y0] (mm_z hi dh nx ns) Q =
    ((-128 ≤ y0 ∧ y0 < 128) ∧ Q (zI y0) (mm_z hi dh nx ns)) :=
  mm_kb bq_301_2 (wp_94b)
/-- java/lang/String.isLatin1()Z -/
theorem bq_302_0 : mm_blk 302 0 = bk_302_0 := by decide +kernel
theorem bq_302_1 : mm_blk 302 1 = bk_302_1 := by decide +kernel
theorem bq_302_2 : mm_blk 302 2 = bk_302_2 := by decide +kernel
theorem r_302_e {tx0 : Int} {hi : mm_Id → Int → Int} {dh : Int → Int} {nx ns : Int} {Q : mm_V → mm_H → Prop} (htx0 : mm_isG tx0) (hx : 5275 ≤ nx) :
    mm_Cl 302 [zR (93, tx0, 0)] (mm_z hi dh nx ns) Q =
    (if 1 = 0 then mm_Wp 302 (mm_blk 302 1) [zR (93, tx0, 0)] [] (mm_z hi dh nx ns) Q else (if 0 = 0 then mm_Wp 302 (mm_blk 302 2) [zR (93, tx0, 0)] [zI 1] (mm_z hi dh nx ns) Q else mm_Wp 302 (mm_blk 302 1) [zR (93, tx0, 0)] [] (mm_z hi dh nx ns) Q)) :=
  mm_ce (l2 := [zR (93, tx0, 0)]) rfl (mm_kb bq_302_0 ((wp_67_2).trans ((wp_40).trans (mm_ic (rfl) ((wp_5_0).trans ((wp_60t (mm_c93 htx0)).trans ((wp_41).trans (mm_ic ((wp_1).trans ((wp_56).trans (rfl))) (rfl)))))))))
theorem r_302_1 (vx0 : mm_V) {hi : mm_Id → Int → Int} {dh : Int → Int} {nx ns : Int} {Q : mm_V → mm_H → Prop} (hx : 5275 ≤ nx) :
    mm_Wp 302 (mm_blk 302 1) [vx0] [] (mm_z hi dh nx ns) Q =
    mm_Wp 302 (mm_blk 302 2) [vx0] [zI 0] (mm_z hi dh nx ns) Q :=
  mm_kb bq_302_1 ((wp_1).trans ((wp_0).trans (rfl)))
theorem r_302_2 (vx0 : mm_V) (y0 : Int) {hi : mm_Id → Int → Int} {dh : Int → Int} {nx ns : Int} {Q : mm_V → mm_H → Prop} (hx : 5275 ≤ nx) :
    mm_Wp 302 (mm_blk 302 2) [vx0] [zI y0] (mm_z hi dh nx ns) Q =
    ((y0 = 0 ∨ y0 = 1) ∧ Q (zI y0) (mm_z hi dh nx ns)) :=
  mm_kb bq_302_2 (wp_94z)
/-- java/lang/String.charAt(I)C -/
theorem bq_303_0 : mm_blk 303 0 = bk_303_0 := by decide +kernel
theorem bq_303_1 : mm_blk 303 1 = bk_303_1 := by decide +kernel
theorem r_303_e {tx0 : Int} (x1 : Int) {hi : mm_Id → Int → Int} {dh : Int → Int} {nx ns : Int} {Q : mm_V → mm_H → Prop} (htx0 : mm_isG tx0) (hx : 5275 ≤ nx) :
    mm_Cl 303 [zR (93, tx0, 0), zI x1] (mm_z hi dh nx ns) Q =
    mm_Cl 302 [zR (93, tx0, 0)] (mm_z hi dh nx ns) (fun r h3 => mm_Wp 303 (bk_303_0.drop 2) [zR (93, tx0, 0), zI x1] (mm_push r []) h3 Q) :=
  mm_ce (l2 := [zR (93, tx0, 0), zI x1]) rfl (mm_kb bq_303_0 ((wp_5_0).trans ((wp_t1 mm_n_302 (mm_leq mm_m_302 (mm_lb rfl)) (mm_lb rfl) (mm_c93 htx0)).trans rfl)))
theorem r_303_0_2 {tx0 : Int} (x1 : Int) (y0 : Int) {hi : mm_Id → Int → Int} {dh : Int → Int} {nx ns : Int} {Q : mm_V → mm_H → Prop} (htx0 : mm_isG tx0) (hx : 5275 ≤ nx) :
    mm_Wp 303 (bk_303_0.drop 2) [zR (93, tx0, 0), zI x1] [zI y0] (mm_z hi dh nx ns) Q =
    (if y0 = 0 then False else mm_Cl 305 [zR (95, tx0, 0), zI x1] (mm_z hi dh nx ns) (fun r h3 => mm_Wp 303 (bk_303_0.drop 7) [zR (93, tx0, 0), zI x1] (mm_push r []) h3 Q)) :=
  (wp_40).trans (mm_ic (mm_kb bq_303_1 (wp_nil)) ((wp_5_0).trans ((wp_62t (mm_c93 htx0) rfl).trans ((wp_3_1).trans ((wp_s2 mm_n_305 (mm_leq mm_m_305 (mm_lb rfl)) (mm_lb rfl)).trans rfl)))))
theorem r_303_0_7 (vx0 : mm_V) (vx1 : mm_V) (y0 : Int) {hi : mm_Id → Int → Int} {dh : Int → Int} {nx ns : Int} {Q : mm_V → mm_H → Prop} (hx : 5275 ≤ nx) :
    mm_Wp 303 (bk_303_0.drop 7) [vx0, vx1] [zI y0] (mm_z hi dh nx ns) Q =
    ((0 ≤ y0 ∧ y0 < 65536) ∧ Q (zI y0) (mm_z hi dh nx ns)) :=
  wp_94c
/-- java/lang/String.checkIndex(II)V -/
theorem bq_304_0 : mm_blk 304 0 = bk_304_0 := by decide +kernel
theorem r_304_e (x0 : Int) (x1 : Int) {hi : mm_Id → Int → Int} {dh : Int → Int} {nx ns : Int} {Q : mm_V → mm_H → Prop} (hx : 5275 ≤ nx) :
    mm_Cl 304 [zI x0, zI x1] (mm_z hi dh nx ns) Q =
    mm_Cl 306 [zI x0, zI x1, zU] (mm_z hi dh nx ns) (fun r h3 => mm_Wp 304 (bk_304_0.drop 4) [zI x0, zI x1] (mm_push r []) h3 Q) :=
  mm_ce (l2 := [zI x0, zI x1]) rfl (mm_kb bq_304_0 ((wp_3_0).trans ((wp_3_1).trans ((wp_67_3).trans ((wp_s3 mm_n_306 (mm_leq mm_m_306 (mm_lb rfl)) (mm_lb rfl)).trans rfl)))))
theorem r_304_0_4 (vx0 : mm_V) (vx1 : mm_V) (y0 : Int) {hi : mm_Id → Int → Int} {dh : Int → Int} {nx ns : Int} {Q : mm_V → mm_H → Prop} (hx : 5275 ≤ nx) :
    mm_Wp 304 (bk_304_0.drop 4) [vx0, vx1] [zI y0] (mm_z hi dh nx ns) Q =
    Q zU (mm_z hi dh nx ns) :=
  (wp_36i).trans (wp_93)
/-- java/lang/StringLatin1.charAt([BI)C -/
theorem bq_305_0 : mm_blk 305 0 = bk_305_0 := by decide +kernel
theorem r_305_e {tx0 : Int} (x1 : Int) {hi : mm_Id → Int → Int} {dh : Int → Int} {nx ns : Int} {Q : mm_V → mm_H → Prop} (htx0 : mm_isG tx0) (hx : 5275 ≤ nx) :
    mm_Cl 305 [zR (95, tx0, 0), zI x1] (mm_z hi dh nx ns) Q =
    mm_Cl 304 [zI x1, zI (mm_sl tx0)] (mm_z hi dh nx ns) (fun r h3 => mm_Wp 305 (bk_305_0.drop 4) [zR (95, tx0, 0), zI x1] (mm_push r []) h3 Q) :=
  mm_ce (l2 := [zR (95, tx0, 0), zI x1]) rfl (mm_kb bq_305_0 ((wp_3_1).trans ((wp_5_0).trans ((wp_78t htx0).trans ((wp_s2 mm_n_304 (mm_leq mm_m_304 (mm_lb rfl)) (mm_lb rfl)).trans rfl)))))
theorem r_305_0_4 {tx0 : Int} (x1 : Int) {hi : mm_Id → Int → Int} {dh : Int → Int} {nx ns : Int} {Q : mm_V → mm_H → Prop} (htx0 : mm_isG tx0) (hx : 5275 ≤ nx) :
    mm_Wp 305 (bk_305_0.drop 4) [zR (95, tx0, 0), zI x1] [] (mm_z hi dh nx ns) Q =
    ((0 ≤ x1 ∧ x1 < mm_sl tx0) ∧ ((0 ≤ ((mm_and (mm_sc tx0 x1) 255) % 65536) ∧ ((mm_and (mm_sc tx0 x1) 255) % 65536) < 65536) ∧ Q (zI ((mm_and (mm_sc tx0 x1) 255) % 65536)) (mm_z hi dh nx ns))) :=
  (wp_5_0).trans ((wp_3_1).trans ((wp_71s htx0).trans (mm_ae ((wp_1).trans ((wp_16).trans ((wp_39).trans (wp_94c)))))))
/-- jdk/internal/util/Preconditions.checkIndex(IILjava/util/function/BiFunction;)I -/
theorem bq_306_0 : mm_blk 306 0 = bk_306_0 := by decide +kernel
theorem bq_306_1 : mm_blk 306 1 = bk_306_1 := by decide +kernel
theorem bq_306_2 : mm_blk 306 2 = bk_306_2 := by decide +kernel
theorem r_306_e (x0 : Int) (x1 : Int) {hi : mm_Id → Int → Int} {dh : Int → Int} {nx ns : Int} {Q : mm_V → mm_H → Prop} (hx : 5275 ≤ nx) :
    mm_Cl 306 [zI x0, zI x1, zU] (mm_z hi dh nx ns) Q =
    (if x0 < 0 then mm_Wp 306 (mm_blk 306 1) [zI x0, zI x1, zU] [] (mm_z hi dh nx ns) Q else (if x0 < x1 then Q (zI x0) (mm_z hi dh nx ns) else mm_Wp 306 (mm_blk 306 1) [zI x0, zI x1, zU] [] (mm_z hi dh nx ns) Q)) :=
  mm_ce (l2 := [zI x0, zI x1, zU]) rfl (mm_kb bq_306_0 ((wp_3_0).trans ((wp_42).trans (mm_ic (rfl) ((wp_3_0).trans ((wp_3_1).trans ((wp_48).trans (mm_ic (mm_kb bq_306_2 ((wp_3_0).trans (wp_90))) ((wp_0).trans (rfl))))))))))
theorem r_306_1 (vx0 : mm_V) (vx1 : mm_V) (vx2 : mm_V) {hi : mm_Id → Int → Int} {dh : Int → Int} {nx ns : Int} {Q : mm_V → mm_H → Prop} (hx : 5275 ≤ nx) :
    mm_Wp 306 (mm_blk 306 1) [vx0, vx1, vx2] [] (mm_z hi dh nx ns) Q =
    False :=
  mm_kb bq_306_1 (wp_nil)
