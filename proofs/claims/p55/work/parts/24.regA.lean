/-! stretches of the code (printed by wip/whole/mkreg.py) -/
theorem mm_leq {n a L : Nat} (h : a = L) (h2 : n ≤ L) : n ≤ a := by omega
theorem mm_ce {y : Nat} {a l2 : List mm_V} {h : mm_H} {Q : mm_V → mm_H → Prop} {X : Prop} (hl : mm_ent y a = l2) (hp : mm_Wp y (mm_blk y 0) l2 [] h Q = X) : mm_Cl y a h Q = X := by subst hl; exact hp
theorem mm_stw {l : List mm_V} {j : Nat} {q v : mm_V} (h : l[j]? = some q) (hq : mm_wt q = 1) : mm_st l (j + 1) v = l.set (j + 1) v := by
  unfold mm_st
  simp only [h]
  cases q with
  | inl x =>
    cases x with
    | inl x => rfl
    | inr x => cases hq
  | inr x => rfl
theorem mm_wI (x : Int) : mm_wt (zI x) = 1 := rfl
theorem mm_wR (x : mm_Id) : mm_wt (zR x) = 1 := rfl
theorem mm_okn {nx : Int} {k : Nat} {c : Int} : mm_ok mm_nul nx (k + 1) c = false := by simp [mm_ok, mm_SH, mm_fl, mm_SHo]
theorem wp_60n {y : Nat} {is : List mm_I} {l s : List mm_V} {h : mm_H} {Q : mm_V → mm_H → Prop} {a : Nat} {c : Int} {d e : Nat} (hc : c < 11) : mm_Wp y ((60, a, c, d, e) :: is) l (zR mm_nul :: s) h Q = False := by
  refine (mm_wpx _ _ (by decide) (by decide) (by decide)).trans ?_
  have h20 : ¬ c = 20 := by omega
  have h21 : ¬ c = 21 := by omega
  have e1 : ∀ nx, mm_ok (0, 0, 0) nx 1 c = false := fun nx => mm_okn (k := 0)
  simp [mm_x, mm_x3, h20, h21, e1]
theorem wp_75zv {hi : mm_Id → Int → Int} {dh : Int → Int} {nx ns : Int} {x : mm_Id} {y : Nat} {is : List mm_I} {l s : List mm_V} {Q : mm_V → mm_H → Prop} {a : Nat} {c : Int} {d e : Nat} {j n v : Int} (hq : mm_SH x = (4, n) ∧ mm_lv x nx = true) : mm_Wp y ((75, a, c, d, e) :: is) l (zI v :: zI j :: zR x :: s) (mm_z hi dh nx ns) Q = (((v = 0 ∨ v = 1) ∧ 0 ≤ j ∧ j < n) ∧ mm_Wp y is l s (mm_z (mm_up hi x j v) dh nx ns) Q) := by
  by_cases hv : v = 0 ∨ v = 1
  · rw [wp_75z hv hq]; simp [hv]
  · refine (mm_wpx _ _ (by decide) (by decide) (by decide)).trans ?_
    obtain ⟨hq, hl⟩ := hq
    simp [mm_x, mm_x4, mm_z, mm_in, hq, hl, hv]


/-- PoolHouse.make(IIII)I -/
theorem bq_1_0 : mm_blk 1 0 = bk_1_0 := by decide +kernel
theorem bq_1_1 : mm_blk 1 1 = bk_1_1 := by decide +kernel
theorem bq_1_2 : mm_blk 1 2 = bk_1_2 := by decide +kernel
theorem bq_1_3 : mm_blk 1 3 = bk_1_3 := by decide +kernel
theorem bq_1_4 : mm_blk 1 4 = bk_1_4 := by decide +kernel
theorem bq_1_5 : mm_blk 1 5 = bk_1_5 := by decide +kernel
theorem r_1_e (x1 : Int) (x2 : Int) (x3 : Int) (x4 : Int) {hi : mm_Id → Int → Int} {dh : Int → Int} {nx ns : Int} {Q : mm_V → mm_H → Prop} (hx : 5275 ≤ nx) :
    mm_Cl 1 [zR (1, 0, 0), zI x1, zI x2, zI x3, zI x4] (mm_z hi dh nx ns) Q =
    mm_Cl 55 [zR (1, 0, 0), zI x1] (mm_z hi dh nx ns) (fun r h3 => mm_Wp 1 (bk_1_0.drop 4) [zR (1, 0, 0), zI x1, zI x2, zI x3, zI x4, zU, zU, zU] (mm_push r [zR (1, 0, 0)]) h3 Q) :=
  mm_ce (l2 := [zR (1, 0, 0), zI x1, zI x2, zI x3, zI x4, zU, zU, zU]) rfl (mm_kb bq_1_0 ((wp_5_0).trans ((wp_5_0).trans ((wp_3_1).trans ((wp_v2 mm_n_55 (mm_leq mm_m_55 (mm_lb rfl)) (mm_lb rfl) (mm_o1 hx)).trans rfl)))))
theorem r_1_0_4 (x1 : Int) (x2 : Int) (x3 : Int) (x4 : Int) (vx5 : mm_V) (vx6 : mm_V) (vx7 : mm_V) {hi : mm_Id → Int → Int} {dh : Int → Int} {nx ns : Int} {Q : mm_V → mm_H → Prop} (hx : 5275 ≤ nx) :
    mm_Wp 1 (bk_1_0.drop 4) [zR (1, 0, 0), zI x1, zI x2, zI x3, zI x4, vx5, vx6, vx7] [zR mm_nul, zR (1, 0, 0)] (mm_z hi dh nx ns) Q =
    mm_Cl 56 [zR (1, 0, 0), zR mm_nul, zI x2] (mm_z hi dh nx ns) (fun r h3 => mm_Wp 1 (bk_1_0.drop 6) [zR (1, 0, 0), zI x1, zI x2, zI x3, zI x4, vx5, vx6, vx7] (mm_push r []) h3 Q) :=
  (wp_3_2).trans ((wp_v3 mm_n_56 (mm_leq mm_m_56 (mm_lb rfl)) (mm_lb rfl) (mm_o1 hx)).trans rfl)
theorem r_1_0_4a (x1 : Int) (x2 : Int) (x3 : Int) (x4 : Int) (vx5 : mm_V) (vx6 : mm_V) (vx7 : mm_V) {ty0 : Int} {hi : mm_Id → Int → Int} {dh : Int → Int} {nx ns : Int} {Q : mm_V → mm_H → Prop} (hty0 : mm_isT ty0) (hx : 5275 ≤ nx) :
    mm_Wp 1 (bk_1_0.drop 4) [zR (1, 0, 0), zI x1, zI x2, zI x3, zI x4, vx5, vx6, vx7] [zR (22, ty0, 0), zR (1, 0, 0)] (mm_z hi dh nx ns) Q =
    mm_Cl 56 [zR (1, 0, 0), zR (22, ty0, 0), zI x2] (mm_z hi dh nx ns) (fun r h3 => mm_Wp 1 (bk_1_0.drop 6) [zR (1, 0, 0), zI x1, zI x2, zI x3, zI x4, vx5, vx6, vx7] (mm_push r []) h3 Q) :=
  (wp_3_2).trans ((wp_v3 mm_n_56 (mm_leq mm_m_56 (mm_lb rfl)) (mm_lb rfl) (mm_o1 hx)).trans rfl)
theorem r_1_0_6 (x1 : Int) (x2 : Int) (x3 : Int) (x4 : Int) (vx5 : mm_V) (vx6 : mm_V) (vx7 : mm_V) {hi : mm_Id → Int → Int} {dh : Int → Int} {nx ns : Int} {Q : mm_V → mm_H → Prop} (hx : 5275 ≤ nx) :
    mm_Wp 1 (bk_1_0.drop 6) [zR (1, 0, 0), zI x1, zI x2, zI x3, zI x4, vx5, vx6, vx7] [zR mm_nul] (mm_z hi dh nx ns) Q =
    Q (zI (-1)) (mm_z hi dh nx ns) :=
  (wp_8 (l2 := [zR (1, 0, 0), zI x1, zI x2, zI x3, zI x4, zR mm_nul, vx6, vx7]) rfl).trans ((wp_5_5).trans ((wp_55n).trans ((wp_1).trans (wp_90))))
theorem r_1_0_6a (x1 : Int) (x2 : Int) (x3 : Int) (x4 : Int) (vx5 : mm_V) (vx6 : mm_V) (vx7 : mm_V) {ty0 ny0 : Int} {hi : mm_Id → Int → Int} {dh : Int → Int} {nx ns : Int} {Q : mm_V → mm_H → Prop} (hty0 : mm_isT ty0) (hny0 : mm_isN ny0) (hx : 5275 ≤ nx) :
    mm_Wp 1 (bk_1_0.drop 6) [zR (1, 0, 0), zI x1, zI x2, zI x3, zI x4, vx5, vx6, vx7] [zR (24, ty0, ny0)] (mm_z hi dh nx ns) Q =
    mm_Cl 58 [zR (1, 0, 0), zI x3] (mm_z hi dh nx ns) (fun r h3 => mm_Wp 1 (bk_1_1.drop 3) [zR (1, 0, 0), zI x1, zI x2, zI x3, zI x4, zR (24, ty0, ny0), vx6, vx7] (mm_push r []) h3 Q) :=
  (wp_8 (l2 := [zR (1, 0, 0), zI x1, zI x2, zI x3, zI x4, zR (24, ty0, ny0), vx6, vx7]) rfl).trans ((wp_5_5).trans ((wp_55 (by decide)).trans (mm_kb bq_1_1 ((wp_5_0).trans ((wp_3_3).trans ((wp_v2 mm_n_58 (mm_leq mm_m_58 (mm_lb rfl)) (mm_lb rfl) (mm_o1 hx)).trans rfl))))))
theorem r_1_1_3 (x1 : Int) (x2 : Int) (x3 : Int) (x4 : Int) (vx5 : mm_V) (vx6 : mm_V) (vx7 : mm_V) (y0 : Int) {hi : mm_Id → Int → Int} {dh : Int → Int} {nx ns : Int} {Q : mm_V → mm_H → Prop} (hx : 5275 ≤ nx) :
    mm_Wp 1 (bk_1_1.drop 3) [zR (1, 0, 0), zI x1, zI x2, zI x3, zI x4, vx5, vx6, vx7] [zI y0] (mm_z hi dh nx ns) Q =
    (if y0 = 0 then mm_Wp 1 (mm_blk 1 2) [zR (1, 0, 0), zI x1, zI x2, zI x3, zI x4, vx5, vx6, vx7] [] (mm_z hi dh nx ns) Q else (if x4 < 1 then mm_Wp 1 (mm_blk 1 2) [zR (1, 0, 0), zI x1, zI x2, zI x3, zI x4, vx5, vx6, vx7] [] (mm_z hi dh nx ns) Q else (if 2 < x4 then mm_Wp 1 (mm_blk 1 2) [zR (1, 0, 0), zI x1, zI x2, zI x3, zI x4, vx5, vx6, vx7] [] (mm_z hi dh nx ns) Q else mm_Cl 53 [zR (1, 0, 0), zI x1] (mm_z hi dh nx ns) (fun r h3 => mm_Wp 1 (bk_1_3.drop 3) [zR (1, 0, 0), zI x1, zI x2, zI x3, zI x4, vx5, vx6, vx7] (mm_push r []) h3 Q)))) :=
  (wp_40).trans (mm_ic (rfl) ((wp_3_4).trans ((wp_1).trans ((wp_48).trans (mm_ic (rfl) ((wp_3_4).trans ((wp_1).trans ((wp_51).trans (mm_ic ((wp_0).trans (rfl)) (mm_kb bq_1_3 ((wp_5_0).trans ((wp_3_1).trans ((wp_v2 mm_n_53 (mm_leq mm_m_53 (mm_lb rfl)) (mm_lb rfl) (mm_o1 hx)).trans rfl)))))))))))))
theorem r_1_2 (vx0 : mm_V) (vx1 : mm_V) (vx2 : mm_V) (vx3 : mm_V) (vx4 : mm_V) (vx5 : mm_V) (vx6 : mm_V) (vx7 : mm_V) {hi : mm_Id → Int → Int} {dh : Int → Int} {nx ns : Int} {Q : mm_V → mm_H → Prop} (hx : 5275 ≤ nx) :
    mm_Wp 1 (mm_blk 1 2) [vx0, vx1, vx2, vx3, vx4, vx5, vx6, vx7] [] (mm_z hi dh nx ns) Q =
    Q (zI (-2)) (mm_z hi dh nx ns) :=
  mm_kb bq_1_2 ((wp_1).trans (wp_90))
theorem r_1_3_3 (vx1 : mm_V) (x2 : Int) (x3 : Int) (x4 : Int) (vx5 : mm_V) (vx6 : mm_V) (vx7 : mm_V) {hi : mm_Id → Int → Int} {dh : Int → Int} {nx ns : Int} {Q : mm_V → mm_H → Prop} (hvx5 : mm_wt vx5 = 1) (hx : 5275 ≤ nx) :
    mm_Wp 1 (bk_1_3.drop 3) [zR (1, 0, 0), vx1, zI x2, zI x3, zI x4, vx5, vx6, vx7] [zR mm_nul] (mm_z hi dh nx ns) Q =
    Q (zI (-3)) (mm_z hi dh nx ns) :=
  (wp_8 (l2 := [zR (1, 0, 0), vx1, zI x2, zI x3, zI x4, vx5, zR mm_nul, vx7]) ((if_pos (mm_lb rfl)).trans (congrArg some (mm_stw rfl hvx5)))).trans ((wp_5_6).trans ((wp_55n).trans ((wp_1).trans (wp_90))))
theorem r_1_3_3a (vx1 : mm_V) (x2 : Int) (x3 : Int) (x4 : Int) (vx5 : mm_V) (vx6 : mm_V) (vx7 : mm_V) {ty0 : Int} {hi : mm_Id → Int → Int} {dh : Int → Int} {nx ns : Int} {Q : mm_V → mm_H → Prop} (hvx5 : mm_wt vx5 = 1) (hty0 : mm_isD ty0) (hx : 5275 ≤ nx) :
    mm_Wp 1 (bk_1_3.drop 3) [zR (1, 0, 0), vx1, zI x2, zI x3, zI x4, vx5, vx6, vx7] [zR (31, ty0, 0)] (mm_z hi dh nx ns) Q =
    mm_Cl 67 [zR (1, 0, 0), zR (31, ty0, 0), zI x2, zI x3, zI x4] (mm_z hi dh nx ns) (fun r h3 => mm_Wp 1 (bk_1_4.drop 6) [zR (1, 0, 0), vx1, zI x2, zI x3, zI x4, vx5, zR (31, ty0, 0), vx7] (mm_push r []) h3 Q) :=
  (wp_8 (l2 := [zR (1, 0, 0), vx1, zI x2, zI x3, zI x4, vx5, zR (31, ty0, 0), vx7]) ((if_pos (mm_lb rfl)).trans (congrArg some (mm_stw rfl hvx5)))).trans ((wp_5_6).trans ((wp_55 (by decide)).trans (mm_kb bq_1_4 ((wp_5_0).trans ((wp_5_6).trans ((wp_3_2).trans ((wp_3_3).trans ((wp_3_4).trans ((wp_v5 mm_n_67 (mm_leq mm_m_67 (mm_lb rfl)) (mm_lb rfl) (mm_o1 hx)).trans rfl)))))))))
theorem r_1_4_6 (vx1 : mm_V) (vx2 : mm_V) (vx3 : mm_V) (vx4 : mm_V) (vx5 : mm_V) {tx6 : Int} (vx7 : mm_V) (y0 : Int) {hi : mm_Id → Int → Int} {dh : Int → Int} {nx ns : Int} {Q : mm_V → mm_H → Prop} (htx6 : mm_isD tx6) (hx : 5275 ≤ nx) :
    mm_Wp 1 (bk_1_4.drop 6) [zR (1, 0, 0), vx1, vx2, vx3, vx4, vx5, zR (31, tx6, 0), vx7] [zI y0] (mm_z hi dh nx ns) Q =
    (if 0 < y0 then mm_Cl 63 [zR (1, 0, 0), zR (31, tx6, 0)] (mm_z hi dh nx ns) (fun r h3 => mm_Wp 1 (bk_1_4.drop 12) [zR (1, 0, 0), vx1, vx2, vx3, vx4, vx5, zR (31, tx6, 0), zI y0] (mm_push r []) h3 Q) else mm_Wp 1 (mm_blk 1 5) [zR (1, 0, 0), vx1, vx2, vx3, vx4, vx5, zR (31, tx6, 0), zI y0] [] (mm_z hi dh nx ns) Q) :=
  (wp_6 (l2 := [zR (1, 0, 0), vx1, vx2, vx3, vx4, vx5, zR (31, tx6, 0), zI y0]) rfl).trans ((wp_3_7).trans ((wp_45).trans (mm_ic ((wp_5_0).trans ((wp_5_6).trans ((wp_v2 mm_n_63 (mm_leq mm_m_63 (mm_lb rfl)) (mm_lb rfl) (mm_o1 hx)).trans rfl))) (rfl))))
theorem r_1_5 (vx0 : mm_V) (vx1 : mm_V) (vx2 : mm_V) (vx3 : mm_V) (vx4 : mm_V) (vx5 : mm_V) (vx6 : mm_V) (x7 : Int) {hi : mm_Id → Int → Int} {dh : Int → Int} {nx ns : Int} {Q : mm_V → mm_H → Prop} (hx : 5275 ≤ nx) :
    mm_Wp 1 (mm_blk 1 5) [vx0, vx1, vx2, vx3, vx4, vx5, vx6, zI x7] [] (mm_z hi dh nx ns) Q =
    Q (zI x7) (mm_z hi dh nx ns) :=
  mm_kb bq_1_5 ((wp_3_7).trans (wp_90))
theorem r_1_4_12 (vx0 : mm_V) (vx1 : mm_V) (vx2 : mm_V) (vx3 : mm_V) (vx4 : mm_V) (vx5 : mm_V) (vx6 : mm_V) (x7 : Int) {hi : mm_Id → Int → Int} {dh : Int → Int} {nx ns : Int} {Q : mm_V → mm_H → Prop} (hx : 5275 ≤ nx) :
    mm_Wp 1 (bk_1_4.drop 12) [vx0, vx1, vx2, vx3, vx4, vx5, vx6, zI x7] [] (mm_z hi dh nx ns) Q =
    mm_Wp 1 (mm_blk 1 5) [vx0, vx1, vx2, vx3, vx4, vx5, vx6, zI x7] [] (mm_z hi dh nx ns) Q :=
  (wp_0).trans (rfl)
/-- PoolHouse.find(III)I -/
theorem bq_6_0 : mm_blk 6 0 = bk_6_0 := by decide +kernel
theorem bq_6_1 : mm_blk 6 1 = bk_6_1 := by decide +kernel
theorem bq_6_2 : mm_blk 6 2 = bk_6_2 := by decide +kernel
theorem bq_6_3 : mm_blk 6 3 = bk_6_3 := by decide +kernel
theorem bq_6_4 : mm_blk 6 4 = bk_6_4 := by decide +kernel
theorem bq_6_5 : mm_blk 6 5 = bk_6_5 := by decide +kernel
theorem bq_6_6 : mm_blk 6 6 = bk_6_6 := by decide +kernel
theorem r_6_e (x1 : Int) (x2 : Int) (x3 : Int) {hi : mm_Id → Int → Int} {dh : Int → Int} {nx ns : Int} {Q : mm_V → mm_H → Prop} (hx : 5275 ≤ nx) :
    mm_Cl 6 [zR (1, 0, 0), zI x1, zI x2, zI x3] (mm_z hi dh nx ns) Q =
    mm_Cl 55 [zR (1, 0, 0), zI x1] (mm_z hi dh nx ns) (fun r h3 => mm_Wp 6 (bk_6_0.drop 4) [zR (1, 0, 0), zI x1, zI x2, zI x3, zU, zU] (mm_push r [zR (1, 0, 0)]) h3 Q) :=
  mm_ce (l2 := [zR (1, 0, 0), zI x1, zI x2, zI x3, zU, zU]) rfl (mm_kb bq_6_0 ((wp_5_0).trans ((wp_5_0).trans ((wp_3_1).trans ((wp_v2 mm_n_55 (mm_leq mm_m_55 (mm_lb rfl)) (mm_lb rfl) (mm_o1 hx)).trans rfl)))))
theorem r_6_0_4 (vx1 : mm_V) (x2 : Int) (x3 : Int) (vx4 : mm_V) (vx5 : mm_V) {hi : mm_Id → Int → Int} {dh : Int → Int} {nx ns : Int} {Q : mm_V → mm_H → Prop} (hx : 5275 ≤ nx) :
    mm_Wp 6 (bk_6_0.drop 4) [zR (1, 0, 0), vx1, zI x2, zI x3, vx4, vx5] [zR mm_nul, zR (1, 0, 0)] (mm_z hi dh nx ns) Q =
    mm_Cl 56 [zR (1, 0, 0), zR mm_nul, zI x2] (mm_z hi dh nx ns) (fun r h3 => mm_Wp 6 (bk_6_0.drop 6) [zR (1, 0, 0), vx1, zI x2, zI x3, vx4, vx5] (mm_push r []) h3 Q) :=
  (wp_3_2).trans ((wp_v3 mm_n_56 (mm_leq mm_m_56 (mm_lb rfl)) (mm_lb rfl) (mm_o1 hx)).trans rfl)
theorem r_6_0_4a (vx1 : mm_V) (x2 : Int) (x3 : Int) (vx4 : mm_V) (vx5 : mm_V) {ty0 : Int} {hi : mm_Id → Int → Int} {dh : Int → Int} {nx ns : Int} {Q : mm_V → mm_H → Prop} (hty0 : mm_isT ty0) (hx : 5275 ≤ nx) :
    mm_Wp 6 (bk_6_0.drop 4) [zR (1, 0, 0), vx1, zI x2, zI x3, vx4, vx5] [zR (22, ty0, 0), zR (1, 0, 0)] (mm_z hi dh nx ns) Q =
    mm_Cl 56 [zR (1, 0, 0), zR (22, ty0, 0), zI x2] (mm_z hi dh nx ns) (fun r h3 => mm_Wp 6 (bk_6_0.drop 6) [zR (1, 0, 0), vx1, zI x2, zI x3, vx4, vx5] (mm_push r []) h3 Q) :=
  (wp_3_2).trans ((wp_v3 mm_n_56 (mm_leq mm_m_56 (mm_lb rfl)) (mm_lb rfl) (mm_o1 hx)).trans rfl)
theorem r_6_0_6 (vx1 : mm_V) (vx2 : mm_V) (x3 : Int) (vx4 : mm_V) (vx5 : mm_V) {hi : mm_Id → Int → Int} {dh : Int → Int} {nx ns : Int} {Q : mm_V → mm_H → Prop} (hx : 5275 ≤ nx) :
    mm_Wp 6 (bk_6_0.drop 6) [zR (1, 0, 0), vx1, vx2, zI x3, vx4, vx5] [zR mm_nul] (mm_z hi dh nx ns) Q =
    Q (zI (-1)) (mm_z hi dh nx ns) :=
  (wp_8 (l2 := [zR (1, 0, 0), vx1, vx2, zI x3, zR mm_nul, vx5]) rfl).trans ((wp_5_4).trans ((wp_55n).trans ((wp_1).trans (wp_90))))
theorem r_6_0_6a (vx1 : mm_V) (vx2 : mm_V) (x3 : Int) (vx4 : mm_V) (vx5 : mm_V) {ty0 ny0 : Int} {hi : mm_Id → Int → Int} {dh : Int → Int} {nx ns : Int} {Q : mm_V → mm_H → Prop} (hty0 : mm_isT ty0) (hny0 : mm_isN ny0) (hx : 5275 ≤ nx) :
    mm_Wp 6 (bk_6_0.drop 6) [zR (1, 0, 0), vx1, vx2, zI x3, vx4, vx5] [zR (24, ty0, ny0)] (mm_z hi dh nx ns) Q =
    mm_Cl 58 [zR (1, 0, 0), zI x3] (mm_z hi dh nx ns) (fun r h3 => mm_Wp 6 (bk_6_1.drop 3) [zR (1, 0, 0), vx1, vx2, zI x3, zR (24, ty0, ny0), vx5] (mm_push r []) h3 Q) :=
  (wp_8 (l2 := [zR (1, 0, 0), vx1, vx2, zI x3, zR (24, ty0, ny0), vx5]) rfl).trans ((wp_5_4).trans ((wp_55 (by decide)).trans (mm_kb bq_6_1 ((wp_5_0).trans ((wp_3_3).trans ((wp_v2 mm_n_58 (mm_leq mm_m_58 (mm_lb rfl)) (mm_lb rfl) (mm_o1 hx)).trans rfl))))))
theorem r_6_1_3 (vx1 : mm_V) (vx2 : mm_V) (x3 : Int) {tx4 nx4 : Int} (vx5 : mm_V) (y0 : Int) {hi : mm_Id → Int → Int} {dh : Int → Int} {nx ns : Int} {Q : mm_V → mm_H → Prop} (htx4 : mm_isT tx4) (hnx4 : mm_isN nx4) (hx : 5275 ≤ nx) :
    mm_Wp 6 (bk_6_1.drop 3) [zR (1, 0, 0), vx1, vx2, zI x3, zR (24, tx4, nx4), vx5] [zI y0] (mm_z hi dh nx ns) Q =
    (if y0 = 0 then Q (zI (-2)) (mm_z hi dh nx ns) else (if (hi (24, tx4, nx4) 0) = 2 then mm_Cl 60 [zR (1, 0, 0), zR (24, tx4, nx4), zI 1] (mm_z hi dh nx ns) (fun r h3 => mm_Wp 6 (bk_6_3.drop 4) [zR (1, 0, 0), vx1, vx2, zI x3, zR (24, tx4, nx4), vx5] (mm_push r []) h3 Q) else Q (zI (-3)) (mm_z hi dh nx ns))) :=
  (wp_41).trans (mm_ic ((wp_1).trans (wp_90)) (mm_kb bq_6_2 ((wp_5_4).trans ((wp_60 (by decide) (mm_o24 htx4 hnx4 hx)).trans ((wp_1).trans ((wp_46).trans (mm_ic (mm_kb bq_6_3 ((wp_5_0).trans ((wp_5_4).trans ((wp_1).trans ((wp_v3 mm_n_60 (mm_leq mm_m_60 (mm_lb rfl)) (mm_lb rfl) (mm_o1 hx)).trans rfl))))) ((wp_1).trans (wp_90)))))))))
theorem r_6_3_4 (vx0 : mm_V) (vx1 : mm_V) (vx2 : mm_V) (x3 : Int) {tx4 nx4 : Int} (vx5 : mm_V) (y0 : Int) {hi : mm_Id → Int → Int} {dh : Int → Int} {nx ns : Int} {Q : mm_V → mm_H → Prop} (htx4 : mm_isT tx4) (hnx4 : mm_isN nx4) (hx : 5275 ≤ nx) :
    mm_Wp 6 (bk_6_3.drop 4) [vx0, vx1, vx2, zI x3, zR (24, tx4, nx4), vx5] [zI y0] (mm_z hi dh nx ns) Q =
    (if y0 = 0 then Q (zI (-5)) (mm_z hi dh nx ns) else mm_Cl 99 [zR (24, tx4, nx4), zI x3] (mm_z hi dh nx ns) (fun r h3 => mm_Wp 6 (bk_6_4.drop 3) [vx0, vx1, vx2, zI x3, zR (24, tx4, nx4), vx5] (mm_push r []) h3 Q)) :=
  (wp_41).trans (mm_ic ((wp_1).trans (wp_90)) (mm_kb bq_6_4 ((wp_5_4).trans ((wp_3_3).trans ((wp_v2 mm_n_99 (mm_leq mm_m_99 (mm_lb rfl)) (mm_lb rfl) (mm_o24 htx4 hnx4 hx)).trans rfl)))))
theorem r_6_4_3 (vx0 : mm_V) (vx1 : mm_V) (vx2 : mm_V) (vx3 : mm_V) (vx4 : mm_V) (vx5 : mm_V) (y0 : Int) {hi : mm_Id → Int → Int} {dh : Int → Int} {nx ns : Int} {Q : mm_V → mm_H → Prop} (hvx4 : mm_wt vx4 = 1) (hx : 5275 ≤ nx) :
    mm_Wp 6 (bk_6_4.drop 3) [vx0, vx1, vx2, vx3, vx4, vx5] [zI y0] (mm_z hi dh nx ns) Q =
    (if y0 = 0 then mm_Wp 6 (mm_blk 6 6) [vx0, vx1, vx2, vx3, vx4, zI y0] [zI (-1)] (mm_z hi dh nx ns) Q else mm_Wp 6 (mm_blk 6 6) [vx0, vx1, vx2, vx3, vx4, zI y0] [zI y0] (mm_z hi dh nx ns) Q) :=
  (wp_6 (l2 := [vx0, vx1, vx2, vx3, vx4, zI y0]) ((if_pos (mm_lb rfl)).trans (congrArg some (mm_stw rfl hvx4)))).trans ((wp_3_5).trans ((wp_41).trans (mm_ic ((wp_1).trans ((wp_56).trans (rfl))) (mm_kb bq_6_5 ((wp_3_5).trans ((wp_0).trans (rfl)))))))
theorem r_6_6 (vx0 : mm_V) (vx1 : mm_V) (vx2 : mm_V) (vx3 : mm_V) (vx4 : mm_V) (vx5 : mm_V) (y0 : Int) {hi : mm_Id → Int → Int} {dh : Int → Int} {nx ns : Int} {Q : mm_V → mm_H → Prop} (hx : 5275 ≤ nx) :
    mm_Wp 6 (mm_blk 6 6) [vx0, vx1, vx2, vx3, vx4, vx5] [zI y0] (mm_z hi dh nx ns) Q =
    Q (zI y0) (mm_z hi dh nx ns) :=
  mm_kb bq_6_6 (wp_90)
/-- PoolHouse.write(IIIJI)I -/
theorem bq_7_0 : mm_blk 7 0 = bk_7_0 := by decide +kernel
theorem bq_7_1 : mm_blk 7 1 = bk_7_1 := by decide +kernel
theorem bq_7_2 : mm_blk 7 2 = bk_7_2 := by decide +kernel
theorem bq_7_3 : mm_blk 7 3 = bk_7_3 := by decide +kernel
theorem bq_7_4 : mm_blk 7 4 = bk_7_4 := by decide +kernel
theorem bq_7_5 : mm_blk 7 5 = bk_7_5 := by decide +kernel
theorem bq_7_6 : mm_blk 7 6 = bk_7_6 := by decide +kernel
theorem bq_7_7 : mm_blk 7 7 = bk_7_7 := by decide +kernel
theorem bq_7_8 : mm_blk 7 8 = bk_7_8 := by decide +kernel
theorem bq_7_9 : mm_blk 7 9 = bk_7_9 := by decide +kernel
theorem bq_7_10 : mm_blk 7 10 = bk_7_10 := by decide +kernel
theorem bq_7_11 : mm_blk 7 11 = bk_7_11 := by decide +kernel
theorem bq_7_12 : mm_blk 7 12 = bk_7_12 := by decide +kernel
theorem bq_7_13 : mm_blk 7 13 = bk_7_13 := by decide +kernel
theorem bq_7_14 : mm_blk 7 14 = bk_7_14 := by decide +kernel
theorem bq_7_15 : mm_blk 7 15 = bk_7_15 := by decide +kernel
theorem bq_7_16 : mm_blk 7 16 = bk_7_16 := by decide +kernel
theorem bq_7_17 : mm_blk 7 17 = bk_7_17 := by decide +kernel
theorem bq_7_18 : mm_blk 7 18 = bk_7_18 := by decide +kernel
theorem r_7_e (x1 : Int) (x2 : Int) (x3 : Int) (x4 : Int) (x5 : Int) {hi : mm_Id → Int → Int} {dh : Int → Int} {nx ns : Int} {Q : mm_V → mm_H → Prop} (hx : 5275 ≤ nx) :
    mm_Cl 7 [zR (1, 0, 0), zI x1, zI x2, zI x3, zL x4, zI x5] (mm_z hi dh nx ns) Q =
    mm_Cl 55 [zR (1, 0, 0), zI x1] (mm_z hi dh nx ns) (fun r h3 => mm_Wp 7 (bk_7_0.drop 4) [zR (1, 0, 0), zI x1, zI x2, zI x3, zL x4, zU, zI x5, zU, zU, zU, zU, zU, zU, zU] (mm_push r [zR (1, 0, 0)]) h3 Q) :=
  mm_ce (l2 := [zR (1, 0, 0), zI x1, zI x2, zI x3, zL x4, zU, zI x5, zU, zU, zU, zU, zU, zU, zU]) rfl (mm_kb bq_7_0 ((wp_5_0).trans ((wp_5_0).trans ((wp_3_1).trans ((wp_v2 mm_n_55 (mm_leq mm_m_55 (mm_lb rfl)) (mm_lb rfl) (mm_o1 hx)).trans rfl)))))
theorem r_7_0_4 (x1 : Int) (x2 : Int) (x3 : Int) (x4 : Int) (x6 : Int) (vx7 : mm_V) (vx8 : mm_V) (vx9 : mm_V) (vx10 : mm_V) (vx11 : mm_V) (vx12 : mm_V) (vx13 : mm_V) {hi : mm_Id → Int → Int} {dh : Int → Int} {nx ns : Int} {Q : mm_V → mm_H → Prop} (hx : 5275 ≤ nx) :
    mm_Wp 7 (bk_7_0.drop 4) [zR (1, 0, 0), zI x1, zI x2, zI x3, zL x4, zU, zI x6, vx7, vx8, vx9, vx10, vx11, vx12, vx13] [zR mm_nul, zR (1, 0, 0)] (mm_z hi dh nx ns) Q =
    mm_Cl 56 [zR (1, 0, 0), zR mm_nul, zI x2] (mm_z hi dh nx ns) (fun r h3 => mm_Wp 7 (bk_7_0.drop 6) [zR (1, 0, 0), zI x1, zI x2, zI x3, zL x4, zU, zI x6, vx7, vx8, vx9, vx10, vx11, vx12, vx13] (mm_push r []) h3 Q) :=
  (wp_3_2).trans ((wp_v3 mm_n_56 (mm_leq mm_m_56 (mm_lb rfl)) (mm_lb rfl) (mm_o1 hx)).trans rfl)
theorem r_7_0_4a (x1 : Int) (x2 : Int) (x3 : Int) (x4 : Int) (x6 : Int) (vx7 : mm_V) (vx8 : mm_V) (vx9 : mm_V) (vx10 : mm_V) (vx11 : mm_V) (vx12 : mm_V) (vx13 : mm_V) {ty0 : Int} {hi : mm_Id → Int → Int} {dh : Int → Int} {nx ns : Int} {Q : mm_V → mm_H → Prop} (hty0 : mm_isT ty0) (hx : 5275 ≤ nx) :
    mm_Wp 7 (bk_7_0.drop 4) [zR (1, 0, 0), zI x1, zI x2, zI x3, zL x4, zU, zI x6, vx7, vx8, vx9, vx10, vx11, vx12, vx13] [zR (22, ty0, 0), zR (1, 0, 0)] (mm_z hi dh nx ns) Q =
    mm_Cl 56 [zR (1, 0, 0), zR (22, ty0, 0), zI x2] (mm_z hi dh nx ns) (fun r h3 => mm_Wp 7 (bk_7_0.drop 6) [zR (1, 0, 0), zI x1, zI x2, zI x3, zL x4, zU, zI x6, vx7, vx8, vx9, vx10, vx11, vx12, vx13] (mm_push r []) h3 Q) :=
  (wp_3_2).trans ((wp_v3 mm_n_56 (mm_leq mm_m_56 (mm_lb rfl)) (mm_lb rfl) (mm_o1 hx)).trans rfl)
theorem r_7_0_6 (x1 : Int) (vx2 : mm_V) (x3 : Int) (x4 : Int) (x6 : Int) (vx7 : mm_V) (vx8 : mm_V) (vx9 : mm_V) (vx10 : mm_V) (vx11 : mm_V) (vx12 : mm_V) (vx13 : mm_V) {hi : mm_Id → Int → Int} {dh : Int → Int} {nx ns : Int} {Q : mm_V → mm_H → Prop} (hx : 5275 ≤ nx) :
    mm_Wp 7 (bk_7_0.drop 6) [zR (1, 0, 0), zI x1, vx2, zI x3, zL x4, zU, zI x6, vx7, vx8, vx9, vx10, vx11, vx12, vx13] [zR mm_nul] (mm_z hi dh nx ns) Q =
    Q (zI (-1)) (mm_z hi dh nx ns) :=
  (wp_8 (l2 := [zR (1, 0, 0), zI x1, vx2, zI x3, zL x4, zU, zI x6, zR mm_nul, vx8, vx9, vx10, vx11, vx12, vx13]) rfl).trans ((wp_5_7).trans ((wp_55n).trans ((wp_1).trans (wp_90))))
theorem r_7_0_6a (x1 : Int) (vx2 : mm_V) (x3 : Int) (x4 : Int) (x6 : Int) (vx7 : mm_V) (vx8 : mm_V) (vx9 : mm_V) (vx10 : mm_V) (vx11 : mm_V) (vx12 : mm_V) (vx13 : mm_V) {ty0 ny0 : Int} {hi : mm_Id → Int → Int} {dh : Int → Int} {nx ns : Int} {Q : mm_V → mm_H → Prop} (hty0 : mm_isT ty0) (hny0 : mm_isN ny0) (hx : 5275 ≤ nx) :
    mm_Wp 7 (bk_7_0.drop 6) [zR (1, 0, 0), zI x1, vx2, zI x3, zL x4, zU, zI x6, vx7, vx8, vx9, vx10, vx11, vx12, vx13] [zR (24, ty0, ny0)] (mm_z hi dh nx ns) Q =
    (if x6 < 1 then mm_Wp 7 (mm_blk 7 2) [zR (1, 0, 0), zI x1, vx2, zI x3, zL x4, zU, zI x6, zR (24, ty0, ny0), vx8, vx9, vx10, vx11, vx12, vx13] [] (mm_z hi dh nx ns) Q else (if 8 < x6 then mm_Wp 7 (mm_blk 7 2) [zR (1, 0, 0), zI x1, vx2, zI x3, zL x4, zU, zI x6, zR (24, ty0, ny0), vx8, vx9, vx10, vx11, vx12, vx13] [] (mm_z hi dh nx ns) Q else (if x3 < 0 then mm_Wp 7 (mm_blk 7 2) [zR (1, 0, 0), zI x1, vx2, zI x3, zL x4, zU, zI x6, zR (24, ty0, ny0), vx8, vx9, vx10, vx11, vx12, vx13] [] (mm_z hi dh nx ns) Q else (if (mm_w (2160 - x6)) < x3 then mm_Wp 7 (mm_blk 7 2) [zR (1, 0, 0), zI x1, vx2, zI x3, zL x4, zU, zI x6, zR (24, ty0, ny0), vx8, vx9, vx10, vx11, vx12, vx13] [] (mm_z hi dh nx ns) Q else mm_Cl 53 [zR (1, 0, 0), zI x1] (mm_z hi dh nx ns) (fun r h3 => mm_Wp 7 (bk_7_3.drop 3) [zR (1, 0, 0), zI x1, vx2, zI x3, zL x4, zU, zI x6, zR (24, ty0, ny0), vx8, vx9, vx10, vx11, vx12, vx13] (mm_push r []) h3 Q))))) :=
  (wp_8 (l2 := [zR (1, 0, 0), zI x1, vx2, zI x3, zL x4, zU, zI x6, zR (24, ty0, ny0), vx8, vx9, vx10, vx11, vx12, vx13]) rfl).trans ((wp_5_7).trans ((wp_55 (by decide)).trans (mm_kb bq_7_1 ((wp_3_6).trans ((wp_1).trans ((wp_48).trans (mm_ic (rfl) ((wp_3_6).trans ((wp_1).trans ((wp_50).trans (mm_ic (rfl) ((wp_3_3).trans ((wp_42).trans (mm_ic (rfl) ((wp_3_3).trans ((wp_1).trans ((wp_3_6).trans ((wp_11).trans ((wp_51).trans (mm_ic ((wp_0).trans (rfl)) (mm_kb bq_7_3 ((wp_5_0).trans ((wp_3_1).trans ((wp_v2 mm_n_53 (mm_leq mm_m_53 (mm_lb rfl)) (mm_lb rfl) (mm_o1 hx)).trans rfl))))))))))))))))))))))))
theorem r_7_2 (vx0 : mm_V) (vx1 : mm_V) (vx2 : mm_V) (vx3 : mm_V) (x4 : Int) (vx6 : mm_V) (vx7 : mm_V) (vx8 : mm_V) (vx9 : mm_V) (vx10 : mm_V) (vx11 : mm_V) (vx12 : mm_V) (vx13 : mm_V) {hi : mm_Id → Int → Int} {dh : Int → Int} {nx ns : Int} {Q : mm_V → mm_H → Prop} (hx : 5275 ≤ nx) :
    mm_Wp 7 (mm_blk 7 2) [vx0, vx1, vx2, vx3, zL x4, zU, vx6, vx7, vx8, vx9, vx10, vx11, vx12, vx13] [] (mm_z hi dh nx ns) Q =
    Q (zI (-2)) (mm_z hi dh nx ns) :=
  mm_kb bq_7_2 ((wp_1).trans (wp_90))
theorem r_7_3_3 (vx1 : mm_V) (vx2 : mm_V) (x3 : Int) (x4 : Int) (x6 : Int) {tx7 nx7 : Int} (vx8 : mm_V) (vx9 : mm_V) (vx10 : mm_V) (vx11 : mm_V) (vx12 : mm_V) (vx13 : mm_V) {hi : mm_Id → Int → Int} {dh : Int → Int} {nx ns : Int} {Q : mm_V → mm_H → Prop} (htx7 : mm_isT tx7) (hnx7 : mm_isN nx7) (hx : 5275 ≤ nx) :
    mm_Wp 7 (bk_7_3.drop 3) [zR (1, 0, 0), vx1, vx2, zI x3, zL x4, zU, zI x6, zR (24, tx7, nx7), vx8, vx9, vx10, vx11, vx12, vx13] [zR mm_nul] (mm_z hi dh nx ns) Q =
    mm_Wp 7 (mm_blk 7 4) [zR (1, 0, 0), vx1, vx2, zI x3, zL x4, zU, zI x6, zR (24, tx7, nx7), zR mm_nul, vx9, vx10, vx11, vx12, vx13] [] (mm_z hi dh nx ns) Q :=
  (wp_8 (l2 := [zR (1, 0, 0), vx1, vx2, zI x3, zL x4, zU, zI x6, zR (24, tx7, nx7), zR mm_nul, vx9, vx10, vx11, vx12, vx13]) rfl).trans ((wp_5_8).trans ((wp_54n).trans (rfl)))
theorem r_7_3_3a (vx1 : mm_V) (vx2 : mm_V) (x3 : Int) (x4 : Int) (x6 : Int) {tx7 nx7 : Int} (vx8 : mm_V) (vx9 : mm_V) (vx10 : mm_V) (vx11 : mm_V) (vx12 : mm_V) (vx13 : mm_V) {ty0 : Int} {hi : mm_Id → Int → Int} {dh : Int → Int} {nx ns : Int} {Q : mm_V → mm_H → Prop} (htx7 : mm_isT tx7) (hnx7 : mm_isN nx7) (hty0 : mm_isD ty0) (hx : 5275 ≤ nx) :
    mm_Wp 7 (bk_7_3.drop 3) [zR (1, 0, 0), vx1, vx2, zI x3, zL x4, zU, zI x6, zR (24, tx7, nx7), vx8, vx9, vx10, vx11, vx12, vx13] [zR (31, ty0, 0)] (mm_z hi dh nx ns) Q =
    (if (hi (24, tx7, nx7) 0) = 1 then mm_Cl 60 [zR (1, 0, 0), zR (24, tx7, nx7), zI 2] (mm_z hi dh nx ns) (fun r h3 => mm_Wp 7 (bk_7_5.drop 4) [zR (1, 0, 0), vx1, vx2, zI x3, zL x4, zU, zI x6, zR (24, tx7, nx7), zR (31, ty0, 0), vx9, vx10, vx11, vx12, vx13] (mm_push r []) h3 Q) else mm_Wp 7 (mm_blk 7 4) [zR (1, 0, 0), vx1, vx2, zI x3, zL x4, zU, zI x6, zR (24, tx7, nx7), zR (31, ty0, 0), vx9, vx10, vx11, vx12, vx13] [] (mm_z hi dh nx ns) Q) :=
  (wp_8 (l2 := [zR (1, 0, 0), vx1, vx2, zI x3, zL x4, zU, zI x6, zR (24, tx7, nx7), zR (31, ty0, 0), vx9, vx10, vx11, vx12, vx13]) rfl).trans ((wp_5_8).trans ((wp_54 (by decide)).trans ((wp_5_7).trans ((wp_60 (by decide) (mm_o24 htx7 hnx7 hx)).trans ((wp_1).trans ((wp_46).trans (mm_ic (mm_kb bq_7_5 ((wp_5_0).trans ((wp_5_7).trans ((wp_1).trans ((wp_v3 mm_n_60 (mm_leq mm_m_60 (mm_lb rfl)) (mm_lb rfl) (mm_o1 hx)).trans rfl))))) ((wp_0).trans (rfl)))))))))
theorem r_7_4 (vx0 : mm_V) (vx1 : mm_V) (vx2 : mm_V) (vx3 : mm_V) (x4 : Int) (vx6 : mm_V) (vx7 : mm_V) (vx8 : mm_V) (vx9 : mm_V) (vx10 : mm_V) (vx11 : mm_V) (vx12 : mm_V) (vx13 : mm_V) {hi : mm_Id → Int → Int} {dh : Int → Int} {nx ns : Int} {Q : mm_V → mm_H → Prop} (hx : 5275 ≤ nx) :
    mm_Wp 7 (mm_blk 7 4) [vx0, vx1, vx2, vx3, zL x4, zU, vx6, vx7, vx8, vx9, vx10, vx11, vx12, vx13] [] (mm_z hi dh nx ns) Q =
    Q (zI (-3)) (mm_z hi dh nx ns) :=
  mm_kb bq_7_4 ((wp_1).trans (wp_90))
theorem r_7_5_4 (vx1 : mm_V) (vx2 : mm_V) (x3 : Int) (x4 : Int) (x6 : Int) {tx7 nx7 : Int} {tx8 : Int} (vx9 : mm_V) (vx10 : mm_V) (vx11 : mm_V) (vx12 : mm_V) (vx13 : mm_V) (y0 : Int) {hi : mm_Id → Int → Int} {dh : Int → Int} {nx ns : Int} {Q : mm_V → mm_H → Prop} (htx7 : mm_isT tx7) (hnx7 : mm_isN nx7) (htx8 : mm_isD tx8) (hx : 5275 ≤ nx) :
    mm_Wp 7 (bk_7_5.drop 4) [zR (1, 0, 0), vx1, vx2, zI x3, zL x4, zU, zI x6, zR (24, tx7, nx7), zR (31, tx8, 0), vx9, vx10, vx11, vx12, vx13] [zI y0] (mm_z hi dh nx ns) Q =
    (if y0 = 0 then Q (zI (-5)) (mm_z hi dh nx ns) else mm_Wp 7 (mm_blk 7 7) [zR (1, 0, 0), vx1, vx2, zI x3, zL x4, zU, zI x6, zR (24, tx7, nx7), zR (31, tx8, 0), zI (mm_w (Int.tdiv x3 60)), zI (mm_w (Int.tdiv (mm_w ((mm_w (x3 + x6)) - 1)) 60)), zI 0, zI 0, zI (mm_w (Int.tdiv x3 60))] [] (mm_z hi dh nx ns) Q) :=
  (wp_41).trans (mm_ic ((wp_1).trans (wp_90)) (mm_kb bq_7_6 ((wp_3_3).trans ((wp_1).trans ((wp_13 (by decide)).trans ((wp_6 (l2 := [zR (1, 0, 0), vx1, vx2, zI x3, zL x4, zU, zI x6, zR (24, tx7, nx7), zR (31, tx8, 0), zI (mm_w (Int.tdiv x3 60)), vx10, vx11, vx12, vx13]) rfl).trans ((wp_3_3).trans ((wp_3_6).trans ((wp_10).trans ((wp_1).trans ((wp_11).trans ((wp_1).trans ((wp_13 (by decide)).trans ((wp_6 (l2 := [zR (1, 0, 0), vx1, vx2, zI x3, zL x4, zU, zI x6, zR (24, tx7, nx7), zR (31, tx8, 0), zI (mm_w (Int.tdiv x3 60)), zI (mm_w (Int.tdiv (mm_w ((mm_w (x3 + x6)) - 1)) 60)), vx11, vx12, vx13]) rfl).trans ((wp_1).trans ((wp_6 (l2 := [zR (1, 0, 0), vx1, vx2, zI x3, zL x4, zU, zI x6, zR (24, tx7, nx7), zR (31, tx8, 0), zI (mm_w (Int.tdiv x3 60)), zI (mm_w (Int.tdiv (mm_w ((mm_w (x3 + x6)) - 1)) 60)), zI 0, vx12, vx13]) rfl).trans ((wp_1).trans ((wp_6 (l2 := [zR (1, 0, 0), vx1, vx2, zI x3, zL x4, zU, zI x6, zR (24, tx7, nx7), zR (31, tx8, 0), zI (mm_w (Int.tdiv x3 60)), zI (mm_w (Int.tdiv (mm_w ((mm_w (x3 + x6)) - 1)) 60)), zI 0, zI 0, vx13]) rfl).trans ((wp_3_9).trans ((wp_6 (l2 := [zR (1, 0, 0), vx1, vx2, zI x3, zL x4, zU, zI x6, zR (24, tx7, nx7), zR (31, tx8, 0), zI (mm_w (Int.tdiv x3 60)), zI (mm_w (Int.tdiv (mm_w ((mm_w (x3 + x6)) - 1)) 60)), zI 0, zI 0, zI (mm_w (Int.tdiv x3 60))]) rfl).trans ((wp_0).trans (rfl))))))))))))))))))))))
theorem r_7_7 (vx1 : mm_V) (vx2 : mm_V) (x3 : Int) (x4 : Int) (x6 : Int) {tx7 nx7 : Int} {tx8 : Int} (x9 : Int) (x10 : Int) (x11 : Int) (x12 : Int) (x13 : Int) {hi : mm_Id → Int → Int} {dh : Int → Int} {nx ns : Int} {Q : mm_V → mm_H → Prop} (htx7 : mm_isT tx7) (hnx7 : mm_isN nx7) (htx8 : mm_isD tx8) (hx : 5275 ≤ nx) :
    mm_Wp 7 (mm_blk 7 7) [zR (1, 0, 0), vx1, vx2, zI x3, zL x4, zU, zI x6, zR (24, tx7, nx7), zR (31, tx8, 0), zI x9, zI x10, zI x11, zI x12, zI x13] [] (mm_z hi dh nx ns) Q =
    (if x10 < x13 then (if 400 < (mm_w ((hi (15, 0, 0) 7) + x11)) then mm_Wp 7 (mm_blk 7 13) [zR (1, 0, 0), vx1, vx2, zI x3, zL x4, zU, zI x6, zR (24, tx7, nx7), zR (31, tx8, 0), zI x9, zI x10, zI x11, zI x12, zI x13] [] (mm_z hi dh nx ns) Q else (if 0 < x12 then mm_Cl 82 [zR (31, tx8, 0), zI (hi (24, tx7, nx7) 2), zI x12] (mm_z hi dh nx ns) (fun r h3 => mm_Wp 7 (bk_7_12.drop 14) [zR (1, 0, 0), vx1, vx2, zI x3, zL x4, zU, zI x6, zR (24, tx7, nx7), zR (31, tx8, 0), zI x9, zI x10, zI x11, zI x12, zI x13] (mm_push r []) h3 Q) else mm_Wp 7 (mm_blk 7 14) [zR (1, 0, 0), vx1, vx2, zI x3, zL x4, zU, zI x6, zR (24, tx7, nx7), zR (31, tx8, 0), zI x9, zI x10, zI x11, zI x12, zI x13] [] (mm_z hi dh nx ns) Q)) else ((0 ≤ x13 ∧ x13 < 36) ∧ (if (hi (27, tx7, nx7) x13) = 0 then mm_Wp 7 (mm_blk 7 9) [zR (1, 0, 0), vx1, vx2, zI x3, zL x4, zU, zI x6, zR (24, tx7, nx7), zR (31, tx8, 0), zI x9, zI x10, zI x11, zI x12, zI x13] [zI 1, zI x12] (mm_z hi dh nx ns) Q else mm_Wp 7 (mm_blk 7 9) [zR (1, 0, 0), vx1, vx2, zI x3, zL x4, zU, zI x6, zR (24, tx7, nx7), zR (31, tx8, 0), zI x9, zI x10, zI x11, zI x12, zI x13] [zI 0, zI x12] (mm_z hi dh nx ns) Q))) :=
  mm_kb bq_7_7 ((wp_3_13).trans ((wp_3_10).trans ((wp_50).trans (mm_ic (mm_kb bq_7_12 ((wp_5_0).trans ((wp_62 (by decide) (mm_o1 hx) mm_r1_0).trans ((wp_60 (by decide) (mm_o15 hx)).trans ((wp_3_11).trans ((wp_10).trans ((wp_1).trans ((wp_50).trans (mm_ic (rfl) ((wp_3_12).trans ((wp_45).trans (mm_ic ((wp_5_8).trans ((wp_5_7).trans ((wp_60 (by decide) (mm_o24 htx7 hnx7 hx)).trans ((wp_3_12).trans ((wp_v3 mm_n_82 (mm_leq mm_m_82 (mm_lb rfl)) (mm_lb rfl) (mm_o31 htx8 hx)).trans rfl))))) (rfl))))))))))))) ((wp_3_12).trans ((wp_5_7).trans ((wp_62 (by decide) (mm_o24 htx7 hnx7 hx) (mm_r24_10 htx7 hnx7)).trans ((wp_3_13).trans ((wp_70 (mm_q27 htx7 hnx7 hx)).trans (mm_ae ((wp_41).trans (mm_ic ((wp_1).trans ((wp_56).trans (rfl))) (mm_kb bq_7_8 ((wp_1).trans ((wp_0).trans (rfl))))))))))))))))
theorem r_7_13 (vx0 : mm_V) (vx1 : mm_V) (vx2 : mm_V) (vx3 : mm_V) (x4 : Int) (vx6 : mm_V) (vx7 : mm_V) (vx8 : mm_V) (vx9 : mm_V) (vx10 : mm_V) (vx11 : mm_V) (vx12 : mm_V) (vx13 : mm_V) {hi : mm_Id → Int → Int} {dh : Int → Int} {nx ns : Int} {Q : mm_V → mm_H → Prop} (hx : 5275 ≤ nx) :
    mm_Wp 7 (mm_blk 7 13) [vx0, vx1, vx2, vx3, zL x4, zU, vx6, vx7, vx8, vx9, vx10, vx11, vx12, vx13] [] (mm_z hi dh nx ns) Q =
    Q (zI (-4)) (mm_z hi dh nx ns) :=
  mm_kb bq_7_13 ((wp_1).trans (wp_90))
theorem r_7_14 (vx1 : mm_V) (vx2 : mm_V) (x3 : Int) (x4 : Int) (x6 : Int) {tx7 nx7 : Int} {tx8 : Int} (x9 : Int) (x10 : Int) (vx11 : mm_V) (vx12 : mm_V) (vx13 : mm_V) {hi : mm_Id → Int → Int} {dh : Int → Int} {nx ns : Int} {Q : mm_V → mm_H → Prop} (htx7 : mm_isT tx7) (hnx7 : mm_isN nx7) (htx8 : mm_isD tx8) (hvx12 : mm_wt vx12 = 1) (hx : 5275 ≤ nx) :
    mm_Wp 7 (mm_blk 7 14) [zR (1, 0, 0), vx1, vx2, zI x3, zL x4, zU, zI x6, zR (24, tx7, nx7), zR (31, tx8, 0), zI x9, zI x10, vx11, vx12, vx13] [] (mm_z hi dh nx ns) Q =
    mm_Wp 7 (mm_blk 7 15) [zR (1, 0, 0), vx1, vx2, zI x3, zL x4, zU, zI x6, zR (24, tx7, nx7), zR (31, tx8, 0), zI x9, zI x10, vx11, vx12, zI x9] [] (mm_z hi dh nx ns) Q :=
  mm_kb bq_7_14 ((wp_3_9).trans ((wp_6 (l2 := [zR (1, 0, 0), vx1, vx2, zI x3, zL x4, zU, zI x6, zR (24, tx7, nx7), zR (31, tx8, 0), zI x9, zI x10, vx11, vx12, zI x9]) ((if_pos (mm_lb rfl)).trans (congrArg some (mm_stw rfl hvx12)))).trans ((wp_0).trans (rfl))))
theorem r_7_12_14 (vx1 : mm_V) (vx2 : mm_V) (x3 : Int) (x4 : Int) (x6 : Int) {tx7 nx7 : Int} {tx8 : Int} (x9 : Int) (x10 : Int) (vx11 : mm_V) (vx12 : mm_V) (vx13 : mm_V) (y0 : Int) {hi : mm_Id → Int → Int} {dh : Int → Int} {nx ns : Int} {Q : mm_V → mm_H → Prop} (htx7 : mm_isT tx7) (hnx7 : mm_isN nx7) (htx8 : mm_isD tx8) (hx : 5275 ≤ nx) :
    mm_Wp 7 (bk_7_12.drop 14) [zR (1, 0, 0), vx1, vx2, zI x3, zL x4, zU, zI x6, zR (24, tx7, nx7), zR (31, tx8, 0), zI x9, zI x10, vx11, vx12, vx13] [zI y0] (mm_z hi dh nx ns) Q =
    (if y0 = 0 then mm_Wp 7 (mm_blk 7 13) [zR (1, 0, 0), vx1, vx2, zI x3, zL x4, zU, zI x6, zR (24, tx7, nx7), zR (31, tx8, 0), zI x9, zI x10, vx11, vx12, vx13] [] (mm_z hi dh nx ns) Q else mm_Wp 7 (mm_blk 7 14) [zR (1, 0, 0), vx1, vx2, zI x3, zL x4, zU, zI x6, zR (24, tx7, nx7), zR (31, tx8, 0), zI x9, zI x10, vx11, vx12, vx13] [] (mm_z hi dh nx ns) Q) :=
  (wp_41).trans (mm_ic ((wp_0).trans (rfl)) (rfl))
theorem r_7_9 (vx1 : mm_V) (vx2 : mm_V) (x3 : Int) (x4 : Int) (x6 : Int) {tx7 nx7 : Int} {tx8 : Int} (x9 : Int) (x10 : Int) (x11 : Int) (vx12 : mm_V) (x13 : Int) (y0 : Int) (y1 : Int) {hi : mm_Id → Int → Int} {dh : Int → Int} {nx ns : Int} {Q : mm_V → mm_H → Prop} (htx7 : mm_isT tx7) (hnx7 : mm_isN nx7) (htx8 : mm_isD tx8) (hx : 5275 ≤ nx) :
    mm_Wp 7 (mm_blk 7 9) [zR (1, 0, 0), vx1, vx2, zI x3, zL x4, zU, zI x6, zR (24, tx7, nx7), zR (31, tx8, 0), zI x9, zI x10, zI x11, vx12, zI x13] [zI y0, zI y1] (mm_z hi dh nx ns) Q =
    ((0 ≤ x13 ∧ x13 < 36) ∧ mm_Cl 126 [zR (15, 0, 0), zI (hi (27, tx7, nx7) x13)] (mm_z hi dh nx ns) (fun r h3 => mm_Wp 7 (bk_7_9.drop 10) [zR (1, 0, 0), vx1, vx2, zI x3, zL x4, zU, zI x6, zR (24, tx7, nx7), zR (31, tx8, 0), zI x9, zI x10, zI x11, zI (mm_w (y1 + y0)), zI x13] (mm_push r [zI x11]) h3 Q)) :=
  mm_kb bq_7_9 ((wp_10).trans ((wp_6 (l2 := [zR (1, 0, 0), vx1, vx2, zI x3, zL x4, zU, zI x6, zR (24, tx7, nx7), zR (31, tx8, 0), zI x9, zI x10, zI x11, zI (mm_w (y1 + y0)), zI x13]) rfl).trans ((wp_3_11).trans ((wp_5_0).trans ((wp_62 (by decide) (mm_o1 hx) mm_r1_0).trans ((wp_5_7).trans ((wp_62 (by decide) (mm_o24 htx7 hnx7 hx) (mm_r24_10 htx7 hnx7)).trans ((wp_3_13).trans ((wp_70 (mm_q27 htx7 hnx7 hx)).trans (mm_ae ((wp_v2 mm_n_126 (mm_leq mm_m_126 (mm_lb rfl)) (mm_lb rfl) (mm_o15 hx)).trans rfl)))))))))))
theorem r_7_15 (vx1 : mm_V) (vx2 : mm_V) (x3 : Int) (x4 : Int) (x6 : Int) {tx7 nx7 : Int} {tx8 : Int} (vx9 : mm_V) (x10 : Int) (vx11 : mm_V) (vx12 : mm_V) (x13 : Int) {hi : mm_Id → Int → Int} {dh : Int → Int} {nx ns : Int} {Q : mm_V → mm_H → Prop} (htx7 : mm_isT tx7) (hnx7 : mm_isN nx7) (htx8 : mm_isD tx8) (hvx12 : mm_wt vx12 = 1) (hx : 5275 ≤ nx) :
    mm_Wp 7 (mm_blk 7 15) [zR (1, 0, 0), vx1, vx2, zI x3, zL x4, zU, zI x6, zR (24, tx7, nx7), zR (31, tx8, 0), vx9, zI x10, vx11, vx12, zI x13] [] (mm_z hi dh nx ns) Q =
    (if x10 < x13 then mm_Wp 7 (mm_blk 7 17) [zR (1, 0, 0), vx1, vx2, zI x3, zL x4, zU, zI x6, zR (24, tx7, nx7), zR (31, tx8, 0), vx9, zI x10, vx11, vx12, zI 0] [] (mm_z hi dh nx ns) Q else mm_Cl 107 [zR (24, tx7, nx7), zI x13, zR (15, 0, 0)] (mm_z hi dh nx ns) (fun r h3 => mm_Wp 7 (bk_7_15.drop 8) [zR (1, 0, 0), vx1, vx2, zI x3, zL x4, zU, zI x6, zR (24, tx7, nx7), zR (31, tx8, 0), vx9, zI x10, vx11, vx12, zI x13] (mm_push r []) h3 Q)) :=
  mm_kb bq_7_15 ((wp_3_13).trans ((wp_3_10).trans ((wp_50).trans (mm_ic (mm_kb bq_7_16 ((wp_1).trans ((wp_6 (l2 := [zR (1, 0, 0), vx1, vx2, zI x3, zL x4, zU, zI x6, zR (24, tx7, nx7), zR (31, tx8, 0), vx9, zI x10, vx11, vx12, zI 0]) ((if_pos (mm_lb rfl)).trans (congrArg some (mm_stw rfl hvx12)))).trans ((wp_0).trans (rfl))))) ((wp_5_7).trans ((wp_3_13).trans ((wp_5_0).trans ((wp_62 (by decide) (mm_o1 hx) mm_r1_0).trans ((wp_v3 mm_n_107 (mm_leq mm_m_107 (mm_lb rfl)) (mm_lb rfl) (mm_o24 htx7 hnx7 hx)).trans rfl)))))))))
theorem r_7_9_10 (vx1 : mm_V) (vx2 : mm_V) (x3 : Int) (x4 : Int) (x6 : Int) {tx7 nx7 : Int} {tx8 : Int} (x9 : Int) (x10 : Int) (vx11 : mm_V) (x12 : Int) (x13 : Int) (y0 : Int) (y1 : Int) {hi : mm_Id → Int → Int} {dh : Int → Int} {nx ns : Int} {Q : mm_V → mm_H → Prop} (htx7 : mm_isT tx7) (hnx7 : mm_isN nx7) (htx8 : mm_isD tx8) (hx : 5275 ≤ nx) :
    mm_Wp 7 (bk_7_9.drop 10) [zR (1, 0, 0), vx1, vx2, zI x3, zL x4, zU, zI x6, zR (24, tx7, nx7), zR (31, tx8, 0), zI x9, zI x10, vx11, zI x12, zI x13] [zI y0, zI y1] (mm_z hi dh nx ns) Q =
    (if y0 = 0 then mm_Wp 7 (mm_blk 7 11) [zR (1, 0, 0), vx1, vx2, zI x3, zL x4, zU, zI x6, zR (24, tx7, nx7), zR (31, tx8, 0), zI x9, zI x10, vx11, zI x12, zI x13] [zI 1, zI y1] (mm_z hi dh nx ns) Q else mm_Wp 7 (mm_blk 7 11) [zR (1, 0, 0), vx1, vx2, zI x3, zL x4, zU, zI x6, zR (24, tx7, nx7), zR (31, tx8, 0), zI x9, zI x10, vx11, zI x12, zI x13] [zI 0, zI y1] (mm_z hi dh nx ns) Q) :=
  (wp_40).trans (mm_ic (mm_kb bq_7_10 ((wp_1).trans ((wp_0).trans (rfl)))) ((wp_1).trans ((wp_56).trans (rfl))))
theorem r_7_17 (vx1 : mm_V) (vx2 : mm_V) (x3 : Int) (x4 : Int) (x6 : Int) {tx7 nx7 : Int} {tx8 : Int} (vx9 : mm_V) (vx10 : mm_V) (vx11 : mm_V) (vx12 : mm_V) (x13 : Int) {hi : mm_Id → Int → Int} {dh : Int → Int} {nx ns : Int} {Q : mm_V → mm_H → Prop} (htx7 : mm_isT tx7) (hnx7 : mm_isN nx7) (htx8 : mm_isD tx8) (hx : 5275 ≤ nx) :
    mm_Wp 7 (mm_blk 7 17) [zR (1, 0, 0), vx1, vx2, zI x3, zL x4, zU, zI x6, zR (24, tx7, nx7), zR (31, tx8, 0), vx9, vx10, vx11, vx12, zI x13] [] (mm_z hi dh nx ns) Q =
    (if x13 < x6 then mm_Cl 108 [zR (24, tx7, nx7), zI (mm_w (x3 + x13)), zI (mm_w (mm_lushr x4 (mm_w (8 * (mm_w ((mm_w (x6 - 1)) - x13)))))), zR (15, 0, 0)] (mm_z hi dh nx ns) (fun r h3 => mm_Wp 7 (bk_7_17.drop 20) [zR (1, 0, 0), vx1, vx2, zI x3, zL x4, zU, zI x6, zR (24, tx7, nx7), zR (31, tx8, 0), vx9, vx10, vx11, vx12, zI x13] (mm_push r []) h3 Q) else mm_Cl 63 [zR (1, 0, 0), zR (31, tx8, 0)] (mm_z (mm_up hi (24, tx7, nx7) 1 (if (hi (24, tx7, nx7) 1) < (mm_w (x3 + x6)) then (mm_w (x3 + x6)) else (hi (24, tx7, nx7) 1))) dh nx ns) (fun r h3 => mm_Wp 7 (bk_7_18.drop 11) [zR (1, 0, 0), vx1, vx2, zI x3, zL x4, zU, zI x6, zR (24, tx7, nx7), zR (31, tx8, 0), vx9, vx10, vx11, vx12, zI x13] (mm_push r []) h3 Q)) :=
  mm_kb bq_7_17 ((wp_3_13).trans ((wp_3_6).trans ((wp_49).trans (mm_ic ((wp_5_7).trans ((wp_3_3).trans ((wp_3_13).trans ((wp_10).trans ((wp_4_4).trans ((wp_1).trans ((wp_3_6).trans ((wp_1).trans ((wp_11).trans ((wp_3_13).trans ((wp_11).trans ((wp_12).trans ((wp_30).trans ((wp_32).trans ((wp_5_0).trans ((wp_62 (by decide) (mm_o1 hx) mm_r1_0).trans ((wp_v4 mm_n_108 (mm_leq mm_m_108 (mm_lb rfl)) (mm_lb rfl) (mm_o24 htx7 hnx7 hx)).trans rfl))))))))))))))))) (mm_kb bq_7_18 ((wp_5_7).trans ((wp_5_7).trans ((wp_60 (by decide) (mm_o24 htx7 hnx7 hx)).trans ((wp_3_3).trans ((wp_3_6).trans ((wp_10).trans ((wp_98 (mm_lb rfl)).trans ((wp_63 (mm_o24 htx7 hnx7 hx)).trans ((wp_5_0).trans ((wp_5_8).trans ((wp_v2 mm_n_63 (mm_leq mm_m_63 (mm_lb rfl)) (mm_lb rfl) (mm_o1 hx)).trans rfl))))))))))))))))
theorem r_7_15_8 (vx1 : mm_V) (vx2 : mm_V) (x3 : Int) (x4 : Int) (x6 : Int) {tx7 nx7 : Int} {tx8 : Int} (vx9 : mm_V) (x10 : Int) (vx11 : mm_V) (vx12 : mm_V) (x13 : Int) {hi : mm_Id → Int → Int} {dh : Int → Int} {nx ns : Int} {Q : mm_V → mm_H → Prop} (htx7 : mm_isT tx7) (hnx7 : mm_isN nx7) (htx8 : mm_isD tx8) (hx : 5275 ≤ nx) :
    mm_Wp 7 (bk_7_15.drop 8) [zR (1, 0, 0), vx1, vx2, zI x3, zL x4, zU, zI x6, zR (24, tx7, nx7), zR (31, tx8, 0), vx9, zI x10, vx11, vx12, zI x13] [] (mm_z hi dh nx ns) Q =
    mm_Wp 7 (mm_blk 7 15) [zR (1, 0, 0), vx1, vx2, zI x3, zL x4, zU, zI x6, zR (24, tx7, nx7), zR (31, tx8, 0), vx9, zI x10, vx11, vx12, zI (mm_w (x13 + 1))] [] (mm_z hi dh nx ns) Q :=
  (wp_9 (l2 := [zR (1, 0, 0), vx1, vx2, zI x3, zL x4, zU, zI x6, zR (24, tx7, nx7), zR (31, tx8, 0), vx9, zI x10, vx11, vx12, zI (mm_w (x13 + 1))]) rfl rfl).trans ((wp_56).trans (rfl))
theorem r_7_11 (vx1 : mm_V) (vx2 : mm_V) (x3 : Int) (x4 : Int) (x6 : Int) {tx7 nx7 : Int} {tx8 : Int} (x9 : Int) (x10 : Int) (vx11 : mm_V) (x12 : Int) (x13 : Int) (y0 : Int) (y1 : Int) {hi : mm_Id → Int → Int} {dh : Int → Int} {nx ns : Int} {Q : mm_V → mm_H → Prop} (htx7 : mm_isT tx7) (hnx7 : mm_isN nx7) (htx8 : mm_isD tx8) (hx : 5275 ≤ nx) :
    mm_Wp 7 (mm_blk 7 11) [zR (1, 0, 0), vx1, vx2, zI x3, zL x4, zU, zI x6, zR (24, tx7, nx7), zR (31, tx8, 0), zI x9, zI x10, vx11, zI x12, zI x13] [zI y0, zI y1] (mm_z hi dh nx ns) Q =
    mm_Wp 7 (mm_blk 7 7) [zR (1, 0, 0), vx1, vx2, zI x3, zL x4, zU, zI x6, zR (24, tx7, nx7), zR (31, tx8, 0), zI x9, zI x10, zI (mm_w (y1 + y0)), zI x12, zI (mm_w (x13 + 1))] [] (mm_z hi dh nx ns) Q :=
  mm_kb bq_7_11 ((wp_10).trans ((wp_6 (l2 := [zR (1, 0, 0), vx1, vx2, zI x3, zL x4, zU, zI x6, zR (24, tx7, nx7), zR (31, tx8, 0), zI x9, zI x10, zI (mm_w (y1 + y0)), zI x12, zI x13]) rfl).trans ((wp_9 (l2 := [zR (1, 0, 0), vx1, vx2, zI x3, zL x4, zU, zI x6, zR (24, tx7, nx7), zR (31, tx8, 0), zI x9, zI x10, zI (mm_w (y1 + y0)), zI x12, zI (mm_w (x13 + 1))]) rfl rfl).trans ((wp_56).trans (rfl)))))
theorem r_7_18_11 (vx0 : mm_V) (vx1 : mm_V) (vx2 : mm_V) (vx3 : mm_V) (x4 : Int) (vx6 : mm_V) {tx7 nx7 : Int} (vx8 : mm_V) (vx9 : mm_V) (vx10 : mm_V) (vx11 : mm_V) (vx12 : mm_V) (vx13 : mm_V) {hi : mm_Id → Int → Int} {dh : Int → Int} {nx ns : Int} {Q : mm_V → mm_H → Prop} (htx7 : mm_isT tx7) (hnx7 : mm_isN nx7) (hx : 5275 ≤ nx) :
    mm_Wp 7 (bk_7_18.drop 11) [vx0, vx1, vx2, vx3, zL x4, zU, vx6, zR (24, tx7, nx7), vx8, vx9, vx10, vx11, vx12, vx13] [] (mm_z hi dh nx ns) Q =
    Q (zI (hi (24, tx7, nx7) 1)) (mm_z hi dh nx ns) :=
  (wp_5_7).trans ((wp_60 (by decide) (mm_o24 htx7 hnx7 hx)).trans (wp_90))
theorem r_7_17_20 (vx1 : mm_V) (vx2 : mm_V) (x3 : Int) (x4 : Int) (x6 : Int) {tx7 nx7 : Int} {tx8 : Int} (vx9 : mm_V) (vx10 : mm_V) (vx11 : mm_V) (vx12 : mm_V) (x13 : Int) {hi : mm_Id → Int → Int} {dh : Int → Int} {nx ns : Int} {Q : mm_V → mm_H → Prop} (htx7 : mm_isT tx7) (hnx7 : mm_isN nx7) (htx8 : mm_isD tx8) (hx : 5275 ≤ nx) :
    mm_Wp 7 (bk_7_17.drop 20) [zR (1, 0, 0), vx1, vx2, zI x3, zL x4, zU, zI x6, zR (24, tx7, nx7), zR (31, tx8, 0), vx9, vx10, vx11, vx12, zI x13] [] (mm_z hi dh nx ns) Q =
    mm_Wp 7 (mm_blk 7 17) [zR (1, 0, 0), vx1, vx2, zI x3, zL x4, zU, zI x6, zR (24, tx7, nx7), zR (31, tx8, 0), vx9, vx10, vx11, vx12, zI (mm_w (x13 + 1))] [] (mm_z hi dh nx ns) Q :=
  (wp_9 (l2 := [zR (1, 0, 0), vx1, vx2, zI x3, zL x4, zU, zI x6, zR (24, tx7, nx7), zR (31, tx8, 0), vx9, vx10, vx11, vx12, zI (mm_w (x13 + 1))]) rfl rfl).trans ((wp_56).trans (rfl))
/-- PoolHouse.read(III)I -/
theorem bq_8_0 : mm_blk 8 0 = bk_8_0 := by decide +kernel
theorem bq_8_1 : mm_blk 8 1 = bk_8_1 := by decide +kernel
theorem bq_8_2 : mm_blk 8 2 = bk_8_2 := by decide +kernel
theorem bq_8_3 : mm_blk 8 3 = bk_8_3 := by decide +kernel
theorem bq_8_4 : mm_blk 8 4 = bk_8_4 := by decide +kernel
theorem bq_8_5 : mm_blk 8 5 = bk_8_5 := by decide +kernel
theorem bq_8_6 : mm_blk 8 6 = bk_8_6 := by decide +kernel
theorem r_8_e (x1 : Int) (x2 : Int) (x3 : Int) {hi : mm_Id → Int → Int} {dh : Int → Int} {nx ns : Int} {Q : mm_V → mm_H → Prop} (hx : 5275 ≤ nx) :
    mm_Cl 8 [zR (1, 0, 0), zI x1, zI x2, zI x3] (mm_z hi dh nx ns) Q =
    mm_Cl 55 [zR (1, 0, 0), zI x1] (mm_z hi dh nx ns) (fun r h3 => mm_Wp 8 (bk_8_0.drop 4) [zR (1, 0, 0), zI x1, zI x2, zI x3, zU] (mm_push r [zR (1, 0, 0)]) h3 Q) :=
  mm_ce (l2 := [zR (1, 0, 0), zI x1, zI x2, zI x3, zU]) rfl (mm_kb bq_8_0 ((wp_5_0).trans ((wp_5_0).trans ((wp_3_1).trans ((wp_v2 mm_n_55 (mm_leq mm_m_55 (mm_lb rfl)) (mm_lb rfl) (mm_o1 hx)).trans rfl)))))
theorem r_8_0_4 (vx1 : mm_V) (x2 : Int) (x3 : Int) (vx4 : mm_V) {hi : mm_Id → Int → Int} {dh : Int → Int} {nx ns : Int} {Q : mm_V → mm_H → Prop} (hx : 5275 ≤ nx) :
    mm_Wp 8 (bk_8_0.drop 4) [zR (1, 0, 0), vx1, zI x2, zI x3, vx4] [zR mm_nul, zR (1, 0, 0)] (mm_z hi dh nx ns) Q =
    mm_Cl 56 [zR (1, 0, 0), zR mm_nul, zI x2] (mm_z hi dh nx ns) (fun r h3 => mm_Wp 8 (bk_8_0.drop 6) [zR (1, 0, 0), vx1, zI x2, zI x3, vx4] (mm_push r []) h3 Q) :=
  (wp_3_2).trans ((wp_v3 mm_n_56 (mm_leq mm_m_56 (mm_lb rfl)) (mm_lb rfl) (mm_o1 hx)).trans rfl)
theorem r_8_0_4a (vx1 : mm_V) (x2 : Int) (x3 : Int) (vx4 : mm_V) {ty0 : Int} {hi : mm_Id → Int → Int} {dh : Int → Int} {nx ns : Int} {Q : mm_V → mm_H → Prop} (hty0 : mm_isT ty0) (hx : 5275 ≤ nx) :
    mm_Wp 8 (bk_8_0.drop 4) [zR (1, 0, 0), vx1, zI x2, zI x3, vx4] [zR (22, ty0, 0), zR (1, 0, 0)] (mm_z hi dh nx ns) Q =
    mm_Cl 56 [zR (1, 0, 0), zR (22, ty0, 0), zI x2] (mm_z hi dh nx ns) (fun r h3 => mm_Wp 8 (bk_8_0.drop 6) [zR (1, 0, 0), vx1, zI x2, zI x3, vx4] (mm_push r []) h3 Q) :=
  (wp_3_2).trans ((wp_v3 mm_n_56 (mm_leq mm_m_56 (mm_lb rfl)) (mm_lb rfl) (mm_o1 hx)).trans rfl)
theorem r_8_0_6 (vx1 : mm_V) (vx2 : mm_V) (x3 : Int) (vx4 : mm_V) {hi : mm_Id → Int → Int} {dh : Int → Int} {nx ns : Int} {Q : mm_V → mm_H → Prop} (hx : 5275 ≤ nx) :
    mm_Wp 8 (bk_8_0.drop 6) [zR (1, 0, 0), vx1, vx2, zI x3, vx4] [zR mm_nul] (mm_z hi dh nx ns) Q =
    Q (zI (-1)) (mm_z hi dh nx ns) :=
  (wp_8 (l2 := [zR (1, 0, 0), vx1, vx2, zI x3, zR mm_nul]) rfl).trans ((wp_5_4).trans ((wp_55n).trans ((wp_1).trans (wp_90))))
theorem r_8_0_6a (vx1 : mm_V) (vx2 : mm_V) (x3 : Int) (vx4 : mm_V) {ty0 ny0 : Int} {hi : mm_Id → Int → Int} {dh : Int → Int} {nx ns : Int} {Q : mm_V → mm_H → Prop} (hty0 : mm_isT ty0) (hny0 : mm_isN ny0) (hx : 5275 ≤ nx) :
    mm_Wp 8 (bk_8_0.drop 6) [zR (1, 0, 0), vx1, vx2, zI x3, vx4] [zR (24, ty0, ny0)] (mm_z hi dh nx ns) Q =
    (if (hi (24, ty0, ny0) 0) = 1 then (if x3 < 0 then mm_Wp 8 (mm_blk 8 3) [zR (1, 0, 0), vx1, vx2, zI x3, zR (24, ty0, ny0)] [] (mm_z hi dh nx ns) Q else (if x3 < (hi (24, ty0, ny0) 1) then mm_Cl 60 [zR (1, 0, 0), zR (24, ty0, ny0), zI 4] (mm_z hi dh nx ns) (fun r h3 => mm_Wp 8 (bk_8_4.drop 4) [zR (1, 0, 0), vx1, vx2, zI x3, zR (24, ty0, ny0)] (mm_push r []) h3 Q) else mm_Wp 8 (mm_blk 8 3) [zR (1, 0, 0), vx1, vx2, zI x3, zR (24, ty0, ny0)] [] (mm_z hi dh nx ns) Q)) else Q (zI (-3)) (mm_z hi dh nx ns)) :=
  (wp_8 (l2 := [zR (1, 0, 0), vx1, vx2, zI x3, zR (24, ty0, ny0)]) rfl).trans ((wp_5_4).trans ((wp_55 (by decide)).trans (mm_kb bq_8_1 ((wp_5_4).trans ((wp_60 (by decide) (mm_o24 hty0 hny0 hx)).trans ((wp_1).trans ((wp_46).trans (mm_ic (mm_kb bq_8_2 ((wp_3_3).trans ((wp_42).trans (mm_ic (rfl) ((wp_3_3).trans ((wp_5_4).trans ((wp_60 (by decide) (mm_o24 hty0 hny0 hx)).trans ((wp_48).trans (mm_ic (mm_kb bq_8_4 ((wp_5_0).trans ((wp_5_4).trans ((wp_1).trans ((wp_v3 mm_n_60 (mm_leq mm_m_60 (mm_lb rfl)) (mm_lb rfl) (mm_o1 hx)).trans rfl))))) ((wp_0).trans (rfl))))))))))) ((wp_1).trans (wp_90))))))))))
theorem r_8_3 (vx0 : mm_V) (vx1 : mm_V) (vx2 : mm_V) (vx3 : mm_V) (vx4 : mm_V) {hi : mm_Id → Int → Int} {dh : Int → Int} {nx ns : Int} {Q : mm_V → mm_H → Prop} (hx : 5275 ≤ nx) :
    mm_Wp 8 (mm_blk 8 3) [vx0, vx1, vx2, vx3, vx4] [] (mm_z hi dh nx ns) Q =
    Q (zI (-2)) (mm_z hi dh nx ns) :=
  mm_kb bq_8_3 ((wp_1).trans (wp_90))
theorem r_8_4_4 (vx1 : mm_V) (vx2 : mm_V) (x3 : Int) {tx4 nx4 : Int} (y0 : Int) {hi : mm_Id → Int → Int} {dh : Int → Int} {nx ns : Int} {Q : mm_V → mm_H → Prop} (htx4 : mm_isT tx4) (hnx4 : mm_isN nx4) (hx : 5275 ≤ nx) :
    mm_Wp 8 (bk_8_4.drop 4) [zR (1, 0, 0), vx1, vx2, zI x3, zR (24, tx4, nx4)] [zI y0] (mm_z hi dh nx ns) Q =
    (if y0 = 0 then mm_Wp 8 (mm_blk 8 6) [zR (1, 0, 0), vx1, vx2, zI x3, zR (24, tx4, nx4)] [zI (-5)] (mm_z hi dh nx ns) Q else ((0 ≤ (mm_w (Int.tdiv x3 60)) ∧ (mm_w (Int.tdiv x3 60)) < 36) ∧ mm_Cl 130 [zR (15, 0, 0), zI (hi (27, tx4, nx4) (mm_w (Int.tdiv x3 60))), zI (Int.tmod x3 60)] (mm_z hi dh nx ns) (fun r h3 => mm_Wp 8 (bk_8_4.drop 17) [zR (1, 0, 0), vx1, vx2, zI x3, zR (24, tx4, nx4)] (mm_push r []) h3 Q))) :=
  (wp_40).trans (mm_ic (mm_kb bq_8_5 ((wp_1).trans ((wp_0).trans (rfl)))) ((wp_5_0).trans ((wp_62 (by decide) (mm_o1 hx) mm_r1_0).trans ((wp_5_4).trans ((wp_62 (by decide) (mm_o24 htx4 hnx4 hx) (mm_r24_10 htx4 hnx4)).trans ((wp_3_3).trans ((wp_1).trans ((wp_13 (by decide)).trans ((wp_70 (mm_q27 htx4 hnx4 hx)).trans (mm_ae ((wp_3_3).trans ((wp_1).trans ((wp_14 (by decide)).trans ((wp_v3 mm_n_130 (mm_leq mm_m_130 (mm_lb rfl)) (mm_lb rfl) (mm_o15 hx)).trans rfl))))))))))))))
theorem r_8_6 (vx0 : mm_V) (vx1 : mm_V) (vx2 : mm_V) (vx3 : mm_V) (vx4 : mm_V) (y0 : Int) {hi : mm_Id → Int → Int} {dh : Int → Int} {nx ns : Int} {Q : mm_V → mm_H → Prop} (hx : 5275 ≤ nx) :
    mm_Wp 8 (mm_blk 8 6) [vx0, vx1, vx2, vx3, vx4] [zI y0] (mm_z hi dh nx ns) Q =
    Q (zI y0) (mm_z hi dh nx ns) :=
  mm_kb bq_8_6 (wp_90)
theorem r_8_4_17 (vx0 : mm_V) (vx1 : mm_V) (vx2 : mm_V) (vx3 : mm_V) (vx4 : mm_V) (y0 : Int) {hi : mm_Id → Int → Int} {dh : Int → Int} {nx ns : Int} {Q : mm_V → mm_H → Prop} (hx : 5275 ≤ nx) :
    mm_Wp 8 (bk_8_4.drop 17) [vx0, vx1, vx2, vx3, vx4] [zI y0] (mm_z hi dh nx ns) Q =
    mm_Wp 8 (mm_blk 8 6) [vx0, vx1, vx2, vx3, vx4] [zI y0] (mm_z hi dh nx ns) Q :=
  (wp_56).trans (rfl)
/-- PoolHouse.cut(III)I -/
theorem bq_9_0 : mm_blk 9 0 = bk_9_0 := by decide +kernel
theorem bq_9_1 : mm_blk 9 1 = bk_9_1 := by decide +kernel
theorem bq_9_2 : mm_blk 9 2 = bk_9_2 := by decide +kernel
theorem bq_9_3 : mm_blk 9 3 = bk_9_3 := by decide +kernel
theorem bq_9_4 : mm_blk 9 4 = bk_9_4 := by decide +kernel
theorem bq_9_5 : mm_blk 9 5 = bk_9_5 := by decide +kernel
theorem bq_9_6 : mm_blk 9 6 = bk_9_6 := by decide +kernel
theorem bq_9_7 : mm_blk 9 7 = bk_9_7 := by decide +kernel
theorem bq_9_8 : mm_blk 9 8 = bk_9_8 := by decide +kernel
theorem bq_9_9 : mm_blk 9 9 = bk_9_9 := by decide +kernel
theorem bq_9_10 : mm_blk 9 10 = bk_9_10 := by decide +kernel
theorem bq_9_11 : mm_blk 9 11 = bk_9_11 := by decide +kernel
theorem bq_9_12 : mm_blk 9 12 = bk_9_12 := by decide +kernel
theorem bq_9_13 : mm_blk 9 13 = bk_9_13 := by decide +kernel
theorem bq_9_14 : mm_blk 9 14 = bk_9_14 := by decide +kernel
theorem bq_9_15 : mm_blk 9 15 = bk_9_15 := by decide +kernel
theorem bq_9_16 : mm_blk 9 16 = bk_9_16 := by decide +kernel
theorem r_9_e (x1 : Int) (x2 : Int) (x3 : Int) {hi : mm_Id → Int → Int} {dh : Int → Int} {nx ns : Int} {Q : mm_V → mm_H → Prop} (hx : 5275 ≤ nx) :
    mm_Cl 9 [zR (1, 0, 0), zI x1, zI x2, zI x3] (mm_z hi dh nx ns) Q =
    mm_Cl 55 [zR (1, 0, 0), zI x1] (mm_z hi dh nx ns) (fun r h3 => mm_Wp 9 (bk_9_0.drop 4) [zR (1, 0, 0), zI x1, zI x2, zI x3, zU, zU, zU, zU, zU, zU, zU] (mm_push r [zR (1, 0, 0)]) h3 Q) :=
  mm_ce (l2 := [zR (1, 0, 0), zI x1, zI x2, zI x3, zU, zU, zU, zU, zU, zU, zU]) rfl (mm_kb bq_9_0 ((wp_5_0).trans ((wp_5_0).trans ((wp_3_1).trans ((wp_v2 mm_n_55 (mm_leq mm_m_55 (mm_lb rfl)) (mm_lb rfl) (mm_o1 hx)).trans rfl)))))
theorem r_9_0_4 (x1 : Int) (x2 : Int) (x3 : Int) (vx4 : mm_V) (vx5 : mm_V) (vx6 : mm_V) (vx7 : mm_V) (vx8 : mm_V) (vx9 : mm_V) (vx10 : mm_V) {hi : mm_Id → Int → Int} {dh : Int → Int} {nx ns : Int} {Q : mm_V → mm_H → Prop} (hx : 5275 ≤ nx) :
    mm_Wp 9 (bk_9_0.drop 4) [zR (1, 0, 0), zI x1, zI x2, zI x3, vx4, vx5, vx6, vx7, vx8, vx9, vx10] [zR mm_nul, zR (1, 0, 0)] (mm_z hi dh nx ns) Q =
    mm_Cl 56 [zR (1, 0, 0), zR mm_nul, zI x2] (mm_z hi dh nx ns) (fun r h3 => mm_Wp 9 (bk_9_0.drop 6) [zR (1, 0, 0), zI x1, zI x2, zI x3, vx4, vx5, vx6, vx7, vx8, vx9, vx10] (mm_push r []) h3 Q) :=
  (wp_3_2).trans ((wp_v3 mm_n_56 (mm_leq mm_m_56 (mm_lb rfl)) (mm_lb rfl) (mm_o1 hx)).trans rfl)
theorem r_9_0_4a (x1 : Int) (x2 : Int) (x3 : Int) (vx4 : mm_V) (vx5 : mm_V) (vx6 : mm_V) (vx7 : mm_V) (vx8 : mm_V) (vx9 : mm_V) (vx10 : mm_V) {ty0 : Int} {hi : mm_Id → Int → Int} {dh : Int → Int} {nx ns : Int} {Q : mm_V → mm_H → Prop} (hty0 : mm_isT ty0) (hx : 5275 ≤ nx) :
    mm_Wp 9 (bk_9_0.drop 4) [zR (1, 0, 0), zI x1, zI x2, zI x3, vx4, vx5, vx6, vx7, vx8, vx9, vx10] [zR (22, ty0, 0), zR (1, 0, 0)] (mm_z hi dh nx ns) Q =
    mm_Cl 56 [zR (1, 0, 0), zR (22, ty0, 0), zI x2] (mm_z hi dh nx ns) (fun r h3 => mm_Wp 9 (bk_9_0.drop 6) [zR (1, 0, 0), zI x1, zI x2, zI x3, vx4, vx5, vx6, vx7, vx8, vx9, vx10] (mm_push r []) h3 Q) :=
  (wp_3_2).trans ((wp_v3 mm_n_56 (mm_leq mm_m_56 (mm_lb rfl)) (mm_lb rfl) (mm_o1 hx)).trans rfl)
theorem r_9_0_6 (x1 : Int) (vx2 : mm_V) (x3 : Int) (vx4 : mm_V) (vx5 : mm_V) (vx6 : mm_V) (vx7 : mm_V) (vx8 : mm_V) (vx9 : mm_V) (vx10 : mm_V) {hi : mm_Id → Int → Int} {dh : Int → Int} {nx ns : Int} {Q : mm_V → mm_H → Prop} (hx : 5275 ≤ nx) :
    mm_Wp 9 (bk_9_0.drop 6) [zR (1, 0, 0), zI x1, vx2, zI x3, vx4, vx5, vx6, vx7, vx8, vx9, vx10] [zR mm_nul] (mm_z hi dh nx ns) Q =
    Q (zI (-1)) (mm_z hi dh nx ns) :=
  (wp_8 (l2 := [zR (1, 0, 0), zI x1, vx2, zI x3, zR mm_nul, vx5, vx6, vx7, vx8, vx9, vx10]) rfl).trans ((wp_5_4).trans ((wp_55n).trans ((wp_1).trans (wp_90))))
theorem r_9_0_6a (x1 : Int) (vx2 : mm_V) (x3 : Int) (vx4 : mm_V) (vx5 : mm_V) (vx6 : mm_V) (vx7 : mm_V) (vx8 : mm_V) (vx9 : mm_V) (vx10 : mm_V) {ty0 ny0 : Int} {hi : mm_Id → Int → Int} {dh : Int → Int} {nx ns : Int} {Q : mm_V → mm_H → Prop} (hty0 : mm_isT ty0) (hny0 : mm_isN ny0) (hx : 5275 ≤ nx) :
    mm_Wp 9 (bk_9_0.drop 6) [zR (1, 0, 0), zI x1, vx2, zI x3, vx4, vx5, vx6, vx7, vx8, vx9, vx10] [zR (24, ty0, ny0)] (mm_z hi dh nx ns) Q =
    (if x3 < 0 then mm_Wp 9 (mm_blk 9 2) [zR (1, 0, 0), zI x1, vx2, zI x3, zR (24, ty0, ny0), vx5, vx6, vx7, vx8, vx9, vx10] [] (mm_z hi dh nx ns) Q else (if 2160 < x3 then mm_Wp 9 (mm_blk 9 2) [zR (1, 0, 0), zI x1, vx2, zI x3, zR (24, ty0, ny0), vx5, vx6, vx7, vx8, vx9, vx10] [] (mm_z hi dh nx ns) Q else mm_Cl 53 [zR (1, 0, 0), zI x1] (mm_z hi dh nx ns) (fun r h3 => mm_Wp 9 (bk_9_3.drop 3) [zR (1, 0, 0), zI x1, vx2, zI x3, zR (24, ty0, ny0), vx5, vx6, vx7, vx8, vx9, vx10] (mm_push r []) h3 Q))) :=
  (wp_8 (l2 := [zR (1, 0, 0), zI x1, vx2, zI x3, zR (24, ty0, ny0), vx5, vx6, vx7, vx8, vx9, vx10]) rfl).trans ((wp_5_4).trans ((wp_55 (by decide)).trans (mm_kb bq_9_1 ((wp_3_3).trans ((wp_42).trans (mm_ic (rfl) ((wp_3_3).trans ((wp_1).trans ((wp_51).trans (mm_ic ((wp_0).trans (rfl)) (mm_kb bq_9_3 ((wp_5_0).trans ((wp_3_1).trans ((wp_v2 mm_n_53 (mm_leq mm_m_53 (mm_lb rfl)) (mm_lb rfl) (mm_o1 hx)).trans rfl))))))))))))))
theorem r_9_2 (vx0 : mm_V) (vx1 : mm_V) (vx2 : mm_V) (vx3 : mm_V) (vx4 : mm_V) (vx5 : mm_V) (vx6 : mm_V) (vx7 : mm_V) (vx8 : mm_V) (vx9 : mm_V) (vx10 : mm_V) {hi : mm_Id → Int → Int} {dh : Int → Int} {nx ns : Int} {Q : mm_V → mm_H → Prop} (hx : 5275 ≤ nx) :
    mm_Wp 9 (mm_blk 9 2) [vx0, vx1, vx2, vx3, vx4, vx5, vx6, vx7, vx8, vx9, vx10] [] (mm_z hi dh nx ns) Q =
    Q (zI (-2)) (mm_z hi dh nx ns) :=
  mm_kb bq_9_2 ((wp_1).trans (wp_90))
theorem r_9_3_3 (vx1 : mm_V) (vx2 : mm_V) (x3 : Int) {tx4 nx4 : Int} (vx5 : mm_V) (vx6 : mm_V) (vx7 : mm_V) (vx8 : mm_V) (vx9 : mm_V) (vx10 : mm_V) {hi : mm_Id → Int → Int} {dh : Int → Int} {nx ns : Int} {Q : mm_V → mm_H → Prop} (htx4 : mm_isT tx4) (hnx4 : mm_isN nx4) (hx : 5275 ≤ nx) :
    mm_Wp 9 (bk_9_3.drop 3) [zR (1, 0, 0), vx1, vx2, zI x3, zR (24, tx4, nx4), vx5, vx6, vx7, vx8, vx9, vx10] [zR mm_nul] (mm_z hi dh nx ns) Q =
    mm_Wp 9 (mm_blk 9 4) [zR (1, 0, 0), vx1, vx2, zI x3, zR (24, tx4, nx4), zR mm_nul, vx6, vx7, vx8, vx9, vx10] [] (mm_z hi dh nx ns) Q :=
  (wp_8 (l2 := [zR (1, 0, 0), vx1, vx2, zI x3, zR (24, tx4, nx4), zR mm_nul, vx6, vx7, vx8, vx9, vx10]) rfl).trans ((wp_5_5).trans ((wp_54n).trans (rfl)))
theorem r_9_3_3a (vx1 : mm_V) (vx2 : mm_V) (x3 : Int) {tx4 nx4 : Int} (vx5 : mm_V) (vx6 : mm_V) (vx7 : mm_V) (vx8 : mm_V) (vx9 : mm_V) (vx10 : mm_V) {ty0 : Int} {hi : mm_Id → Int → Int} {dh : Int → Int} {nx ns : Int} {Q : mm_V → mm_H → Prop} (htx4 : mm_isT tx4) (hnx4 : mm_isN nx4) (hty0 : mm_isD ty0) (hx : 5275 ≤ nx) :
    mm_Wp 9 (bk_9_3.drop 3) [zR (1, 0, 0), vx1, vx2, zI x3, zR (24, tx4, nx4), vx5, vx6, vx7, vx8, vx9, vx10] [zR (31, ty0, 0)] (mm_z hi dh nx ns) Q =
    (if (hi (24, tx4, nx4) 0) = 1 then mm_Cl 60 [zR (1, 0, 0), zR (24, tx4, nx4), zI 2] (mm_z hi dh nx ns) (fun r h3 => mm_Wp 9 (bk_9_5.drop 4) [zR (1, 0, 0), vx1, vx2, zI x3, zR (24, tx4, nx4), zR (31, ty0, 0), vx6, vx7, vx8, vx9, vx10] (mm_push r []) h3 Q) else mm_Wp 9 (mm_blk 9 4) [zR (1, 0, 0), vx1, vx2, zI x3, zR (24, tx4, nx4), zR (31, ty0, 0), vx6, vx7, vx8, vx9, vx10] [] (mm_z hi dh nx ns) Q) :=
  (wp_8 (l2 := [zR (1, 0, 0), vx1, vx2, zI x3, zR (24, tx4, nx4), zR (31, ty0, 0), vx6, vx7, vx8, vx9, vx10]) rfl).trans ((wp_5_5).trans ((wp_54 (by decide)).trans ((wp_5_4).trans ((wp_60 (by decide) (mm_o24 htx4 hnx4 hx)).trans ((wp_1).trans ((wp_46).trans (mm_ic (mm_kb bq_9_5 ((wp_5_0).trans ((wp_5_4).trans ((wp_1).trans ((wp_v3 mm_n_60 (mm_leq mm_m_60 (mm_lb rfl)) (mm_lb rfl) (mm_o1 hx)).trans rfl))))) ((wp_0).trans (rfl)))))))))
theorem r_9_4 (vx0 : mm_V) (vx1 : mm_V) (vx2 : mm_V) (vx3 : mm_V) (vx4 : mm_V) (vx5 : mm_V) (vx6 : mm_V) (vx7 : mm_V) (vx8 : mm_V) (vx9 : mm_V) (vx10 : mm_V) {hi : mm_Id → Int → Int} {dh : Int → Int} {nx ns : Int} {Q : mm_V → mm_H → Prop} (hx : 5275 ≤ nx) :
    mm_Wp 9 (mm_blk 9 4) [vx0, vx1, vx2, vx3, vx4, vx5, vx6, vx7, vx8, vx9, vx10] [] (mm_z hi dh nx ns) Q =
    Q (zI (-3)) (mm_z hi dh nx ns) :=
  mm_kb bq_9_4 ((wp_1).trans (wp_90))
theorem r_9_5_4 (vx1 : mm_V) (vx2 : mm_V) (x3 : Int) {tx4 nx4 : Int} {tx5 : Int} (vx6 : mm_V) (vx7 : mm_V) (vx8 : mm_V) (vx9 : mm_V) (vx10 : mm_V) (y0 : Int) {hi : mm_Id → Int → Int} {dh : Int → Int} {nx ns : Int} {Q : mm_V → mm_H → Prop} (htx4 : mm_isT tx4) (hnx4 : mm_isN nx4) (htx5 : mm_isD tx5) (hx : 5275 ≤ nx) :
    mm_Wp 9 (bk_9_5.drop 4) [zR (1, 0, 0), vx1, vx2, zI x3, zR (24, tx4, nx4), zR (31, tx5, 0), vx6, vx7, vx8, vx9, vx10] [zI y0] (mm_z hi dh nx ns) Q =
    (if y0 = 0 then Q (zI (-5)) (mm_z hi dh nx ns) else (if x3 < (hi (24, tx4, nx4) 1) then (if (Int.tmod x3 60) = 0 then mm_Wp 9 (mm_blk 9 7) [zR (1, 0, 0), vx1, vx2, zI x3, zR (24, tx4, nx4), zR (31, tx5, 0), zI (hi (24, tx4, nx4) 1), zI (mm_w (Int.tdiv (mm_w ((mm_w (x3 + 60)) - 1)) 60)), vx8, vx9, vx10] [] (mm_z hi dh nx ns) Q else ((0 ≤ (mm_w (Int.tdiv x3 60)) ∧ (mm_w (Int.tdiv x3 60)) < 36) ∧ (if (hi (27, tx4, nx4) (mm_w (Int.tdiv x3 60))) = 0 then mm_Wp 9 (mm_blk 9 7) [zR (1, 0, 0), vx1, vx2, zI x3, zR (24, tx4, nx4), zR (31, tx5, 0), zI (hi (24, tx4, nx4) 1), zI (mm_w (Int.tdiv (mm_w ((mm_w (x3 + 60)) - 1)) 60)), vx8, vx9, vx10] [] (mm_z hi dh nx ns) Q else mm_Wp 9 (mm_blk 9 8) [zR (1, 0, 0), vx1, vx2, zI x3, zR (24, tx4, nx4), zR (31, tx5, 0), zI (hi (24, tx4, nx4) 1), zI (mm_w (Int.tdiv (mm_w ((mm_w (x3 + 60)) - 1)) 60)), vx8, vx9, vx10] [zI 1] (mm_z hi dh nx ns) Q))) else mm_Wp 9 (mm_blk 9 7) [zR (1, 0, 0), vx1, vx2, zI x3, zR (24, tx4, nx4), zR (31, tx5, 0), zI (hi (24, tx4, nx4) 1), zI (mm_w (Int.tdiv (mm_w ((mm_w (x3 + 60)) - 1)) 60)), vx8, vx9, vx10] [] (mm_z hi dh nx ns) Q)) :=
  (wp_41).trans (mm_ic ((wp_1).trans (wp_90)) (mm_kb bq_9_6 ((wp_5_4).trans ((wp_60 (by decide) (mm_o24 htx4 hnx4 hx)).trans ((wp_6 (l2 := [zR (1, 0, 0), vx1, vx2, zI x3, zR (24, tx4, nx4), zR (31, tx5, 0), zI (hi (24, tx4, nx4) 1), vx7, vx8, vx9, vx10]) rfl).trans ((wp_3_3).trans ((wp_1).trans ((wp_10).trans ((wp_1).trans ((wp_11).trans ((wp_1).trans ((wp_13 (by decide)).trans ((wp_6 (l2 := [zR (1, 0, 0), vx1, vx2, zI x3, zR (24, tx4, nx4), zR (31, tx5, 0), zI (hi (24, tx4, nx4) 1), zI (mm_w (Int.tdiv (mm_w ((mm_w (x3 + 60)) - 1)) 60)), vx8, vx9, vx10]) rfl).trans ((wp_3_3).trans ((wp_3_6).trans ((wp_49).trans (mm_ic ((wp_3_3).trans ((wp_1).trans ((wp_14 (by decide)).trans ((wp_40).trans (mm_ic (rfl) ((wp_5_4).trans ((wp_62 (by decide) (mm_o24 htx4 hnx4 hx) (mm_r24_10 htx4 hnx4)).trans ((wp_3_3).trans ((wp_1).trans ((wp_13 (by decide)).trans ((wp_70 (mm_q27 htx4 hnx4 hx)).trans (mm_ae ((wp_40).trans (mm_ic (rfl) ((wp_1).trans ((wp_56).trans (rfl))))))))))))))))) (rfl))))))))))))))))))
theorem r_9_7 (vx1 : mm_V) (vx2 : mm_V) (x3 : Int) {tx4 nx4 : Int} {tx5 : Int} (x6 : Int) (x7 : Int) (vx8 : mm_V) (vx9 : mm_V) (vx10 : mm_V) {hi : mm_Id → Int → Int} {dh : Int → Int} {nx ns : Int} {Q : mm_V → mm_H → Prop} (htx4 : mm_isT tx4) (hnx4 : mm_isN nx4) (htx5 : mm_isD tx5) (hx : 5275 ≤ nx) :
    mm_Wp 9 (mm_blk 9 7) [zR (1, 0, 0), vx1, vx2, zI x3, zR (24, tx4, nx4), zR (31, tx5, 0), zI x6, zI x7, vx8, vx9, vx10] [] (mm_z hi dh nx ns) Q =
    mm_Wp 9 (mm_blk 9 8) [zR (1, 0, 0), vx1, vx2, zI x3, zR (24, tx4, nx4), zR (31, tx5, 0), zI x6, zI x7, vx8, vx9, vx10] [zI 0] (mm_z hi dh nx ns) Q :=
  mm_kb bq_9_7 ((wp_1).trans ((wp_0).trans (rfl)))
theorem r_9_8 (vx1 : mm_V) (vx2 : mm_V) (x3 : Int) {tx4 nx4 : Int} {tx5 : Int} (x6 : Int) (x7 : Int) (vx8 : mm_V) (vx9 : mm_V) (vx10 : mm_V) (y0 : Int) {hi : mm_Id → Int → Int} {dh : Int → Int} {nx ns : Int} {Q : mm_V → mm_H → Prop} (htx4 : mm_isT tx4) (hnx4 : mm_isN nx4) (htx5 : mm_isD tx5) (hx : 5275 ≤ nx) :
    mm_Wp 9 (mm_blk 9 8) [zR (1, 0, 0), vx1, vx2, zI x3, zR (24, tx4, nx4), zR (31, tx5, 0), zI x6, zI x7, vx8, vx9, vx10] [zI y0] (mm_z hi dh nx ns) Q =
    (if y0 = 0 then mm_Wp 9 (mm_blk 9 9) [zR (1, 0, 0), vx1, vx2, zI x3, zR (24, tx4, nx4), zR (31, tx5, 0), zI x6, zI x7, zI y0, vx9, vx10] [] (mm_z hi dh nx ns) Q else ((0 ≤ (mm_w (Int.tdiv x3 60)) ∧ (mm_w (Int.tdiv x3 60)) < 36) ∧ mm_Cl 126 [zR (15, 0, 0), zI (hi (27, tx4, nx4) (mm_w (Int.tdiv x3 60)))] (mm_z hi dh nx ns) (fun r h3 => mm_Wp 9 (bk_9_8.drop 12) [zR (1, 0, 0), vx1, vx2, zI x3, zR (24, tx4, nx4), zR (31, tx5, 0), zI x6, zI x7, zI y0, vx9, vx10] (mm_push r []) h3 Q))) :=
  mm_kb bq_9_8 ((wp_6 (l2 := [zR (1, 0, 0), vx1, vx2, zI x3, zR (24, tx4, nx4), zR (31, tx5, 0), zI x6, zI x7, zI y0, vx9, vx10]) rfl).trans ((wp_3_8).trans ((wp_40).trans (mm_ic (rfl) ((wp_5_0).trans ((wp_62 (by decide) (mm_o1 hx) mm_r1_0).trans ((wp_5_4).trans ((wp_62 (by decide) (mm_o24 htx4 hnx4 hx) (mm_r24_10 htx4 hnx4)).trans ((wp_3_3).trans ((wp_1).trans ((wp_13 (by decide)).trans ((wp_70 (mm_q27 htx4 hnx4 hx)).trans (mm_ae ((wp_v2 mm_n_126 (mm_leq mm_m_126 (mm_lb rfl)) (mm_lb rfl) (mm_o15 hx)).trans rfl))))))))))))))
theorem r_9_9 (vx1 : mm_V) (vx2 : mm_V) (x3 : Int) {tx4 nx4 : Int} {tx5 : Int} (x6 : Int) (x7 : Int) (x8 : Int) (vx9 : mm_V) (vx10 : mm_V) {hi : mm_Id → Int → Int} {dh : Int → Int} {nx ns : Int} {Q : mm_V → mm_H → Prop} (htx4 : mm_isT tx4) (hnx4 : mm_isN nx4) (htx5 : mm_isD tx5) (hx : 5275 ≤ nx) :
    mm_Wp 9 (mm_blk 9 9) [zR (1, 0, 0), vx1, vx2, zI x3, zR (24, tx4, nx4), zR (31, tx5, 0), zI x6, zI x7, zI x8, vx9, vx10] [] (mm_z hi dh nx ns) Q =
    mm_Wp 9 (mm_blk 9 10) [zR (1, 0, 0), vx1, vx2, zI x3, zR (24, tx4, nx4), zR (31, tx5, 0), zI x6, zI x7, zI x8, vx9, vx10] [zI 0] (mm_z hi dh nx ns) Q :=
  mm_kb bq_9_9 ((wp_1).trans ((wp_0).trans (rfl)))
theorem r_9_8_12 (vx1 : mm_V) (vx2 : mm_V) (x3 : Int) {tx4 nx4 : Int} {tx5 : Int} (x6 : Int) (x7 : Int) (x8 : Int) (vx9 : mm_V) (vx10 : mm_V) (y0 : Int) {hi : mm_Id → Int → Int} {dh : Int → Int} {nx ns : Int} {Q : mm_V → mm_H → Prop} (htx4 : mm_isT tx4) (hnx4 : mm_isN nx4) (htx5 : mm_isD tx5) (hx : 5275 ≤ nx) :
    mm_Wp 9 (bk_9_8.drop 12) [zR (1, 0, 0), vx1, vx2, zI x3, zR (24, tx4, nx4), zR (31, tx5, 0), zI x6, zI x7, zI x8, vx9, vx10] [zI y0] (mm_z hi dh nx ns) Q =
    (if y0 = 0 then mm_Wp 9 (mm_blk 9 10) [zR (1, 0, 0), vx1, vx2, zI x3, zR (24, tx4, nx4), zR (31, tx5, 0), zI x6, zI x7, zI x8, vx9, vx10] [zI 1] (mm_z hi dh nx ns) Q else mm_Wp 9 (mm_blk 9 9) [zR (1, 0, 0), vx1, vx2, zI x3, zR (24, tx4, nx4), zR (31, tx5, 0), zI x6, zI x7, zI x8, vx9, vx10] [] (mm_z hi dh nx ns) Q) :=
  (wp_41).trans (mm_ic ((wp_1).trans ((wp_56).trans (rfl))) (rfl))
theorem r_9_10 (vx1 : mm_V) (vx2 : mm_V) (x3 : Int) {tx4 nx4 : Int} {tx5 : Int} (x6 : Int) (x7 : Int) (x8 : Int) (vx9 : mm_V) (vx10 : mm_V) (y0 : Int) {hi : mm_Id → Int → Int} {dh : Int → Int} {nx ns : Int} {Q : mm_V → mm_H → Prop} (htx4 : mm_isT tx4) (hnx4 : mm_isN nx4) (htx5 : mm_isD tx5) (hx : 5275 ≤ nx) :
    mm_Wp 9 (mm_blk 9 10) [zR (1, 0, 0), vx1, vx2, zI x3, zR (24, tx4, nx4), zR (31, tx5, 0), zI x6, zI x7, zI x8, vx9, vx10] [zI y0] (mm_z hi dh nx ns) Q =
    mm_Wp 9 (mm_blk 9 11) [zR (1, 0, 0), vx1, vx2, zI x3, zR (24, tx4, nx4), zR (31, tx5, 0), zI x6, zI x7, zI x8, zI y0, zI x7] [] (mm_z hi dh nx ns) Q :=
  mm_kb bq_9_10 ((wp_6 (l2 := [zR (1, 0, 0), vx1, vx2, zI x3, zR (24, tx4, nx4), zR (31, tx5, 0), zI x6, zI x7, zI x8, zI y0, vx10]) rfl).trans ((wp_3_7).trans ((wp_6 (l2 := [zR (1, 0, 0), vx1, vx2, zI x3, zR (24, tx4, nx4), zR (31, tx5, 0), zI x6, zI x7, zI x8, zI y0, zI x7]) rfl).trans ((wp_0).trans (rfl)))))
theorem r_9_11 (vx1 : mm_V) (vx2 : mm_V) (x3 : Int) {tx4 nx4 : Int} {tx5 : Int} (x6 : Int) (x7 : Int) (x8 : Int) (x9 : Int) (x10 : Int) {hi : mm_Id → Int → Int} {dh : Int → Int} {nx ns : Int} {Q : mm_V → mm_H → Prop} (htx4 : mm_isT tx4) (hnx4 : mm_isN nx4) (htx5 : mm_isD tx5) (hx : 5275 ≤ nx) :
    mm_Wp 9 (mm_blk 9 11) [zR (1, 0, 0), vx1, vx2, zI x3, zR (24, tx4, nx4), zR (31, tx5, 0), zI x6, zI x7, zI x8, zI x9, zI x10] [] (mm_z hi dh nx ns) Q =
    (if x10 < 36 then ((0 ≤ x10 ∧ x10 < 36) ∧ mm_Cl 126 [zR (15, 0, 0), zI (hi (27, tx4, nx4) x10)] (mm_z hi dh nx ns) (fun r h3 => mm_Wp 9 (bk_9_11.drop 11) [zR (1, 0, 0), vx1, vx2, zI x3, zR (24, tx4, nx4), zR (31, tx5, 0), zI x6, zI x7, zI x8, zI x9, zI x10] (mm_push r [zI x9]) h3 Q)) else (if 400 < (mm_w ((hi (15, 0, 0) 7) + x9)) then Q (zI (-4)) (mm_z hi dh nx ns) else mm_Cl 109 [zR (24, tx4, nx4), zI x7, zR (15, 0, 0), zI 0] (mm_z hi dh nx ns) (fun r h3 => mm_Wp 9 (bk_9_15.drop 6) [zR (1, 0, 0), vx1, vx2, zI x3, zR (24, tx4, nx4), zR (31, tx5, 0), zI x6, zI x7, zI x8, zI x9, zI x10] (mm_push r []) h3 Q))) :=
  mm_kb bq_9_11 ((wp_3_10).trans ((wp_1).trans ((wp_49).trans (mm_ic ((wp_3_9).trans ((wp_5_0).trans ((wp_62 (by decide) (mm_o1 hx) mm_r1_0).trans ((wp_5_4).trans ((wp_62 (by decide) (mm_o24 htx4 hnx4 hx) (mm_r24_10 htx4 hnx4)).trans ((wp_3_10).trans ((wp_70 (mm_q27 htx4 hnx4 hx)).trans (mm_ae ((wp_v2 mm_n_126 (mm_leq mm_m_126 (mm_lb rfl)) (mm_lb rfl) (mm_o15 hx)).trans rfl))))))))) (mm_kb bq_9_14 ((wp_5_0).trans ((wp_62 (by decide) (mm_o1 hx) mm_r1_0).trans ((wp_60 (by decide) (mm_o15 hx)).trans ((wp_3_9).trans ((wp_10).trans ((wp_1).trans ((wp_51).trans (mm_ic ((wp_1).trans (wp_90)) (mm_kb bq_9_15 ((wp_5_4).trans ((wp_3_7).trans ((wp_5_0).trans ((wp_62 (by decide) (mm_o1 hx) mm_r1_0).trans ((wp_1).trans ((wp_v4 mm_n_109 (mm_leq mm_m_109 (mm_lb rfl)) (mm_lb rfl) (mm_o24 htx4 hnx4 hx)).trans rfl))))))))))))))))))))
theorem r_9_15_6 (vx1 : mm_V) (vx2 : mm_V) (x3 : Int) {tx4 nx4 : Int} {tx5 : Int} (x6 : Int) (vx7 : mm_V) (x8 : Int) (vx9 : mm_V) (vx10 : mm_V) {hi : mm_Id → Int → Int} {dh : Int → Int} {nx ns : Int} {Q : mm_V → mm_H → Prop} (htx4 : mm_isT tx4) (hnx4 : mm_isN nx4) (htx5 : mm_isD tx5) (hx : 5275 ≤ nx) :
    mm_Wp 9 (bk_9_15.drop 6) [zR (1, 0, 0), vx1, vx2, zI x3, zR (24, tx4, nx4), zR (31, tx5, 0), zI x6, vx7, zI x8, vx9, vx10] [] (mm_z hi dh nx ns) Q =
    (if x8 = 0 then mm_Wp 9 (mm_blk 9 16) [zR (1, 0, 0), vx1, vx2, zI x3, zR (24, tx4, nx4), zR (31, tx5, 0), zI x6, vx7, zI x8, vx9, vx10] [] (mm_z hi dh nx ns) Q else mm_Cl 107 [zR (24, tx4, nx4), zI (mm_w (Int.tdiv x3 60)), zR (15, 0, 0)] (mm_z hi dh nx ns) (fun r h3 => mm_Wp 9 (bk_9_15.drop 15) [zR (1, 0, 0), vx1, vx2, zI x3, zR (24, tx4, nx4), zR (31, tx5, 0), zI x6, vx7, zI x8, vx9, vx10] (mm_push r []) h3 Q)) :=
  (wp_3_8).trans ((wp_40).trans (mm_ic (rfl) ((wp_5_4).trans ((wp_3_3).trans ((wp_1).trans ((wp_13 (by decide)).trans ((wp_5_0).trans ((wp_62 (by decide) (mm_o1 hx) mm_r1_0).trans ((wp_v3 mm_n_107 (mm_leq mm_m_107 (mm_lb rfl)) (mm_lb rfl) (mm_o24 htx4 hnx4 hx)).trans rfl)))))))))
theorem r_9_11_11 (vx1 : mm_V) (vx2 : mm_V) (x3 : Int) {tx4 nx4 : Int} {tx5 : Int} (x6 : Int) (x7 : Int) (x8 : Int) (vx9 : mm_V) (x10 : Int) (y0 : Int) (y1 : Int) {hi : mm_Id → Int → Int} {dh : Int → Int} {nx ns : Int} {Q : mm_V → mm_H → Prop} (htx4 : mm_isT tx4) (hnx4 : mm_isN nx4) (htx5 : mm_isD tx5) (hx : 5275 ≤ nx) :
    mm_Wp 9 (bk_9_11.drop 11) [zR (1, 0, 0), vx1, vx2, zI x3, zR (24, tx4, nx4), zR (31, tx5, 0), zI x6, zI x7, zI x8, vx9, zI x10] [zI y0, zI y1] (mm_z hi dh nx ns) Q =
    (if y0 = 0 then mm_Wp 9 (mm_blk 9 13) [zR (1, 0, 0), vx1, vx2, zI x3, zR (24, tx4, nx4), zR (31, tx5, 0), zI x6, zI x7, zI x8, vx9, zI x10] [zI 0, zI y1] (mm_z hi dh nx ns) Q else mm_Wp 9 (mm_blk 9 13) [zR (1, 0, 0), vx1, vx2, zI x3, zR (24, tx4, nx4), zR (31, tx5, 0), zI x6, zI x7, zI x8, vx9, zI x10] [zI 1, zI y1] (mm_z hi dh nx ns) Q) :=
  (wp_40).trans (mm_ic (mm_kb bq_9_12 ((wp_1).trans ((wp_0).trans (rfl)))) ((wp_1).trans ((wp_56).trans (rfl))))
theorem r_9_16 (vx1 : mm_V) (vx2 : mm_V) (x3 : Int) {tx4 nx4 : Int} {tx5 : Int} (x6 : Int) (vx7 : mm_V) (vx8 : mm_V) (vx9 : mm_V) (vx10 : mm_V) {hi : mm_Id → Int → Int} {dh : Int → Int} {nx ns : Int} {Q : mm_V → mm_H → Prop} (htx4 : mm_isT tx4) (hnx4 : mm_isN nx4) (htx5 : mm_isD tx5) (hx : 5275 ≤ nx) :
    mm_Wp 9 (mm_blk 9 16) [zR (1, 0, 0), vx1, vx2, zI x3, zR (24, tx4, nx4), zR (31, tx5, 0), zI x6, vx7, vx8, vx9, vx10] [] (mm_z hi dh nx ns) Q =
    mm_Cl 63 [zR (1, 0, 0), zR (31, tx5, 0)] (mm_z (mm_up hi (24, tx4, nx4) 1 x3) dh nx ns) (fun r h3 => mm_Wp 9 (bk_9_16.drop 6) [zR (1, 0, 0), vx1, vx2, zI x3, zR (24, tx4, nx4), zR (31, tx5, 0), zI x6, vx7, vx8, vx9, vx10] (mm_push r []) h3 Q) :=
  mm_kb bq_9_16 ((wp_5_4).trans ((wp_3_3).trans ((wp_63 (mm_o24 htx4 hnx4 hx)).trans ((wp_5_0).trans ((wp_5_5).trans ((wp_v2 mm_n_63 (mm_leq mm_m_63 (mm_lb rfl)) (mm_lb rfl) (mm_o1 hx)).trans rfl))))))
theorem r_9_15_15 (vx1 : mm_V) (vx2 : mm_V) (x3 : Int) {tx4 nx4 : Int} {tx5 : Int} (x6 : Int) (vx7 : mm_V) (vx8 : mm_V) (vx9 : mm_V) (vx10 : mm_V) {hi : mm_Id → Int → Int} {dh : Int → Int} {nx ns : Int} {Q : mm_V → mm_H → Prop} (htx4 : mm_isT tx4) (hnx4 : mm_isN nx4) (htx5 : mm_isD tx5) (hx : 5275 ≤ nx) :
    mm_Wp 9 (bk_9_15.drop 15) [zR (1, 0, 0), vx1, vx2, zI x3, zR (24, tx4, nx4), zR (31, tx5, 0), zI x6, vx7, vx8, vx9, vx10] [] (mm_z hi dh nx ns) Q =
    ((0 ≤ (mm_w (Int.tdiv x3 60)) ∧ (mm_w (Int.tdiv x3 60)) < 36) ∧ mm_Cl 132 [zR (15, 0, 0), zI (hi (27, tx4, nx4) (mm_w (Int.tdiv x3 60))), zI (Int.tmod x3 60)] (mm_z hi dh nx ns) (fun r h3 => mm_Wp 9 (bk_9_15.drop 27) [zR (1, 0, 0), vx1, vx2, zI x3, zR (24, tx4, nx4), zR (31, tx5, 0), zI x6, vx7, vx8, vx9, vx10] (mm_push r []) h3 Q)) :=
  (wp_5_0).trans ((wp_62 (by decide) (mm_o1 hx) mm_r1_0).trans ((wp_5_4).trans ((wp_62 (by decide) (mm_o24 htx4 hnx4 hx) (mm_r24_10 htx4 hnx4)).trans ((wp_3_3).trans ((wp_1).trans ((wp_13 (by decide)).trans ((wp_70 (mm_q27 htx4 hnx4 hx)).trans (mm_ae ((wp_3_3).trans ((wp_1).trans ((wp_14 (by decide)).trans ((wp_v3 mm_n_132 (mm_leq mm_m_132 (mm_lb rfl)) (mm_lb rfl) (mm_o15 hx)).trans rfl))))))))))))
theorem r_9_13 (vx1 : mm_V) (vx2 : mm_V) (x3 : Int) {tx4 nx4 : Int} {tx5 : Int} (x6 : Int) (x7 : Int) (x8 : Int) (vx9 : mm_V) (x10 : Int) (y0 : Int) (y1 : Int) {hi : mm_Id → Int → Int} {dh : Int → Int} {nx ns : Int} {Q : mm_V → mm_H → Prop} (htx4 : mm_isT tx4) (hnx4 : mm_isN nx4) (htx5 : mm_isD tx5) (hx : 5275 ≤ nx) :
    mm_Wp 9 (mm_blk 9 13) [zR (1, 0, 0), vx1, vx2, zI x3, zR (24, tx4, nx4), zR (31, tx5, 0), zI x6, zI x7, zI x8, vx9, zI x10] [zI y0, zI y1] (mm_z hi dh nx ns) Q =
    mm_Wp 9 (mm_blk 9 11) [zR (1, 0, 0), vx1, vx2, zI x3, zR (24, tx4, nx4), zR (31, tx5, 0), zI x6, zI x7, zI x8, zI (mm_w (y1 - y0)), zI (mm_w (x10 + 1))] [] (mm_z hi dh nx ns) Q :=
  mm_kb bq_9_13 ((wp_11).trans ((wp_6 (l2 := [zR (1, 0, 0), vx1, vx2, zI x3, zR (24, tx4, nx4), zR (31, tx5, 0), zI x6, zI x7, zI x8, zI (mm_w (y1 - y0)), zI x10]) rfl).trans ((wp_9 (l2 := [zR (1, 0, 0), vx1, vx2, zI x3, zR (24, tx4, nx4), zR (31, tx5, 0), zI x6, zI x7, zI x8, zI (mm_w (y1 - y0)), zI (mm_w (x10 + 1))]) rfl rfl).trans ((wp_56).trans (rfl)))))
theorem r_9_16_6 (vx0 : mm_V) (vx1 : mm_V) (vx2 : mm_V) (vx3 : mm_V) (vx4 : mm_V) (vx5 : mm_V) (x6 : Int) (vx7 : mm_V) (vx8 : mm_V) (vx9 : mm_V) (vx10 : mm_V) {hi : mm_Id → Int → Int} {dh : Int → Int} {nx ns : Int} {Q : mm_V → mm_H → Prop} (hx : 5275 ≤ nx) :
    mm_Wp 9 (bk_9_16.drop 6) [vx0, vx1, vx2, vx3, vx4, vx5, zI x6, vx7, vx8, vx9, vx10] [] (mm_z hi dh nx ns) Q =
    Q (zI x6) (mm_z hi dh nx ns) :=
  (wp_3_6).trans (wp_90)
theorem r_9_15_27 (vx1 : mm_V) (vx2 : mm_V) (x3 : Int) {tx4 nx4 : Int} {tx5 : Int} (x6 : Int) (vx7 : mm_V) (vx8 : mm_V) (vx9 : mm_V) (vx10 : mm_V) {hi : mm_Id → Int → Int} {dh : Int → Int} {nx ns : Int} {Q : mm_V → mm_H → Prop} (htx4 : mm_isT tx4) (hnx4 : mm_isN nx4) (htx5 : mm_isD tx5) (hx : 5275 ≤ nx) :
    mm_Wp 9 (bk_9_15.drop 27) [zR (1, 0, 0), vx1, vx2, zI x3, zR (24, tx4, nx4), zR (31, tx5, 0), zI x6, vx7, vx8, vx9, vx10] [] (mm_z hi dh nx ns) Q =
    mm_Wp 9 (mm_blk 9 16) [zR (1, 0, 0), vx1, vx2, zI x3, zR (24, tx4, nx4), zR (31, tx5, 0), zI x6, vx7, vx8, vx9, vx10] [] (mm_z hi dh nx ns) Q :=
  (wp_0).trans (rfl)
/-- PoolHouse.link(IIII)I -/
theorem bq_10_0 : mm_blk 10 0 = bk_10_0 := by decide +kernel
theorem bq_10_1 : mm_blk 10 1 = bk_10_1 := by decide +kernel
theorem bq_10_2 : mm_blk 10 2 = bk_10_2 := by decide +kernel
theorem bq_10_3 : mm_blk 10 3 = bk_10_3 := by decide +kernel
theorem bq_10_4 : mm_blk 10 4 = bk_10_4 := by decide +kernel
theorem bq_10_5 : mm_blk 10 5 = bk_10_5 := by decide +kernel
theorem bq_10_6 : mm_blk 10 6 = bk_10_6 := by decide +kernel
theorem bq_10_7 : mm_blk 10 7 = bk_10_7 := by decide +kernel
theorem bq_10_8 : mm_blk 10 8 = bk_10_8 := by decide +kernel
theorem bq_10_9 : mm_blk 10 9 = bk_10_9 := by decide +kernel
theorem r_10_e (x1 : Int) (x2 : Int) (x3 : Int) (x4 : Int) {hi : mm_Id → Int → Int} {dh : Int → Int} {nx ns : Int} {Q : mm_V → mm_H → Prop} (hx : 5275 ≤ nx) :
    mm_Cl 10 [zR (1, 0, 0), zI x1, zI x2, zI x3, zI x4] (mm_z hi dh nx ns) Q =
    mm_Cl 55 [zR (1, 0, 0), zI x1] (mm_z hi dh nx ns) (fun r h3 => mm_Wp 10 (bk_10_0.drop 3) [zR (1, 0, 0), zI x1, zI x2, zI x3, zI x4, zU, zU, zU, zU] (mm_push r []) h3 Q) :=
  mm_ce (l2 := [zR (1, 0, 0), zI x1, zI x2, zI x3, zI x4, zU, zU, zU, zU]) rfl (mm_kb bq_10_0 ((wp_5_0).trans ((wp_3_1).trans ((wp_v2 mm_n_55 (mm_leq mm_m_55 (mm_lb rfl)) (mm_lb rfl) (mm_o1 hx)).trans rfl))))
theorem r_10_0_3 (x1 : Int) (x2 : Int) (x3 : Int) (x4 : Int) (vx5 : mm_V) (vx6 : mm_V) (vx7 : mm_V) (vx8 : mm_V) {hi : mm_Id → Int → Int} {dh : Int → Int} {nx ns : Int} {Q : mm_V → mm_H → Prop} (hx : 5275 ≤ nx) :
    mm_Wp 10 (bk_10_0.drop 3) [zR (1, 0, 0), zI x1, zI x2, zI x3, zI x4, vx5, vx6, vx7, vx8] [zR mm_nul] (mm_z hi dh nx ns) Q =
    mm_Cl 56 [zR (1, 0, 0), zR mm_nul, zI x2] (mm_z hi dh nx ns) (fun r h3 => mm_Wp 10 (bk_10_0.drop 8) [zR (1, 0, 0), zI x1, zI x2, zI x3, zI x4, zR mm_nul, vx6, vx7, vx8] (mm_push r []) h3 Q) :=
  (wp_8 (l2 := [zR (1, 0, 0), zI x1, zI x2, zI x3, zI x4, zR mm_nul, vx6, vx7, vx8]) rfl).trans ((wp_5_0).trans ((wp_5_5).trans ((wp_3_2).trans ((wp_v3 mm_n_56 (mm_leq mm_m_56 (mm_lb rfl)) (mm_lb rfl) (mm_o1 hx)).trans rfl))))
theorem r_10_0_3a (x1 : Int) (x2 : Int) (x3 : Int) (x4 : Int) (vx5 : mm_V) (vx6 : mm_V) (vx7 : mm_V) (vx8 : mm_V) {ty0 : Int} {hi : mm_Id → Int → Int} {dh : Int → Int} {nx ns : Int} {Q : mm_V → mm_H → Prop} (hty0 : mm_isT ty0) (hx : 5275 ≤ nx) :
    mm_Wp 10 (bk_10_0.drop 3) [zR (1, 0, 0), zI x1, zI x2, zI x3, zI x4, vx5, vx6, vx7, vx8] [zR (22, ty0, 0)] (mm_z hi dh nx ns) Q =
    mm_Cl 56 [zR (1, 0, 0), zR (22, ty0, 0), zI x2] (mm_z hi dh nx ns) (fun r h3 => mm_Wp 10 (bk_10_0.drop 8) [zR (1, 0, 0), zI x1, zI x2, zI x3, zI x4, zR (22, ty0, 0), vx6, vx7, vx8] (mm_push r []) h3 Q) :=
  (wp_8 (l2 := [zR (1, 0, 0), zI x1, zI x2, zI x3, zI x4, zR (22, ty0, 0), vx6, vx7, vx8]) rfl).trans ((wp_5_0).trans ((wp_5_5).trans ((wp_3_2).trans ((wp_v3 mm_n_56 (mm_leq mm_m_56 (mm_lb rfl)) (mm_lb rfl) (mm_o1 hx)).trans rfl))))
theorem r_10_0_8 (x1 : Int) (x2 : Int) (x3 : Int) (x4 : Int) (vx6 : mm_V) (vx7 : mm_V) (vx8 : mm_V) {hi : mm_Id → Int → Int} {dh : Int → Int} {nx ns : Int} {Q : mm_V → mm_H → Prop} (hx : 5275 ≤ nx) :
    mm_Wp 10 (bk_10_0.drop 8) [zR (1, 0, 0), zI x1, zI x2, zI x3, zI x4, zR mm_nul, vx6, vx7, vx8] [zR mm_nul] (mm_z hi dh nx ns) Q =
    mm_Cl 56 [zR (1, 0, 0), zR mm_nul, zI x3] (mm_z hi dh nx ns) (fun r h3 => mm_Wp 10 (bk_10_0.drop 13) [zR (1, 0, 0), zI x1, zI x2, zI x3, zI x4, zR mm_nul, zR mm_nul, vx7, vx8] (mm_push r []) h3 Q) :=
  (wp_8 (l2 := [zR (1, 0, 0), zI x1, zI x2, zI x3, zI x4, zR mm_nul, zR mm_nul, vx7, vx8]) rfl).trans ((wp_5_0).trans ((wp_5_5).trans ((wp_3_3).trans ((wp_v3 mm_n_56 (mm_leq mm_m_56 (mm_lb rfl)) (mm_lb rfl) (mm_o1 hx)).trans rfl))))
theorem r_10_0_8a (x1 : Int) (x2 : Int) (x3 : Int) (x4 : Int) {tx5 : Int} (vx6 : mm_V) (vx7 : mm_V) (vx8 : mm_V) {hi : mm_Id → Int → Int} {dh : Int → Int} {nx ns : Int} {Q : mm_V → mm_H → Prop} (htx5 : mm_isT tx5) (hx : 5275 ≤ nx) :
    mm_Wp 10 (bk_10_0.drop 8) [zR (1, 0, 0), zI x1, zI x2, zI x3, zI x4, zR (22, tx5, 0), vx6, vx7, vx8] [zR mm_nul] (mm_z hi dh nx ns) Q =
    mm_Cl 56 [zR (1, 0, 0), zR (22, tx5, 0), zI x3] (mm_z hi dh nx ns) (fun r h3 => mm_Wp 10 (bk_10_0.drop 13) [zR (1, 0, 0), zI x1, zI x2, zI x3, zI x4, zR (22, tx5, 0), zR mm_nul, vx7, vx8] (mm_push r []) h3 Q) :=
  (wp_8 (l2 := [zR (1, 0, 0), zI x1, zI x2, zI x3, zI x4, zR (22, tx5, 0), zR mm_nul, vx7, vx8]) rfl).trans ((wp_5_0).trans ((wp_5_5).trans ((wp_3_3).trans ((wp_v3 mm_n_56 (mm_leq mm_m_56 (mm_lb rfl)) (mm_lb rfl) (mm_o1 hx)).trans rfl))))
theorem r_10_0_8b (x1 : Int) (x2 : Int) (x3 : Int) (x4 : Int) {tx5 : Int} (vx6 : mm_V) (vx7 : mm_V) (vx8 : mm_V) {ty0 ny0 : Int} {hi : mm_Id → Int → Int} {dh : Int → Int} {nx ns : Int} {Q : mm_V → mm_H → Prop} (htx5 : mm_isT tx5) (hty0 : mm_isT ty0) (hny0 : mm_isN ny0) (hx : 5275 ≤ nx) :
    mm_Wp 10 (bk_10_0.drop 8) [zR (1, 0, 0), zI x1, zI x2, zI x3, zI x4, zR (22, tx5, 0), vx6, vx7, vx8] [zR (24, ty0, ny0)] (mm_z hi dh nx ns) Q =
    mm_Cl 56 [zR (1, 0, 0), zR (22, tx5, 0), zI x3] (mm_z hi dh nx ns) (fun r h3 => mm_Wp 10 (bk_10_0.drop 13) [zR (1, 0, 0), zI x1, zI x2, zI x3, zI x4, zR (22, tx5, 0), zR (24, ty0, ny0), vx7, vx8] (mm_push r []) h3 Q) :=
  (wp_8 (l2 := [zR (1, 0, 0), zI x1, zI x2, zI x3, zI x4, zR (22, tx5, 0), zR (24, ty0, ny0), vx7, vx8]) rfl).trans ((wp_5_0).trans ((wp_5_5).trans ((wp_3_3).trans ((wp_v3 mm_n_56 (mm_leq mm_m_56 (mm_lb rfl)) (mm_lb rfl) (mm_o1 hx)).trans rfl))))
theorem r_10_0_13 (x1 : Int) (x2 : Int) (vx3 : mm_V) (x4 : Int) (vx5 : mm_V) (vx7 : mm_V) (vx8 : mm_V) {hi : mm_Id → Int → Int} {dh : Int → Int} {nx ns : Int} {Q : mm_V → mm_H → Prop} (hx : 5275 ≤ nx) :
    mm_Wp 10 (bk_10_0.drop 13) [zR (1, 0, 0), zI x1, zI x2, vx3, zI x4, vx5, zR mm_nul, vx7, vx8] [zR mm_nul] (mm_z hi dh nx ns) Q =
    mm_Wp 10 (mm_blk 10 1) [zR (1, 0, 0), zI x1, zI x2, vx3, zI x4, vx5, zR mm_nul, zR mm_nul, vx8] [] (mm_z hi dh nx ns) Q :=
  (wp_8 (l2 := [zR (1, 0, 0), zI x1, zI x2, vx3, zI x4, vx5, zR mm_nul, zR mm_nul, vx8]) rfl).trans ((wp_5_6).trans ((wp_54n).trans (rfl)))
theorem r_10_0_13a (x1 : Int) (x2 : Int) (vx3 : mm_V) (x4 : Int) (vx5 : mm_V) (vx7 : mm_V) (vx8 : mm_V) {ty0 ny0 : Int} {hi : mm_Id → Int → Int} {dh : Int → Int} {nx ns : Int} {Q : mm_V → mm_H → Prop} (hty0 : mm_isT ty0) (hny0 : mm_isN ny0) (hx : 5275 ≤ nx) :
    mm_Wp 10 (bk_10_0.drop 13) [zR (1, 0, 0), zI x1, zI x2, vx3, zI x4, vx5, zR mm_nul, vx7, vx8] [zR (24, ty0, ny0)] (mm_z hi dh nx ns) Q =
    mm_Wp 10 (mm_blk 10 1) [zR (1, 0, 0), zI x1, zI x2, vx3, zI x4, vx5, zR mm_nul, zR (24, ty0, ny0), vx8] [] (mm_z hi dh nx ns) Q :=
  (wp_8 (l2 := [zR (1, 0, 0), zI x1, zI x2, vx3, zI x4, vx5, zR mm_nul, zR (24, ty0, ny0), vx8]) rfl).trans ((wp_5_6).trans ((wp_54n).trans (rfl)))
theorem r_10_0_13b (x1 : Int) (x2 : Int) (vx3 : mm_V) (x4 : Int) (vx5 : mm_V) {tx6 nx6 : Int} (vx7 : mm_V) (vx8 : mm_V) {hi : mm_Id → Int → Int} {dh : Int → Int} {nx ns : Int} {Q : mm_V → mm_H → Prop} (htx6 : mm_isT tx6) (hnx6 : mm_isN nx6) (hx : 5275 ≤ nx) :
    mm_Wp 10 (bk_10_0.drop 13) [zR (1, 0, 0), zI x1, zI x2, vx3, zI x4, vx5, zR (24, tx6, nx6), vx7, vx8] [zR mm_nul] (mm_z hi dh nx ns) Q =
    mm_Wp 10 (mm_blk 10 1) [zR (1, 0, 0), zI x1, zI x2, vx3, zI x4, vx5, zR (24, tx6, nx6), zR mm_nul, vx8] [] (mm_z hi dh nx ns) Q :=
  (wp_8 (l2 := [zR (1, 0, 0), zI x1, zI x2, vx3, zI x4, vx5, zR (24, tx6, nx6), zR mm_nul, vx8]) rfl).trans ((wp_5_6).trans ((wp_54 (by decide)).trans ((wp_5_7).trans ((wp_55n).trans ((wp_0).trans (rfl))))))
theorem r_10_0_13c (x1 : Int) (x2 : Int) (vx3 : mm_V) (x4 : Int) (vx5 : mm_V) {tx6 nx6 : Int} (vx7 : mm_V) (vx8 : mm_V) {ty0 ny0 : Int} {hi : mm_Id → Int → Int} {dh : Int → Int} {nx ns : Int} {Q : mm_V → mm_H → Prop} (htx6 : mm_isT tx6) (hnx6 : mm_isN nx6) (hty0 : mm_isT ty0) (hny0 : mm_isN ny0) (hx : 5275 ≤ nx) :
    mm_Wp 10 (bk_10_0.drop 13) [zR (1, 0, 0), zI x1, zI x2, vx3, zI x4, vx5, zR (24, tx6, nx6), vx7, vx8] [zR (24, ty0, ny0)] (mm_z hi dh nx ns) Q =
    mm_Cl 58 [zR (1, 0, 0), zI x4] (mm_z hi dh nx ns) (fun r h3 => mm_Wp 10 (bk_10_2.drop 3) [zR (1, 0, 0), zI x1, zI x2, vx3, zI x4, vx5, zR (24, tx6, nx6), zR (24, ty0, ny0), vx8] (mm_push r []) h3 Q) :=
  (wp_8 (l2 := [zR (1, 0, 0), zI x1, zI x2, vx3, zI x4, vx5, zR (24, tx6, nx6), zR (24, ty0, ny0), vx8]) rfl).trans ((wp_5_6).trans ((wp_54 (by decide)).trans ((wp_5_7).trans ((wp_55 (by decide)).trans (mm_kb bq_10_2 ((wp_5_0).trans ((wp_3_4).trans ((wp_v2 mm_n_58 (mm_leq mm_m_58 (mm_lb rfl)) (mm_lb rfl) (mm_o1 hx)).trans rfl))))))))
theorem r_10_1 (vx0 : mm_V) (vx1 : mm_V) (vx2 : mm_V) (vx3 : mm_V) (vx4 : mm_V) (vx5 : mm_V) (vx6 : mm_V) (vx7 : mm_V) (vx8 : mm_V) {hi : mm_Id → Int → Int} {dh : Int → Int} {nx ns : Int} {Q : mm_V → mm_H → Prop} (hx : 5275 ≤ nx) :
    mm_Wp 10 (mm_blk 10 1) [vx0, vx1, vx2, vx3, vx4, vx5, vx6, vx7, vx8] [] (mm_z hi dh nx ns) Q =
    Q (zI (-1)) (mm_z hi dh nx ns) :=
  mm_kb bq_10_1 ((wp_1).trans (wp_90))
theorem r_10_2_3 (x1 : Int) (x2 : Int) (vx3 : mm_V) (x4 : Int) (vx5 : mm_V) {tx6 nx6 : Int} {tx7 nx7 : Int} (vx8 : mm_V) (y0 : Int) {hi : mm_Id → Int → Int} {dh : Int → Int} {nx ns : Int} {Q : mm_V → mm_H → Prop} (htx6 : mm_isT tx6) (hnx6 : mm_isN nx6) (htx7 : mm_isT tx7) (hnx7 : mm_isN nx7) (hx : 5275 ≤ nx) :
    mm_Wp 10 (bk_10_2.drop 3) [zR (1, 0, 0), zI x1, zI x2, vx3, zI x4, vx5, zR (24, tx6, nx6), zR (24, tx7, nx7), vx8] [zI y0] (mm_z hi dh nx ns) Q =
    (if y0 = 0 then Q (zI (-2)) (mm_z hi dh nx ns) else mm_Cl 53 [zR (1, 0, 0), zI x1] (mm_z hi dh nx ns) (fun r h3 => mm_Wp 10 (bk_10_3.drop 3) [zR (1, 0, 0), zI x1, zI x2, vx3, zI x4, vx5, zR (24, tx6, nx6), zR (24, tx7, nx7), vx8] (mm_push r []) h3 Q)) :=
  (wp_41).trans (mm_ic ((wp_1).trans (wp_90)) (mm_kb bq_10_3 ((wp_5_0).trans ((wp_3_1).trans ((wp_v2 mm_n_53 (mm_leq mm_m_53 (mm_lb rfl)) (mm_lb rfl) (mm_o1 hx)).trans rfl)))))
theorem r_10_3_3 (vx1 : mm_V) (x2 : Int) (vx3 : mm_V) (x4 : Int) (vx5 : mm_V) {tx6 nx6 : Int} {tx7 nx7 : Int} (vx8 : mm_V) {hi : mm_Id → Int → Int} {dh : Int → Int} {nx ns : Int} {Q : mm_V → mm_H → Prop} (htx6 : mm_isT tx6) (hnx6 : mm_isN nx6) (htx7 : mm_isT tx7) (hnx7 : mm_isN nx7) (hx : 5275 ≤ nx) :
    mm_Wp 10 (bk_10_3.drop 3) [zR (1, 0, 0), vx1, zI x2, vx3, zI x4, vx5, zR (24, tx6, nx6), zR (24, tx7, nx7), vx8] [zR mm_nul] (mm_z hi dh nx ns) Q =
    mm_Wp 10 (mm_blk 10 4) [zR (1, 0, 0), vx1, zI x2, vx3, zI x4, vx5, zR (24, tx6, nx6), zR (24, tx7, nx7), zR mm_nul] [] (mm_z hi dh nx ns) Q :=
  (wp_8 (l2 := [zR (1, 0, 0), vx1, zI x2, vx3, zI x4, vx5, zR (24, tx6, nx6), zR (24, tx7, nx7), zR mm_nul]) rfl).trans ((wp_5_8).trans ((wp_54n).trans (rfl)))
theorem r_10_3_3a (vx1 : mm_V) (x2 : Int) (vx3 : mm_V) (x4 : Int) (vx5 : mm_V) {tx6 nx6 : Int} {tx7 nx7 : Int} (vx8 : mm_V) {ty0 : Int} {hi : mm_Id → Int → Int} {dh : Int → Int} {nx ns : Int} {Q : mm_V → mm_H → Prop} (htx6 : mm_isT tx6) (hnx6 : mm_isN nx6) (htx7 : mm_isT tx7) (hnx7 : mm_isN nx7) (hty0 : mm_isD ty0) (hx : 5275 ≤ nx) :
    mm_Wp 10 (bk_10_3.drop 3) [zR (1, 0, 0), vx1, zI x2, vx3, zI x4, vx5, zR (24, tx6, nx6), zR (24, tx7, nx7), vx8] [zR (31, ty0, 0)] (mm_z hi dh nx ns) Q =
    (if (hi (24, tx6, nx6) 0) = 1 then (if (hi (24, tx7, nx7) 0) = 2 then mm_Cl 61 [zR (1, 0, 0), zR (24, tx7, nx7)] (mm_z hi dh nx ns) (fun r h3 => mm_Wp 10 (bk_10_5.drop 3) [zR (1, 0, 0), vx1, zI x2, vx3, zI x4, vx5, zR (24, tx6, nx6), zR (24, tx7, nx7), zR (31, ty0, 0)] (mm_push r []) h3 Q) else mm_Wp 10 (mm_blk 10 4) [zR (1, 0, 0), vx1, zI x2, vx3, zI x4, vx5, zR (24, tx6, nx6), zR (24, tx7, nx7), zR (31, ty0, 0)] [] (mm_z hi dh nx ns) Q) else mm_Wp 10 (mm_blk 10 4) [zR (1, 0, 0), vx1, zI x2, vx3, zI x4, vx5, zR (24, tx6, nx6), zR (24, tx7, nx7), zR (31, ty0, 0)] [] (mm_z hi dh nx ns) Q) :=
  (wp_8 (l2 := [zR (1, 0, 0), vx1, zI x2, vx3, zI x4, vx5, zR (24, tx6, nx6), zR (24, tx7, nx7), zR (31, ty0, 0)]) rfl).trans ((wp_5_8).trans ((wp_54 (by decide)).trans ((wp_5_6).trans ((wp_60 (by decide) (mm_o24 htx6 hnx6 hx)).trans ((wp_1).trans ((wp_47).trans (mm_ic ((wp_5_7).trans ((wp_60 (by decide) (mm_o24 htx7 hnx7 hx)).trans ((wp_1).trans ((wp_46).trans (mm_ic (mm_kb bq_10_5 ((wp_5_0).trans ((wp_5_7).trans ((wp_v2 mm_n_61 (mm_leq mm_m_61 (mm_lb rfl)) (mm_lb rfl) (mm_o1 hx)).trans rfl)))) ((wp_0).trans (rfl))))))) (rfl))))))))
theorem r_10_4 (vx0 : mm_V) (vx1 : mm_V) (vx2 : mm_V) (vx3 : mm_V) (vx4 : mm_V) (vx5 : mm_V) (vx6 : mm_V) (vx7 : mm_V) (vx8 : mm_V) {hi : mm_Id → Int → Int} {dh : Int → Int} {nx ns : Int} {Q : mm_V → mm_H → Prop} (hx : 5275 ≤ nx) :
    mm_Wp 10 (mm_blk 10 4) [vx0, vx1, vx2, vx3, vx4, vx5, vx6, vx7, vx8] [] (mm_z hi dh nx ns) Q =
    Q (zI (-3)) (mm_z hi dh nx ns) :=
  mm_kb bq_10_4 ((wp_1).trans (wp_90))
theorem r_10_5_3 (vx1 : mm_V) (x2 : Int) (vx3 : mm_V) (x4 : Int) (vx5 : mm_V) {tx6 nx6 : Int} {tx7 nx7 : Int} {tx8 : Int} (y0 : Int) {hi : mm_Id → Int → Int} {dh : Int → Int} {nx ns : Int} {Q : mm_V → mm_H → Prop} (htx6 : mm_isT tx6) (hnx6 : mm_isN nx6) (htx7 : mm_isT tx7) (hnx7 : mm_isN nx7) (htx8 : mm_isD tx8) (hx : 5275 ≤ nx) :
    mm_Wp 10 (bk_10_5.drop 3) [zR (1, 0, 0), vx1, zI x2, vx3, zI x4, vx5, zR (24, tx6, nx6), zR (24, tx7, nx7), zR (31, tx8, 0)] [zI y0] (mm_z hi dh nx ns) Q =
    (if y0 = 0 then Q (zI (-5)) (mm_z hi dh nx ns) else mm_Cl 99 [zR (24, tx7, nx7), zI x4] (mm_z hi dh nx ns) (fun r h3 => mm_Wp 10 (bk_10_6.drop 3) [zR (1, 0, 0), vx1, zI x2, vx3, zI x4, vx5, zR (24, tx6, nx6), zR (24, tx7, nx7), zR (31, tx8, 0)] (mm_push r []) h3 Q)) :=
  (wp_41).trans (mm_ic ((wp_1).trans (wp_90)) (mm_kb bq_10_6 ((wp_5_7).trans ((wp_3_4).trans ((wp_v2 mm_n_99 (mm_leq mm_m_99 (mm_lb rfl)) (mm_lb rfl) (mm_o24 htx7 hnx7 hx)).trans rfl)))))
theorem r_10_6_3 (vx1 : mm_V) (x2 : Int) (vx3 : mm_V) (x4 : Int) (vx5 : mm_V) {tx6 nx6 : Int} {tx7 nx7 : Int} {tx8 : Int} (y0 : Int) {hi : mm_Id → Int → Int} {dh : Int → Int} {nx ns : Int} {Q : mm_V → mm_H → Prop} (htx6 : mm_isT tx6) (hnx6 : mm_isN nx6) (htx7 : mm_isT tx7) (hnx7 : mm_isN nx7) (htx8 : mm_isD tx8) (hx : 5275 ≤ nx) :
    mm_Wp 10 (bk_10_6.drop 3) [zR (1, 0, 0), vx1, zI x2, vx3, zI x4, vx5, zR (24, tx6, nx6), zR (24, tx7, nx7), zR (31, tx8, 0)] [zI y0] (mm_z hi dh nx ns) Q =
    (if y0 = 0 then (if (hi (24, tx6, nx6) 5) < 9 then (if (hi (24, tx7, nx7) 6) < 24 then mm_Cl 100 [zR (24, tx7, nx7), zI x4, zI x2] (mm_z hi dh nx ns) (fun r h3 => mm_Wp 10 (bk_10_9.drop 4) [zR (1, 0, 0), vx1, zI x2, vx3, zI x4, vx5, zR (24, tx6, nx6), zR (24, tx7, nx7), zR (31, tx8, 0)] (mm_push r []) h3 Q) else mm_Wp 10 (mm_blk 10 8) [zR (1, 0, 0), vx1, zI x2, vx3, zI x4, vx5, zR (24, tx6, nx6), zR (24, tx7, nx7), zR (31, tx8, 0)] [] (mm_z hi dh nx ns) Q) else mm_Wp 10 (mm_blk 10 8) [zR (1, 0, 0), vx1, zI x2, vx3, zI x4, vx5, zR (24, tx6, nx6), zR (24, tx7, nx7), zR (31, tx8, 0)] [] (mm_z hi dh nx ns) Q) else Q (zI (-3)) (mm_z hi dh nx ns)) :=
  (wp_40).trans (mm_ic (mm_kb bq_10_7 ((wp_5_6).trans ((wp_60 (by decide) (mm_o24 htx6 hnx6 hx)).trans ((wp_1).trans ((wp_49).trans (mm_ic ((wp_5_7).trans ((wp_60 (by decide) (mm_o24 htx7 hnx7 hx)).trans ((wp_1).trans ((wp_48).trans (mm_ic (mm_kb bq_10_9 ((wp_5_7).trans ((wp_3_4).trans ((wp_3_2).trans ((wp_v3 mm_n_100 (mm_leq mm_m_100 (mm_lb rfl)) (mm_lb rfl) (mm_o24 htx7 hnx7 hx)).trans rfl))))) ((wp_0).trans (rfl))))))) (rfl))))))) ((wp_1).trans (wp_90)))
theorem r_10_8 (vx0 : mm_V) (vx1 : mm_V) (vx2 : mm_V) (vx3 : mm_V) (vx4 : mm_V) (vx5 : mm_V) (vx6 : mm_V) (vx7 : mm_V) (vx8 : mm_V) {hi : mm_Id → Int → Int} {dh : Int → Int} {nx ns : Int} {Q : mm_V → mm_H → Prop} (hx : 5275 ≤ nx) :
    mm_Wp 10 (mm_blk 10 8) [vx0, vx1, vx2, vx3, vx4, vx5, vx6, vx7, vx8] [] (mm_z hi dh nx ns) Q =
    Q (zI (-4)) (mm_z hi dh nx ns) :=
  mm_kb bq_10_8 ((wp_1).trans (wp_90))
theorem r_10_9_4 (vx1 : mm_V) (vx2 : mm_V) (vx3 : mm_V) (vx4 : mm_V) (vx5 : mm_V) {tx6 nx6 : Int} (vx7 : mm_V) {tx8 : Int} {hi : mm_Id → Int → Int} {dh : Int → Int} {nx ns : Int} {Q : mm_V → mm_H → Prop} (htx6 : mm_isT tx6) (hnx6 : mm_isN nx6) (htx8 : mm_isD tx8) (hx : 5275 ≤ nx) :
    mm_Wp 10 (bk_10_9.drop 4) [zR (1, 0, 0), vx1, vx2, vx3, vx4, vx5, zR (24, tx6, nx6), vx7, zR (31, tx8, 0)] [] (mm_z hi dh nx ns) Q =
    mm_Cl 63 [zR (1, 0, 0), zR (31, tx8, 0)] (mm_z (mm_up hi (24, tx6, nx6) 5 (mm_w ((hi (24, tx6, nx6) 5) + 1))) dh nx ns) (fun r h3 => mm_Wp 10 (bk_10_9.drop 13) [zR (1, 0, 0), vx1, vx2, vx3, vx4, vx5, zR (24, tx6, nx6), vx7, zR (31, tx8, 0)] (mm_push r []) h3 Q) :=
  (wp_5_6).trans ((wp_35r).trans ((wp_60 (by decide) (mm_o24 htx6 hnx6 hx)).trans ((wp_1).trans ((wp_10).trans ((wp_63 (mm_o24 htx6 hnx6 hx)).trans ((wp_5_0).trans ((wp_5_8).trans ((wp_v2 mm_n_63 (mm_leq mm_m_63 (mm_lb rfl)) (mm_lb rfl) (mm_o1 hx)).trans rfl))))))))
theorem r_10_9_13 (vx0 : mm_V) (vx1 : mm_V) (vx2 : mm_V) (vx3 : mm_V) (vx4 : mm_V) (vx5 : mm_V) {tx6 nx6 : Int} (vx7 : mm_V) (vx8 : mm_V) {hi : mm_Id → Int → Int} {dh : Int → Int} {nx ns : Int} {Q : mm_V → mm_H → Prop} (htx6 : mm_isT tx6) (hnx6 : mm_isN nx6) (hx : 5275 ≤ nx) :
    mm_Wp 10 (bk_10_9.drop 13) [vx0, vx1, vx2, vx3, vx4, vx5, zR (24, tx6, nx6), vx7, vx8] [] (mm_z hi dh nx ns) Q =
    Q (zI (hi (24, tx6, nx6) 5)) (mm_z hi dh nx ns) :=
  (wp_5_6).trans ((wp_60 (by decide) (mm_o24 htx6 hnx6 hx)).trans (wp_90))
/-- PoolHouse.unlink(III)I -/
theorem bq_11_0 : mm_blk 11 0 = bk_11_0 := by decide +kernel
theorem bq_11_1 : mm_blk 11 1 = bk_11_1 := by decide +kernel
theorem bq_11_2 : mm_blk 11 2 = bk_11_2 := by decide +kernel
theorem bq_11_3 : mm_blk 11 3 = bk_11_3 := by decide +kernel
theorem bq_11_4 : mm_blk 11 4 = bk_11_4 := by decide +kernel
theorem bq_11_5 : mm_blk 11 5 = bk_11_5 := by decide +kernel
theorem bq_11_6 : mm_blk 11 6 = bk_11_6 := by decide +kernel
theorem bq_11_7 : mm_blk 11 7 = bk_11_7 := by decide +kernel
theorem r_11_e (x1 : Int) (x2 : Int) (x3 : Int) {hi : mm_Id → Int → Int} {dh : Int → Int} {nx ns : Int} {Q : mm_V → mm_H → Prop} (hx : 5275 ≤ nx) :
    mm_Cl 11 [zR (1, 0, 0), zI x1, zI x2, zI x3] (mm_z hi dh nx ns) Q =
    mm_Cl 55 [zR (1, 0, 0), zI x1] (mm_z hi dh nx ns) (fun r h3 => mm_Wp 11 (bk_11_0.drop 3) [zR (1, 0, 0), zI x1, zI x2, zI x3, zU, zU, zU, zU, zU] (mm_push r []) h3 Q) :=
  mm_ce (l2 := [zR (1, 0, 0), zI x1, zI x2, zI x3, zU, zU, zU, zU, zU]) rfl (mm_kb bq_11_0 ((wp_5_0).trans ((wp_3_1).trans ((wp_v2 mm_n_55 (mm_leq mm_m_55 (mm_lb rfl)) (mm_lb rfl) (mm_o1 hx)).trans rfl))))
theorem r_11_0_3 (x1 : Int) (x2 : Int) (x3 : Int) (vx4 : mm_V) (vx5 : mm_V) (vx6 : mm_V) (vx7 : mm_V) (vx8 : mm_V) {hi : mm_Id → Int → Int} {dh : Int → Int} {nx ns : Int} {Q : mm_V → mm_H → Prop} (hx : 5275 ≤ nx) :
    mm_Wp 11 (bk_11_0.drop 3) [zR (1, 0, 0), zI x1, zI x2, zI x3, vx4, vx5, vx6, vx7, vx8] [zR mm_nul] (mm_z hi dh nx ns) Q =
    mm_Cl 56 [zR (1, 0, 0), zR mm_nul, zI x2] (mm_z hi dh nx ns) (fun r h3 => mm_Wp 11 (bk_11_0.drop 8) [zR (1, 0, 0), zI x1, zI x2, zI x3, zR mm_nul, vx5, vx6, vx7, vx8] (mm_push r []) h3 Q) :=
  (wp_8 (l2 := [zR (1, 0, 0), zI x1, zI x2, zI x3, zR mm_nul, vx5, vx6, vx7, vx8]) rfl).trans ((wp_5_0).trans ((wp_5_4).trans ((wp_3_2).trans ((wp_v3 mm_n_56 (mm_leq mm_m_56 (mm_lb rfl)) (mm_lb rfl) (mm_o1 hx)).trans rfl))))
theorem r_11_0_3a (x1 : Int) (x2 : Int) (x3 : Int) (vx4 : mm_V) (vx5 : mm_V) (vx6 : mm_V) (vx7 : mm_V) (vx8 : mm_V) {ty0 : Int} {hi : mm_Id → Int → Int} {dh : Int → Int} {nx ns : Int} {Q : mm_V → mm_H → Prop} (hty0 : mm_isT ty0) (hx : 5275 ≤ nx) :
    mm_Wp 11 (bk_11_0.drop 3) [zR (1, 0, 0), zI x1, zI x2, zI x3, vx4, vx5, vx6, vx7, vx8] [zR (22, ty0, 0)] (mm_z hi dh nx ns) Q =
    mm_Cl 56 [zR (1, 0, 0), zR (22, ty0, 0), zI x2] (mm_z hi dh nx ns) (fun r h3 => mm_Wp 11 (bk_11_0.drop 8) [zR (1, 0, 0), zI x1, zI x2, zI x3, zR (22, ty0, 0), vx5, vx6, vx7, vx8] (mm_push r []) h3 Q) :=
  (wp_8 (l2 := [zR (1, 0, 0), zI x1, zI x2, zI x3, zR (22, ty0, 0), vx5, vx6, vx7, vx8]) rfl).trans ((wp_5_0).trans ((wp_5_4).trans ((wp_3_2).trans ((wp_v3 mm_n_56 (mm_leq mm_m_56 (mm_lb rfl)) (mm_lb rfl) (mm_o1 hx)).trans rfl))))
theorem r_11_0_8 (x1 : Int) (vx2 : mm_V) (x3 : Int) (vx5 : mm_V) (vx6 : mm_V) (vx7 : mm_V) (vx8 : mm_V) {hi : mm_Id → Int → Int} {dh : Int → Int} {nx ns : Int} {Q : mm_V → mm_H → Prop} (hx : 5275 ≤ nx) :
    mm_Wp 11 (bk_11_0.drop 8) [zR (1, 0, 0), zI x1, vx2, zI x3, zR mm_nul, vx5, vx6, vx7, vx8] [zR mm_nul] (mm_z hi dh nx ns) Q =
    Q (zI (-1)) (mm_z hi dh nx ns) :=
  (wp_8 (l2 := [zR (1, 0, 0), zI x1, vx2, zI x3, zR mm_nul, zR mm_nul, vx6, vx7, vx8]) rfl).trans ((wp_5_5).trans ((wp_55n).trans ((wp_1).trans (wp_90))))
theorem r_11_0_8a (x1 : Int) (vx2 : mm_V) (x3 : Int) {tx4 : Int} (vx5 : mm_V) (vx6 : mm_V) (vx7 : mm_V) (vx8 : mm_V) {hi : mm_Id → Int → Int} {dh : Int → Int} {nx ns : Int} {Q : mm_V → mm_H → Prop} (htx4 : mm_isT tx4) (hx : 5275 ≤ nx) :
    mm_Wp 11 (bk_11_0.drop 8) [zR (1, 0, 0), zI x1, vx2, zI x3, zR (22, tx4, 0), vx5, vx6, vx7, vx8] [zR mm_nul] (mm_z hi dh nx ns) Q =
    Q (zI (-1)) (mm_z hi dh nx ns) :=
  (wp_8 (l2 := [zR (1, 0, 0), zI x1, vx2, zI x3, zR (22, tx4, 0), zR mm_nul, vx6, vx7, vx8]) rfl).trans ((wp_5_5).trans ((wp_55n).trans ((wp_1).trans (wp_90))))
theorem r_11_0_8b (x1 : Int) (vx2 : mm_V) (x3 : Int) {tx4 : Int} (vx5 : mm_V) (vx6 : mm_V) (vx7 : mm_V) (vx8 : mm_V) {ty0 ny0 : Int} {hi : mm_Id → Int → Int} {dh : Int → Int} {nx ns : Int} {Q : mm_V → mm_H → Prop} (htx4 : mm_isT tx4) (hty0 : mm_isT ty0) (hny0 : mm_isN ny0) (hx : 5275 ≤ nx) :
    mm_Wp 11 (bk_11_0.drop 8) [zR (1, 0, 0), zI x1, vx2, zI x3, zR (22, tx4, 0), vx5, vx6, vx7, vx8] [zR (24, ty0, ny0)] (mm_z hi dh nx ns) Q =
    mm_Cl 58 [zR (1, 0, 0), zI x3] (mm_z hi dh nx ns) (fun r h3 => mm_Wp 11 (bk_11_1.drop 3) [zR (1, 0, 0), zI x1, vx2, zI x3, zR (22, tx4, 0), zR (24, ty0, ny0), vx6, vx7, vx8] (mm_push r []) h3 Q) :=
  (wp_8 (l2 := [zR (1, 0, 0), zI x1, vx2, zI x3, zR (22, tx4, 0), zR (24, ty0, ny0), vx6, vx7, vx8]) rfl).trans ((wp_5_5).trans ((wp_55 (by decide)).trans (mm_kb bq_11_1 ((wp_5_0).trans ((wp_3_3).trans ((wp_v2 mm_n_58 (mm_leq mm_m_58 (mm_lb rfl)) (mm_lb rfl) (mm_o1 hx)).trans rfl))))))
theorem r_11_1_3 (x1 : Int) (vx2 : mm_V) (x3 : Int) {tx4 : Int} {tx5 nx5 : Int} (vx6 : mm_V) (vx7 : mm_V) (vx8 : mm_V) (y0 : Int) {hi : mm_Id → Int → Int} {dh : Int → Int} {nx ns : Int} {Q : mm_V → mm_H → Prop} (htx4 : mm_isT tx4) (htx5 : mm_isT tx5) (hnx5 : mm_isN nx5) (hx : 5275 ≤ nx) :
    mm_Wp 11 (bk_11_1.drop 3) [zR (1, 0, 0), zI x1, vx2, zI x3, zR (22, tx4, 0), zR (24, tx5, nx5), vx6, vx7, vx8] [zI y0] (mm_z hi dh nx ns) Q =
    (if y0 = 0 then Q (zI (-2)) (mm_z hi dh nx ns) else mm_Cl 53 [zR (1, 0, 0), zI x1] (mm_z hi dh nx ns) (fun r h3 => mm_Wp 11 (bk_11_2.drop 3) [zR (1, 0, 0), zI x1, vx2, zI x3, zR (22, tx4, 0), zR (24, tx5, nx5), vx6, vx7, vx8] (mm_push r []) h3 Q)) :=
  (wp_41).trans (mm_ic ((wp_1).trans (wp_90)) (mm_kb bq_11_2 ((wp_5_0).trans ((wp_3_1).trans ((wp_v2 mm_n_53 (mm_leq mm_m_53 (mm_lb rfl)) (mm_lb rfl) (mm_o1 hx)).trans rfl)))))
theorem r_11_2_3 (vx1 : mm_V) (vx2 : mm_V) (x3 : Int) {tx4 : Int} {tx5 nx5 : Int} (vx6 : mm_V) (vx7 : mm_V) (vx8 : mm_V) {hi : mm_Id → Int → Int} {dh : Int → Int} {nx ns : Int} {Q : mm_V → mm_H → Prop} (htx4 : mm_isT tx4) (htx5 : mm_isT tx5) (hnx5 : mm_isN nx5) (hx : 5275 ≤ nx) :
    mm_Wp 11 (bk_11_2.drop 3) [zR (1, 0, 0), vx1, vx2, zI x3, zR (22, tx4, 0), zR (24, tx5, nx5), vx6, vx7, vx8] [zR mm_nul] (mm_z hi dh nx ns) Q =
    mm_Wp 11 (mm_blk 11 3) [zR (1, 0, 0), vx1, vx2, zI x3, zR (22, tx4, 0), zR (24, tx5, nx5), zR mm_nul, vx7, vx8] [] (mm_z hi dh nx ns) Q :=
  (wp_8 (l2 := [zR (1, 0, 0), vx1, vx2, zI x3, zR (22, tx4, 0), zR (24, tx5, nx5), zR mm_nul, vx7, vx8]) rfl).trans ((wp_5_6).trans ((wp_54n).trans (rfl)))
theorem r_11_2_3a (vx1 : mm_V) (vx2 : mm_V) (x3 : Int) {tx4 : Int} {tx5 nx5 : Int} (vx6 : mm_V) (vx7 : mm_V) (vx8 : mm_V) {ty0 : Int} {hi : mm_Id → Int → Int} {dh : Int → Int} {nx ns : Int} {Q : mm_V → mm_H → Prop} (htx4 : mm_isT tx4) (htx5 : mm_isT tx5) (hnx5 : mm_isN nx5) (hty0 : mm_isD ty0) (hx : 5275 ≤ nx) :
    mm_Wp 11 (bk_11_2.drop 3) [zR (1, 0, 0), vx1, vx2, zI x3, zR (22, tx4, 0), zR (24, tx5, nx5), vx6, vx7, vx8] [zR (31, ty0, 0)] (mm_z hi dh nx ns) Q =
    (if (hi (24, tx5, nx5) 0) = 2 then mm_Cl 61 [zR (1, 0, 0), zR (24, tx5, nx5)] (mm_z hi dh nx ns) (fun r h3 => mm_Wp 11 (bk_11_4.drop 3) [zR (1, 0, 0), vx1, vx2, zI x3, zR (22, tx4, 0), zR (24, tx5, nx5), zR (31, ty0, 0), vx7, vx8] (mm_push r []) h3 Q) else mm_Wp 11 (mm_blk 11 3) [zR (1, 0, 0), vx1, vx2, zI x3, zR (22, tx4, 0), zR (24, tx5, nx5), zR (31, ty0, 0), vx7, vx8] [] (mm_z hi dh nx ns) Q) :=
  (wp_8 (l2 := [zR (1, 0, 0), vx1, vx2, zI x3, zR (22, tx4, 0), zR (24, tx5, nx5), zR (31, ty0, 0), vx7, vx8]) rfl).trans ((wp_5_6).trans ((wp_54 (by decide)).trans ((wp_5_5).trans ((wp_60 (by decide) (mm_o24 htx5 hnx5 hx)).trans ((wp_1).trans ((wp_46).trans (mm_ic (mm_kb bq_11_4 ((wp_5_0).trans ((wp_5_5).trans ((wp_v2 mm_n_61 (mm_leq mm_m_61 (mm_lb rfl)) (mm_lb rfl) (mm_o1 hx)).trans rfl)))) ((wp_0).trans (rfl)))))))))
theorem r_11_3 (vx0 : mm_V) (vx1 : mm_V) (vx2 : mm_V) (vx3 : mm_V) (vx4 : mm_V) (vx5 : mm_V) (vx6 : mm_V) (vx7 : mm_V) (vx8 : mm_V) {hi : mm_Id → Int → Int} {dh : Int → Int} {nx ns : Int} {Q : mm_V → mm_H → Prop} (hx : 5275 ≤ nx) :
    mm_Wp 11 (mm_blk 11 3) [vx0, vx1, vx2, vx3, vx4, vx5, vx6, vx7, vx8] [] (mm_z hi dh nx ns) Q =
    Q (zI (-3)) (mm_z hi dh nx ns) :=
  mm_kb bq_11_3 ((wp_1).trans (wp_90))
theorem r_11_4_3 (vx1 : mm_V) (vx2 : mm_V) (x3 : Int) {tx4 : Int} {tx5 nx5 : Int} {tx6 : Int} (vx7 : mm_V) (vx8 : mm_V) (y0 : Int) {hi : mm_Id → Int → Int} {dh : Int → Int} {nx ns : Int} {Q : mm_V → mm_H → Prop} (htx4 : mm_isT tx4) (htx5 : mm_isT tx5) (hnx5 : mm_isN nx5) (htx6 : mm_isD tx6) (hx : 5275 ≤ nx) :
    mm_Wp 11 (bk_11_4.drop 3) [zR (1, 0, 0), vx1, vx2, zI x3, zR (22, tx4, 0), zR (24, tx5, nx5), zR (31, tx6, 0), vx7, vx8] [zI y0] (mm_z hi dh nx ns) Q =
    (if y0 = 0 then Q (zI (-5)) (mm_z hi dh nx ns) else mm_Cl 99 [zR (24, tx5, nx5), zI x3] (mm_z hi dh nx ns) (fun r h3 => mm_Wp 11 (bk_11_5.drop 3) [zR (1, 0, 0), vx1, vx2, zI x3, zR (22, tx4, 0), zR (24, tx5, nx5), zR (31, tx6, 0), vx7, vx8] (mm_push r []) h3 Q)) :=
  (wp_41).trans (mm_ic ((wp_1).trans (wp_90)) (mm_kb bq_11_5 ((wp_5_5).trans ((wp_3_3).trans ((wp_v2 mm_n_99 (mm_leq mm_m_99 (mm_lb rfl)) (mm_lb rfl) (mm_o24 htx5 hnx5 hx)).trans rfl)))))
theorem r_11_5_3 (vx1 : mm_V) (vx2 : mm_V) (x3 : Int) {tx4 : Int} {tx5 nx5 : Int} {tx6 : Int} (vx7 : mm_V) (vx8 : mm_V) (y0 : Int) {hi : mm_Id → Int → Int} {dh : Int → Int} {nx ns : Int} {Q : mm_V → mm_H → Prop} (htx4 : mm_isT tx4) (htx5 : mm_isT tx5) (hnx5 : mm_isN nx5) (htx6 : mm_isD tx6) (hx : 5275 ≤ nx) :
    mm_Wp 11 (bk_11_5.drop 3) [zR (1, 0, 0), vx1, vx2, zI x3, zR (22, tx4, 0), zR (24, tx5, nx5), zR (31, tx6, 0), vx7, vx8] [zI y0] (mm_z hi dh nx ns) Q =
    mm_Cl 56 [zR (1, 0, 0), zR (22, tx4, 0), zI y0] (mm_z hi dh nx ns) (fun r h3 => mm_Wp 11 (bk_11_5.drop 8) [zR (1, 0, 0), vx1, vx2, zI x3, zR (22, tx4, 0), zR (24, tx5, nx5), zR (31, tx6, 0), zI y0, vx8] (mm_push r []) h3 Q) :=
  (wp_6 (l2 := [zR (1, 0, 0), vx1, vx2, zI x3, zR (22, tx4, 0), zR (24, tx5, nx5), zR (31, tx6, 0), zI y0, vx8]) rfl).trans ((wp_5_0).trans ((wp_5_4).trans ((wp_3_7).trans ((wp_v3 mm_n_56 (mm_leq mm_m_56 (mm_lb rfl)) (mm_lb rfl) (mm_o1 hx)).trans rfl))))
theorem r_11_5_8 (vx1 : mm_V) (vx2 : mm_V) (x3 : Int) (vx4 : mm_V) {tx5 nx5 : Int} {tx6 : Int} (x7 : Int) (vx8 : mm_V) {hi : mm_Id → Int → Int} {dh : Int → Int} {nx ns : Int} {Q : mm_V → mm_H → Prop} (htx5 : mm_isT tx5) (hnx5 : mm_isN nx5) (htx6 : mm_isD tx6) (hx : 5275 ≤ nx) :
    mm_Wp 11 (bk_11_5.drop 8) [zR (1, 0, 0), vx1, vx2, zI x3, vx4, zR (24, tx5, nx5), zR (31, tx6, 0), zI x7, vx8] [zR mm_nul] (mm_z hi dh nx ns) Q =
    Q (zI (-1)) (mm_z hi dh nx ns) :=
  (wp_8 (l2 := [zR (1, 0, 0), vx1, vx2, zI x3, vx4, zR (24, tx5, nx5), zR (31, tx6, 0), zI x7, zR mm_nul]) rfl).trans ((wp_5_8).trans ((wp_55n).trans ((wp_1).trans (wp_90))))
theorem r_11_5_8a (vx1 : mm_V) (vx2 : mm_V) (x3 : Int) (vx4 : mm_V) {tx5 nx5 : Int} {tx6 : Int} (x7 : Int) (vx8 : mm_V) {ty0 ny0 : Int} {hi : mm_Id → Int → Int} {dh : Int → Int} {nx ns : Int} {Q : mm_V → mm_H → Prop} (htx5 : mm_isT tx5) (hnx5 : mm_isN nx5) (htx6 : mm_isD tx6) (hty0 : mm_isT ty0) (hny0 : mm_isN ny0) (hx : 5275 ≤ nx) :
    mm_Wp 11 (bk_11_5.drop 8) [zR (1, 0, 0), vx1, vx2, zI x3, vx4, zR (24, tx5, nx5), zR (31, tx6, 0), zI x7, vx8] [zR (24, ty0, ny0)] (mm_z hi dh nx ns) Q =
    (if (hi (24, ty0, ny0) 0) = 2 then (if 0 < (hi (24, ty0, ny0) 6) then Q (zI (-3)) (mm_z hi dh nx ns) else mm_Wp 11 (mm_blk 11 7) [zR (1, 0, 0), vx1, vx2, zI x3, vx4, zR (24, tx5, nx5), zR (31, tx6, 0), zI x7, zR (24, ty0, ny0)] [] (mm_z hi dh nx ns) Q) else mm_Wp 11 (mm_blk 11 7) [zR (1, 0, 0), vx1, vx2, zI x3, vx4, zR (24, tx5, nx5), zR (31, tx6, 0), zI x7, zR (24, ty0, ny0)] [] (mm_z hi dh nx ns) Q) :=
  (wp_8 (l2 := [zR (1, 0, 0), vx1, vx2, zI x3, vx4, zR (24, tx5, nx5), zR (31, tx6, 0), zI x7, zR (24, ty0, ny0)]) rfl).trans ((wp_5_8).trans ((wp_55 (by decide)).trans (mm_kb bq_11_6 ((wp_5_8).trans ((wp_60 (by decide) (mm_o24 hty0 hny0 hx)).trans ((wp_1).trans ((wp_47).trans (mm_ic ((wp_5_8).trans ((wp_60 (by decide) (mm_o24 hty0 hny0 hx)).trans ((wp_45).trans (mm_ic ((wp_1).trans (wp_90)) (rfl))))) (rfl)))))))))
theorem r_11_7 (vx1 : mm_V) (vx2 : mm_V) (x3 : Int) (vx4 : mm_V) {tx5 nx5 : Int} {tx6 : Int} (x7 : Int) {tx8 nx8 : Int} {hi : mm_Id → Int → Int} {dh : Int → Int} {nx ns : Int} {Q : mm_V → mm_H → Prop} (htx5 : mm_isT tx5) (hnx5 : mm_isN nx5) (htx6 : mm_isD tx6) (htx8 : mm_isT tx8) (hnx8 : mm_isN nx8) (hx : 5275 ≤ nx) :
    mm_Wp 11 (mm_blk 11 7) [zR (1, 0, 0), vx1, vx2, zI x3, vx4, zR (24, tx5, nx5), zR (31, tx6, 0), zI x7, zR (24, tx8, nx8)] [] (mm_z hi dh nx ns) Q =
    mm_Cl 101 [zR (24, tx5, nx5), zI x3] (mm_z hi dh nx ns) (fun r h3 => mm_Wp 11 (bk_11_7.drop 3) [zR (1, 0, 0), vx1, vx2, zI x3, vx4, zR (24, tx5, nx5), zR (31, tx6, 0), zI x7, zR (24, tx8, nx8)] (mm_push r []) h3 Q) :=
  mm_kb bq_11_7 ((wp_5_5).trans ((wp_3_3).trans ((wp_v2 mm_n_101 (mm_leq mm_m_101 (mm_lb rfl)) (mm_lb rfl) (mm_o24 htx5 hnx5 hx)).trans rfl)))
theorem r_11_7_3 (vx1 : mm_V) (vx2 : mm_V) (vx3 : mm_V) (vx4 : mm_V) (vx5 : mm_V) {tx6 : Int} (x7 : Int) {tx8 nx8 : Int} {hi : mm_Id → Int → Int} {dh : Int → Int} {nx ns : Int} {Q : mm_V → mm_H → Prop} (htx6 : mm_isD tx6) (htx8 : mm_isT tx8) (hnx8 : mm_isN nx8) (hx : 5275 ≤ nx) :
    mm_Wp 11 (bk_11_7.drop 3) [zR (1, 0, 0), vx1, vx2, vx3, vx4, vx5, zR (31, tx6, 0), zI x7, zR (24, tx8, nx8)] [] (mm_z hi dh nx ns) Q =
    mm_Cl 71 [zR (1, 0, 0), zR (31, tx6, 0), zI x7] (mm_z (mm_up hi (24, tx8, nx8) 5 (mm_w ((hi (24, tx8, nx8) 5) - 1))) dh nx ns) (fun r h3 => mm_Wp 11 (bk_11_7.drop 13) [zR (1, 0, 0), vx1, vx2, vx3, vx4, vx5, zR (31, tx6, 0), zI x7, zR (24, tx8, nx8)] (mm_push r []) h3 Q) :=
  (wp_5_8).trans ((wp_35r).trans ((wp_60 (by decide) (mm_o24 htx8 hnx8 hx)).trans ((wp_1).trans ((wp_11).trans ((wp_63 (mm_o24 htx8 hnx8 hx)).trans ((wp_5_0).trans ((wp_5_6).trans ((wp_3_7).trans ((wp_v3 mm_n_71 (mm_leq mm_m_71 (mm_lb rfl)) (mm_lb rfl) (mm_o1 hx)).trans rfl)))))))))
theorem r_11_7_13 (vx1 : mm_V) (vx2 : mm_V) (vx3 : mm_V) (vx4 : mm_V) (vx5 : mm_V) {tx6 : Int} (x7 : Int) (vx8 : mm_V) {hi : mm_Id → Int → Int} {dh : Int → Int} {nx ns : Int} {Q : mm_V → mm_H → Prop} (htx6 : mm_isD tx6) (hx : 5275 ≤ nx) :
    mm_Wp 11 (bk_11_7.drop 13) [zR (1, 0, 0), vx1, vx2, vx3, vx4, vx5, zR (31, tx6, 0), zI x7, vx8] [] (mm_z hi dh nx ns) Q =
    mm_Cl 63 [zR (1, 0, 0), zR (31, tx6, 0)] (mm_z hi dh nx ns) (fun r h3 => mm_Wp 11 (bk_11_7.drop 16) [zR (1, 0, 0), vx1, vx2, vx3, vx4, vx5, zR (31, tx6, 0), zI x7, vx8] (mm_push r []) h3 Q) :=
  (wp_5_0).trans ((wp_5_6).trans ((wp_v2 mm_n_63 (mm_leq mm_m_63 (mm_lb rfl)) (mm_lb rfl) (mm_o1 hx)).trans rfl))
theorem r_11_7_16 (vx0 : mm_V) (vx1 : mm_V) (vx2 : mm_V) (vx3 : mm_V) (vx4 : mm_V) (vx5 : mm_V) (vx6 : mm_V) (x7 : Int) (vx8 : mm_V) {hi : mm_Id → Int → Int} {dh : Int → Int} {nx ns : Int} {Q : mm_V → mm_H → Prop} (hx : 5275 ≤ nx) :
    mm_Wp 11 (bk_11_7.drop 16) [vx0, vx1, vx2, vx3, vx4, vx5, vx6, zI x7, vx8] [] (mm_z hi dh nx ns) Q =
    Q (zI x7) (mm_z hi dh nx ns) :=
  (wp_3_7).trans (wp_90)
/-- PoolHouse.rename(IIIII)I -/
theorem bq_12_0 : mm_blk 12 0 = bk_12_0 := by decide +kernel
theorem bq_12_1 : mm_blk 12 1 = bk_12_1 := by decide +kernel
theorem bq_12_2 : mm_blk 12 2 = bk_12_2 := by decide +kernel
theorem bq_12_3 : mm_blk 12 3 = bk_12_3 := by decide +kernel
theorem bq_12_4 : mm_blk 12 4 = bk_12_4 := by decide +kernel
theorem bq_12_5 : mm_blk 12 5 = bk_12_5 := by decide +kernel
theorem bq_12_6 : mm_blk 12 6 = bk_12_6 := by decide +kernel
theorem bq_12_7 : mm_blk 12 7 = bk_12_7 := by decide +kernel
theorem bq_12_8 : mm_blk 12 8 = bk_12_8 := by decide +kernel
theorem bq_12_9 : mm_blk 12 9 = bk_12_9 := by decide +kernel
theorem bq_12_10 : mm_blk 12 10 = bk_12_10 := by decide +kernel
theorem bq_12_11 : mm_blk 12 11 = bk_12_11 := by decide +kernel
theorem bq_12_12 : mm_blk 12 12 = bk_12_12 := by decide +kernel
theorem r_12_e (x1 : Int) (x2 : Int) (x3 : Int) (x4 : Int) (x5 : Int) {hi : mm_Id → Int → Int} {dh : Int → Int} {nx ns : Int} {Q : mm_V → mm_H → Prop} (hx : 5275 ≤ nx) :
    mm_Cl 12 [zR (1, 0, 0), zI x1, zI x2, zI x3, zI x4, zI x5] (mm_z hi dh nx ns) Q =
    mm_Cl 55 [zR (1, 0, 0), zI x1] (mm_z hi dh nx ns) (fun r h3 => mm_Wp 12 (bk_12_0.drop 3) [zR (1, 0, 0), zI x1, zI x2, zI x3, zI x4, zI x5, zU, zU, zU, zU, zU, zU] (mm_push r []) h3 Q) :=
  mm_ce (l2 := [zR (1, 0, 0), zI x1, zI x2, zI x3, zI x4, zI x5, zU, zU, zU, zU, zU, zU]) rfl (mm_kb bq_12_0 ((wp_5_0).trans ((wp_3_1).trans ((wp_v2 mm_n_55 (mm_leq mm_m_55 (mm_lb rfl)) (mm_lb rfl) (mm_o1 hx)).trans rfl))))
theorem r_12_0_3 (x1 : Int) (x2 : Int) (x3 : Int) (x4 : Int) (x5 : Int) (vx6 : mm_V) (vx7 : mm_V) (vx8 : mm_V) (vx9 : mm_V) (vx10 : mm_V) (vx11 : mm_V) {hi : mm_Id → Int → Int} {dh : Int → Int} {nx ns : Int} {Q : mm_V → mm_H → Prop} (hx : 5275 ≤ nx) :
    mm_Wp 12 (bk_12_0.drop 3) [zR (1, 0, 0), zI x1, zI x2, zI x3, zI x4, zI x5, vx6, vx7, vx8, vx9, vx10, vx11] [zR mm_nul] (mm_z hi dh nx ns) Q =
    mm_Cl 56 [zR (1, 0, 0), zR mm_nul, zI x2] (mm_z hi dh nx ns) (fun r h3 => mm_Wp 12 (bk_12_0.drop 8) [zR (1, 0, 0), zI x1, zI x2, zI x3, zI x4, zI x5, zR mm_nul, vx7, vx8, vx9, vx10, vx11] (mm_push r []) h3 Q) :=
  (wp_8 (l2 := [zR (1, 0, 0), zI x1, zI x2, zI x3, zI x4, zI x5, zR mm_nul, vx7, vx8, vx9, vx10, vx11]) rfl).trans ((wp_5_0).trans ((wp_5_6).trans ((wp_3_2).trans ((wp_v3 mm_n_56 (mm_leq mm_m_56 (mm_lb rfl)) (mm_lb rfl) (mm_o1 hx)).trans rfl))))
theorem r_12_0_3a (x1 : Int) (x2 : Int) (x3 : Int) (x4 : Int) (x5 : Int) (vx6 : mm_V) (vx7 : mm_V) (vx8 : mm_V) (vx9 : mm_V) (vx10 : mm_V) (vx11 : mm_V) {ty0 : Int} {hi : mm_Id → Int → Int} {dh : Int → Int} {nx ns : Int} {Q : mm_V → mm_H → Prop} (hty0 : mm_isT ty0) (hx : 5275 ≤ nx) :
    mm_Wp 12 (bk_12_0.drop 3) [zR (1, 0, 0), zI x1, zI x2, zI x3, zI x4, zI x5, vx6, vx7, vx8, vx9, vx10, vx11] [zR (22, ty0, 0)] (mm_z hi dh nx ns) Q =
    mm_Cl 56 [zR (1, 0, 0), zR (22, ty0, 0), zI x2] (mm_z hi dh nx ns) (fun r h3 => mm_Wp 12 (bk_12_0.drop 8) [zR (1, 0, 0), zI x1, zI x2, zI x3, zI x4, zI x5, zR (22, ty0, 0), vx7, vx8, vx9, vx10, vx11] (mm_push r []) h3 Q) :=
  (wp_8 (l2 := [zR (1, 0, 0), zI x1, zI x2, zI x3, zI x4, zI x5, zR (22, ty0, 0), vx7, vx8, vx9, vx10, vx11]) rfl).trans ((wp_5_0).trans ((wp_5_6).trans ((wp_3_2).trans ((wp_v3 mm_n_56 (mm_leq mm_m_56 (mm_lb rfl)) (mm_lb rfl) (mm_o1 hx)).trans rfl))))
theorem r_12_0_8 (x1 : Int) (x2 : Int) (x3 : Int) (x4 : Int) (x5 : Int) (vx7 : mm_V) (vx8 : mm_V) (vx9 : mm_V) (vx10 : mm_V) (vx11 : mm_V) {hi : mm_Id → Int → Int} {dh : Int → Int} {nx ns : Int} {Q : mm_V → mm_H → Prop} (hx : 5275 ≤ nx) :
    mm_Wp 12 (bk_12_0.drop 8) [zR (1, 0, 0), zI x1, zI x2, zI x3, zI x4, zI x5, zR mm_nul, vx7, vx8, vx9, vx10, vx11] [zR mm_nul] (mm_z hi dh nx ns) Q =
    mm_Cl 56 [zR (1, 0, 0), zR mm_nul, zI x4] (mm_z hi dh nx ns) (fun r h3 => mm_Wp 12 (bk_12_0.drop 13) [zR (1, 0, 0), zI x1, zI x2, zI x3, zI x4, zI x5, zR mm_nul, zR mm_nul, vx8, vx9, vx10, vx11] (mm_push r []) h3 Q) :=
  (wp_8 (l2 := [zR (1, 0, 0), zI x1, zI x2, zI x3, zI x4, zI x5, zR mm_nul, zR mm_nul, vx8, vx9, vx10, vx11]) rfl).trans ((wp_5_0).trans ((wp_5_6).trans ((wp_3_4).trans ((wp_v3 mm_n_56 (mm_leq mm_m_56 (mm_lb rfl)) (mm_lb rfl) (mm_o1 hx)).trans rfl))))
theorem r_12_0_8a (x1 : Int) (x2 : Int) (x3 : Int) (x4 : Int) (x5 : Int) {tx6 : Int} (vx7 : mm_V) (vx8 : mm_V) (vx9 : mm_V) (vx10 : mm_V) (vx11 : mm_V) {hi : mm_Id → Int → Int} {dh : Int → Int} {nx ns : Int} {Q : mm_V → mm_H → Prop} (htx6 : mm_isT tx6) (hx : 5275 ≤ nx) :
    mm_Wp 12 (bk_12_0.drop 8) [zR (1, 0, 0), zI x1, zI x2, zI x3, zI x4, zI x5, zR (22, tx6, 0), vx7, vx8, vx9, vx10, vx11] [zR mm_nul] (mm_z hi dh nx ns) Q =
    mm_Cl 56 [zR (1, 0, 0), zR (22, tx6, 0), zI x4] (mm_z hi dh nx ns) (fun r h3 => mm_Wp 12 (bk_12_0.drop 13) [zR (1, 0, 0), zI x1, zI x2, zI x3, zI x4, zI x5, zR (22, tx6, 0), zR mm_nul, vx8, vx9, vx10, vx11] (mm_push r []) h3 Q) :=
  (wp_8 (l2 := [zR (1, 0, 0), zI x1, zI x2, zI x3, zI x4, zI x5, zR (22, tx6, 0), zR mm_nul, vx8, vx9, vx10, vx11]) rfl).trans ((wp_5_0).trans ((wp_5_6).trans ((wp_3_4).trans ((wp_v3 mm_n_56 (mm_leq mm_m_56 (mm_lb rfl)) (mm_lb rfl) (mm_o1 hx)).trans rfl))))
theorem r_12_0_8b (x1 : Int) (x2 : Int) (x3 : Int) (x4 : Int) (x5 : Int) {tx6 : Int} (vx7 : mm_V) (vx8 : mm_V) (vx9 : mm_V) (vx10 : mm_V) (vx11 : mm_V) {ty0 ny0 : Int} {hi : mm_Id → Int → Int} {dh : Int → Int} {nx ns : Int} {Q : mm_V → mm_H → Prop} (htx6 : mm_isT tx6) (hty0 : mm_isT ty0) (hny0 : mm_isN ny0) (hx : 5275 ≤ nx) :
    mm_Wp 12 (bk_12_0.drop 8) [zR (1, 0, 0), zI x1, zI x2, zI x3, zI x4, zI x5, zR (22, tx6, 0), vx7, vx8, vx9, vx10, vx11] [zR (24, ty0, ny0)] (mm_z hi dh nx ns) Q =
    mm_Cl 56 [zR (1, 0, 0), zR (22, tx6, 0), zI x4] (mm_z hi dh nx ns) (fun r h3 => mm_Wp 12 (bk_12_0.drop 13) [zR (1, 0, 0), zI x1, zI x2, zI x3, zI x4, zI x5, zR (22, tx6, 0), zR (24, ty0, ny0), vx8, vx9, vx10, vx11] (mm_push r []) h3 Q) :=
  (wp_8 (l2 := [zR (1, 0, 0), zI x1, zI x2, zI x3, zI x4, zI x5, zR (22, tx6, 0), zR (24, ty0, ny0), vx8, vx9, vx10, vx11]) rfl).trans ((wp_5_0).trans ((wp_5_6).trans ((wp_3_4).trans ((wp_v3 mm_n_56 (mm_leq mm_m_56 (mm_lb rfl)) (mm_lb rfl) (mm_o1 hx)).trans rfl))))
theorem r_12_0_13 (x1 : Int) (x2 : Int) (x3 : Int) (x4 : Int) (x5 : Int) (vx8 : mm_V) (vx9 : mm_V) (vx10 : mm_V) (vx11 : mm_V) {hi : mm_Id → Int → Int} {dh : Int → Int} {nx ns : Int} {Q : mm_V → mm_H → Prop} (hx : 5275 ≤ nx) :
    mm_Wp 12 (bk_12_0.drop 13) [zR (1, 0, 0), zI x1, zI x2, zI x3, zI x4, zI x5, zR mm_nul, zR mm_nul, vx8, vx9, vx10, vx11] [zR mm_nul] (mm_z hi dh nx ns) Q =
    mm_Wp 12 (mm_blk 12 1) [zR (1, 0, 0), zI x1, zI x2, zI x3, zI x4, zI x5, zR mm_nul, zR mm_nul, zR mm_nul, vx9, vx10, vx11] [] (mm_z hi dh nx ns) Q :=
  (wp_8 (l2 := [zR (1, 0, 0), zI x1, zI x2, zI x3, zI x4, zI x5, zR mm_nul, zR mm_nul, zR mm_nul, vx9, vx10, vx11]) rfl).trans ((wp_5_7).trans ((wp_54n).trans (rfl)))
theorem r_12_0_13a (x1 : Int) (x2 : Int) (x3 : Int) (x4 : Int) (x5 : Int) {tx6 : Int} (vx8 : mm_V) (vx9 : mm_V) (vx10 : mm_V) (vx11 : mm_V) {hi : mm_Id → Int → Int} {dh : Int → Int} {nx ns : Int} {Q : mm_V → mm_H → Prop} (htx6 : mm_isT tx6) (hx : 5275 ≤ nx) :
    mm_Wp 12 (bk_12_0.drop 13) [zR (1, 0, 0), zI x1, zI x2, zI x3, zI x4, zI x5, zR (22, tx6, 0), zR mm_nul, vx8, vx9, vx10, vx11] [zR mm_nul] (mm_z hi dh nx ns) Q =
    mm_Wp 12 (mm_blk 12 1) [zR (1, 0, 0), zI x1, zI x2, zI x3, zI x4, zI x5, zR (22, tx6, 0), zR mm_nul, zR mm_nul, vx9, vx10, vx11] [] (mm_z hi dh nx ns) Q :=
  (wp_8 (l2 := [zR (1, 0, 0), zI x1, zI x2, zI x3, zI x4, zI x5, zR (22, tx6, 0), zR mm_nul, zR mm_nul, vx9, vx10, vx11]) rfl).trans ((wp_5_7).trans ((wp_54n).trans (rfl)))
theorem r_12_0_13b (x1 : Int) (x2 : Int) (x3 : Int) (x4 : Int) (x5 : Int) {tx6 : Int} (vx8 : mm_V) (vx9 : mm_V) (vx10 : mm_V) (vx11 : mm_V) {ty0 ny0 : Int} {hi : mm_Id → Int → Int} {dh : Int → Int} {nx ns : Int} {Q : mm_V → mm_H → Prop} (htx6 : mm_isT tx6) (hty0 : mm_isT ty0) (hny0 : mm_isN ny0) (hx : 5275 ≤ nx) :
    mm_Wp 12 (bk_12_0.drop 13) [zR (1, 0, 0), zI x1, zI x2, zI x3, zI x4, zI x5, zR (22, tx6, 0), zR mm_nul, vx8, vx9, vx10, vx11] [zR (24, ty0, ny0)] (mm_z hi dh nx ns) Q =
    mm_Wp 12 (mm_blk 12 1) [zR (1, 0, 0), zI x1, zI x2, zI x3, zI x4, zI x5, zR (22, tx6, 0), zR mm_nul, zR (24, ty0, ny0), vx9, vx10, vx11] [] (mm_z hi dh nx ns) Q :=
  (wp_8 (l2 := [zR (1, 0, 0), zI x1, zI x2, zI x3, zI x4, zI x5, zR (22, tx6, 0), zR mm_nul, zR (24, ty0, ny0), vx9, vx10, vx11]) rfl).trans ((wp_5_7).trans ((wp_54n).trans (rfl)))
theorem r_12_0_13c (x1 : Int) (x2 : Int) (x3 : Int) (x4 : Int) (x5 : Int) {tx6 : Int} {tx7 nx7 : Int} (vx8 : mm_V) (vx9 : mm_V) (vx10 : mm_V) (vx11 : mm_V) {hi : mm_Id → Int → Int} {dh : Int → Int} {nx ns : Int} {Q : mm_V → mm_H → Prop} (htx6 : mm_isT tx6) (htx7 : mm_isT tx7) (hnx7 : mm_isN nx7) (hx : 5275 ≤ nx) :
    mm_Wp 12 (bk_12_0.drop 13) [zR (1, 0, 0), zI x1, zI x2, zI x3, zI x4, zI x5, zR (22, tx6, 0), zR (24, tx7, nx7), vx8, vx9, vx10, vx11] [zR mm_nul] (mm_z hi dh nx ns) Q =
    mm_Wp 12 (mm_blk 12 1) [zR (1, 0, 0), zI x1, zI x2, zI x3, zI x4, zI x5, zR (22, tx6, 0), zR (24, tx7, nx7), zR mm_nul, vx9, vx10, vx11] [] (mm_z hi dh nx ns) Q :=
  (wp_8 (l2 := [zR (1, 0, 0), zI x1, zI x2, zI x3, zI x4, zI x5, zR (22, tx6, 0), zR (24, tx7, nx7), zR mm_nul, vx9, vx10, vx11]) rfl).trans ((wp_5_7).trans ((wp_54 (by decide)).trans ((wp_5_8).trans ((wp_55n).trans ((wp_0).trans (rfl))))))
theorem r_12_0_13d (x1 : Int) (x2 : Int) (x3 : Int) (x4 : Int) (x5 : Int) {tx6 : Int} {tx7 nx7 : Int} (vx8 : mm_V) (vx9 : mm_V) (vx10 : mm_V) (vx11 : mm_V) {ty0 ny0 : Int} {hi : mm_Id → Int → Int} {dh : Int → Int} {nx ns : Int} {Q : mm_V → mm_H → Prop} (htx6 : mm_isT tx6) (htx7 : mm_isT tx7) (hnx7 : mm_isN nx7) (hty0 : mm_isT ty0) (hny0 : mm_isN ny0) (hx : 5275 ≤ nx) :
    mm_Wp 12 (bk_12_0.drop 13) [zR (1, 0, 0), zI x1, zI x2, zI x3, zI x4, zI x5, zR (22, tx6, 0), zR (24, tx7, nx7), vx8, vx9, vx10, vx11] [zR (24, ty0, ny0)] (mm_z hi dh nx ns) Q =
    mm_Cl 58 [zR (1, 0, 0), zI x3] (mm_z hi dh nx ns) (fun r h3 => mm_Wp 12 (bk_12_2.drop 3) [zR (1, 0, 0), zI x1, zI x2, zI x3, zI x4, zI x5, zR (22, tx6, 0), zR (24, tx7, nx7), zR (24, ty0, ny0), vx9, vx10, vx11] (mm_push r []) h3 Q) :=
  (wp_8 (l2 := [zR (1, 0, 0), zI x1, zI x2, zI x3, zI x4, zI x5, zR (22, tx6, 0), zR (24, tx7, nx7), zR (24, ty0, ny0), vx9, vx10, vx11]) rfl).trans ((wp_5_7).trans ((wp_54 (by decide)).trans ((wp_5_8).trans ((wp_55 (by decide)).trans (mm_kb bq_12_2 ((wp_5_0).trans ((wp_3_3).trans ((wp_v2 mm_n_58 (mm_leq mm_m_58 (mm_lb rfl)) (mm_lb rfl) (mm_o1 hx)).trans rfl))))))))
theorem r_12_1 (vx0 : mm_V) (vx1 : mm_V) (vx2 : mm_V) (vx3 : mm_V) (vx4 : mm_V) (vx5 : mm_V) (vx6 : mm_V) (vx7 : mm_V) (vx8 : mm_V) (vx9 : mm_V) (vx10 : mm_V) (vx11 : mm_V) {hi : mm_Id → Int → Int} {dh : Int → Int} {nx ns : Int} {Q : mm_V → mm_H → Prop} (hx : 5275 ≤ nx) :
    mm_Wp 12 (mm_blk 12 1) [vx0, vx1, vx2, vx3, vx4, vx5, vx6, vx7, vx8, vx9, vx10, vx11] [] (mm_z hi dh nx ns) Q =
    Q (zI (-1)) (mm_z hi dh nx ns) :=
  mm_kb bq_12_1 ((wp_1).trans (wp_90))
theorem r_12_2_3 (x1 : Int) (x2 : Int) (x3 : Int) (x4 : Int) (x5 : Int) {tx6 : Int} {tx7 nx7 : Int} {tx8 nx8 : Int} (vx9 : mm_V) (vx10 : mm_V) (vx11 : mm_V) (y0 : Int) {hi : mm_Id → Int → Int} {dh : Int → Int} {nx ns : Int} {Q : mm_V → mm_H → Prop} (htx6 : mm_isT tx6) (htx7 : mm_isT tx7) (hnx7 : mm_isN nx7) (htx8 : mm_isT tx8) (hnx8 : mm_isN nx8) (hx : 5275 ≤ nx) :
    mm_Wp 12 (bk_12_2.drop 3) [zR (1, 0, 0), zI x1, zI x2, zI x3, zI x4, zI x5, zR (22, tx6, 0), zR (24, tx7, nx7), zR (24, tx8, nx8), vx9, vx10, vx11] [zI y0] (mm_z hi dh nx ns) Q =
    (if y0 = 0 then mm_Wp 12 (mm_blk 12 3) [zR (1, 0, 0), zI x1, zI x2, zI x3, zI x4, zI x5, zR (22, tx6, 0), zR (24, tx7, nx7), zR (24, tx8, nx8), vx9, vx10, vx11] [] (mm_z hi dh nx ns) Q else mm_Cl 58 [zR (1, 0, 0), zI x5] (mm_z hi dh nx ns) (fun r h3 => mm_Wp 12 (bk_12_2.drop 7) [zR (1, 0, 0), zI x1, zI x2, zI x3, zI x4, zI x5, zR (22, tx6, 0), zR (24, tx7, nx7), zR (24, tx8, nx8), vx9, vx10, vx11] (mm_push r []) h3 Q)) :=
  (wp_40).trans (mm_ic (rfl) ((wp_5_0).trans ((wp_3_5).trans ((wp_v2 mm_n_58 (mm_leq mm_m_58 (mm_lb rfl)) (mm_lb rfl) (mm_o1 hx)).trans rfl))))
theorem r_12_3 (vx0 : mm_V) (vx1 : mm_V) (vx2 : mm_V) (vx3 : mm_V) (vx4 : mm_V) (vx5 : mm_V) (vx6 : mm_V) (vx7 : mm_V) (vx8 : mm_V) (vx9 : mm_V) (vx10 : mm_V) (vx11 : mm_V) {hi : mm_Id → Int → Int} {dh : Int → Int} {nx ns : Int} {Q : mm_V → mm_H → Prop} (hx : 5275 ≤ nx) :
    mm_Wp 12 (mm_blk 12 3) [vx0, vx1, vx2, vx3, vx4, vx5, vx6, vx7, vx8, vx9, vx10, vx11] [] (mm_z hi dh nx ns) Q =
    Q (zI (-2)) (mm_z hi dh nx ns) :=
  mm_kb bq_12_3 ((wp_1).trans (wp_90))
theorem r_12_2_7 (x1 : Int) (x2 : Int) (x3 : Int) (x4 : Int) (x5 : Int) {tx6 : Int} {tx7 nx7 : Int} {tx8 nx8 : Int} (vx9 : mm_V) (vx10 : mm_V) (vx11 : mm_V) (y0 : Int) {hi : mm_Id → Int → Int} {dh : Int → Int} {nx ns : Int} {Q : mm_V → mm_H → Prop} (htx6 : mm_isT tx6) (htx7 : mm_isT tx7) (hnx7 : mm_isN nx7) (htx8 : mm_isT tx8) (hnx8 : mm_isN nx8) (hx : 5275 ≤ nx) :
    mm_Wp 12 (bk_12_2.drop 7) [zR (1, 0, 0), zI x1, zI x2, zI x3, zI x4, zI x5, zR (22, tx6, 0), zR (24, tx7, nx7), zR (24, tx8, nx8), vx9, vx10, vx11] [zI y0] (mm_z hi dh nx ns) Q =
    (if y0 = 0 then mm_Wp 12 (mm_blk 12 3) [zR (1, 0, 0), zI x1, zI x2, zI x3, zI x4, zI x5, zR (22, tx6, 0), zR (24, tx7, nx7), zR (24, tx8, nx8), vx9, vx10, vx11] [] (mm_z hi dh nx ns) Q else mm_Cl 53 [zR (1, 0, 0), zI x1] (mm_z hi dh nx ns) (fun r h3 => mm_Wp 12 (bk_12_4.drop 3) [zR (1, 0, 0), zI x1, zI x2, zI x3, zI x4, zI x5, zR (22, tx6, 0), zR (24, tx7, nx7), zR (24, tx8, nx8), vx9, vx10, vx11] (mm_push r []) h3 Q)) :=
  (wp_41).trans (mm_ic ((wp_0).trans (rfl)) (mm_kb bq_12_4 ((wp_5_0).trans ((wp_3_1).trans ((wp_v2 mm_n_53 (mm_leq mm_m_53 (mm_lb rfl)) (mm_lb rfl) (mm_o1 hx)).trans rfl)))))
theorem r_12_4_3 (vx1 : mm_V) (x2 : Int) (x3 : Int) (x4 : Int) (x5 : Int) {tx6 : Int} {tx7 nx7 : Int} {tx8 nx8 : Int} (vx9 : mm_V) (vx10 : mm_V) (vx11 : mm_V) {hi : mm_Id → Int → Int} {dh : Int → Int} {nx ns : Int} {Q : mm_V → mm_H → Prop} (htx6 : mm_isT tx6) (htx7 : mm_isT tx7) (hnx7 : mm_isN nx7) (htx8 : mm_isT tx8) (hnx8 : mm_isN nx8) (hx : 5275 ≤ nx) :
    mm_Wp 12 (bk_12_4.drop 3) [zR (1, 0, 0), vx1, zI x2, zI x3, zI x4, zI x5, zR (22, tx6, 0), zR (24, tx7, nx7), zR (24, tx8, nx8), vx9, vx10, vx11] [zR mm_nul] (mm_z hi dh nx ns) Q =
    mm_Wp 12 (mm_blk 12 5) [zR (1, 0, 0), vx1, zI x2, zI x3, zI x4, zI x5, zR (22, tx6, 0), zR (24, tx7, nx7), zR (24, tx8, nx8), zR mm_nul, vx10, vx11] [] (mm_z hi dh nx ns) Q :=
  (wp_8 (l2 := [zR (1, 0, 0), vx1, zI x2, zI x3, zI x4, zI x5, zR (22, tx6, 0), zR (24, tx7, nx7), zR (24, tx8, nx8), zR mm_nul, vx10, vx11]) rfl).trans ((wp_5_9).trans ((wp_54n).trans (rfl)))
theorem r_12_4_3a (vx1 : mm_V) (x2 : Int) (x3 : Int) (x4 : Int) (x5 : Int) {tx6 : Int} {tx7 nx7 : Int} {tx8 nx8 : Int} (vx9 : mm_V) (vx10 : mm_V) (vx11 : mm_V) {ty0 : Int} {hi : mm_Id → Int → Int} {dh : Int → Int} {nx ns : Int} {Q : mm_V → mm_H → Prop} (htx6 : mm_isT tx6) (htx7 : mm_isT tx7) (hnx7 : mm_isN nx7) (htx8 : mm_isT tx8) (hnx8 : mm_isN nx8) (hty0 : mm_isD ty0) (hx : 5275 ≤ nx) :
    mm_Wp 12 (bk_12_4.drop 3) [zR (1, 0, 0), vx1, zI x2, zI x3, zI x4, zI x5, zR (22, tx6, 0), zR (24, tx7, nx7), zR (24, tx8, nx8), vx9, vx10, vx11] [zR (31, ty0, 0)] (mm_z hi dh nx ns) Q =
    (if (hi (24, tx7, nx7) 0) = 2 then (if (hi (24, tx8, nx8) 0) = 2 then mm_Cl 61 [zR (1, 0, 0), zR (24, tx7, nx7)] (mm_z hi dh nx ns) (fun r h3 => mm_Wp 12 (bk_12_6.drop 3) [zR (1, 0, 0), vx1, zI x2, zI x3, zI x4, zI x5, zR (22, tx6, 0), zR (24, tx7, nx7), zR (24, tx8, nx8), zR (31, ty0, 0), vx10, vx11] (mm_push r []) h3 Q) else mm_Wp 12 (mm_blk 12 5) [zR (1, 0, 0), vx1, zI x2, zI x3, zI x4, zI x5, zR (22, tx6, 0), zR (24, tx7, nx7), zR (24, tx8, nx8), zR (31, ty0, 0), vx10, vx11] [] (mm_z hi dh nx ns) Q) else mm_Wp 12 (mm_blk 12 5) [zR (1, 0, 0), vx1, zI x2, zI x3, zI x4, zI x5, zR (22, tx6, 0), zR (24, tx7, nx7), zR (24, tx8, nx8), zR (31, ty0, 0), vx10, vx11] [] (mm_z hi dh nx ns) Q) :=
  (wp_8 (l2 := [zR (1, 0, 0), vx1, zI x2, zI x3, zI x4, zI x5, zR (22, tx6, 0), zR (24, tx7, nx7), zR (24, tx8, nx8), zR (31, ty0, 0), vx10, vx11]) rfl).trans ((wp_5_9).trans ((wp_54 (by decide)).trans ((wp_5_7).trans ((wp_60 (by decide) (mm_o24 htx7 hnx7 hx)).trans ((wp_1).trans ((wp_47).trans (mm_ic ((wp_5_8).trans ((wp_60 (by decide) (mm_o24 htx8 hnx8 hx)).trans ((wp_1).trans ((wp_46).trans (mm_ic (mm_kb bq_12_6 ((wp_5_0).trans ((wp_5_7).trans ((wp_v2 mm_n_61 (mm_leq mm_m_61 (mm_lb rfl)) (mm_lb rfl) (mm_o1 hx)).trans rfl)))) ((wp_0).trans (rfl))))))) (rfl))))))))
theorem r_12_5 (vx0 : mm_V) (vx1 : mm_V) (vx2 : mm_V) (vx3 : mm_V) (vx4 : mm_V) (vx5 : mm_V) (vx6 : mm_V) (vx7 : mm_V) (vx8 : mm_V) (vx9 : mm_V) (vx10 : mm_V) (vx11 : mm_V) {hi : mm_Id → Int → Int} {dh : Int → Int} {nx ns : Int} {Q : mm_V → mm_H → Prop} (hx : 5275 ≤ nx) :
    mm_Wp 12 (mm_blk 12 5) [vx0, vx1, vx2, vx3, vx4, vx5, vx6, vx7, vx8, vx9, vx10, vx11] [] (mm_z hi dh nx ns) Q =
    Q (zI (-3)) (mm_z hi dh nx ns) :=
  mm_kb bq_12_5 ((wp_1).trans (wp_90))
theorem r_12_6_3 (vx1 : mm_V) (x2 : Int) (x3 : Int) (x4 : Int) (x5 : Int) {tx6 : Int} {tx7 nx7 : Int} {tx8 nx8 : Int} {tx9 : Int} (vx10 : mm_V) (vx11 : mm_V) (y0 : Int) {hi : mm_Id → Int → Int} {dh : Int → Int} {nx ns : Int} {Q : mm_V → mm_H → Prop} (htx6 : mm_isT tx6) (htx7 : mm_isT tx7) (hnx7 : mm_isN nx7) (htx8 : mm_isT tx8) (hnx8 : mm_isN nx8) (htx9 : mm_isD tx9) (hx : 5275 ≤ nx) :
    mm_Wp 12 (bk_12_6.drop 3) [zR (1, 0, 0), vx1, zI x2, zI x3, zI x4, zI x5, zR (22, tx6, 0), zR (24, tx7, nx7), zR (24, tx8, nx8), zR (31, tx9, 0), vx10, vx11] [zI y0] (mm_z hi dh nx ns) Q =
    (if y0 = 0 then mm_Wp 12 (mm_blk 12 7) [zR (1, 0, 0), vx1, zI x2, zI x3, zI x4, zI x5, zR (22, tx6, 0), zR (24, tx7, nx7), zR (24, tx8, nx8), zR (31, tx9, 0), vx10, vx11] [] (mm_z hi dh nx ns) Q else mm_Cl 61 [zR (1, 0, 0), zR (24, tx8, nx8)] (mm_z hi dh nx ns) (fun r h3 => mm_Wp 12 (bk_12_6.drop 7) [zR (1, 0, 0), vx1, zI x2, zI x3, zI x4, zI x5, zR (22, tx6, 0), zR (24, tx7, nx7), zR (24, tx8, nx8), zR (31, tx9, 0), vx10, vx11] (mm_push r []) h3 Q)) :=
  (wp_40).trans (mm_ic (rfl) ((wp_5_0).trans ((wp_5_8).trans ((wp_v2 mm_n_61 (mm_leq mm_m_61 (mm_lb rfl)) (mm_lb rfl) (mm_o1 hx)).trans rfl))))
theorem r_12_7 (vx0 : mm_V) (vx1 : mm_V) (vx2 : mm_V) (vx3 : mm_V) (vx4 : mm_V) (vx5 : mm_V) (vx6 : mm_V) (vx7 : mm_V) (vx8 : mm_V) (vx9 : mm_V) (vx10 : mm_V) (vx11 : mm_V) {hi : mm_Id → Int → Int} {dh : Int → Int} {nx ns : Int} {Q : mm_V → mm_H → Prop} (hx : 5275 ≤ nx) :
    mm_Wp 12 (mm_blk 12 7) [vx0, vx1, vx2, vx3, vx4, vx5, vx6, vx7, vx8, vx9, vx10, vx11] [] (mm_z hi dh nx ns) Q =
    Q (zI (-5)) (mm_z hi dh nx ns) :=
  mm_kb bq_12_7 ((wp_1).trans (wp_90))
theorem r_12_6_7 (vx1 : mm_V) (x2 : Int) (x3 : Int) (x4 : Int) (x5 : Int) {tx6 : Int} {tx7 nx7 : Int} (vx8 : mm_V) {tx9 : Int} (vx10 : mm_V) (vx11 : mm_V) (y0 : Int) {hi : mm_Id → Int → Int} {dh : Int → Int} {nx ns : Int} {Q : mm_V → mm_H → Prop} (htx6 : mm_isT tx6) (htx7 : mm_isT tx7) (hnx7 : mm_isN nx7) (htx9 : mm_isD tx9) (hx : 5275 ≤ nx) :
    mm_Wp 12 (bk_12_6.drop 7) [zR (1, 0, 0), vx1, zI x2, zI x3, zI x4, zI x5, zR (22, tx6, 0), zR (24, tx7, nx7), vx8, zR (31, tx9, 0), vx10, vx11] [zI y0] (mm_z hi dh nx ns) Q =
    (if y0 = 0 then mm_Wp 12 (mm_blk 12 7) [zR (1, 0, 0), vx1, zI x2, zI x3, zI x4, zI x5, zR (22, tx6, 0), zR (24, tx7, nx7), vx8, zR (31, tx9, 0), vx10, vx11] [] (mm_z hi dh nx ns) Q else mm_Cl 99 [zR (24, tx7, nx7), zI x3] (mm_z hi dh nx ns) (fun r h3 => mm_Wp 12 (bk_12_8.drop 3) [zR (1, 0, 0), vx1, zI x2, zI x3, zI x4, zI x5, zR (22, tx6, 0), zR (24, tx7, nx7), vx8, zR (31, tx9, 0), vx10, vx11] (mm_push r []) h3 Q)) :=
  (wp_41).trans (mm_ic ((wp_0).trans (rfl)) (mm_kb bq_12_8 ((wp_5_7).trans ((wp_3_3).trans ((wp_v2 mm_n_99 (mm_leq mm_m_99 (mm_lb rfl)) (mm_lb rfl) (mm_o24 htx7 hnx7 hx)).trans rfl)))))
theorem r_12_8_3 (vx1 : mm_V) (x2 : Int) (x3 : Int) (x4 : Int) (x5 : Int) {tx6 : Int} {tx7 nx7 : Int} (vx8 : mm_V) {tx9 : Int} (vx10 : mm_V) (vx11 : mm_V) (y0 : Int) {hi : mm_Id → Int → Int} {dh : Int → Int} {nx ns : Int} {Q : mm_V → mm_H → Prop} (htx6 : mm_isT tx6) (htx7 : mm_isT tx7) (hnx7 : mm_isN nx7) (htx9 : mm_isD tx9) (hx : 5275 ≤ nx) :
    mm_Wp 12 (bk_12_8.drop 3) [zR (1, 0, 0), vx1, zI x2, zI x3, zI x4, zI x5, zR (22, tx6, 0), zR (24, tx7, nx7), vx8, zR (31, tx9, 0), vx10, vx11] [zI y0] (mm_z hi dh nx ns) Q =
    (if y0 = 0 then Q (zI (-1)) (mm_z hi dh nx ns) else (if x2 = x4 then (if x3 = x5 then mm_Wp 12 (mm_blk 12 12) [zR (1, 0, 0), vx1, zI x2, zI x3, zI x4, zI x5, zR (22, tx6, 0), zR (24, tx7, nx7), vx8, zR (31, tx9, 0), zI y0, vx11] [] (mm_z hi dh nx ns) Q else mm_Wp 12 (mm_blk 12 10) [zR (1, 0, 0), vx1, zI x2, zI x3, zI x4, zI x5, zR (22, tx6, 0), zR (24, tx7, nx7), vx8, zR (31, tx9, 0), zI y0, vx11] [] (mm_z hi dh nx ns) Q) else mm_Wp 12 (mm_blk 12 10) [zR (1, 0, 0), vx1, zI x2, zI x3, zI x4, zI x5, zR (22, tx6, 0), zR (24, tx7, nx7), vx8, zR (31, tx9, 0), zI y0, vx11] [] (mm_z hi dh nx ns) Q)) :=
  (wp_6 (l2 := [zR (1, 0, 0), vx1, zI x2, zI x3, zI x4, zI x5, zR (22, tx6, 0), zR (24, tx7, nx7), vx8, zR (31, tx9, 0), zI y0, vx11]) rfl).trans ((wp_3_10).trans ((wp_41).trans (mm_ic ((wp_1).trans (wp_90)) (mm_kb bq_12_9 ((wp_3_2).trans ((wp_3_4).trans ((wp_47).trans (mm_ic ((wp_3_3).trans ((wp_3_5).trans ((wp_46).trans (mm_ic (rfl) ((wp_0).trans (rfl)))))) (rfl)))))))))
theorem r_12_10 (vx1 : mm_V) (x2 : Int) (x3 : Int) (x4 : Int) (x5 : Int) {tx6 : Int} {tx7 nx7 : Int} (vx8 : mm_V) {tx9 : Int} (x10 : Int) (vx11 : mm_V) {hi : mm_Id → Int → Int} {dh : Int → Int} {nx ns : Int} {Q : mm_V → mm_H → Prop} (htx6 : mm_isT tx6) (htx7 : mm_isT tx7) (hnx7 : mm_isN nx7) (htx9 : mm_isD tx9) (hx : 5275 ≤ nx) :
    mm_Wp 12 (mm_blk 12 10) [zR (1, 0, 0), vx1, zI x2, zI x3, zI x4, zI x5, zR (22, tx6, 0), zR (24, tx7, nx7), vx8, zR (31, tx9, 0), zI x10, vx11] [] (mm_z hi dh nx ns) Q =
    mm_Cl 69 [zR (1, 0, 0), zR (22, tx6, 0), zI x10, zI x2, zI x4, zI x5] (mm_z hi dh nx ns) (fun r h3 => mm_Wp 12 (bk_12_10.drop 7) [zR (1, 0, 0), vx1, zI x2, zI x3, zI x4, zI x5, zR (22, tx6, 0), zR (24, tx7, nx7), vx8, zR (31, tx9, 0), zI x10, vx11] (mm_push r []) h3 Q) :=
  mm_kb bq_12_10 ((wp_5_0).trans ((wp_5_6).trans ((wp_3_10).trans ((wp_3_2).trans ((wp_3_4).trans ((wp_3_5).trans ((wp_v6 mm_n_69 (mm_leq mm_m_69 (mm_lb rfl)) (mm_lb rfl) (mm_o1 hx)).trans rfl)))))))
theorem r_12_12 (vx1 : mm_V) (vx2 : mm_V) (vx3 : mm_V) (vx4 : mm_V) (vx5 : mm_V) (vx6 : mm_V) (vx7 : mm_V) (vx8 : mm_V) {tx9 : Int} (x10 : Int) (vx11 : mm_V) {hi : mm_Id → Int → Int} {dh : Int → Int} {nx ns : Int} {Q : mm_V → mm_H → Prop} (htx9 : mm_isD tx9) (hx : 5275 ≤ nx) :
    mm_Wp 12 (mm_blk 12 12) [zR (1, 0, 0), vx1, vx2, vx3, vx4, vx5, vx6, vx7, vx8, zR (31, tx9, 0), zI x10, vx11] [] (mm_z hi dh nx ns) Q =
    mm_Cl 63 [zR (1, 0, 0), zR (31, tx9, 0)] (mm_z hi dh nx ns) (fun r h3 => mm_Wp 12 (bk_12_12.drop 3) [zR (1, 0, 0), vx1, vx2, vx3, vx4, vx5, vx6, vx7, vx8, zR (31, tx9, 0), zI x10, vx11] (mm_push r []) h3 Q) :=
  mm_kb bq_12_12 ((wp_5_0).trans ((wp_5_9).trans ((wp_v2 mm_n_63 (mm_leq mm_m_63 (mm_lb rfl)) (mm_lb rfl) (mm_o1 hx)).trans rfl)))
theorem r_12_10_7 (vx1 : mm_V) (vx2 : mm_V) (x3 : Int) (x4 : Int) (x5 : Int) {tx6 : Int} {tx7 nx7 : Int} (vx8 : mm_V) {tx9 : Int} (x10 : Int) (vx11 : mm_V) (y0 : Int) {hi : mm_Id → Int → Int} {dh : Int → Int} {nx ns : Int} {Q : mm_V → mm_H → Prop} (htx6 : mm_isT tx6) (htx7 : mm_isT tx7) (hnx7 : mm_isN nx7) (htx9 : mm_isD tx9) (hx : 5275 ≤ nx) :
    mm_Wp 12 (bk_12_10.drop 7) [zR (1, 0, 0), vx1, vx2, zI x3, zI x4, zI x5, zR (22, tx6, 0), zR (24, tx7, nx7), vx8, zR (31, tx9, 0), zI x10, vx11] [zI y0] (mm_z hi dh nx ns) Q =
    (if y0 < 0 then Q (zI y0) (mm_z hi dh nx ns) else mm_Cl 70 [zR (1, 0, 0), zR (22, tx6, 0), zR (24, tx7, nx7), zI x3, zI x4, zI x5] (mm_z hi dh nx ns) (fun r h3 => mm_Wp 12 (bk_12_11.drop 9) [zR (1, 0, 0), vx1, vx2, zI x3, zI x4, zI x5, zR (22, tx6, 0), zR (24, tx7, nx7), vx8, zR (31, tx9, 0), zI x10, zI y0] (mm_push r [zR (31, tx9, 0), zR (1, 0, 0)]) h3 Q)) :=
  (wp_6 (l2 := [zR (1, 0, 0), vx1, vx2, zI x3, zI x4, zI x5, zR (22, tx6, 0), zR (24, tx7, nx7), vx8, zR (31, tx9, 0), zI x10, zI y0]) rfl).trans ((wp_3_11).trans ((wp_43).trans (mm_ic ((wp_3_11).trans (wp_90)) (mm_kb bq_12_11 ((wp_5_0).trans ((wp_5_9).trans ((wp_5_0).trans ((wp_5_6).trans ((wp_5_7).trans ((wp_3_3).trans ((wp_3_4).trans ((wp_3_5).trans ((wp_v6 mm_n_70 (mm_leq mm_m_70 (mm_lb rfl)) (mm_lb rfl) (mm_o1 hx)).trans rfl)))))))))))))
theorem r_12_12_3 (vx0 : mm_V) (vx1 : mm_V) (vx2 : mm_V) (vx3 : mm_V) (vx4 : mm_V) (vx5 : mm_V) (vx6 : mm_V) (vx7 : mm_V) (vx8 : mm_V) (vx9 : mm_V) (x10 : Int) (vx11 : mm_V) {hi : mm_Id → Int → Int} {dh : Int → Int} {nx ns : Int} {Q : mm_V → mm_H → Prop} (hx : 5275 ≤ nx) :
    mm_Wp 12 (bk_12_12.drop 3) [vx0, vx1, vx2, vx3, vx4, vx5, vx6, vx7, vx8, vx9, zI x10, vx11] [] (mm_z hi dh nx ns) Q =
    Q (zI x10) (mm_z hi dh nx ns) :=
  (wp_3_10).trans (wp_90)
theorem r_12_11_9 (vx1 : mm_V) (vx2 : mm_V) (vx3 : mm_V) (vx4 : mm_V) (vx5 : mm_V) (vx6 : mm_V) (vx7 : mm_V) (vx8 : mm_V) {tx9 : Int} (x10 : Int) (vx11 : mm_V) (y0 : Int) {ty1 : Int} {hi : mm_Id → Int → Int} {dh : Int → Int} {nx ns : Int} {Q : mm_V → mm_H → Prop} (htx9 : mm_isD tx9) (hty1 : mm_isD ty1) (hx : 5275 ≤ nx) :
    mm_Wp 12 (bk_12_11.drop 9) [zR (1, 0, 0), vx1, vx2, vx3, vx4, vx5, vx6, vx7, vx8, zR (31, tx9, 0), zI x10, vx11] [zI y0, zR (31, ty1, 0), zR (1, 0, 0)] (mm_z hi dh nx ns) Q =
    mm_Cl 71 [zR (1, 0, 0), zR (31, ty1, 0), zI y0] (mm_z hi dh nx ns) (fun r h3 => mm_Wp 12 (bk_12_11.drop 10) [zR (1, 0, 0), vx1, vx2, vx3, vx4, vx5, vx6, vx7, vx8, zR (31, tx9, 0), zI x10, vx11] (mm_push r []) h3 Q) :=
  (wp_v3 mm_n_71 (mm_leq mm_m_71 (mm_lb rfl)) (mm_lb rfl) (mm_o1 hx)).trans rfl
theorem r_12_11_10 (vx1 : mm_V) (vx2 : mm_V) (vx3 : mm_V) (vx4 : mm_V) (vx5 : mm_V) (vx6 : mm_V) (vx7 : mm_V) (vx8 : mm_V) {tx9 : Int} (x10 : Int) (vx11 : mm_V) {hi : mm_Id → Int → Int} {dh : Int → Int} {nx ns : Int} {Q : mm_V → mm_H → Prop} (htx9 : mm_isD tx9) (hx : 5275 ≤ nx) :
    mm_Wp 12 (bk_12_11.drop 10) [zR (1, 0, 0), vx1, vx2, vx3, vx4, vx5, vx6, vx7, vx8, zR (31, tx9, 0), zI x10, vx11] [] (mm_z hi dh nx ns) Q =
    mm_Wp 12 (mm_blk 12 12) [zR (1, 0, 0), vx1, vx2, vx3, vx4, vx5, vx6, vx7, vx8, zR (31, tx9, 0), zI x10, vx11] [] (mm_z hi dh nx ns) Q :=
  (wp_0).trans (rfl)
/-- PoolHouse.about(III)I -/
theorem bq_13_0 : mm_blk 13 0 = bk_13_0 := by decide +kernel
theorem bq_13_1 : mm_blk 13 1 = bk_13_1 := by decide +kernel
theorem bq_13_2 : mm_blk 13 2 = bk_13_2 := by decide +kernel
theorem bq_13_3 : mm_blk 13 3 = bk_13_3 := by decide +kernel
theorem bq_13_4 : mm_blk 13 4 = bk_13_4 := by decide +kernel
theorem bq_13_5 : mm_blk 13 5 = bk_13_5 := by decide +kernel
theorem bq_13_6 : mm_blk 13 6 = bk_13_6 := by decide +kernel
theorem bq_13_7 : mm_blk 13 7 = bk_13_7 := by decide +kernel
theorem bq_13_8 : mm_blk 13 8 = bk_13_8 := by decide +kernel
theorem bq_13_9 : mm_blk 13 9 = bk_13_9 := by decide +kernel
theorem bq_13_10 : mm_blk 13 10 = bk_13_10 := by decide +kernel
theorem bq_13_11 : mm_blk 13 11 = bk_13_11 := by decide +kernel
theorem bq_13_12 : mm_blk 13 12 = bk_13_12 := by decide +kernel
theorem r_13_e (x1 : Int) (x2 : Int) (x3 : Int) {hi : mm_Id → Int → Int} {dh : Int → Int} {nx ns : Int} {Q : mm_V → mm_H → Prop} (hx : 5275 ≤ nx) :
    mm_Cl 13 [zR (1, 0, 0), zI x1, zI x2, zI x3] (mm_z hi dh nx ns) Q =
    mm_Cl 55 [zR (1, 0, 0), zI x1] (mm_z hi dh nx ns) (fun r h3 => mm_Wp 13 (bk_13_0.drop 4) [zR (1, 0, 0), zI x1, zI x2, zI x3, zU] (mm_push r [zR (1, 0, 0)]) h3 Q) :=
  mm_ce (l2 := [zR (1, 0, 0), zI x1, zI x2, zI x3, zU]) rfl (mm_kb bq_13_0 ((wp_5_0).trans ((wp_5_0).trans ((wp_3_1).trans ((wp_v2 mm_n_55 (mm_leq mm_m_55 (mm_lb rfl)) (mm_lb rfl) (mm_o1 hx)).trans rfl)))))
theorem r_13_0_4 (vx0 : mm_V) (vx1 : mm_V) (x2 : Int) (x3 : Int) (vx4 : mm_V) {hi : mm_Id → Int → Int} {dh : Int → Int} {nx ns : Int} {Q : mm_V → mm_H → Prop} (hx : 5275 ≤ nx) :
    mm_Wp 13 (bk_13_0.drop 4) [vx0, vx1, zI x2, zI x3, vx4] [zR mm_nul, zR (1, 0, 0)] (mm_z hi dh nx ns) Q =
    mm_Cl 56 [zR (1, 0, 0), zR mm_nul, zI x2] (mm_z hi dh nx ns) (fun r h3 => mm_Wp 13 (bk_13_0.drop 6) [vx0, vx1, zI x2, zI x3, vx4] (mm_push r []) h3 Q) :=
  (wp_3_2).trans ((wp_v3 mm_n_56 (mm_leq mm_m_56 (mm_lb rfl)) (mm_lb rfl) (mm_o1 hx)).trans rfl)
theorem r_13_0_4a (vx0 : mm_V) (vx1 : mm_V) (x2 : Int) (x3 : Int) (vx4 : mm_V) {ty0 : Int} {hi : mm_Id → Int → Int} {dh : Int → Int} {nx ns : Int} {Q : mm_V → mm_H → Prop} (hty0 : mm_isT ty0) (hx : 5275 ≤ nx) :
    mm_Wp 13 (bk_13_0.drop 4) [vx0, vx1, zI x2, zI x3, vx4] [zR (22, ty0, 0), zR (1, 0, 0)] (mm_z hi dh nx ns) Q =
    mm_Cl 56 [zR (1, 0, 0), zR (22, ty0, 0), zI x2] (mm_z hi dh nx ns) (fun r h3 => mm_Wp 13 (bk_13_0.drop 6) [vx0, vx1, zI x2, zI x3, vx4] (mm_push r []) h3 Q) :=
  (wp_3_2).trans ((wp_v3 mm_n_56 (mm_leq mm_m_56 (mm_lb rfl)) (mm_lb rfl) (mm_o1 hx)).trans rfl)
theorem r_13_0_6 (vx0 : mm_V) (vx1 : mm_V) (vx2 : mm_V) (x3 : Int) (vx4 : mm_V) {hi : mm_Id → Int → Int} {dh : Int → Int} {nx ns : Int} {Q : mm_V → mm_H → Prop} (hx : 5275 ≤ nx) :
    mm_Wp 13 (bk_13_0.drop 6) [vx0, vx1, vx2, zI x3, vx4] [zR mm_nul] (mm_z hi dh nx ns) Q =
    Q (zI (-1)) (mm_z hi dh nx ns) :=
  (wp_8 (l2 := [vx0, vx1, vx2, zI x3, zR mm_nul]) rfl).trans ((wp_5_4).trans ((wp_55n).trans ((wp_1).trans (wp_90))))
theorem r_13_0_6a (vx0 : mm_V) (vx1 : mm_V) (vx2 : mm_V) (x3 : Int) (vx4 : mm_V) {ty0 ny0 : Int} {hi : mm_Id → Int → Int} {dh : Int → Int} {nx ns : Int} {Q : mm_V → mm_H → Prop} (hty0 : mm_isT ty0) (hny0 : mm_isN ny0) (hx : 5275 ≤ nx) :
    mm_Wp 13 (bk_13_0.drop 6) [vx0, vx1, vx2, zI x3, vx4] [zR (24, ty0, ny0)] (mm_z hi dh nx ns) Q =
    mm_Wp 13 (mm_blk 13 (mm_sw 0 x3)) [vx0, vx1, vx2, zI x3, zR (24, ty0, ny0)] [] (mm_z hi dh nx ns) Q :=
  (wp_8 (l2 := [vx0, vx1, vx2, zI x3, zR (24, ty0, ny0)]) rfl).trans ((wp_5_4).trans ((wp_55 (by decide)).trans (mm_kb bq_13_1 ((wp_3_3).trans (wp_57 rfl)))))
theorem r_13_2 (vx0 : mm_V) (vx1 : mm_V) (vx2 : mm_V) (vx3 : mm_V) {tx4 nx4 : Int} {hi : mm_Id → Int → Int} {dh : Int → Int} {nx ns : Int} {Q : mm_V → mm_H → Prop} (htx4 : mm_isT tx4) (hnx4 : mm_isN nx4) (hx : 5275 ≤ nx) :
    mm_Wp 13 (mm_blk 13 2) [vx0, vx1, vx2, vx3, zR (24, tx4, nx4)] [] (mm_z hi dh nx ns) Q =
    Q (zI (hi (24, tx4, nx4) 0)) (mm_z hi dh nx ns) :=
  mm_kb bq_13_2 ((wp_5_4).trans ((wp_60 (by decide) (mm_o24 htx4 hnx4 hx)).trans (wp_90)))
theorem r_13_3 (vx0 : mm_V) (vx1 : mm_V) (vx2 : mm_V) (vx3 : mm_V) {tx4 nx4 : Int} {hi : mm_Id → Int → Int} {dh : Int → Int} {nx ns : Int} {Q : mm_V → mm_H → Prop} (htx4 : mm_isT tx4) (hnx4 : mm_isN nx4) (hx : 5275 ≤ nx) :
    mm_Wp 13 (mm_blk 13 3) [vx0, vx1, vx2, vx3, zR (24, tx4, nx4)] [] (mm_z hi dh nx ns) Q =
    (if (hi (24, tx4, nx4) 0) = 2 then mm_Wp 13 (mm_blk 13 5) [vx0, vx1, vx2, vx3, zR (24, tx4, nx4)] [zI (hi (24, tx4, nx4) 6)] (mm_z hi dh nx ns) Q else mm_Wp 13 (mm_blk 13 5) [vx0, vx1, vx2, vx3, zR (24, tx4, nx4)] [zI (hi (24, tx4, nx4) 1)] (mm_z hi dh nx ns) Q) :=
  mm_kb bq_13_3 ((wp_5_4).trans ((wp_60 (by decide) (mm_o24 htx4 hnx4 hx)).trans ((wp_1).trans ((wp_47).trans (mm_ic ((wp_5_4).trans ((wp_60 (by decide) (mm_o24 htx4 hnx4 hx)).trans ((wp_56).trans (rfl)))) (mm_kb bq_13_4 ((wp_5_4).trans ((wp_60 (by decide) (mm_o24 htx4 hnx4 hx)).trans ((wp_0).trans (rfl))))))))))
theorem r_13_6 (vx0 : mm_V) (vx1 : mm_V) (vx2 : mm_V) (vx3 : mm_V) {tx4 nx4 : Int} {hi : mm_Id → Int → Int} {dh : Int → Int} {nx ns : Int} {Q : mm_V → mm_H → Prop} (htx4 : mm_isT tx4) (hnx4 : mm_isN nx4) (hx : 5275 ≤ nx) :
    mm_Wp 13 (mm_blk 13 6) [vx0, vx1, vx2, vx3, zR (24, tx4, nx4)] [] (mm_z hi dh nx ns) Q =
    Q (zI (hi (24, tx4, nx4) 5)) (mm_z hi dh nx ns) :=
  mm_kb bq_13_6 ((wp_5_4).trans ((wp_60 (by decide) (mm_o24 htx4 hnx4 hx)).trans (wp_90)))
theorem r_13_7 (vx0 : mm_V) (vx1 : mm_V) (vx2 : mm_V) (vx3 : mm_V) {tx4 nx4 : Int} {hi : mm_Id → Int → Int} {dh : Int → Int} {nx ns : Int} {Q : mm_V → mm_H → Prop} (htx4 : mm_isT tx4) (hnx4 : mm_isN nx4) (hx : 5275 ≤ nx) :
    mm_Wp 13 (mm_blk 13 7) [vx0, vx1, vx2, vx3, zR (24, tx4, nx4)] [] (mm_z hi dh nx ns) Q =
    Q (zI (hi (24, tx4, nx4) 9)) (mm_z hi dh nx ns) :=
  mm_kb bq_13_7 ((wp_5_4).trans ((wp_60 (by decide) (mm_o24 htx4 hnx4 hx)).trans (wp_90)))
theorem r_13_8 (vx0 : mm_V) (vx1 : mm_V) (vx2 : mm_V) (vx3 : mm_V) {tx4 nx4 : Int} {hi : mm_Id → Int → Int} {dh : Int → Int} {nx ns : Int} {Q : mm_V → mm_H → Prop} (htx4 : mm_isT tx4) (hnx4 : mm_isN nx4) (hx : 5275 ≤ nx) :
    mm_Wp 13 (mm_blk 13 8) [vx0, vx1, vx2, vx3, zR (24, tx4, nx4)] [] (mm_z hi dh nx ns) Q =
    Q (zI (hi (24, tx4, nx4) 4)) (mm_z hi dh nx ns) :=
  mm_kb bq_13_8 ((wp_5_4).trans ((wp_60 (by decide) (mm_o24 htx4 hnx4 hx)).trans (wp_90)))
theorem r_13_9 (vx0 : mm_V) (vx1 : mm_V) (vx2 : mm_V) (vx3 : mm_V) {tx4 nx4 : Int} {hi : mm_Id → Int → Int} {dh : Int → Int} {nx ns : Int} {Q : mm_V → mm_H → Prop} (htx4 : mm_isT tx4) (hnx4 : mm_isN nx4) (hx : 5275 ≤ nx) :
    mm_Wp 13 (mm_blk 13 9) [vx0, vx1, vx2, vx3, zR (24, tx4, nx4)] [] (mm_z hi dh nx ns) Q =
    Q (zI (hi (24, tx4, nx4) 2)) (mm_z hi dh nx ns) :=
  mm_kb bq_13_9 ((wp_5_4).trans ((wp_60 (by decide) (mm_o24 htx4 hnx4 hx)).trans (wp_90)))
theorem r_13_10 (vx0 : mm_V) (vx1 : mm_V) (vx2 : mm_V) (vx3 : mm_V) {tx4 nx4 : Int} {hi : mm_Id → Int → Int} {dh : Int → Int} {nx ns : Int} {Q : mm_V → mm_H → Prop} (htx4 : mm_isT tx4) (hnx4 : mm_isN nx4) (hx : 5275 ≤ nx) :
    mm_Wp 13 (mm_blk 13 10) [vx0, vx1, vx2, vx3, zR (24, tx4, nx4)] [] (mm_z hi dh nx ns) Q =
    Q (zI (hi (24, tx4, nx4) 3)) (mm_z hi dh nx ns) :=
  mm_kb bq_13_10 ((wp_5_4).trans ((wp_60 (by decide) (mm_o24 htx4 hnx4 hx)).trans (wp_90)))
theorem r_13_11 (vx0 : mm_V) (vx1 : mm_V) (vx2 : mm_V) (vx3 : mm_V) {tx4 nx4 : Int} {hi : mm_Id → Int → Int} {dh : Int → Int} {nx ns : Int} {Q : mm_V → mm_H → Prop} (htx4 : mm_isT tx4) (hnx4 : mm_isN nx4) (hx : 5275 ≤ nx) :
    mm_Wp 13 (mm_blk 13 11) [vx0, vx1, vx2, vx3, zR (24, tx4, nx4)] [] (mm_z hi dh nx ns) Q =
    Q (zI (hi (24, tx4, nx4) 11)) (mm_z hi dh nx ns) :=
  mm_kb bq_13_11 ((wp_5_4).trans ((wp_60 (by decide) (mm_o24 htx4 hnx4 hx)).trans (wp_90)))
theorem r_13_12 (vx0 : mm_V) (vx1 : mm_V) (vx2 : mm_V) (vx3 : mm_V) (vx4 : mm_V) {hi : mm_Id → Int → Int} {dh : Int → Int} {nx ns : Int} {Q : mm_V → mm_H → Prop} (hx : 5275 ≤ nx) :
    mm_Wp 13 (mm_blk 13 12) [vx0, vx1, vx2, vx3, vx4] [] (mm_z hi dh nx ns) Q =
    Q (zI (-2)) (mm_z hi dh nx ns) :=
  mm_kb bq_13_12 ((wp_1).trans (wp_90))
theorem r_13_5 (vx0 : mm_V) (vx1 : mm_V) (vx2 : mm_V) (vx3 : mm_V) (vx4 : mm_V) (y0 : Int) {hi : mm_Id → Int → Int} {dh : Int → Int} {nx ns : Int} {Q : mm_V → mm_H → Prop} (hx : 5275 ≤ nx) :
    mm_Wp 13 (mm_blk 13 5) [vx0, vx1, vx2, vx3, vx4] [zI y0] (mm_z hi dh nx ns) Q =
    Q (zI y0) (mm_z hi dh nx ns) :=
  mm_kb bq_13_5 (wp_90)
/-- PoolHouse.entry(III)I -/
theorem bq_14_0 : mm_blk 14 0 = bk_14_0 := by decide +kernel
theorem bq_14_1 : mm_blk 14 1 = bk_14_1 := by decide +kernel
theorem bq_14_2 : mm_blk 14 2 = bk_14_2 := by decide +kernel
theorem bq_14_3 : mm_blk 14 3 = bk_14_3 := by decide +kernel
theorem bq_14_4 : mm_blk 14 4 = bk_14_4 := by decide +kernel
theorem bq_14_5 : mm_blk 14 5 = bk_14_5 := by decide +kernel
theorem bq_14_6 : mm_blk 14 6 = bk_14_6 := by decide +kernel
theorem r_14_e (x1 : Int) (x2 : Int) (x3 : Int) {hi : mm_Id → Int → Int} {dh : Int → Int} {nx ns : Int} {Q : mm_V → mm_H → Prop} (hx : 5275 ≤ nx) :
    mm_Cl 14 [zR (1, 0, 0), zI x1, zI x2, zI x3] (mm_z hi dh nx ns) Q =
    mm_Cl 55 [zR (1, 0, 0), zI x1] (mm_z hi dh nx ns) (fun r h3 => mm_Wp 14 (bk_14_0.drop 4) [zR (1, 0, 0), zI x1, zI x2, zI x3, zU] (mm_push r [zR (1, 0, 0)]) h3 Q) :=
  mm_ce (l2 := [zR (1, 0, 0), zI x1, zI x2, zI x3, zU]) rfl (mm_kb bq_14_0 ((wp_5_0).trans ((wp_5_0).trans ((wp_3_1).trans ((wp_v2 mm_n_55 (mm_leq mm_m_55 (mm_lb rfl)) (mm_lb rfl) (mm_o1 hx)).trans rfl)))))
theorem r_14_0_4 (vx1 : mm_V) (x2 : Int) (x3 : Int) (vx4 : mm_V) {hi : mm_Id → Int → Int} {dh : Int → Int} {nx ns : Int} {Q : mm_V → mm_H → Prop} (hx : 5275 ≤ nx) :
    mm_Wp 14 (bk_14_0.drop 4) [zR (1, 0, 0), vx1, zI x2, zI x3, vx4] [zR mm_nul, zR (1, 0, 0)] (mm_z hi dh nx ns) Q =
    mm_Cl 56 [zR (1, 0, 0), zR mm_nul, zI x2] (mm_z hi dh nx ns) (fun r h3 => mm_Wp 14 (bk_14_0.drop 6) [zR (1, 0, 0), vx1, zI x2, zI x3, vx4] (mm_push r []) h3 Q) :=
  (wp_3_2).trans ((wp_v3 mm_n_56 (mm_leq mm_m_56 (mm_lb rfl)) (mm_lb rfl) (mm_o1 hx)).trans rfl)
theorem r_14_0_4a (vx1 : mm_V) (x2 : Int) (x3 : Int) (vx4 : mm_V) {ty0 : Int} {hi : mm_Id → Int → Int} {dh : Int → Int} {nx ns : Int} {Q : mm_V → mm_H → Prop} (hty0 : mm_isT ty0) (hx : 5275 ≤ nx) :
    mm_Wp 14 (bk_14_0.drop 4) [zR (1, 0, 0), vx1, zI x2, zI x3, vx4] [zR (22, ty0, 0), zR (1, 0, 0)] (mm_z hi dh nx ns) Q =
    mm_Cl 56 [zR (1, 0, 0), zR (22, ty0, 0), zI x2] (mm_z hi dh nx ns) (fun r h3 => mm_Wp 14 (bk_14_0.drop 6) [zR (1, 0, 0), vx1, zI x2, zI x3, vx4] (mm_push r []) h3 Q) :=
  (wp_3_2).trans ((wp_v3 mm_n_56 (mm_leq mm_m_56 (mm_lb rfl)) (mm_lb rfl) (mm_o1 hx)).trans rfl)
theorem r_14_0_6 (vx1 : mm_V) (vx2 : mm_V) (x3 : Int) (vx4 : mm_V) {hi : mm_Id → Int → Int} {dh : Int → Int} {nx ns : Int} {Q : mm_V → mm_H → Prop} (hx : 5275 ≤ nx) :
    mm_Wp 14 (bk_14_0.drop 6) [zR (1, 0, 0), vx1, vx2, zI x3, vx4] [zR mm_nul] (mm_z hi dh nx ns) Q =
    Q (zI (-1)) (mm_z hi dh nx ns) :=
  (wp_8 (l2 := [zR (1, 0, 0), vx1, vx2, zI x3, zR mm_nul]) rfl).trans ((wp_5_4).trans ((wp_55n).trans ((wp_1).trans (wp_90))))
theorem r_14_0_6a (vx1 : mm_V) (vx2 : mm_V) (x3 : Int) (vx4 : mm_V) {ty0 ny0 : Int} {hi : mm_Id → Int → Int} {dh : Int → Int} {nx ns : Int} {Q : mm_V → mm_H → Prop} (hty0 : mm_isT ty0) (hny0 : mm_isN ny0) (hx : 5275 ≤ nx) :
    mm_Wp 14 (bk_14_0.drop 6) [zR (1, 0, 0), vx1, vx2, zI x3, vx4] [zR (24, ty0, ny0)] (mm_z hi dh nx ns) Q =
    (if (hi (24, ty0, ny0) 0) = 2 then mm_Cl 60 [zR (1, 0, 0), zR (24, ty0, ny0), zI 4] (mm_z hi dh nx ns) (fun r h3 => mm_Wp 14 (bk_14_2.drop 4) [zR (1, 0, 0), vx1, vx2, zI x3, zR (24, ty0, ny0)] (mm_push r []) h3 Q) else Q (zI (-3)) (mm_z hi dh nx ns)) :=
  (wp_8 (l2 := [zR (1, 0, 0), vx1, vx2, zI x3, zR (24, ty0, ny0)]) rfl).trans ((wp_5_4).trans ((wp_55 (by decide)).trans (mm_kb bq_14_1 ((wp_5_4).trans ((wp_60 (by decide) (mm_o24 hty0 hny0 hx)).trans ((wp_1).trans ((wp_46).trans (mm_ic (mm_kb bq_14_2 ((wp_5_0).trans ((wp_5_4).trans ((wp_1).trans ((wp_v3 mm_n_60 (mm_leq mm_m_60 (mm_lb rfl)) (mm_lb rfl) (mm_o1 hx)).trans rfl))))) ((wp_1).trans (wp_90))))))))))
theorem r_14_2_4 (vx0 : mm_V) (vx1 : mm_V) (vx2 : mm_V) (x3 : Int) {tx4 nx4 : Int} (y0 : Int) {hi : mm_Id → Int → Int} {dh : Int → Int} {nx ns : Int} {Q : mm_V → mm_H → Prop} (htx4 : mm_isT tx4) (hnx4 : mm_isN nx4) (hx : 5275 ≤ nx) :
    mm_Wp 14 (bk_14_2.drop 4) [vx0, vx1, vx2, zI x3, zR (24, tx4, nx4)] [zI y0] (mm_z hi dh nx ns) Q =
    (if y0 = 0 then Q (zI (-5)) (mm_z hi dh nx ns) else (if x3 < 0 then mm_Wp 14 (mm_blk 14 4) [vx0, vx1, vx2, zI x3, zR (24, tx4, nx4)] [] (mm_z hi dh nx ns) Q else (if x3 < (hi (24, tx4, nx4) 6) then ((0 ≤ x3 ∧ x3 < 24) ∧ mm_Wp 14 (mm_blk 14 6) [vx0, vx1, vx2, zI x3, zR (24, tx4, nx4)] [zI (hi (25, tx4, nx4) x3)] (mm_z hi dh nx ns) Q) else mm_Wp 14 (mm_blk 14 4) [vx0, vx1, vx2, zI x3, zR (24, tx4, nx4)] [] (mm_z hi dh nx ns) Q))) :=
  (wp_41).trans (mm_ic ((wp_1).trans (wp_90)) (mm_kb bq_14_3 ((wp_3_3).trans ((wp_42).trans (mm_ic (rfl) ((wp_3_3).trans ((wp_5_4).trans ((wp_60 (by decide) (mm_o24 htx4 hnx4 hx)).trans ((wp_48).trans (mm_ic (mm_kb bq_14_5 ((wp_5_4).trans ((wp_62 (by decide) (mm_o24 htx4 hnx4 hx) (mm_r24_7 htx4 hnx4)).trans ((wp_3_3).trans ((wp_70 (mm_q25 htx4 hnx4 hx)).trans (mm_ae ((wp_0).trans (rfl)))))))) ((wp_0).trans (rfl))))))))))))
theorem r_14_4 (vx0 : mm_V) (vx1 : mm_V) (vx2 : mm_V) (vx3 : mm_V) (vx4 : mm_V) {hi : mm_Id → Int → Int} {dh : Int → Int} {nx ns : Int} {Q : mm_V → mm_H → Prop} (hx : 5275 ≤ nx) :
    mm_Wp 14 (mm_blk 14 4) [vx0, vx1, vx2, vx3, vx4] [] (mm_z hi dh nx ns) Q =
    mm_Wp 14 (mm_blk 14 6) [vx0, vx1, vx2, vx3, vx4] [zI (-2)] (mm_z hi dh nx ns) Q :=
  mm_kb bq_14_4 ((wp_1).trans ((wp_56).trans (rfl)))
theorem r_14_6 (vx0 : mm_V) (vx1 : mm_V) (vx2 : mm_V) (vx3 : mm_V) (vx4 : mm_V) (y0 : Int) {hi : mm_Id → Int → Int} {dh : Int → Int} {nx ns : Int} {Q : mm_V → mm_H → Prop} (hx : 5275 ≤ nx) :
    mm_Wp 14 (mm_blk 14 6) [vx0, vx1, vx2, vx3, vx4] [zI y0] (mm_z hi dh nx ns) Q =
    Q (zI y0) (mm_z hi dh nx ns) :=
  mm_kb bq_14_6 (wp_90)
/-- PoolHouse.open(II)I -/
theorem bq_25_0 : mm_blk 25 0 = bk_25_0 := by decide +kernel
theorem bq_25_1 : mm_blk 25 1 = bk_25_1 := by decide +kernel
theorem bq_25_2 : mm_blk 25 2 = bk_25_2 := by decide +kernel
theorem bq_25_3 : mm_blk 25 3 = bk_25_3 := by decide +kernel
theorem bq_25_4 : mm_blk 25 4 = bk_25_4 := by decide +kernel
theorem bq_25_5 : mm_blk 25 5 = bk_25_5 := by decide +kernel
theorem bq_25_6 : mm_blk 25 6 = bk_25_6 := by decide +kernel
theorem bq_25_7 : mm_blk 25 7 = bk_25_7 := by decide +kernel
theorem r_25_e (x1 : Int) (x2 : Int) {hi : mm_Id → Int → Int} {dh : Int → Int} {nx ns : Int} {Q : mm_V → mm_H → Prop} (hx : 5275 ≤ nx) :
    mm_Cl 25 [zR (1, 0, 0), zI x1, zI x2] (mm_z hi dh nx ns) Q =
    mm_Cl 55 [zR (1, 0, 0), zI x1] (mm_z hi dh nx ns) (fun r h3 => mm_Wp 25 (bk_25_0.drop 4) [zR (1, 0, 0), zI x1, zI x2, zU, zU, zU] (mm_push r [zR (1, 0, 0)]) h3 Q) :=
  mm_ce (l2 := [zR (1, 0, 0), zI x1, zI x2, zU, zU, zU]) rfl (mm_kb bq_25_0 ((wp_5_0).trans ((wp_5_0).trans ((wp_3_1).trans ((wp_v2 mm_n_55 (mm_leq mm_m_55 (mm_lb rfl)) (mm_lb rfl) (mm_o1 hx)).trans rfl)))))
theorem r_25_0_4 (x1 : Int) (x2 : Int) (vx3 : mm_V) (vx4 : mm_V) (vx5 : mm_V) {hi : mm_Id → Int → Int} {dh : Int → Int} {nx ns : Int} {Q : mm_V → mm_H → Prop} (hx : 5275 ≤ nx) :
    mm_Wp 25 (bk_25_0.drop 4) [zR (1, 0, 0), zI x1, zI x2, vx3, vx4, vx5] [zR mm_nul, zR (1, 0, 0)] (mm_z hi dh nx ns) Q =
    mm_Cl 56 [zR (1, 0, 0), zR mm_nul, zI x2] (mm_z hi dh nx ns) (fun r h3 => mm_Wp 25 (bk_25_0.drop 6) [zR (1, 0, 0), zI x1, zI x2, vx3, vx4, vx5] (mm_push r []) h3 Q) :=
  (wp_3_2).trans ((wp_v3 mm_n_56 (mm_leq mm_m_56 (mm_lb rfl)) (mm_lb rfl) (mm_o1 hx)).trans rfl)
theorem r_25_0_4a (x1 : Int) (x2 : Int) (vx3 : mm_V) (vx4 : mm_V) (vx5 : mm_V) {ty0 : Int} {hi : mm_Id → Int → Int} {dh : Int → Int} {nx ns : Int} {Q : mm_V → mm_H → Prop} (hty0 : mm_isT ty0) (hx : 5275 ≤ nx) :
    mm_Wp 25 (bk_25_0.drop 4) [zR (1, 0, 0), zI x1, zI x2, vx3, vx4, vx5] [zR (22, ty0, 0), zR (1, 0, 0)] (mm_z hi dh nx ns) Q =
    mm_Cl 56 [zR (1, 0, 0), zR (22, ty0, 0), zI x2] (mm_z hi dh nx ns) (fun r h3 => mm_Wp 25 (bk_25_0.drop 6) [zR (1, 0, 0), zI x1, zI x2, vx3, vx4, vx5] (mm_push r []) h3 Q) :=
  (wp_3_2).trans ((wp_v3 mm_n_56 (mm_leq mm_m_56 (mm_lb rfl)) (mm_lb rfl) (mm_o1 hx)).trans rfl)
theorem r_25_0_6 (x1 : Int) (x2 : Int) (vx3 : mm_V) (vx4 : mm_V) (vx5 : mm_V) {hi : mm_Id → Int → Int} {dh : Int → Int} {nx ns : Int} {Q : mm_V → mm_H → Prop} (hx : 5275 ≤ nx) :
    mm_Wp 25 (bk_25_0.drop 6) [zR (1, 0, 0), zI x1, zI x2, vx3, vx4, vx5] [zR mm_nul] (mm_z hi dh nx ns) Q =
    Q (zI (-1)) (mm_z hi dh nx ns) :=
  (wp_8 (l2 := [zR (1, 0, 0), zI x1, zI x2, zR mm_nul, vx4, vx5]) rfl).trans ((wp_5_3).trans ((wp_55n).trans ((wp_1).trans (wp_90))))
theorem r_25_0_6a (x1 : Int) (x2 : Int) (vx3 : mm_V) (vx4 : mm_V) (vx5 : mm_V) {ty0 ny0 : Int} {hi : mm_Id → Int → Int} {dh : Int → Int} {nx ns : Int} {Q : mm_V → mm_H → Prop} (hty0 : mm_isT ty0) (hny0 : mm_isN ny0) (hx : 5275 ≤ nx) :
    mm_Wp 25 (bk_25_0.drop 6) [zR (1, 0, 0), zI x1, zI x2, vx3, vx4, vx5] [zR (24, ty0, ny0)] (mm_z hi dh nx ns) Q =
    mm_Cl 53 [zR (1, 0, 0), zI x1] (mm_z hi dh nx ns) (fun r h3 => mm_Wp 25 (bk_25_1.drop 3) [zR (1, 0, 0), zI x1, zI x2, zR (24, ty0, ny0), vx4, vx5] (mm_push r []) h3 Q) :=
  (wp_8 (l2 := [zR (1, 0, 0), zI x1, zI x2, zR (24, ty0, ny0), vx4, vx5]) rfl).trans ((wp_5_3).trans ((wp_55 (by decide)).trans (mm_kb bq_25_1 ((wp_5_0).trans ((wp_3_1).trans ((wp_v2 mm_n_53 (mm_leq mm_m_53 (mm_lb rfl)) (mm_lb rfl) (mm_o1 hx)).trans rfl))))))
theorem r_25_1_3 (vx1 : mm_V) (x2 : Int) {tx3 nx3 : Int} (vx4 : mm_V) (vx5 : mm_V) {hi : mm_Id → Int → Int} {dh : Int → Int} {nx ns : Int} {Q : mm_V → mm_H → Prop} (htx3 : mm_isT tx3) (hnx3 : mm_isN nx3) (hx : 5275 ≤ nx) :
    mm_Wp 25 (bk_25_1.drop 3) [zR (1, 0, 0), vx1, zI x2, zR (24, tx3, nx3), vx4, vx5] [zR mm_nul] (mm_z hi dh nx ns) Q =
    mm_Wp 25 (mm_blk 25 2) [zR (1, 0, 0), vx1, zI x2, zR (24, tx3, nx3), zR mm_nul, vx5] [] (mm_z hi dh nx ns) Q :=
  (wp_8 (l2 := [zR (1, 0, 0), vx1, zI x2, zR (24, tx3, nx3), zR mm_nul, vx5]) rfl).trans ((wp_5_4).trans ((wp_54n).trans (rfl)))
theorem r_25_1_3a (vx1 : mm_V) (x2 : Int) {tx3 nx3 : Int} (vx4 : mm_V) (vx5 : mm_V) {ty0 : Int} {hi : mm_Id → Int → Int} {dh : Int → Int} {nx ns : Int} {Q : mm_V → mm_H → Prop} (htx3 : mm_isT tx3) (hnx3 : mm_isN nx3) (hty0 : mm_isD ty0) (hx : 5275 ≤ nx) :
    mm_Wp 25 (bk_25_1.drop 3) [zR (1, 0, 0), vx1, zI x2, zR (24, tx3, nx3), vx4, vx5] [zR (31, ty0, 0)] (mm_z hi dh nx ns) Q =
    (if (hi (24, tx3, nx3) 0) = 1 then mm_Cl 60 [zR (1, 0, 0), zR (24, tx3, nx3), zI 4] (mm_z hi dh nx ns) (fun r h3 => mm_Wp 25 (bk_25_3.drop 4) [zR (1, 0, 0), vx1, zI x2, zR (24, tx3, nx3), zR (31, ty0, 0), vx5] (mm_push r []) h3 Q) else mm_Wp 25 (mm_blk 25 2) [zR (1, 0, 0), vx1, zI x2, zR (24, tx3, nx3), zR (31, ty0, 0), vx5] [] (mm_z hi dh nx ns) Q) :=
  (wp_8 (l2 := [zR (1, 0, 0), vx1, zI x2, zR (24, tx3, nx3), zR (31, ty0, 0), vx5]) rfl).trans ((wp_5_4).trans ((wp_54 (by decide)).trans ((wp_5_3).trans ((wp_60 (by decide) (mm_o24 htx3 hnx3 hx)).trans ((wp_1).trans ((wp_46).trans (mm_ic (mm_kb bq_25_3 ((wp_5_0).trans ((wp_5_3).trans ((wp_1).trans ((wp_v3 mm_n_60 (mm_leq mm_m_60 (mm_lb rfl)) (mm_lb rfl) (mm_o1 hx)).trans rfl))))) ((wp_0).trans (rfl)))))))))
theorem r_25_2 (vx0 : mm_V) (vx1 : mm_V) (vx2 : mm_V) (vx3 : mm_V) (vx4 : mm_V) (vx5 : mm_V) {hi : mm_Id → Int → Int} {dh : Int → Int} {nx ns : Int} {Q : mm_V → mm_H → Prop} (hx : 5275 ≤ nx) :
    mm_Wp 25 (mm_blk 25 2) [vx0, vx1, vx2, vx3, vx4, vx5] [] (mm_z hi dh nx ns) Q =
    Q (zI (-3)) (mm_z hi dh nx ns) :=
  mm_kb bq_25_2 ((wp_1).trans (wp_90))
theorem r_25_3_4 (vx1 : mm_V) (x2 : Int) {tx3 nx3 : Int} {tx4 : Int} (vx5 : mm_V) (y0 : Int) {hi : mm_Id → Int → Int} {dh : Int → Int} {nx ns : Int} {Q : mm_V → mm_H → Prop} (htx3 : mm_isT tx3) (hnx3 : mm_isN nx3) (htx4 : mm_isD tx4) (hx : 5275 ≤ nx) :
    mm_Wp 25 (bk_25_3.drop 4) [zR (1, 0, 0), vx1, zI x2, zR (24, tx3, nx3), zR (31, tx4, 0), vx5] [zI y0] (mm_z hi dh nx ns) Q =
    (if y0 = 0 then mm_Cl 60 [zR (1, 0, 0), zR (24, tx3, nx3), zI 2] (mm_z hi dh nx ns) (fun r h3 => mm_Wp 25 (bk_25_3.drop 9) [zR (1, 0, 0), vx1, zI x2, zR (24, tx3, nx3), zR (31, tx4, 0), vx5] (mm_push r []) h3 Q) else mm_Wp 25 (mm_blk 25 4) [zR (1, 0, 0), vx1, zI x2, zR (24, tx3, nx3), zR (31, tx4, 0), vx5] [] (mm_z hi dh nx ns) Q) :=
  (wp_41).trans (mm_ic ((wp_5_0).trans ((wp_5_3).trans ((wp_1).trans ((wp_v3 mm_n_60 (mm_leq mm_m_60 (mm_lb rfl)) (mm_lb rfl) (mm_o1 hx)).trans rfl)))) (rfl))
theorem r_25_4 (vx1 : mm_V) (x2 : Int) (vx3 : mm_V) {tx4 : Int} (vx5 : mm_V) {hi : mm_Id → Int → Int} {dh : Int → Int} {nx ns : Int} {Q : mm_V → mm_H → Prop} (htx4 : mm_isD tx4) (hx : 5275 ≤ nx) :
    mm_Wp 25 (mm_blk 25 4) [zR (1, 0, 0), vx1, zI x2, vx3, zR (31, tx4, 0), vx5] [] (mm_z hi dh nx ns) Q =
    mm_Wp 25 (mm_blk 25 5) [zR (1, 0, 0), vx1, zI x2, vx3, zR (31, tx4, 0), zI 0] [] (mm_z hi dh nx ns) Q :=
  mm_kb bq_25_4 ((wp_1).trans ((wp_6 (l2 := [zR (1, 0, 0), vx1, zI x2, vx3, zR (31, tx4, 0), zI 0]) rfl).trans ((wp_0).trans (rfl))))
theorem r_25_3_9 (vx1 : mm_V) (x2 : Int) (vx3 : mm_V) {tx4 : Int} (vx5 : mm_V) (y0 : Int) {hi : mm_Id → Int → Int} {dh : Int → Int} {nx ns : Int} {Q : mm_V → mm_H → Prop} (htx4 : mm_isD tx4) (hx : 5275 ≤ nx) :
    mm_Wp 25 (bk_25_3.drop 9) [zR (1, 0, 0), vx1, zI x2, vx3, zR (31, tx4, 0), vx5] [zI y0] (mm_z hi dh nx ns) Q =
    (if y0 = 0 then Q (zI (-5)) (mm_z hi dh nx ns) else mm_Wp 25 (mm_blk 25 4) [zR (1, 0, 0), vx1, zI x2, vx3, zR (31, tx4, 0), vx5] [] (mm_z hi dh nx ns) Q) :=
  (wp_41).trans (mm_ic ((wp_1).trans (wp_90)) (rfl))
theorem r_25_5 (vx1 : mm_V) (x2 : Int) (vx3 : mm_V) {tx4 : Int} (x5 : Int) {hi : mm_Id → Int → Int} {dh : Int → Int} {nx ns : Int} {Q : mm_V → mm_H → Prop} (htx4 : mm_isD tx4) (hx : 5275 ≤ nx) :
    mm_Wp 25 (mm_blk 25 5) [zR (1, 0, 0), vx1, zI x2, vx3, zR (31, tx4, 0), zI x5] [] (mm_z hi dh nx ns) Q =
    (if x5 < 8 then ((0 ≤ x5 ∧ x5 < 8) ∧ (if 0 ≤ dh x5 ∧ dh x5 < 5 then mm_Wp 25 (mm_blk 25 5) [zR (1, 0, 0), vx1, zI x2, vx3, zR (31, tx4, 0), zI (mm_w (x5 + 1))] [] (mm_z hi dh nx ns) Q else ((0 ≤ x5 ∧ x5 < 8) ∧ mm_Cl 90 [zR (34, x5, 0), zR (31, tx4, 0), zI x2] (mm_z hi dh nx ns) (fun r h3 => mm_Wp 25 (bk_25_5.drop 16) [zR (1, 0, 0), vx1, zI x2, vx3, zR (31, tx4, 0), zI x5] (mm_push r []) h3 Q)))) else Q (zI (-4)) (mm_z hi dh nx ns)) :=
  mm_kb bq_25_5 ((wp_3_5).trans ((wp_1).trans ((wp_49).trans (mm_ic ((wp_5_0).trans ((wp_62 (by decide) (mm_o1 hx) mm_r1_3).trans ((wp_3_5).trans ((wp_73 (mm_q4 hx) (by decide) (fun q => mm_a4 q)).trans (mm_acd fun h1 => (wp_62d h1 (mm_o34 h1 hx)).trans (mm_icd (fun h2 => (wp_55 (by decide)).trans (mm_kb bq_25_6 ((wp_9 (l2 := [zR (1, 0, 0), vx1, zI x2, vx3, zR (31, tx4, 0), zI (mm_w (x5 + 1))]) rfl rfl).trans ((wp_56).trans (rfl))))) (fun _ => (wp_55n).trans ((wp_5_0).trans ((wp_62 (by decide) (mm_o1 hx) mm_r1_3).trans ((wp_3_5).trans ((wp_73 (mm_q4 hx) (by decide) (fun q => mm_a4 q)).trans (mm_acd fun h3 => (wp_5_4).trans ((wp_3_2).trans ((wp_v3 mm_n_90 (mm_leq mm_m_90 (mm_lb rfl)) (mm_lb rfl) (mm_o34 h3 hx)).trans rfl)))))))))))))) (mm_kb bq_25_7 ((wp_1).trans (wp_90)))))))
theorem r_25_5_16 (vx0 : mm_V) (vx1 : mm_V) (vx2 : mm_V) (vx3 : mm_V) (vx4 : mm_V) (x5 : Int) {hi : mm_Id → Int → Int} {dh : Int → Int} {nx ns : Int} {Q : mm_V → mm_H → Prop} (hx : 5275 ≤ nx) :
    mm_Wp 25 (bk_25_5.drop 16) [vx0, vx1, vx2, vx3, vx4, zI x5] [] (mm_z hi dh nx ns) Q =
    Q (zI (mm_w (x5 + 1))) (mm_z hi dh nx ns) :=
  (wp_3_5).trans ((wp_1).trans ((wp_10).trans (wp_90)))
/-- PoolHouse.close(I)I -/
theorem bq_26_0 : mm_blk 26 0 = bk_26_0 := by decide +kernel
theorem bq_26_1 : mm_blk 26 1 = bk_26_1 := by decide +kernel
theorem r_26_e (x1 : Int) {hi : mm_Id → Int → Int} {dh : Int → Int} {nx ns : Int} {Q : mm_V → mm_H → Prop} (hx : 5275 ≤ nx) :
    mm_Cl 26 [zR (1, 0, 0), zI x1] (mm_z hi dh nx ns) Q =
    mm_Cl 57 [zR (1, 0, 0), zI x1] (mm_z hi dh nx ns) (fun r h3 => mm_Wp 26 (bk_26_0.drop 3) [zR (1, 0, 0), zI x1, zU, zU, zU] (mm_push r []) h3 Q) :=
  mm_ce (l2 := [zR (1, 0, 0), zI x1, zU, zU, zU]) rfl (mm_kb bq_26_0 ((wp_5_0).trans ((wp_3_1).trans ((wp_v2 mm_n_57 (mm_leq mm_m_57 (mm_lb rfl)) (mm_lb rfl) (mm_o1 hx)).trans rfl))))
theorem r_26_0_3 (vx1 : mm_V) (vx2 : mm_V) (vx3 : mm_V) (vx4 : mm_V) {hi : mm_Id → Int → Int} {dh : Int → Int} {nx ns : Int} {Q : mm_V → mm_H → Prop} (hvx1 : mm_wt vx1 = 1) (hx : 5275 ≤ nx) :
    mm_Wp 26 (bk_26_0.drop 3) [zR (1, 0, 0), vx1, vx2, vx3, vx4] [zR mm_nul] (mm_z hi dh nx ns) Q =
    Q (zI (-1)) (mm_z hi dh nx ns) :=
  (wp_8 (l2 := [zR (1, 0, 0), vx1, zR mm_nul, vx3, vx4]) ((if_pos (mm_lb rfl)).trans (congrArg some (mm_stw rfl hvx1)))).trans ((wp_5_2).trans ((wp_55n).trans ((wp_1).trans (wp_90))))
theorem r_26_0_3a (vx1 : mm_V) (vx2 : mm_V) (vx3 : mm_V) (vx4 : mm_V) {ty0 : Int} {hi : mm_Id → Int → Int} {dh : Int → Int} {nx ns : Int} {Q : mm_V → mm_H → Prop} (hvx1 : mm_wt vx1 = 1) (hty0 : mm_isS ty0) (hx : 5275 ≤ nx) :
    mm_Wp 26 (bk_26_0.drop 3) [zR (1, 0, 0), vx1, vx2, vx3, vx4] [zR (34, ty0, 0)] (mm_z hi dh nx ns) Q =
    (if 0 ≤ dh ty0 ∧ dh ty0 < 5 then mm_Cl 71 [zR (1, 0, 0), zR (31, (dh ty0), 0), zI (hi (34, ty0, 0) 2)] (mm_z hi (fun k => if k = ty0 then -1 else dh k) nx ns) (fun r h3 => mm_Wp 26 (bk_26_1.drop 13) [zR (1, 0, 0), vx1, zR (34, ty0, 0), zR (31, (dh ty0), 0), zI (hi (34, ty0, 0) 2)] (mm_push r []) h3 Q) else mm_Cl 71 [zR (1, 0, 0), zR mm_nul, zI (hi (34, ty0, 0) 2)] (mm_z hi (fun k => if k = ty0 then -1 else dh k) nx ns) (fun r h3 => mm_Wp 26 (bk_26_1.drop 13) [zR (1, 0, 0), vx1, zR (34, ty0, 0), zR mm_nul, zI (hi (34, ty0, 0) 2)] (mm_push r []) h3 Q)) :=
  (wp_8 (l2 := [zR (1, 0, 0), vx1, zR (34, ty0, 0), vx3, vx4]) ((if_pos (mm_lb rfl)).trans (congrArg some (mm_stw rfl hvx1)))).trans ((wp_5_2).trans ((wp_55 (by decide)).trans (mm_kb bq_26_1 ((wp_5_2).trans ((wp_62d hty0 (mm_o34 hty0 hx)).trans (mm_icd (fun h1 => (wp_8 (l2 := [zR (1, 0, 0), vx1, zR (34, ty0, 0), zR (31, (dh ty0), 0), vx4]) rfl).trans ((wp_5_2).trans ((wp_60 (by decide) (mm_o34 hty0 hx)).trans ((wp_6 (l2 := [zR (1, 0, 0), vx1, zR (34, ty0, 0), zR (31, (dh ty0), 0), zI (hi (34, ty0, 0) 2)]) rfl).trans ((wp_5_2).trans ((wp_38).trans ((wp_66n hty0 (mm_o34 hty0 hx)).trans ((wp_5_0).trans ((wp_5_3).trans ((wp_3_4).trans ((wp_v3 mm_n_71 (mm_leq mm_m_71 (mm_lb rfl)) (mm_lb rfl) (mm_o1 hx)).trans rfl))))))))))) (fun _ => (wp_8 (l2 := [zR (1, 0, 0), vx1, zR (34, ty0, 0), zR mm_nul, vx4]) rfl).trans ((wp_5_2).trans ((wp_60 (by decide) (mm_o34 hty0 hx)).trans ((wp_6 (l2 := [zR (1, 0, 0), vx1, zR (34, ty0, 0), zR mm_nul, zI (hi (34, ty0, 0) 2)]) rfl).trans ((wp_5_2).trans ((wp_38).trans ((wp_66n hty0 (mm_o34 hty0 hx)).trans ((wp_5_0).trans ((wp_5_3).trans ((wp_3_4).trans ((wp_v3 mm_n_71 (mm_leq mm_m_71 (mm_lb rfl)) (mm_lb rfl) (mm_o1 hx)).trans rfl)))))))))))))))))
theorem r_26_1_13 (vx1 : mm_V) (vx2 : mm_V) {tx3 : Int} (x4 : Int) {hi : mm_Id → Int → Int} {dh : Int → Int} {nx ns : Int} {Q : mm_V → mm_H → Prop} (htx3 : mm_isD tx3) (hx : 5275 ≤ nx) :
    mm_Wp 26 (bk_26_1.drop 13) [zR (1, 0, 0), vx1, vx2, zR (31, tx3, 0), zI x4] [] (mm_z hi dh nx ns) Q =
    mm_Cl 63 [zR (1, 0, 0), zR (31, tx3, 0)] (mm_z hi dh nx ns) (fun r h3 => mm_Wp 26 (bk_26_1.drop 16) [zR (1, 0, 0), vx1, vx2, zR (31, tx3, 0), zI x4] (mm_push r []) h3 Q) :=
  (wp_5_0).trans ((wp_5_3).trans ((wp_v2 mm_n_63 (mm_leq mm_m_63 (mm_lb rfl)) (mm_lb rfl) (mm_o1 hx)).trans rfl))
theorem r_26_1_16 (vx0 : mm_V) (vx1 : mm_V) (vx2 : mm_V) (vx3 : mm_V) (x4 : Int) {hi : mm_Id → Int → Int} {dh : Int → Int} {nx ns : Int} {Q : mm_V → mm_H → Prop} (hx : 5275 ≤ nx) :
    mm_Wp 26 (bk_26_1.drop 16) [vx0, vx1, vx2, vx3, zI x4] [] (mm_z hi dh nx ns) Q =
    Q (zI x4) (mm_z hi dh nx ns) :=
  (wp_3_4).trans (wp_90)
/-- PoolHouse.handle(II)I -/
theorem bq_27_0 : mm_blk 27 0 = bk_27_0 := by decide +kernel
theorem bq_27_1 : mm_blk 27 1 = bk_27_1 := by decide +kernel
theorem bq_27_2 : mm_blk 27 2 = bk_27_2 := by decide +kernel
theorem bq_27_3 : mm_blk 27 3 = bk_27_3 := by decide +kernel
theorem bq_27_4 : mm_blk 27 4 = bk_27_4 := by decide +kernel
theorem r_27_e (x1 : Int) (x2 : Int) {hi : mm_Id → Int → Int} {dh : Int → Int} {nx ns : Int} {Q : mm_V → mm_H → Prop} (hx : 5275 ≤ nx) :
    mm_Cl 27 [zR (1, 0, 0), zI x1, zI x2] (mm_z hi dh nx ns) Q =
    mm_Cl 57 [zR (1, 0, 0), zI x1] (mm_z hi dh nx ns) (fun r h3 => mm_Wp 27 (bk_27_0.drop 3) [zR (1, 0, 0), zI x1, zI x2, zU] (mm_push r []) h3 Q) :=
  mm_ce (l2 := [zR (1, 0, 0), zI x1, zI x2, zU]) rfl (mm_kb bq_27_0 ((wp_5_0).trans ((wp_3_1).trans ((wp_v2 mm_n_57 (mm_leq mm_m_57 (mm_lb rfl)) (mm_lb rfl) (mm_o1 hx)).trans rfl))))
theorem r_27_0_3 (vx0 : mm_V) (vx1 : mm_V) (x2 : Int) (vx3 : mm_V) {hi : mm_Id → Int → Int} {dh : Int → Int} {nx ns : Int} {Q : mm_V → mm_H → Prop} (hx : 5275 ≤ nx) :
    mm_Wp 27 (bk_27_0.drop 3) [vx0, vx1, zI x2, vx3] [zR mm_nul] (mm_z hi dh nx ns) Q =
    Q (zI (-1)) (mm_z hi dh nx ns) :=
  (wp_8 (l2 := [vx0, vx1, zI x2, zR mm_nul]) rfl).trans ((wp_5_3).trans ((wp_55n).trans ((wp_1).trans (wp_90))))
theorem r_27_0_3a (vx0 : mm_V) (vx1 : mm_V) (x2 : Int) (vx3 : mm_V) {ty0 : Int} {hi : mm_Id → Int → Int} {dh : Int → Int} {nx ns : Int} {Q : mm_V → mm_H → Prop} (hty0 : mm_isS ty0) (hx : 5275 ≤ nx) :
    mm_Wp 27 (bk_27_0.drop 3) [vx0, vx1, zI x2, vx3] [zR (34, ty0, 0)] (mm_z hi dh nx ns) Q =
    (if x2 = 0 then (if 0 ≤ dh ty0 ∧ dh ty0 < 5 then Q (zI (hi (31, (dh ty0), 0) 3)) (mm_z hi dh nx ns) else False) else (if x2 = 1 then mm_Wp 27 (mm_blk 27 4) [vx0, vx1, zI x2, zR (34, ty0, 0)] [zI (hi (34, ty0, 0) 2)] (mm_z hi dh nx ns) Q else mm_Wp 27 (mm_blk 27 4) [vx0, vx1, zI x2, zR (34, ty0, 0)] [zI (-2)] (mm_z hi dh nx ns) Q)) :=
  (wp_8 (l2 := [vx0, vx1, zI x2, zR (34, ty0, 0)]) rfl).trans ((wp_5_3).trans ((wp_55 (by decide)).trans (mm_kb bq_27_1 ((wp_3_2).trans ((wp_41).trans (mm_ic ((wp_5_3).trans ((wp_62d hty0 (mm_o34 hty0 hx)).trans (mm_icd (fun h1 => (wp_60 (by decide) (mm_o31 h1 hx)).trans (wp_90)) (fun _ => wp_60n (by decide))))) (mm_kb bq_27_2 ((wp_3_2).trans ((wp_1).trans ((wp_47).trans (mm_ic ((wp_5_3).trans ((wp_60 (by decide) (mm_o34 hty0 hx)).trans ((wp_56).trans (rfl)))) (mm_kb bq_27_3 ((wp_1).trans ((wp_0).trans (rfl)))))))))))))))
theorem r_27_4 (vx0 : mm_V) (vx1 : mm_V) (vx2 : mm_V) (vx3 : mm_V) (y0 : Int) {hi : mm_Id → Int → Int} {dh : Int → Int} {nx ns : Int} {Q : mm_V → mm_H → Prop} (hx : 5275 ≤ nx) :
    mm_Wp 27 (mm_blk 27 4) [vx0, vx1, vx2, vx3] [zI y0] (mm_z hi dh nx ns) Q =
    Q (zI y0) (mm_z hi dh nx ns) :=
  mm_kb bq_27_4 (wp_90)
/-- PoolHouse.snapshot(I)I -/
theorem bq_28_0 : mm_blk 28 0 = bk_28_0 := by decide +kernel
theorem bq_28_1 : mm_blk 28 1 = bk_28_1 := by decide +kernel
theorem bq_28_2 : mm_blk 28 2 = bk_28_2 := by decide +kernel
theorem bq_28_3 : mm_blk 28 3 = bk_28_3 := by decide +kernel
theorem bq_28_4 : mm_blk 28 4 = bk_28_4 := by decide +kernel
theorem bq_28_5 : mm_blk 28 5 = bk_28_5 := by decide +kernel
theorem r_28_e (x1 : Int) {hi : mm_Id → Int → Int} {dh : Int → Int} {nx ns : Int} {Q : mm_V → mm_H → Prop} (hx : 5275 ≤ nx) :
    mm_Cl 28 [zR (1, 0, 0), zI x1] (mm_z hi dh nx ns) Q =
    mm_Cl 53 [zR (1, 0, 0), zI x1] (mm_z hi dh nx ns) (fun r h3 => mm_Wp 28 (bk_28_0.drop 3) [zR (1, 0, 0), zI x1, zU, zU] (mm_push r []) h3 Q) :=
  mm_ce (l2 := [zR (1, 0, 0), zI x1, zU, zU]) rfl (mm_kb bq_28_0 ((wp_5_0).trans ((wp_3_1).trans ((wp_v2 mm_n_53 (mm_leq mm_m_53 (mm_lb rfl)) (mm_lb rfl) (mm_o1 hx)).trans rfl))))
theorem r_28_0_3 (vx1 : mm_V) (vx2 : mm_V) (vx3 : mm_V) {hi : mm_Id → Int → Int} {dh : Int → Int} {nx ns : Int} {Q : mm_V → mm_H → Prop} (hvx1 : mm_wt vx1 = 1) (hx : 5275 ≤ nx) :
    mm_Wp 28 (bk_28_0.drop 3) [zR (1, 0, 0), vx1, vx2, vx3] [zR mm_nul] (mm_z hi dh nx ns) Q =
    Q (zI (-1)) (mm_z hi dh nx ns) :=
  (wp_8 (l2 := [zR (1, 0, 0), vx1, zR mm_nul, vx3]) ((if_pos (mm_lb rfl)).trans (congrArg some (mm_stw rfl hvx1)))).trans ((wp_5_2).trans ((wp_55n).trans ((wp_1).trans (wp_90))))
theorem r_28_0_3a (vx1 : mm_V) (vx2 : mm_V) (vx3 : mm_V) {ty0 : Int} {hi : mm_Id → Int → Int} {dh : Int → Int} {nx ns : Int} {Q : mm_V → mm_H → Prop} (hvx1 : mm_wt vx1 = 1) (hty0 : mm_isD ty0) (hx : 5275 ≤ nx) :
    mm_Wp 28 (bk_28_0.drop 3) [zR (1, 0, 0), vx1, vx2, vx3] [zR (31, ty0, 0)] (mm_z hi dh nx ns) Q =
    (if (hi (1, 0, 0) 12) = 0 then mm_Wp 28 (mm_blk 28 3) [zR (1, 0, 0), vx1, zR (31, ty0, 0), zI 0] [] (mm_z hi dh nx ns) Q else Q (zI (-5)) (mm_z hi dh nx ns)) :=
  (wp_8 (l2 := [zR (1, 0, 0), vx1, zR (31, ty0, 0), vx3]) ((if_pos (mm_lb rfl)).trans (congrArg some (mm_stw rfl hvx1)))).trans ((wp_5_2).trans ((wp_55 (by decide)).trans (mm_kb bq_28_1 ((wp_5_0).trans ((wp_60 (by decide) (mm_o1 hx)).trans ((wp_40).trans (mm_ic (mm_kb bq_28_2 ((wp_1).trans ((wp_6 (l2 := [zR (1, 0, 0), vx1, zR (31, ty0, 0), zI 0]) rfl).trans ((wp_0).trans (rfl))))) ((wp_1).trans (wp_90)))))))))
theorem r_28_3 (vx1 : mm_V) {tx2 : Int} (x3 : Int) {hi : mm_Id → Int → Int} {dh : Int → Int} {nx ns : Int} {Q : mm_V → mm_H → Prop} (htx2 : mm_isD tx2) (hx : 5275 ≤ nx) :
    mm_Wp 28 (mm_blk 28 3) [zR (1, 0, 0), vx1, zR (31, tx2, 0), zI x3] [] (mm_z hi dh nx ns) Q =
    (if x3 < 8 then ((0 ≤ x3 ∧ x3 < 8) ∧ (if (hi (33, x3, 0) 1) = 0 then ((0 ≤ x3 ∧ x3 < 8) ∧ mm_Cl 154 [zR (33, x3, 0), zI ((mm_up hi (1, 0, 0) 11 (mm_w ((hi (1, 0, 0) 11) + 1))) (1, 0, 0) 11), zR (31, tx2, 0)] (mm_z (mm_up hi (1, 0, 0) 11 (mm_w ((hi (1, 0, 0) 11) + 1))) dh nx ns) (fun r h3 => mm_Wp 28 (bk_28_3.drop 23) [zR (1, 0, 0), vx1, zR (31, tx2, 0), zI x3] (mm_push r []) h3 Q)) else mm_Wp 28 (mm_blk 28 3) [zR (1, 0, 0), vx1, zR (31, tx2, 0), zI (mm_w (x3 + 1))] [] (mm_z hi dh nx ns) Q)) else Q (zI (-4)) (mm_z hi dh nx ns)) :=
  mm_kb bq_28_3 ((wp_3_3).trans ((wp_1).trans ((wp_49).trans (mm_ic ((wp_5_0).trans ((wp_62 (by decide) (mm_o1 hx) mm_r1_2).trans ((wp_3_3).trans ((wp_73 (mm_q3 hx) (by decide) (fun q => mm_a3 q)).trans (mm_acd fun h1 => (wp_60 (by decide) (mm_o33 h1 hx)).trans ((wp_41).trans (mm_ic ((wp_5_0).trans ((wp_35r).trans ((wp_60 (by decide) (mm_o1 hx)).trans ((wp_1).trans ((wp_10).trans ((wp_63 (mm_o1 hx)).trans ((wp_5_0).trans ((wp_62 (by decide) (mm_o1 hx) mm_r1_2).trans ((wp_3_3).trans ((wp_73 (mm_q3 hx) (by decide) (fun q => mm_a3 q)).trans (mm_acd fun h2 => (wp_5_0).trans ((wp_60 (by decide) (mm_o1 hx)).trans ((wp_5_2).trans ((wp_v3 mm_n_154 (mm_leq mm_m_154 (mm_lb rfl)) (mm_lb rfl) (mm_o33 h2 hx)).trans rfl)))))))))))))) (mm_kb bq_28_4 ((wp_9 (l2 := [zR (1, 0, 0), vx1, zR (31, tx2, 0), zI (mm_w (x3 + 1))]) rfl rfl).trans ((wp_56).trans (rfl))))))))))) (mm_kb bq_28_5 ((wp_1).trans (wp_90)))))))
theorem r_28_3_23 (vx1 : mm_V) (vx2 : mm_V) (vx3 : mm_V) {hi : mm_Id → Int → Int} {dh : Int → Int} {nx ns : Int} {Q : mm_V → mm_H → Prop} (hx : 5275 ≤ nx) :
    mm_Wp 28 (bk_28_3.drop 23) [zR (1, 0, 0), vx1, vx2, vx3] [] (mm_z hi dh nx ns) Q =
    mm_Cl 64 [zR (1, 0, 0)] (mm_z hi dh nx ns) (fun r h3 => mm_Wp 28 (bk_28_3.drop 25) [zR (1, 0, 0), vx1, vx2, vx3] (mm_push r []) h3 Q) :=
  (wp_5_0).trans ((wp_v1 mm_n_64 (mm_leq mm_m_64 (mm_lb rfl)) (mm_lb rfl) (mm_o1 hx)).trans rfl)
theorem r_28_3_25 (vx1 : mm_V) (vx2 : mm_V) (vx3 : mm_V) (y0 : Int) {hi : mm_Id → Int → Int} {dh : Int → Int} {nx ns : Int} {Q : mm_V → mm_H → Prop} (hx : 5275 ≤ nx) :
    mm_Wp 28 (bk_28_3.drop 25) [zR (1, 0, 0), vx1, vx2, vx3] [zI y0] (mm_z hi dh nx ns) Q =
    Q (zI (hi (1, 0, 0) 11)) (mm_z hi dh nx ns) :=
  (wp_36i).trans ((wp_5_0).trans ((wp_60 (by decide) (mm_o1 hx)).trans (wp_90)))
/-- PoolHouse.clone(I)I -/
theorem bq_29_0 : mm_blk 29 0 = bk_29_0 := by decide +kernel
theorem bq_29_1 : mm_blk 29 1 = bk_29_1 := by decide +kernel
theorem bq_29_2 : mm_blk 29 2 = bk_29_2 := by decide +kernel
theorem bq_29_3 : mm_blk 29 3 = bk_29_3 := by decide +kernel
theorem bq_29_4 : mm_blk 29 4 = bk_29_4 := by decide +kernel
theorem bq_29_5 : mm_blk 29 5 = bk_29_5 := by decide +kernel
theorem r_29_e (x1 : Int) {hi : mm_Id → Int → Int} {dh : Int → Int} {nx ns : Int} {Q : mm_V → mm_H → Prop} (hx : 5275 ≤ nx) :
    mm_Cl 29 [zR (1, 0, 0), zI x1] (mm_z hi dh nx ns) Q =
    mm_Cl 54 [zR (1, 0, 0), zI x1] (mm_z hi dh nx ns) (fun r h3 => mm_Wp 29 (bk_29_0.drop 3) [zR (1, 0, 0), zI x1, zU, zU] (mm_push r []) h3 Q) :=
  mm_ce (l2 := [zR (1, 0, 0), zI x1, zU, zU]) rfl (mm_kb bq_29_0 ((wp_5_0).trans ((wp_3_1).trans ((wp_v2 mm_n_54 (mm_leq mm_m_54 (mm_lb rfl)) (mm_lb rfl) (mm_o1 hx)).trans rfl))))
theorem r_29_0_3 (x1 : Int) (vx2 : mm_V) (vx3 : mm_V) {hi : mm_Id → Int → Int} {dh : Int → Int} {nx ns : Int} {Q : mm_V → mm_H → Prop} (hx : 5275 ≤ nx) :
    mm_Wp 29 (bk_29_0.drop 3) [zR (1, 0, 0), zI x1, vx2, vx3] [zR mm_nul] (mm_z hi dh nx ns) Q =
    Q (zI (-1)) (mm_z hi dh nx ns) :=
  (wp_8 (l2 := [zR (1, 0, 0), zI x1, zR mm_nul, vx3]) rfl).trans ((wp_5_2).trans ((wp_55n).trans ((wp_1).trans (wp_90))))
theorem r_29_0_3a (x1 : Int) (vx2 : mm_V) (vx3 : mm_V) {ty0 : Int} {hi : mm_Id → Int → Int} {dh : Int → Int} {nx ns : Int} {Q : mm_V → mm_H → Prop} (hty0 : mm_isS ty0) (hx : 5275 ≤ nx) :
    mm_Wp 29 (bk_29_0.drop 3) [zR (1, 0, 0), zI x1, vx2, vx3] [zR (33, ty0, 0)] (mm_z hi dh nx ns) Q =
    (if (hi (1, 0, 0) 12) = 0 then mm_Wp 29 (mm_blk 29 3) [zR (1, 0, 0), zI x1, zR (33, ty0, 0), zI 0] [] (mm_z hi dh nx ns) Q else Q (zI (-5)) (mm_z hi dh nx ns)) :=
  (wp_8 (l2 := [zR (1, 0, 0), zI x1, zR (33, ty0, 0), vx3]) rfl).trans ((wp_5_2).trans ((wp_55 (by decide)).trans (mm_kb bq_29_1 ((wp_5_0).trans ((wp_60 (by decide) (mm_o1 hx)).trans ((wp_40).trans (mm_ic (mm_kb bq_29_2 ((wp_1).trans ((wp_6 (l2 := [zR (1, 0, 0), zI x1, zR (33, ty0, 0), zI 0]) rfl).trans ((wp_0).trans (rfl))))) ((wp_1).trans (wp_90)))))))))
theorem r_29_3 (x1 : Int) {tx2 : Int} (x3 : Int) {hi : mm_Id → Int → Int} {dh : Int → Int} {nx ns : Int} {Q : mm_V → mm_H → Prop} (htx2 : mm_isS tx2) (hx : 5275 ≤ nx) :
    mm_Wp 29 (mm_blk 29 3) [zR (1, 0, 0), zI x1, zR (33, tx2, 0), zI x3] [] (mm_z hi dh nx ns) Q =
    (if x3 < 5 then ((0 ≤ x3 ∧ x3 < 5) ∧ (if (hi (31, x3, 0) 3) = 0 then ((0 ≤ x3 ∧ x3 < 5) ∧ mm_Cl 80 [zR (31, x3, 0), zI ((mm_up hi (1, 0, 0) 10 (mm_w ((hi (1, 0, 0) 10) + 1))) (1, 0, 0) 10), zI x1] (mm_z (mm_up hi (1, 0, 0) 10 (mm_w ((hi (1, 0, 0) 10) + 1))) dh nx ns) (fun r h3 => mm_Wp 29 (bk_29_3.drop 23) [zR (1, 0, 0), zI x1, zR (33, tx2, 0), zI x3] (mm_push r []) h3 Q)) else mm_Wp 29 (mm_blk 29 3) [zR (1, 0, 0), zI x1, zR (33, tx2, 0), zI (mm_w (x3 + 1))] [] (mm_z hi dh nx ns) Q)) else Q (zI (-4)) (mm_z hi dh nx ns)) :=
  mm_kb bq_29_3 ((wp_3_3).trans ((wp_1).trans ((wp_49).trans (mm_ic ((wp_5_0).trans ((wp_62 (by decide) (mm_o1 hx) mm_r1_1).trans ((wp_3_3).trans ((wp_73 (mm_q2 hx) (by decide) (fun q => mm_a2 q)).trans (mm_acd fun h1 => (wp_60 (by decide) (mm_o31 h1 hx)).trans ((wp_41).trans (mm_ic ((wp_5_0).trans ((wp_35r).trans ((wp_60 (by decide) (mm_o1 hx)).trans ((wp_1).trans ((wp_10).trans ((wp_63 (mm_o1 hx)).trans ((wp_5_0).trans ((wp_62 (by decide) (mm_o1 hx) mm_r1_1).trans ((wp_3_3).trans ((wp_73 (mm_q2 hx) (by decide) (fun q => mm_a2 q)).trans (mm_acd fun h2 => (wp_5_0).trans ((wp_60 (by decide) (mm_o1 hx)).trans ((wp_3_1).trans ((wp_v3 mm_n_80 (mm_leq mm_m_80 (mm_lb rfl)) (mm_lb rfl) (mm_o31 h2 hx)).trans rfl)))))))))))))) (mm_kb bq_29_4 ((wp_9 (l2 := [zR (1, 0, 0), zI x1, zR (33, tx2, 0), zI (mm_w (x3 + 1))]) rfl rfl).trans ((wp_56).trans (rfl))))))))))) (mm_kb bq_29_5 ((wp_1).trans (wp_90)))))))
theorem r_29_3_23 (vx1 : mm_V) {tx2 : Int} (x3 : Int) {hi : mm_Id → Int → Int} {dh : Int → Int} {nx ns : Int} {Q : mm_V → mm_H → Prop} (htx2 : mm_isS tx2) (hx : 5275 ≤ nx) :
    mm_Wp 29 (bk_29_3.drop 23) [zR (1, 0, 0), vx1, zR (33, tx2, 0), zI x3] [] (mm_z hi dh nx ns) Q =
    ((0 ≤ x3 ∧ x3 < 5) ∧ mm_Cl 165 [zR (22, x3, 0), zR (22, (5 + tx2), 0)] (mm_z hi dh nx ns) (fun r h3 => mm_Wp 29 (bk_29_3.drop 31) [zR (1, 0, 0), vx1, zR (33, tx2, 0), zI x3] (mm_push r []) h3 Q)) :=
  (wp_5_0).trans ((wp_62 (by decide) (mm_o1 hx) mm_r1_1).trans ((wp_3_3).trans ((wp_73 (mm_q2 hx) (by decide) (fun q => mm_a2 q)).trans (mm_acd fun h1 => (wp_62 (by decide) (mm_o31 h1 hx) (mm_r31_0 h1)).trans ((wp_5_2).trans ((wp_62 (by decide) (mm_o33 htx2 hx) (mm_r33_0 htx2)).trans ((wp_v2 mm_n_165 (mm_leq mm_m_165 (mm_lb rfl)) (mm_lb rfl) (mm_o22 (mm_td h1) hx)).trans rfl)))))))
theorem r_29_3_31 (vx1 : mm_V) (vx2 : mm_V) (x3 : Int) {hi : mm_Id → Int → Int} {dh : Int → Int} {nx ns : Int} {Q : mm_V → mm_H → Prop} (hx : 5275 ≤ nx) :
    mm_Wp 29 (bk_29_3.drop 31) [zR (1, 0, 0), vx1, vx2, zI x3] [] (mm_z hi dh nx ns) Q =
    ((0 ≤ x3 ∧ x3 < 5) ∧ mm_Cl 65 [zR (1, 0, 0), zR (31, x3, 0)] (mm_z hi dh nx ns) (fun r h3 => mm_Wp 29 (bk_29_3.drop 37) [zR (1, 0, 0), vx1, vx2, zI x3] (mm_push r []) h3 Q)) :=
  (wp_5_0).trans ((wp_5_0).trans ((wp_62 (by decide) (mm_o1 hx) mm_r1_1).trans ((wp_3_3).trans ((wp_73 (mm_q2 hx) (by decide) (fun q => mm_a2 q)).trans (mm_acd fun h1 => (wp_v2 mm_n_65 (mm_leq mm_m_65 (mm_lb rfl)) (mm_lb rfl) (mm_o1 hx)).trans rfl)))))
theorem r_29_3_37 (vx1 : mm_V) (vx2 : mm_V) (vx3 : mm_V) {hi : mm_Id → Int → Int} {dh : Int → Int} {nx ns : Int} {Q : mm_V → mm_H → Prop} (hx : 5275 ≤ nx) :
    mm_Wp 29 (bk_29_3.drop 37) [zR (1, 0, 0), vx1, vx2, vx3] [] (mm_z hi dh nx ns) Q =
    mm_Cl 64 [zR (1, 0, 0)] (mm_z hi dh nx ns) (fun r h3 => mm_Wp 29 (bk_29_3.drop 39) [zR (1, 0, 0), vx1, vx2, vx3] (mm_push r []) h3 Q) :=
  (wp_5_0).trans ((wp_v1 mm_n_64 (mm_leq mm_m_64 (mm_lb rfl)) (mm_lb rfl) (mm_o1 hx)).trans rfl)
theorem r_29_3_39 (vx1 : mm_V) (vx2 : mm_V) (vx3 : mm_V) (y0 : Int) {hi : mm_Id → Int → Int} {dh : Int → Int} {nx ns : Int} {Q : mm_V → mm_H → Prop} (hx : 5275 ≤ nx) :
    mm_Wp 29 (bk_29_3.drop 39) [zR (1, 0, 0), vx1, vx2, vx3] [zI y0] (mm_z hi dh nx ns) Q =
    Q (zI (hi (1, 0, 0) 10)) (mm_z hi dh nx ns) :=
  (wp_36i).trans ((wp_5_0).trans ((wp_60 (by decide) (mm_o1 hx)).trans (wp_90)))
/-- PoolHouse.back(II)I -/
theorem bq_30_0 : mm_blk 30 0 = bk_30_0 := by decide +kernel
theorem bq_30_1 : mm_blk 30 1 = bk_30_1 := by decide +kernel
theorem bq_30_2 : mm_blk 30 2 = bk_30_2 := by decide +kernel
theorem bq_30_3 : mm_blk 30 3 = bk_30_3 := by decide +kernel
theorem bq_30_4 : mm_blk 30 4 = bk_30_4 := by decide +kernel
theorem bq_30_5 : mm_blk 30 5 = bk_30_5 := by decide +kernel
theorem bq_30_6 : mm_blk 30 6 = bk_30_6 := by decide +kernel
theorem r_30_e (x1 : Int) (x2 : Int) {hi : mm_Id → Int → Int} {dh : Int → Int} {nx ns : Int} {Q : mm_V → mm_H → Prop} (hx : 5275 ≤ nx) :
    mm_Cl 30 [zR (1, 0, 0), zI x1, zI x2] (mm_z hi dh nx ns) Q =
    mm_Cl 53 [zR (1, 0, 0), zI x1] (mm_z hi dh nx ns) (fun r h3 => mm_Wp 30 (bk_30_0.drop 3) [zR (1, 0, 0), zI x1, zI x2, zU, zU] (mm_push r []) h3 Q) :=
  mm_ce (l2 := [zR (1, 0, 0), zI x1, zI x2, zU, zU]) rfl (mm_kb bq_30_0 ((wp_5_0).trans ((wp_3_1).trans ((wp_v2 mm_n_53 (mm_leq mm_m_53 (mm_lb rfl)) (mm_lb rfl) (mm_o1 hx)).trans rfl))))
theorem r_30_0_3 (x1 : Int) (x2 : Int) (vx3 : mm_V) (vx4 : mm_V) {hi : mm_Id → Int → Int} {dh : Int → Int} {nx ns : Int} {Q : mm_V → mm_H → Prop} (hx : 5275 ≤ nx) :
    mm_Wp 30 (bk_30_0.drop 3) [zR (1, 0, 0), zI x1, zI x2, vx3, vx4] [zR mm_nul] (mm_z hi dh nx ns) Q =
    mm_Cl 54 [zR (1, 0, 0), zI x2] (mm_z hi dh nx ns) (fun r h3 => mm_Wp 30 (bk_30_0.drop 7) [zR (1, 0, 0), zI x1, zI x2, zR mm_nul, vx4] (mm_push r []) h3 Q) :=
  (wp_8 (l2 := [zR (1, 0, 0), zI x1, zI x2, zR mm_nul, vx4]) rfl).trans ((wp_5_0).trans ((wp_3_2).trans ((wp_v2 mm_n_54 (mm_leq mm_m_54 (mm_lb rfl)) (mm_lb rfl) (mm_o1 hx)).trans rfl)))
theorem r_30_0_3a (x1 : Int) (x2 : Int) (vx3 : mm_V) (vx4 : mm_V) {ty0 : Int} {hi : mm_Id → Int → Int} {dh : Int → Int} {nx ns : Int} {Q : mm_V → mm_H → Prop} (hty0 : mm_isD ty0) (hx : 5275 ≤ nx) :
    mm_Wp 30 (bk_30_0.drop 3) [zR (1, 0, 0), zI x1, zI x2, vx3, vx4] [zR (31, ty0, 0)] (mm_z hi dh nx ns) Q =
    mm_Cl 54 [zR (1, 0, 0), zI x2] (mm_z hi dh nx ns) (fun r h3 => mm_Wp 30 (bk_30_0.drop 7) [zR (1, 0, 0), zI x1, zI x2, zR (31, ty0, 0), vx4] (mm_push r []) h3 Q) :=
  (wp_8 (l2 := [zR (1, 0, 0), zI x1, zI x2, zR (31, ty0, 0), vx4]) rfl).trans ((wp_5_0).trans ((wp_3_2).trans ((wp_v2 mm_n_54 (mm_leq mm_m_54 (mm_lb rfl)) (mm_lb rfl) (mm_o1 hx)).trans rfl)))
theorem r_30_0_7 (x1 : Int) (x2 : Int) (vx4 : mm_V) {hi : mm_Id → Int → Int} {dh : Int → Int} {nx ns : Int} {Q : mm_V → mm_H → Prop} (hx : 5275 ≤ nx) :
    mm_Wp 30 (bk_30_0.drop 7) [zR (1, 0, 0), zI x1, zI x2, zR mm_nul, vx4] [zR mm_nul] (mm_z hi dh nx ns) Q =
    mm_Wp 30 (mm_blk 30 1) [zR (1, 0, 0), zI x1, zI x2, zR mm_nul, zR mm_nul] [] (mm_z hi dh nx ns) Q :=
  (wp_8 (l2 := [zR (1, 0, 0), zI x1, zI x2, zR mm_nul, zR mm_nul]) rfl).trans ((wp_5_3).trans ((wp_54n).trans (rfl)))
theorem r_30_0_7a (x1 : Int) (x2 : Int) (vx4 : mm_V) {ty0 : Int} {hi : mm_Id → Int → Int} {dh : Int → Int} {nx ns : Int} {Q : mm_V → mm_H → Prop} (hty0 : mm_isS ty0) (hx : 5275 ≤ nx) :
    mm_Wp 30 (bk_30_0.drop 7) [zR (1, 0, 0), zI x1, zI x2, zR mm_nul, vx4] [zR (33, ty0, 0)] (mm_z hi dh nx ns) Q =
    mm_Wp 30 (mm_blk 30 1) [zR (1, 0, 0), zI x1, zI x2, zR mm_nul, zR (33, ty0, 0)] [] (mm_z hi dh nx ns) Q :=
  (wp_8 (l2 := [zR (1, 0, 0), zI x1, zI x2, zR mm_nul, zR (33, ty0, 0)]) rfl).trans ((wp_5_3).trans ((wp_54n).trans (rfl)))
theorem r_30_0_7b (x1 : Int) (x2 : Int) {tx3 : Int} (vx4 : mm_V) {hi : mm_Id → Int → Int} {dh : Int → Int} {nx ns : Int} {Q : mm_V → mm_H → Prop} (htx3 : mm_isD tx3) (hx : 5275 ≤ nx) :
    mm_Wp 30 (bk_30_0.drop 7) [zR (1, 0, 0), zI x1, zI x2, zR (31, tx3, 0), vx4] [zR mm_nul] (mm_z hi dh nx ns) Q =
    mm_Wp 30 (mm_blk 30 1) [zR (1, 0, 0), zI x1, zI x2, zR (31, tx3, 0), zR mm_nul] [] (mm_z hi dh nx ns) Q :=
  (wp_8 (l2 := [zR (1, 0, 0), zI x1, zI x2, zR (31, tx3, 0), zR mm_nul]) rfl).trans ((wp_5_3).trans ((wp_54 (by decide)).trans ((wp_5_4).trans ((wp_55n).trans ((wp_0).trans (rfl))))))
theorem r_30_0_7c (x1 : Int) (x2 : Int) {tx3 : Int} (vx4 : mm_V) {ty0 : Int} {hi : mm_Id → Int → Int} {dh : Int → Int} {nx ns : Int} {Q : mm_V → mm_H → Prop} (htx3 : mm_isD tx3) (hty0 : mm_isS ty0) (hx : 5275 ≤ nx) :
    mm_Wp 30 (bk_30_0.drop 7) [zR (1, 0, 0), zI x1, zI x2, zR (31, tx3, 0), vx4] [zR (33, ty0, 0)] (mm_z hi dh nx ns) Q =
    (if (hi (33, ty0, 0) 2) = x1 then mm_Cl 74 [zR (1, 0, 0), zI x1] (mm_z hi dh nx ns) (fun r h3 => mm_Wp 30 (bk_30_2.drop 7) [zR (1, 0, 0), zI x1, zI x2, zR (31, tx3, 0), zR (33, ty0, 0)] (mm_push r []) h3 Q) else mm_Wp 30 (mm_blk 30 3) [zR (1, 0, 0), zI x1, zI x2, zR (31, tx3, 0), zR (33, ty0, 0)] [] (mm_z hi dh nx ns) Q) :=
  (wp_8 (l2 := [zR (1, 0, 0), zI x1, zI x2, zR (31, tx3, 0), zR (33, ty0, 0)]) rfl).trans ((wp_5_3).trans ((wp_54 (by decide)).trans ((wp_5_4).trans ((wp_55 (by decide)).trans (mm_kb bq_30_2 ((wp_5_4).trans ((wp_60 (by decide) (mm_o33 hty0 hx)).trans ((wp_3_1).trans ((wp_47).trans (mm_ic ((wp_5_0).trans ((wp_3_1).trans ((wp_v2 mm_n_74 (mm_leq mm_m_74 (mm_lb rfl)) (mm_lb rfl) (mm_o1 hx)).trans rfl))) (rfl)))))))))))
theorem r_30_1 (vx0 : mm_V) (vx1 : mm_V) (vx2 : mm_V) (vx3 : mm_V) (vx4 : mm_V) {hi : mm_Id → Int → Int} {dh : Int → Int} {nx ns : Int} {Q : mm_V → mm_H → Prop} (hx : 5275 ≤ nx) :
    mm_Wp 30 (mm_blk 30 1) [vx0, vx1, vx2, vx3, vx4] [] (mm_z hi dh nx ns) Q =
    Q (zI (-1)) (mm_z hi dh nx ns) :=
  mm_kb bq_30_1 ((wp_1).trans (wp_90))
theorem r_30_3 (vx0 : mm_V) (vx1 : mm_V) (vx2 : mm_V) (vx3 : mm_V) (vx4 : mm_V) {hi : mm_Id → Int → Int} {dh : Int → Int} {nx ns : Int} {Q : mm_V → mm_H → Prop} (hx : 5275 ≤ nx) :
    mm_Wp 30 (mm_blk 30 3) [vx0, vx1, vx2, vx3, vx4] [] (mm_z hi dh nx ns) Q =
    Q (zI (-3)) (mm_z hi dh nx ns) :=
  mm_kb bq_30_3 ((wp_1).trans (wp_90))
theorem r_30_2_7 (vx1 : mm_V) (x2 : Int) {tx3 : Int} {tx4 : Int} (y0 : Int) {hi : mm_Id → Int → Int} {dh : Int → Int} {nx ns : Int} {Q : mm_V → mm_H → Prop} (htx3 : mm_isD tx3) (htx4 : mm_isS tx4) (hx : 5275 ≤ nx) :
    mm_Wp 30 (bk_30_2.drop 7) [zR (1, 0, 0), vx1, zI x2, zR (31, tx3, 0), zR (33, tx4, 0)] [zI y0] (mm_z hi dh nx ns) Q =
    (if x2 < y0 then mm_Wp 30 (mm_blk 30 3) [zR (1, 0, 0), vx1, zI x2, zR (31, tx3, 0), zR (33, tx4, 0)] [] (mm_z hi dh nx ns) Q else (if (hi (1, 0, 0) 12) = 0 then mm_Cl 161 [zR (22, (5 + tx4), 0)] (mm_z hi dh nx ns) (fun r h3 => mm_Wp 30 (bk_30_5.drop 3) [zR (1, 0, 0), vx1, zI x2, zR (31, tx3, 0), zR (33, tx4, 0)] (mm_push r []) h3 Q) else Q (zI (-5)) (mm_z hi dh nx ns))) :=
  (wp_3_2).trans ((wp_51).trans (mm_ic ((wp_0).trans (rfl)) (mm_kb bq_30_4 ((wp_5_0).trans ((wp_60 (by decide) (mm_o1 hx)).trans ((wp_40).trans (mm_ic (mm_kb bq_30_5 ((wp_5_4).trans ((wp_62 (by decide) (mm_o33 htx4 hx) (mm_r33_0 htx4)).trans ((wp_v1 mm_n_161 (mm_leq mm_m_161 (mm_lb rfl)) (mm_lb rfl) (mm_o22 (mm_ts htx4) hx)).trans rfl)))) ((wp_1).trans (wp_90)))))))))
theorem r_30_5_3 (vx1 : mm_V) (vx2 : mm_V) {tx3 : Int} {tx4 : Int} (y0 : Int) {hi : mm_Id → Int → Int} {dh : Int → Int} {nx ns : Int} {Q : mm_V → mm_H → Prop} (htx3 : mm_isD tx3) (htx4 : mm_isS tx4) (hx : 5275 ≤ nx) :
    mm_Wp 30 (bk_30_5.drop 3) [zR (1, 0, 0), vx1, vx2, zR (31, tx3, 0), zR (33, tx4, 0)] [zI y0] (mm_z hi dh nx ns) Q =
    (if (hi (31, tx3, 0) 5) < y0 then Q (zI (-4)) (mm_z hi dh nx ns) else mm_Cl 165 [zR (22, tx3, 0), zR (22, (5 + tx4), 0)] (mm_z hi dh nx ns) (fun r h3 => mm_Wp 30 (bk_30_6.drop 5) [zR (1, 0, 0), vx1, vx2, zR (31, tx3, 0), zR (33, tx4, 0)] (mm_push r []) h3 Q)) :=
  (wp_5_3).trans ((wp_60 (by decide) (mm_o31 htx3 hx)).trans ((wp_51).trans (mm_ic ((wp_1).trans (wp_90)) (mm_kb bq_30_6 ((wp_5_3).trans ((wp_62 (by decide) (mm_o31 htx3 hx) (mm_r31_0 htx3)).trans ((wp_5_4).trans ((wp_62 (by decide) (mm_o33 htx4 hx) (mm_r33_0 htx4)).trans ((wp_v2 mm_n_165 (mm_leq mm_m_165 (mm_lb rfl)) (mm_lb rfl) (mm_o22 (mm_td htx3) hx)).trans rfl)))))))))
theorem r_30_6_5 (vx1 : mm_V) (vx2 : mm_V) {tx3 : Int} (vx4 : mm_V) {hi : mm_Id → Int → Int} {dh : Int → Int} {nx ns : Int} {Q : mm_V → mm_H → Prop} (htx3 : mm_isD tx3) (hx : 5275 ≤ nx) :
    mm_Wp 30 (bk_30_6.drop 5) [zR (1, 0, 0), vx1, vx2, zR (31, tx3, 0), vx4] [] (mm_z hi dh nx ns) Q =
    mm_Cl 65 [zR (1, 0, 0), zR (31, tx3, 0)] (mm_z hi dh nx ns) (fun r h3 => mm_Wp 30 (bk_30_6.drop 8) [zR (1, 0, 0), vx1, vx2, zR (31, tx3, 0), vx4] (mm_push r []) h3 Q) :=
  (wp_5_0).trans ((wp_5_3).trans ((wp_v2 mm_n_65 (mm_leq mm_m_65 (mm_lb rfl)) (mm_lb rfl) (mm_o1 hx)).trans rfl))
theorem r_30_6_8 (vx1 : mm_V) (vx2 : mm_V) (vx3 : mm_V) (vx4 : mm_V) {hi : mm_Id → Int → Int} {dh : Int → Int} {nx ns : Int} {Q : mm_V → mm_H → Prop} (hx : 5275 ≤ nx) :
    mm_Wp 30 (bk_30_6.drop 8) [zR (1, 0, 0), vx1, vx2, vx3, vx4] [] (mm_z hi dh nx ns) Q =
    mm_Cl 64 [zR (1, 0, 0)] (mm_z hi dh nx ns) (fun r h3 => mm_Wp 30 (bk_30_6.drop 10) [zR (1, 0, 0), vx1, vx2, vx3, vx4] (mm_push r []) h3 Q) :=
  (wp_5_0).trans ((wp_v1 mm_n_64 (mm_leq mm_m_64 (mm_lb rfl)) (mm_lb rfl) (mm_o1 hx)).trans rfl)
theorem r_30_6_10 (vx0 : mm_V) (vx1 : mm_V) (vx2 : mm_V) (vx3 : mm_V) (vx4 : mm_V) (y0 : Int) {hi : mm_Id → Int → Int} {dh : Int → Int} {nx ns : Int} {Q : mm_V → mm_H → Prop} (hx : 5275 ≤ nx) :
    mm_Wp 30 (bk_30_6.drop 10) [vx0, vx1, vx2, vx3, vx4] [zI y0] (mm_z hi dh nx ns) Q =
    Q (zI 1) (mm_z hi dh nx ns) :=
  (wp_36i).trans ((wp_1).trans (wp_90))
/-- PoolHouse.destroy(I)I -/
theorem bq_31_0 : mm_blk 31 0 = bk_31_0 := by decide +kernel
theorem bq_31_1 : mm_blk 31 1 = bk_31_1 := by decide +kernel
theorem bq_31_2 : mm_blk 31 2 = bk_31_2 := by decide +kernel
theorem bq_31_3 : mm_blk 31 3 = bk_31_3 := by decide +kernel
theorem bq_31_4 : mm_blk 31 4 = bk_31_4 := by decide +kernel
theorem bq_31_5 : mm_blk 31 5 = bk_31_5 := by decide +kernel
theorem bq_31_6 : mm_blk 31 6 = bk_31_6 := by decide +kernel
theorem bq_31_7 : mm_blk 31 7 = bk_31_7 := by decide +kernel
theorem bq_31_8 : mm_blk 31 8 = bk_31_8 := by decide +kernel
theorem bq_31_9 : mm_blk 31 9 = bk_31_9 := by decide +kernel
theorem bq_31_10 : mm_blk 31 10 = bk_31_10 := by decide +kernel
theorem r_31_e (x1 : Int) {hi : mm_Id → Int → Int} {dh : Int → Int} {nx ns : Int} {Q : mm_V → mm_H → Prop} (hx : 5275 ≤ nx) :
    mm_Cl 31 [zR (1, 0, 0), zI x1] (mm_z hi dh nx ns) Q =
    mm_Cl 53 [zR (1, 0, 0), zI x1] (mm_z hi dh nx ns) (fun r h3 => mm_Wp 31 (bk_31_0.drop 3) [zR (1, 0, 0), zI x1, zU, zU, zU] (mm_push r []) h3 Q) :=
  mm_ce (l2 := [zR (1, 0, 0), zI x1, zU, zU, zU]) rfl (mm_kb bq_31_0 ((wp_5_0).trans ((wp_3_1).trans ((wp_v2 mm_n_53 (mm_leq mm_m_53 (mm_lb rfl)) (mm_lb rfl) (mm_o1 hx)).trans rfl))))
theorem r_31_0_3 (x1 : Int) (vx2 : mm_V) (vx3 : mm_V) (vx4 : mm_V) {hi : mm_Id → Int → Int} {dh : Int → Int} {nx ns : Int} {Q : mm_V → mm_H → Prop} (hx : 5275 ≤ nx) :
    mm_Wp 31 (bk_31_0.drop 3) [zR (1, 0, 0), zI x1, vx2, vx3, vx4] [zR mm_nul] (mm_z hi dh nx ns) Q =
    (if x1 < 0 then mm_Cl 54 [zR (1, 0, 0), zI (mm_w (-x1))] (mm_z hi dh nx ns) (fun r h3 => mm_Wp 31 (bk_31_0.drop 10) [zR (1, 0, 0), zI x1, zR mm_nul, vx3, vx4] (mm_push r []) h3 Q) else mm_Wp 31 (mm_blk 31 2) [zR (1, 0, 0), zI x1, zR mm_nul, vx3, vx4] [zR mm_nul] (mm_z hi dh nx ns) Q) :=
  (wp_8 (l2 := [zR (1, 0, 0), zI x1, zR mm_nul, vx3, vx4]) rfl).trans ((wp_3_1).trans ((wp_43).trans (mm_ic ((wp_5_0).trans ((wp_3_1).trans ((wp_15).trans ((wp_v2 mm_n_54 (mm_leq mm_m_54 (mm_lb rfl)) (mm_lb rfl) (mm_o1 hx)).trans rfl)))) (mm_kb bq_31_1 ((wp_38).trans ((wp_0).trans (rfl)))))))
theorem r_31_0_3a (x1 : Int) (vx2 : mm_V) (vx3 : mm_V) (vx4 : mm_V) {ty0 : Int} {hi : mm_Id → Int → Int} {dh : Int → Int} {nx ns : Int} {Q : mm_V → mm_H → Prop} (hty0 : mm_isD ty0) (hx : 5275 ≤ nx) :
    mm_Wp 31 (bk_31_0.drop 3) [zR (1, 0, 0), zI x1, vx2, vx3, vx4] [zR (31, ty0, 0)] (mm_z hi dh nx ns) Q =
    (if x1 < 0 then mm_Cl 54 [zR (1, 0, 0), zI (mm_w (-x1))] (mm_z hi dh nx ns) (fun r h3 => mm_Wp 31 (bk_31_0.drop 10) [zR (1, 0, 0), zI x1, zR (31, ty0, 0), vx3, vx4] (mm_push r []) h3 Q) else mm_Wp 31 (mm_blk 31 2) [zR (1, 0, 0), zI x1, zR (31, ty0, 0), vx3, vx4] [zR mm_nul] (mm_z hi dh nx ns) Q) :=
  (wp_8 (l2 := [zR (1, 0, 0), zI x1, zR (31, ty0, 0), vx3, vx4]) rfl).trans ((wp_3_1).trans ((wp_43).trans (mm_ic ((wp_5_0).trans ((wp_3_1).trans ((wp_15).trans ((wp_v2 mm_n_54 (mm_leq mm_m_54 (mm_lb rfl)) (mm_lb rfl) (mm_o1 hx)).trans rfl)))) (mm_kb bq_31_1 ((wp_38).trans ((wp_0).trans (rfl)))))))
theorem r_31_2 (x1 : Int) (vx3 : mm_V) (vx4 : mm_V) {hi : mm_Id → Int → Int} {dh : Int → Int} {nx ns : Int} {Q : mm_V → mm_H → Prop} (hx : 5275 ≤ nx) :
    mm_Wp 31 (mm_blk 31 2) [zR (1, 0, 0), zI x1, zR mm_nul, vx3, vx4] [zR mm_nul] (mm_z hi dh nx ns) Q =
    Q (zI (-1)) (mm_z hi dh nx ns) :=
  mm_kb bq_31_2 ((wp_8 (l2 := [zR (1, 0, 0), zI x1, zR mm_nul, zR mm_nul, vx4]) rfl).trans ((wp_5_2).trans ((wp_55n).trans ((wp_5_3).trans ((wp_55n).trans ((wp_1).trans (wp_90)))))))
theorem r_31_0_10 (x1 : Int) (vx3 : mm_V) (vx4 : mm_V) {hi : mm_Id → Int → Int} {dh : Int → Int} {nx ns : Int} {Q : mm_V → mm_H → Prop} (hx : 5275 ≤ nx) :
    mm_Wp 31 (bk_31_0.drop 10) [zR (1, 0, 0), zI x1, zR mm_nul, vx3, vx4] [zR mm_nul] (mm_z hi dh nx ns) Q =
    mm_Wp 31 (mm_blk 31 2) [zR (1, 0, 0), zI x1, zR mm_nul, vx3, vx4] [zR mm_nul] (mm_z hi dh nx ns) Q :=
  (wp_56).trans (rfl)
theorem r_31_0_10a (x1 : Int) (vx3 : mm_V) (vx4 : mm_V) {ty0 : Int} {hi : mm_Id → Int → Int} {dh : Int → Int} {nx ns : Int} {Q : mm_V → mm_H → Prop} (hty0 : mm_isS ty0) (hx : 5275 ≤ nx) :
    mm_Wp 31 (bk_31_0.drop 10) [zR (1, 0, 0), zI x1, zR mm_nul, vx3, vx4] [zR (33, ty0, 0)] (mm_z hi dh nx ns) Q =
    mm_Wp 31 (mm_blk 31 2) [zR (1, 0, 0), zI x1, zR mm_nul, vx3, vx4] [zR (33, ty0, 0)] (mm_z hi dh nx ns) Q :=
  (wp_56).trans (rfl)
theorem r_31_2a (x1 : Int) {tx2 : Int} (vx3 : mm_V) (vx4 : mm_V) {hi : mm_Id → Int → Int} {dh : Int → Int} {nx ns : Int} {Q : mm_V → mm_H → Prop} (htx2 : mm_isD tx2) (hx : 5275 ≤ nx) :
    mm_Wp 31 (mm_blk 31 2) [zR (1, 0, 0), zI x1, zR (31, tx2, 0), vx3, vx4] [zR mm_nul] (mm_z hi dh nx ns) Q =
    mm_Wp 31 (mm_blk 31 3) [zR (1, 0, 0), zI x1, zR (31, tx2, 0), zR mm_nul, vx4] [] (mm_z hi dh nx ns) Q :=
  mm_kb bq_31_2 ((wp_8 (l2 := [zR (1, 0, 0), zI x1, zR (31, tx2, 0), zR mm_nul, vx4]) rfl).trans ((wp_5_2).trans ((wp_55 (by decide)).trans (rfl))))
theorem r_31_2b (x1 : Int) (vx3 : mm_V) (vx4 : mm_V) {ty0 : Int} {hi : mm_Id → Int → Int} {dh : Int → Int} {nx ns : Int} {Q : mm_V → mm_H → Prop} (hty0 : mm_isS ty0) (hx : 5275 ≤ nx) :
    mm_Wp 31 (mm_blk 31 2) [zR (1, 0, 0), zI x1, zR mm_nul, vx3, vx4] [zR (33, ty0, 0)] (mm_z hi dh nx ns) Q =
    mm_Wp 31 (mm_blk 31 3) [zR (1, 0, 0), zI x1, zR mm_nul, zR (33, ty0, 0), vx4] [] (mm_z hi dh nx ns) Q :=
  mm_kb bq_31_2 ((wp_8 (l2 := [zR (1, 0, 0), zI x1, zR mm_nul, zR (33, ty0, 0), vx4]) rfl).trans ((wp_5_2).trans ((wp_55n).trans ((wp_5_3).trans ((wp_55 (by decide)).trans (rfl))))))
theorem r_31_3 (x1 : Int) {tx2 : Int} (vx4 : mm_V) {hi : mm_Id → Int → Int} {dh : Int → Int} {nx ns : Int} {Q : mm_V → mm_H → Prop} (htx2 : mm_isD tx2) (hx : 5275 ≤ nx) :
    mm_Wp 31 (mm_blk 31 3) [zR (1, 0, 0), zI x1, zR (31, tx2, 0), zR mm_nul, vx4] [] (mm_z hi dh nx ns) Q =
    mm_Cl 73 [zR (1, 0, 0), zI x1] (mm_z hi dh nx ns) (fun r h3 => mm_Wp 31 (bk_31_3.drop 5) [zR (1, 0, 0), zI x1, zR (31, tx2, 0), zR mm_nul, vx4] (mm_push r []) h3 Q) :=
  mm_kb bq_31_3 ((wp_5_2).trans ((wp_54 (by decide)).trans ((wp_5_0).trans ((wp_3_1).trans ((wp_v2 mm_n_73 (mm_leq mm_m_73 (mm_lb rfl)) (mm_lb rfl) (mm_o1 hx)).trans rfl)))))
theorem r_31_3a (x1 : Int) {tx3 : Int} (vx4 : mm_V) {hi : mm_Id → Int → Int} {dh : Int → Int} {nx ns : Int} {Q : mm_V → mm_H → Prop} (htx3 : mm_isS tx3) (hx : 5275 ≤ nx) :
    mm_Wp 31 (mm_blk 31 3) [zR (1, 0, 0), zI x1, zR mm_nul, zR (33, tx3, 0), vx4] [] (mm_z hi dh nx ns) Q =
    mm_Wp 31 (mm_blk 31 5) [zR (1, 0, 0), zI x1, zR mm_nul, zR (33, tx3, 0), vx4] [] (mm_z hi dh nx ns) Q :=
  mm_kb bq_31_3 ((wp_5_2).trans ((wp_54n).trans (rfl)))
theorem r_31_3_5 (vx1 : mm_V) {tx2 : Int} (vx4 : mm_V) (y0 : Int) {hi : mm_Id → Int → Int} {dh : Int → Int} {nx ns : Int} {Q : mm_V → mm_H → Prop} (htx2 : mm_isD tx2) (hx : 5275 ≤ nx) :
    mm_Wp 31 (bk_31_3.drop 5) [zR (1, 0, 0), vx1, zR (31, tx2, 0), zR mm_nul, vx4] [zI y0] (mm_z hi dh nx ns) Q =
    (if 0 < y0 then mm_Wp 31 (mm_blk 31 4) [zR (1, 0, 0), vx1, zR (31, tx2, 0), zR mm_nul, vx4] [] (mm_z hi dh nx ns) Q else mm_Cl 72 [zR (1, 0, 0)] (mm_z hi dh nx ns) (fun r h3 => mm_Wp 31 (bk_31_3.drop 8) [zR (1, 0, 0), vx1, zR (31, tx2, 0), zR mm_nul, vx4] (mm_push r []) h3 Q)) :=
  (wp_44).trans (mm_ic (rfl) ((wp_5_0).trans ((wp_v1 mm_n_72 (mm_leq mm_m_72 (mm_lb rfl)) (mm_lb rfl) (mm_o1 hx)).trans rfl)))
theorem r_31_5 (vx1 : mm_V) {tx3 : Int} (vx4 : mm_V) {hi : mm_Id → Int → Int} {dh : Int → Int} {nx ns : Int} {Q : mm_V → mm_H → Prop} (htx3 : mm_isS tx3) (hx : 5275 ≤ nx) :
    mm_Wp 31 (mm_blk 31 5) [zR (1, 0, 0), vx1, zR mm_nul, zR (33, tx3, 0), vx4] [] (mm_z hi dh nx ns) Q =
    (if (hi (33, tx3, 0) 3) = 0 then mm_Cl 75 [zR (1, 0, 0), zI (hi (33, tx3, 0) 1)] (mm_z hi dh nx ns) (fun r h3 => mm_Wp 31 (bk_31_5.drop 9) [zR (1, 0, 0), vx1, zR mm_nul, zR (33, tx3, 0), vx4] (mm_push r []) h3 Q) else mm_Wp 31 (mm_blk 31 6) [zR (1, 0, 0), vx1, zR mm_nul, zR (33, tx3, 0), vx4] [] (mm_z hi dh nx ns) Q) :=
  mm_kb bq_31_5 ((wp_5_3).trans ((wp_54 (by decide)).trans ((wp_5_3).trans ((wp_60 (by decide) (mm_o33 htx3 hx)).trans ((wp_41).trans (mm_ic ((wp_5_0).trans ((wp_5_3).trans ((wp_60 (by decide) (mm_o33 htx3 hx)).trans ((wp_v2 mm_n_75 (mm_leq mm_m_75 (mm_lb rfl)) (mm_lb rfl) (mm_o1 hx)).trans rfl)))) (rfl)))))))
theorem r_31_4 (vx0 : mm_V) (vx1 : mm_V) (vx2 : mm_V) (vx3 : mm_V) (vx4 : mm_V) {hi : mm_Id → Int → Int} {dh : Int → Int} {nx ns : Int} {Q : mm_V → mm_H → Prop} (hx : 5275 ≤ nx) :
    mm_Wp 31 (mm_blk 31 4) [vx0, vx1, vx2, vx3, vx4] [] (mm_z hi dh nx ns) Q =
    Q (zI (-3)) (mm_z hi dh nx ns) :=
  mm_kb bq_31_4 ((wp_1).trans (wp_90))
theorem r_31_3_8 (vx1 : mm_V) {tx2 : Int} (vx4 : mm_V) (y0 : Int) {hi : mm_Id → Int → Int} {dh : Int → Int} {nx ns : Int} {Q : mm_V → mm_H → Prop} (htx2 : mm_isD tx2) (hx : 5275 ≤ nx) :
    mm_Wp 31 (bk_31_3.drop 8) [zR (1, 0, 0), vx1, zR (31, tx2, 0), zR mm_nul, vx4] [zI y0] (mm_z hi dh nx ns) Q =
    (if y0 = 1 then mm_Wp 31 (mm_blk 31 4) [zR (1, 0, 0), vx1, zR (31, tx2, 0), zR mm_nul, vx4] [] (mm_z hi dh nx ns) Q else mm_Wp 31 (mm_blk 31 5) [zR (1, 0, 0), vx1, zR (31, tx2, 0), zR mm_nul, vx4] [] (mm_z hi dh nx ns) Q) :=
  (wp_1).trans ((wp_47).trans (mm_ic ((wp_0).trans (rfl)) (rfl)))
theorem r_31_6 (vx0 : mm_V) (vx1 : mm_V) (vx2 : mm_V) (vx3 : mm_V) (vx4 : mm_V) {hi : mm_Id → Int → Int} {dh : Int → Int} {nx ns : Int} {Q : mm_V → mm_H → Prop} (hx : 5275 ≤ nx) :
    mm_Wp 31 (mm_blk 31 6) [vx0, vx1, vx2, vx3, vx4] [] (mm_z hi dh nx ns) Q =
    Q (zI (-3)) (mm_z hi dh nx ns) :=
  mm_kb bq_31_6 ((wp_1).trans (wp_90))
theorem r_31_5_9 (vx1 : mm_V) {tx3 : Int} (vx4 : mm_V) (y0 : Int) {hi : mm_Id → Int → Int} {dh : Int → Int} {nx ns : Int} {Q : mm_V → mm_H → Prop} (htx3 : mm_isS tx3) (hx : 5275 ≤ nx) :
    mm_Wp 31 (bk_31_5.drop 9) [zR (1, 0, 0), vx1, zR mm_nul, zR (33, tx3, 0), vx4] [zI y0] (mm_z hi dh nx ns) Q =
    (if y0 = 0 then mm_Wp 31 (mm_blk 31 7) [zR (1, 0, 0), vx1, zR mm_nul, zR (33, tx3, 0), vx4] [] (mm_z hi dh nx ns) Q else mm_Wp 31 (mm_blk 31 6) [zR (1, 0, 0), vx1, zR mm_nul, zR (33, tx3, 0), vx4] [] (mm_z hi dh nx ns) Q) :=
  (wp_40).trans (mm_ic (rfl) ((wp_0).trans (rfl)))
theorem r_31_5a (vx1 : mm_V) {tx2 : Int} (vx4 : mm_V) {hi : mm_Id → Int → Int} {dh : Int → Int} {nx ns : Int} {Q : mm_V → mm_H → Prop} (htx2 : mm_isD tx2) (hx : 5275 ≤ nx) :
    mm_Wp 31 (mm_blk 31 5) [zR (1, 0, 0), vx1, zR (31, tx2, 0), zR mm_nul, vx4] [] (mm_z hi dh nx ns) Q =
    mm_Wp 31 (mm_blk 31 7) [zR (1, 0, 0), vx1, zR (31, tx2, 0), zR mm_nul, vx4] [] (mm_z hi dh nx ns) Q :=
  mm_kb bq_31_5 ((wp_5_3).trans ((wp_54n).trans (rfl)))
theorem r_31_7 (vx1 : mm_V) {tx3 : Int} (vx4 : mm_V) {hi : mm_Id → Int → Int} {dh : Int → Int} {nx ns : Int} {Q : mm_V → mm_H → Prop} (htx3 : mm_isS tx3) (hx : 5275 ≤ nx) :
    mm_Wp 31 (mm_blk 31 7) [zR (1, 0, 0), vx1, zR mm_nul, zR (33, tx3, 0), vx4] [] (mm_z hi dh nx ns) Q =
    (if (hi (1, 0, 0) 12) = 0 then mm_Wp 31 (mm_blk 31 9) [zR (1, 0, 0), vx1, zR mm_nul, zR (33, tx3, 0), zI (hi (15, 0, 0) 7)] [] (mm_z hi dh nx ns) Q else Q (zI (-5)) (mm_z hi dh nx ns)) :=
  mm_kb bq_31_7 ((wp_5_0).trans ((wp_60 (by decide) (mm_o1 hx)).trans ((wp_40).trans (mm_ic (mm_kb bq_31_8 ((wp_5_0).trans ((wp_62 (by decide) (mm_o1 hx) mm_r1_0).trans ((wp_60 (by decide) (mm_o15 hx)).trans ((wp_6 (l2 := [zR (1, 0, 0), vx1, zR mm_nul, zR (33, tx3, 0), zI (hi (15, 0, 0) 7)]) rfl).trans ((wp_5_2).trans ((wp_54n).trans (rfl)))))))) ((wp_1).trans (wp_90))))))
theorem r_31_7a (vx1 : mm_V) {tx2 : Int} (vx4 : mm_V) {hi : mm_Id → Int → Int} {dh : Int → Int} {nx ns : Int} {Q : mm_V → mm_H → Prop} (htx2 : mm_isD tx2) (hx : 5275 ≤ nx) :
    mm_Wp 31 (mm_blk 31 7) [zR (1, 0, 0), vx1, zR (31, tx2, 0), zR mm_nul, vx4] [] (mm_z hi dh nx ns) Q =
    (if (hi (1, 0, 0) 12) = 0 then mm_Cl 66 [zR (1, 0, 0), zR (31, tx2, 0)] (mm_z hi dh nx ns) (fun r h3 => mm_Wp 31 (bk_31_8.drop 9) [zR (1, 0, 0), vx1, zR (31, tx2, 0), zR mm_nul, zI (hi (15, 0, 0) 7)] (mm_push r []) h3 Q) else Q (zI (-5)) (mm_z hi dh nx ns)) :=
  mm_kb bq_31_7 ((wp_5_0).trans ((wp_60 (by decide) (mm_o1 hx)).trans ((wp_40).trans (mm_ic (mm_kb bq_31_8 ((wp_5_0).trans ((wp_62 (by decide) (mm_o1 hx) mm_r1_0).trans ((wp_60 (by decide) (mm_o15 hx)).trans ((wp_6 (l2 := [zR (1, 0, 0), vx1, zR (31, tx2, 0), zR mm_nul, zI (hi (15, 0, 0) 7)]) rfl).trans ((wp_5_2).trans ((wp_54 (by decide)).trans ((wp_5_0).trans ((wp_5_2).trans ((wp_v2 mm_n_66 (mm_leq mm_m_66 (mm_lb rfl)) (mm_lb rfl) (mm_o1 hx)).trans rfl)))))))))) ((wp_1).trans (wp_90))))))
theorem r_31_9 (vx1 : mm_V) (vx2 : mm_V) {tx3 : Int} (x4 : Int) {hi : mm_Id → Int → Int} {dh : Int → Int} {nx ns : Int} {Q : mm_V → mm_H → Prop} (htx3 : mm_isS tx3) (hx : 5275 ≤ nx) :
    mm_Wp 31 (mm_blk 31 9) [zR (1, 0, 0), vx1, vx2, zR (33, tx3, 0), zI x4] [] (mm_z hi dh nx ns) Q =
    mm_Cl 155 [zR (33, tx3, 0)] (mm_z hi dh nx ns) (fun r h3 => mm_Wp 31 (bk_31_9.drop 4) [zR (1, 0, 0), vx1, vx2, zR (33, tx3, 0), zI x4] (mm_push r []) h3 Q) :=
  mm_kb bq_31_9 ((wp_5_3).trans ((wp_54 (by decide)).trans ((wp_5_3).trans ((wp_v1 mm_n_155 (mm_leq mm_m_155 (mm_lb rfl)) (mm_lb rfl) (mm_o33 htx3 hx)).trans rfl))))
theorem r_31_8_9 (vx1 : mm_V) {tx2 : Int} (x4 : Int) {hi : mm_Id → Int → Int} {dh : Int → Int} {nx ns : Int} {Q : mm_V → mm_H → Prop} (htx2 : mm_isD tx2) (hx : 5275 ≤ nx) :
    mm_Wp 31 (bk_31_8.drop 9) [zR (1, 0, 0), vx1, zR (31, tx2, 0), zR mm_nul, zI x4] [] (mm_z hi dh nx ns) Q =
    mm_Cl 81 [zR (31, tx2, 0)] (mm_z hi dh nx ns) (fun r h3 => mm_Wp 31 (bk_31_8.drop 11) [zR (1, 0, 0), vx1, zR (31, tx2, 0), zR mm_nul, zI x4] (mm_push r []) h3 Q) :=
  (wp_5_2).trans ((wp_v1 mm_n_81 (mm_leq mm_m_81 (mm_lb rfl)) (mm_lb rfl) (mm_o31 htx2 hx)).trans rfl)
theorem r_31_9_4 (vx1 : mm_V) (vx2 : mm_V) (vx3 : mm_V) (x4 : Int) {hi : mm_Id → Int → Int} {dh : Int → Int} {nx ns : Int} {Q : mm_V → mm_H → Prop} (hx : 5275 ≤ nx) :
    mm_Wp 31 (bk_31_9.drop 4) [zR (1, 0, 0), vx1, vx2, vx3, zI x4] [] (mm_z hi dh nx ns) Q =
    mm_Wp 31 (mm_blk 31 10) [zR (1, 0, 0), vx1, vx2, vx3, zI x4] [] (mm_z hi dh nx ns) Q :=
  (wp_0).trans (rfl)
theorem r_31_8_11 (vx1 : mm_V) (vx2 : mm_V) (x4 : Int) {hi : mm_Id → Int → Int} {dh : Int → Int} {nx ns : Int} {Q : mm_V → mm_H → Prop} (hx : 5275 ≤ nx) :
    mm_Wp 31 (bk_31_8.drop 11) [zR (1, 0, 0), vx1, vx2, zR mm_nul, zI x4] [] (mm_z hi dh nx ns) Q =
    mm_Wp 31 (mm_blk 31 9) [zR (1, 0, 0), vx1, vx2, zR mm_nul, zI x4] [] (mm_z hi dh nx ns) Q :=
  (wp_0).trans (rfl)
theorem r_31_10 (vx1 : mm_V) (vx2 : mm_V) (vx3 : mm_V) (x4 : Int) {hi : mm_Id → Int → Int} {dh : Int → Int} {nx ns : Int} {Q : mm_V → mm_H → Prop} (hx : 5275 ≤ nx) :
    mm_Wp 31 (mm_blk 31 10) [zR (1, 0, 0), vx1, vx2, vx3, zI x4] [] (mm_z hi dh nx ns) Q =
    mm_Cl 64 [zR (1, 0, 0)] (mm_z hi dh nx ns) (fun r h3 => mm_Wp 31 (bk_31_10.drop 2) [zR (1, 0, 0), vx1, vx2, vx3, zI x4] (mm_push r []) h3 Q) :=
  mm_kb bq_31_10 ((wp_5_0).trans ((wp_v1 mm_n_64 (mm_leq mm_m_64 (mm_lb rfl)) (mm_lb rfl) (mm_o1 hx)).trans rfl))
theorem r_31_9a (vx1 : mm_V) (vx2 : mm_V) (x4 : Int) {hi : mm_Id → Int → Int} {dh : Int → Int} {nx ns : Int} {Q : mm_V → mm_H → Prop} (hx : 5275 ≤ nx) :
    mm_Wp 31 (mm_blk 31 9) [zR (1, 0, 0), vx1, vx2, zR mm_nul, zI x4] [] (mm_z hi dh nx ns) Q =
    mm_Wp 31 (mm_blk 31 10) [zR (1, 0, 0), vx1, vx2, zR mm_nul, zI x4] [] (mm_z hi dh nx ns) Q :=
  mm_kb bq_31_9 ((wp_5_3).trans ((wp_54n).trans (rfl)))
theorem r_31_10_2 (vx1 : mm_V) (vx2 : mm_V) (vx3 : mm_V) (x4 : Int) (y0 : Int) {hi : mm_Id → Int → Int} {dh : Int → Int} {nx ns : Int} {Q : mm_V → mm_H → Prop} (hx : 5275 ≤ nx) :
    mm_Wp 31 (bk_31_10.drop 2) [zR (1, 0, 0), vx1, vx2, vx3, zI x4] [zI y0] (mm_z hi dh nx ns) Q =
    Q (zI (mm_w (x4 - (hi (15, 0, 0) 7)))) (mm_z hi dh nx ns) :=
  (wp_36i).trans ((wp_3_4).trans ((wp_5_0).trans ((wp_62 (by decide) (mm_o1 hx) mm_r1_0).trans ((wp_60 (by decide) (mm_o15 hx)).trans ((wp_11).trans (wp_90))))))
/-- PoolHouse.hold(IZ)I -/
theorem bq_32_0 : mm_blk 32 0 = bk_32_0 := by decide +kernel
theorem bq_32_1 : mm_blk 32 1 = bk_32_1 := by decide +kernel
theorem bq_32_2 : mm_blk 32 2 = bk_32_2 := by decide +kernel
theorem bq_32_3 : mm_blk 32 3 = bk_32_3 := by decide +kernel
theorem bq_32_4 : mm_blk 32 4 = bk_32_4 := by decide +kernel
theorem r_32_e (x1 : Int) (x2 : Int) {hi : mm_Id → Int → Int} {dh : Int → Int} {nx ns : Int} {Q : mm_V → mm_H → Prop} (hx : 5275 ≤ nx) :
    mm_Cl 32 [zR (1, 0, 0), zI x1, zI x2] (mm_z hi dh nx ns) Q =
    mm_Cl 54 [zR (1, 0, 0), zI x1] (mm_z hi dh nx ns) (fun r h3 => mm_Wp 32 (bk_32_0.drop 3) [zR (1, 0, 0), zI x1, zI x2, zU, zU] (mm_push r []) h3 Q) :=
  mm_ce (l2 := [zR (1, 0, 0), zI x1, zI x2, zU, zU]) rfl (mm_kb bq_32_0 ((wp_5_0).trans ((wp_3_1).trans ((wp_v2 mm_n_54 (mm_leq mm_m_54 (mm_lb rfl)) (mm_lb rfl) (mm_o1 hx)).trans rfl))))
theorem r_32_0_3 (vx1 : mm_V) (x2 : Int) (vx3 : mm_V) (vx4 : mm_V) {hi : mm_Id → Int → Int} {dh : Int → Int} {nx ns : Int} {Q : mm_V → mm_H → Prop} (hx : 5275 ≤ nx) :
    mm_Wp 32 (bk_32_0.drop 3) [zR (1, 0, 0), vx1, zI x2, vx3, vx4] [zR mm_nul] (mm_z hi dh nx ns) Q =
    Q (zI (-1)) (mm_z hi dh nx ns) :=
  (wp_8 (l2 := [zR (1, 0, 0), vx1, zI x2, zR mm_nul, vx4]) rfl).trans ((wp_5_3).trans ((wp_55n).trans ((wp_1).trans (wp_90))))
theorem r_32_0_3a (vx1 : mm_V) (x2 : Int) (vx3 : mm_V) (vx4 : mm_V) {ty0 : Int} {hi : mm_Id → Int → Int} {dh : Int → Int} {nx ns : Int} {Q : mm_V → mm_H → Prop} (hty0 : mm_isS ty0) (hx : 5275 ≤ nx) :
    mm_Wp 32 (bk_32_0.drop 3) [zR (1, 0, 0), vx1, zI x2, vx3, vx4] [zR (33, ty0, 0)] (mm_z hi dh nx ns) Q =
    (if (hi (1, 0, 0) 12) = 0 then (if (hi (33, ty0, 0) 3) = 0 then mm_Wp 32 (mm_blk 32 4) [zR (1, 0, 0), vx1, zI x2, zR (33, ty0, 0), vx4] [zI 0] (mm_z hi dh nx ns) Q else mm_Wp 32 (mm_blk 32 4) [zR (1, 0, 0), vx1, zI x2, zR (33, ty0, 0), vx4] [zI 1] (mm_z hi dh nx ns) Q) else Q (zI (-5)) (mm_z hi dh nx ns)) :=
  (wp_8 (l2 := [zR (1, 0, 0), vx1, zI x2, zR (33, ty0, 0), vx4]) rfl).trans ((wp_5_3).trans ((wp_55 (by decide)).trans (mm_kb bq_32_1 ((wp_5_0).trans ((wp_60 (by decide) (mm_o1 hx)).trans ((wp_40).trans (mm_ic (mm_kb bq_32_2 ((wp_5_3).trans ((wp_60 (by decide) (mm_o33 hty0 hx)).trans ((wp_40).trans (mm_ic (mm_kb bq_32_3 ((wp_1).trans ((wp_0).trans (rfl)))) ((wp_1).trans ((wp_56).trans (rfl)))))))) ((wp_1).trans (wp_90)))))))))
theorem r_32_4 (vx1 : mm_V) (x2 : Int) {tx3 : Int} (vx4 : mm_V) (y0 : Int) {hi : mm_Id → Int → Int} {dh : Int → Int} {nx ns : Int} {Q : mm_V → mm_H → Prop} (htx3 : mm_isS tx3) (hx : 5275 ≤ nx) :
    mm_Wp 32 (mm_blk 32 4) [zR (1, 0, 0), vx1, zI x2, zR (33, tx3, 0), vx4] [zI y0] (mm_z hi dh nx ns) Q =
    ((x2 = 0 ∨ x2 = 1) ∧ mm_Cl 64 [zR (1, 0, 0)] (mm_z (mm_up hi (33, tx3, 0) 3 x2) dh nx ns) (fun r h3 => mm_Wp 32 (bk_32_4.drop 6) [zR (1, 0, 0), vx1, zI x2, zR (33, tx3, 0), zI y0] (mm_push r []) h3 Q)) :=
  mm_kb bq_32_4 ((wp_6 (l2 := [zR (1, 0, 0), vx1, zI x2, zR (33, tx3, 0), zI y0]) rfl).trans ((wp_5_3).trans ((wp_3_2).trans ((wp_64 (mm_o33 htx3 hx)).trans (mm_ae ((wp_5_0).trans ((wp_v1 mm_n_64 (mm_leq mm_m_64 (mm_lb rfl)) (mm_lb rfl) (mm_o1 hx)).trans rfl)))))))
theorem r_32_4_6 (vx0 : mm_V) (vx1 : mm_V) (vx2 : mm_V) (vx3 : mm_V) (x4 : Int) (y0 : Int) {hi : mm_Id → Int → Int} {dh : Int → Int} {nx ns : Int} {Q : mm_V → mm_H → Prop} (hx : 5275 ≤ nx) :
    mm_Wp 32 (bk_32_4.drop 6) [vx0, vx1, vx2, vx3, zI x4] [zI y0] (mm_z hi dh nx ns) Q =
    Q (zI x4) (mm_z hi dh nx ns) :=
  (wp_36i).trans ((wp_3_4).trans (wp_90))
/-- PoolHouse.quota(II)I -/
theorem bq_33_0 : mm_blk 33 0 = bk_33_0 := by decide +kernel
theorem bq_33_1 : mm_blk 33 1 = bk_33_1 := by decide +kernel
theorem bq_33_2 : mm_blk 33 2 = bk_33_2 := by decide +kernel
theorem bq_33_3 : mm_blk 33 3 = bk_33_3 := by decide +kernel
theorem bq_33_4 : mm_blk 33 4 = bk_33_4 := by decide +kernel
theorem bq_33_5 : mm_blk 33 5 = bk_33_5 := by decide +kernel
theorem r_33_e (x1 : Int) (x2 : Int) {hi : mm_Id → Int → Int} {dh : Int → Int} {nx ns : Int} {Q : mm_V → mm_H → Prop} (hx : 5275 ≤ nx) :
    mm_Cl 33 [zR (1, 0, 0), zI x1, zI x2] (mm_z hi dh nx ns) Q =
    mm_Cl 53 [zR (1, 0, 0), zI x1] (mm_z hi dh nx ns) (fun r h3 => mm_Wp 33 (bk_33_0.drop 3) [zR (1, 0, 0), zI x1, zI x2, zU, zU] (mm_push r []) h3 Q) :=
  mm_ce (l2 := [zR (1, 0, 0), zI x1, zI x2, zU, zU]) rfl (mm_kb bq_33_0 ((wp_5_0).trans ((wp_3_1).trans ((wp_v2 mm_n_53 (mm_leq mm_m_53 (mm_lb rfl)) (mm_lb rfl) (mm_o1 hx)).trans rfl))))
theorem r_33_0_3 (vx1 : mm_V) (x2 : Int) (vx3 : mm_V) (vx4 : mm_V) {hi : mm_Id → Int → Int} {dh : Int → Int} {nx ns : Int} {Q : mm_V → mm_H → Prop} (hx : 5275 ≤ nx) :
    mm_Wp 33 (bk_33_0.drop 3) [zR (1, 0, 0), vx1, zI x2, vx3, vx4] [zR mm_nul] (mm_z hi dh nx ns) Q =
    Q (zI (-1)) (mm_z hi dh nx ns) :=
  (wp_8 (l2 := [zR (1, 0, 0), vx1, zI x2, zR mm_nul, vx4]) rfl).trans ((wp_5_3).trans ((wp_55n).trans ((wp_1).trans (wp_90))))
theorem r_33_0_3a (vx1 : mm_V) (x2 : Int) (vx3 : mm_V) (vx4 : mm_V) {ty0 : Int} {hi : mm_Id → Int → Int} {dh : Int → Int} {nx ns : Int} {Q : mm_V → mm_H → Prop} (hty0 : mm_isD ty0) (hx : 5275 ≤ nx) :
    mm_Wp 33 (bk_33_0.drop 3) [zR (1, 0, 0), vx1, zI x2, vx3, vx4] [zR (31, ty0, 0)] (mm_z hi dh nx ns) Q =
    (if x2 < 0 then mm_Wp 33 (mm_blk 33 2) [zR (1, 0, 0), vx1, zI x2, zR (31, ty0, 0), vx4] [] (mm_z hi dh nx ns) Q else (if 400 < x2 then mm_Wp 33 (mm_blk 33 2) [zR (1, 0, 0), vx1, zI x2, zR (31, ty0, 0), vx4] [] (mm_z hi dh nx ns) Q else mm_Cl 160 [zR (22, ty0, 0)] (mm_z hi dh nx ns) (fun r h3 => mm_Wp 33 (bk_33_3.drop 3) [zR (1, 0, 0), vx1, zI x2, zR (31, ty0, 0), vx4] (mm_push r []) h3 Q))) :=
  (wp_8 (l2 := [zR (1, 0, 0), vx1, zI x2, zR (31, ty0, 0), vx4]) rfl).trans ((wp_5_3).trans ((wp_55 (by decide)).trans (mm_kb bq_33_1 ((wp_3_2).trans ((wp_42).trans (mm_ic (rfl) ((wp_3_2).trans ((wp_1).trans ((wp_51).trans (mm_ic ((wp_0).trans (rfl)) (mm_kb bq_33_3 ((wp_5_3).trans ((wp_62 (by decide) (mm_o31 hty0 hx) (mm_r31_0 hty0)).trans ((wp_v1 mm_n_160 (mm_leq mm_m_160 (mm_lb rfl)) (mm_lb rfl) (mm_o22 (mm_td hty0) hx)).trans rfl))))))))))))))
theorem r_33_2 (vx0 : mm_V) (vx1 : mm_V) (vx2 : mm_V) (vx3 : mm_V) (vx4 : mm_V) {hi : mm_Id → Int → Int} {dh : Int → Int} {nx ns : Int} {Q : mm_V → mm_H → Prop} (hx : 5275 ≤ nx) :
    mm_Wp 33 (mm_blk 33 2) [vx0, vx1, vx2, vx3, vx4] [] (mm_z hi dh nx ns) Q =
    Q (zI (-2)) (mm_z hi dh nx ns) :=
  mm_kb bq_33_2 ((wp_1).trans (wp_90))
theorem r_33_3_3 (vx1 : mm_V) (x2 : Int) {tx3 : Int} (vx4 : mm_V) (y0 : Int) {hi : mm_Id → Int → Int} {dh : Int → Int} {nx ns : Int} {Q : mm_V → mm_H → Prop} (htx3 : mm_isD tx3) (hx : 5275 ≤ nx) :
    mm_Wp 33 (bk_33_3.drop 3) [zR (1, 0, 0), vx1, zI x2, zR (31, tx3, 0), vx4] [zI y0] (mm_z hi dh nx ns) Q =
    (if x2 < y0 then Q (zI (-3)) (mm_z hi dh nx ns) else (if (hi (1, 0, 0) 12) = 0 then mm_Cl 64 [zR (1, 0, 0)] (mm_z (mm_up hi (31, tx3, 0) 5 x2) dh nx ns) (fun r h3 => mm_Wp 33 (bk_33_5.drop 8) [zR (1, 0, 0), vx1, zI x2, zR (31, tx3, 0), zI (hi (31, tx3, 0) 5)] (mm_push r []) h3 Q) else Q (zI (-5)) (mm_z hi dh nx ns))) :=
  (wp_3_2).trans ((wp_51).trans (mm_ic ((wp_1).trans (wp_90)) (mm_kb bq_33_4 ((wp_5_0).trans ((wp_60 (by decide) (mm_o1 hx)).trans ((wp_40).trans (mm_ic (mm_kb bq_33_5 ((wp_5_3).trans ((wp_60 (by decide) (mm_o31 htx3 hx)).trans ((wp_6 (l2 := [zR (1, 0, 0), vx1, zI x2, zR (31, tx3, 0), zI (hi (31, tx3, 0) 5)]) rfl).trans ((wp_5_3).trans ((wp_3_2).trans ((wp_63 (mm_o31 htx3 hx)).trans ((wp_5_0).trans ((wp_v1 mm_n_64 (mm_leq mm_m_64 (mm_lb rfl)) (mm_lb rfl) (mm_o1 hx)).trans rfl))))))))) ((wp_1).trans (wp_90)))))))))
theorem r_33_5_8 (vx0 : mm_V) (vx1 : mm_V) (vx2 : mm_V) (vx3 : mm_V) (x4 : Int) (y0 : Int) {hi : mm_Id → Int → Int} {dh : Int → Int} {nx ns : Int} {Q : mm_V → mm_H → Prop} (hx : 5275 ≤ nx) :
    mm_Wp 33 (bk_33_5.drop 8) [vx0, vx1, vx2, vx3, zI x4] [zI y0] (mm_z hi dh nx ns) Q =
    Q (zI x4) (mm_z hi dh nx ns) :=
  (wp_36i).trans ((wp_3_4).trans (wp_90))
/-- PoolHouse.held(IZ)I -/
theorem bq_34_0 : mm_blk 34 0 = bk_34_0 := by decide +kernel
theorem bq_34_1 : mm_blk 34 1 = bk_34_1 := by decide +kernel
theorem bq_34_2 : mm_blk 34 2 = bk_34_2 := by decide +kernel
theorem bq_34_3 : mm_blk 34 3 = bk_34_3 := by decide +kernel
theorem bq_34_4 : mm_blk 34 4 = bk_34_4 := by decide +kernel
theorem bq_34_5 : mm_blk 34 5 = bk_34_5 := by decide +kernel
theorem bq_34_6 : mm_blk 34 6 = bk_34_6 := by decide +kernel
theorem r_34_e (x1 : Int) (x2 : Int) {hi : mm_Id → Int → Int} {dh : Int → Int} {nx ns : Int} {Q : mm_V → mm_H → Prop} (hx : 5275 ≤ nx) :
    mm_Cl 34 [zR (1, 0, 0), zI x1, zI x2] (mm_z hi dh nx ns) Q =
    (if x1 = 0 then (if x2 = 0 then mm_Wp 34 (mm_blk 34 2) [zR (1, 0, 0), zI x1, zI x2, zU] [zI (hi (15, 0, 0) 7)] (mm_z hi dh nx ns) Q else mm_Wp 34 (mm_blk 34 2) [zR (1, 0, 0), zI x1, zI x2, zU] [zI (-2)] (mm_z hi dh nx ns) Q) else mm_Cl 55 [zR (1, 0, 0), zI x1] (mm_z hi dh nx ns) (fun r h3 => mm_Wp 34 (bk_34_3.drop 3) [zR (1, 0, 0), zI x1, zI x2, zU] (mm_push r []) h3 Q)) :=
  mm_ce (l2 := [zR (1, 0, 0), zI x1, zI x2, zU]) rfl (mm_kb bq_34_0 ((wp_3_1).trans ((wp_41).trans (mm_ic ((wp_3_2).trans ((wp_40).trans (mm_ic (mm_kb bq_34_1 ((wp_5_0).trans ((wp_62 (by decide) (mm_o1 hx) mm_r1_0).trans ((wp_60 (by decide) (mm_o15 hx)).trans ((wp_0).trans (rfl)))))) ((wp_1).trans ((wp_56).trans (rfl)))))) (mm_kb bq_34_3 ((wp_5_0).trans ((wp_3_1).trans ((wp_v2 mm_n_55 (mm_leq mm_m_55 (mm_lb rfl)) (mm_lb rfl) (mm_o1 hx)).trans rfl))))))))
theorem r_34_3_3 (vx0 : mm_V) (vx1 : mm_V) (x2 : Int) (vx3 : mm_V) {hi : mm_Id → Int → Int} {dh : Int → Int} {nx ns : Int} {Q : mm_V → mm_H → Prop} (hx : 5275 ≤ nx) :
    mm_Wp 34 (bk_34_3.drop 3) [vx0, vx1, zI x2, vx3] [zR mm_nul] (mm_z hi dh nx ns) Q =
    Q (zI (-1)) (mm_z hi dh nx ns) :=
  (wp_8 (l2 := [vx0, vx1, zI x2, zR mm_nul]) rfl).trans ((wp_5_3).trans ((wp_55n).trans ((wp_1).trans (wp_90))))
theorem r_34_3_3a (vx0 : mm_V) (vx1 : mm_V) (x2 : Int) (vx3 : mm_V) {ty0 : Int} {hi : mm_Id → Int → Int} {dh : Int → Int} {nx ns : Int} {Q : mm_V → mm_H → Prop} (hty0 : mm_isT ty0) (hx : 5275 ≤ nx) :
    mm_Wp 34 (bk_34_3.drop 3) [vx0, vx1, zI x2, vx3] [zR (22, ty0, 0)] (mm_z hi dh nx ns) Q =
    (if x2 = 0 then mm_Cl 160 [zR (22, ty0, 0)] (mm_z hi dh nx ns) (fun r h3 => mm_Wp 34 (bk_34_5.drop 2) [vx0, vx1, zI x2, zR (22, ty0, 0)] (mm_push r []) h3 Q) else mm_Cl 163 [zR (22, ty0, 0)] (mm_z hi dh nx ns) (fun r h3 => mm_Wp 34 (bk_34_4.drop 4) [vx0, vx1, zI x2, zR (22, ty0, 0)] (mm_push r []) h3 Q)) :=
  (wp_8 (l2 := [vx0, vx1, zI x2, zR (22, ty0, 0)]) rfl).trans ((wp_5_3).trans ((wp_55 (by decide)).trans (mm_kb bq_34_4 ((wp_3_2).trans ((wp_40).trans (mm_ic (mm_kb bq_34_5 ((wp_5_3).trans ((wp_v1 mm_n_160 (mm_leq mm_m_160 (mm_lb rfl)) (mm_lb rfl) (mm_o22 hty0 hx)).trans rfl))) ((wp_5_3).trans ((wp_v1 mm_n_163 (mm_leq mm_m_163 (mm_lb rfl)) (mm_lb rfl) (mm_o22 hty0 hx)).trans rfl))))))))
theorem r_34_2 (vx0 : mm_V) (vx1 : mm_V) (vx2 : mm_V) (vx3 : mm_V) (y0 : Int) {hi : mm_Id → Int → Int} {dh : Int → Int} {nx ns : Int} {Q : mm_V → mm_H → Prop} (hx : 5275 ≤ nx) :
    mm_Wp 34 (mm_blk 34 2) [vx0, vx1, vx2, vx3] [zI y0] (mm_z hi dh nx ns) Q =
    Q (zI y0) (mm_z hi dh nx ns) :=
  mm_kb bq_34_2 (wp_90)
theorem r_34_5_2 (vx0 : mm_V) (vx1 : mm_V) (vx2 : mm_V) (vx3 : mm_V) (y0 : Int) {hi : mm_Id → Int → Int} {dh : Int → Int} {nx ns : Int} {Q : mm_V → mm_H → Prop} (hx : 5275 ≤ nx) :
    mm_Wp 34 (bk_34_5.drop 2) [vx0, vx1, vx2, vx3] [zI y0] (mm_z hi dh nx ns) Q =
    mm_Wp 34 (mm_blk 34 6) [vx0, vx1, vx2, vx3] [zI y0] (mm_z hi dh nx ns) Q :=
  (wp_0).trans (rfl)
theorem r_34_4_4 (vx0 : mm_V) (vx1 : mm_V) (vx2 : mm_V) (vx3 : mm_V) (y0 : Int) {hi : mm_Id → Int → Int} {dh : Int → Int} {nx ns : Int} {Q : mm_V → mm_H → Prop} (hx : 5275 ≤ nx) :
    mm_Wp 34 (bk_34_4.drop 4) [vx0, vx1, vx2, vx3] [zI y0] (mm_z hi dh nx ns) Q =
    mm_Wp 34 (mm_blk 34 6) [vx0, vx1, vx2, vx3] [zI y0] (mm_z hi dh nx ns) Q :=
  (wp_56).trans (rfl)
theorem r_34_6 (vx0 : mm_V) (vx1 : mm_V) (vx2 : mm_V) (vx3 : mm_V) (y0 : Int) {hi : mm_Id → Int → Int} {dh : Int → Int} {nx ns : Int} {Q : mm_V → mm_H → Prop} (hx : 5275 ≤ nx) :
    mm_Wp 34 (mm_blk 34 6) [vx0, vx1, vx2, vx3] [zI y0] (mm_z hi dh nx ns) Q =
    Q (zI y0) (mm_z hi dh nx ns) :=
  mm_kb bq_34_6 (wp_90)
/-- PoolHouse.told(II)I -/
theorem bq_35_0 : mm_blk 35 0 = bk_35_0 := by decide +kernel
theorem bq_35_1 : mm_blk 35 1 = bk_35_1 := by decide +kernel
theorem bq_35_2 : mm_blk 35 2 = bk_35_2 := by decide +kernel
theorem bq_35_3 : mm_blk 35 3 = bk_35_3 := by decide +kernel
theorem bq_35_4 : mm_blk 35 4 = bk_35_4 := by decide +kernel
theorem bq_35_5 : mm_blk 35 5 = bk_35_5 := by decide +kernel
theorem bq_35_7 : mm_blk 35 7 = bk_35_7 := by decide +kernel
theorem bq_35_8 : mm_blk 35 8 = bk_35_8 := by decide +kernel
theorem bq_35_9 : mm_blk 35 9 = bk_35_9 := by decide +kernel
theorem bq_35_10 : mm_blk 35 10 = bk_35_10 := by decide +kernel
theorem bq_35_11 : mm_blk 35 11 = bk_35_11 := by decide +kernel
theorem bq_35_12 : mm_blk 35 12 = bk_35_12 := by decide +kernel
theorem bq_35_13 : mm_blk 35 13 = bk_35_13 := by decide +kernel
theorem bq_35_14 : mm_blk 35 14 = bk_35_14 := by decide +kernel
theorem bq_35_15 : mm_blk 35 15 = bk_35_15 := by decide +kernel
theorem bq_35_16 : mm_blk 35 16 = bk_35_16 := by decide +kernel
theorem r_35_e (x1 : Int) (x2 : Int) {hi : mm_Id → Int → Int} {dh : Int → Int} {nx ns : Int} {Q : mm_V → mm_H → Prop} (hx : 5275 ≤ nx) :
    mm_Cl 35 [zR (1, 0, 0), zI x1, zI x2] (mm_z hi dh nx ns) Q =
    mm_Cl 55 [zR (1, 0, 0), zI x1] (mm_z hi dh nx ns) (fun r h3 => mm_Wp 35 (bk_35_0.drop 3) [zR (1, 0, 0), zI x1, zI x2, zU, zU, zU] (mm_push r []) h3 Q) :=
  mm_ce (l2 := [zR (1, 0, 0), zI x1, zI x2, zU, zU, zU]) rfl (mm_kb bq_35_0 ((wp_5_0).trans ((wp_3_1).trans ((wp_v2 mm_n_55 (mm_leq mm_m_55 (mm_lb rfl)) (mm_lb rfl) (mm_o1 hx)).trans rfl))))
theorem r_35_0_3 (x1 : Int) (x2 : Int) (vx3 : mm_V) (vx4 : mm_V) (vx5 : mm_V) {hi : mm_Id → Int → Int} {dh : Int → Int} {nx ns : Int} {Q : mm_V → mm_H → Prop} (hx : 5275 ≤ nx) :
    mm_Wp 35 (bk_35_0.drop 3) [zR (1, 0, 0), zI x1, zI x2, vx3, vx4, vx5] [zR mm_nul] (mm_z hi dh nx ns) Q =
    Q (zI (-1)) (mm_z hi dh nx ns) :=
  (wp_8 (l2 := [zR (1, 0, 0), zI x1, zI x2, zR mm_nul, vx4, vx5]) rfl).trans ((wp_5_3).trans ((wp_55n).trans ((wp_1).trans (wp_90))))
theorem r_35_0_3a (x1 : Int) (x2 : Int) (vx3 : mm_V) (vx4 : mm_V) (vx5 : mm_V) {ty0 : Int} {hi : mm_Id → Int → Int} {dh : Int → Int} {nx ns : Int} {Q : mm_V → mm_H → Prop} (hty0 : mm_isT ty0) (hx : 5275 ≤ nx) :
    mm_Wp 35 (bk_35_0.drop 3) [zR (1, 0, 0), zI x1, zI x2, vx3, vx4, vx5] [zR (22, ty0, 0)] (mm_z hi dh nx ns) Q =
    mm_Cl 53 [zR (1, 0, 0), zI x1] (mm_z hi dh nx ns) (fun r h3 => mm_Wp 35 (bk_35_1.drop 3) [zR (1, 0, 0), zI x1, zI x2, zR (22, ty0, 0), vx4, vx5] (mm_push r []) h3 Q) :=
  (wp_8 (l2 := [zR (1, 0, 0), zI x1, zI x2, zR (22, ty0, 0), vx4, vx5]) rfl).trans ((wp_5_3).trans ((wp_55 (by decide)).trans (mm_kb bq_35_1 ((wp_5_0).trans ((wp_3_1).trans ((wp_v2 mm_n_53 (mm_leq mm_m_53 (mm_lb rfl)) (mm_lb rfl) (mm_o1 hx)).trans rfl))))))
theorem r_35_1_3 (x1 : Int) (x2 : Int) {tx3 : Int} (vx4 : mm_V) (vx5 : mm_V) {hi : mm_Id → Int → Int} {dh : Int → Int} {nx ns : Int} {Q : mm_V → mm_H → Prop} (htx3 : mm_isT tx3) (hx : 5275 ≤ nx) :
    mm_Wp 35 (bk_35_1.drop 3) [zR (1, 0, 0), zI x1, zI x2, zR (22, tx3, 0), vx4, vx5] [zR mm_nul] (mm_z hi dh nx ns) Q =
    (if x1 < 0 then mm_Cl 54 [zR (1, 0, 0), zI (mm_w (-x1))] (mm_z hi dh nx ns) (fun r h3 => mm_Wp 35 (bk_35_1.drop 10) [zR (1, 0, 0), zI x1, zI x2, zR (22, tx3, 0), zR mm_nul, vx5] (mm_push r []) h3 Q) else mm_Wp 35 (mm_blk 35 3) [zR (1, 0, 0), zI x1, zI x2, zR (22, tx3, 0), zR mm_nul, vx5] [zR mm_nul] (mm_z hi dh nx ns) Q) :=
  (wp_8 (l2 := [zR (1, 0, 0), zI x1, zI x2, zR (22, tx3, 0), zR mm_nul, vx5]) rfl).trans ((wp_3_1).trans ((wp_43).trans (mm_ic ((wp_5_0).trans ((wp_3_1).trans ((wp_15).trans ((wp_v2 mm_n_54 (mm_leq mm_m_54 (mm_lb rfl)) (mm_lb rfl) (mm_o1 hx)).trans rfl)))) (mm_kb bq_35_2 ((wp_38).trans ((wp_0).trans (rfl)))))))
theorem r_35_1_3a (x1 : Int) (x2 : Int) {tx3 : Int} (vx4 : mm_V) (vx5 : mm_V) {ty0 : Int} {hi : mm_Id → Int → Int} {dh : Int → Int} {nx ns : Int} {Q : mm_V → mm_H → Prop} (htx3 : mm_isT tx3) (hty0 : mm_isD ty0) (hx : 5275 ≤ nx) :
    mm_Wp 35 (bk_35_1.drop 3) [zR (1, 0, 0), zI x1, zI x2, zR (22, tx3, 0), vx4, vx5] [zR (31, ty0, 0)] (mm_z hi dh nx ns) Q =
    (if x1 < 0 then mm_Cl 54 [zR (1, 0, 0), zI (mm_w (-x1))] (mm_z hi dh nx ns) (fun r h3 => mm_Wp 35 (bk_35_1.drop 10) [zR (1, 0, 0), zI x1, zI x2, zR (22, tx3, 0), zR (31, ty0, 0), vx5] (mm_push r []) h3 Q) else mm_Wp 35 (mm_blk 35 3) [zR (1, 0, 0), zI x1, zI x2, zR (22, tx3, 0), zR (31, ty0, 0), vx5] [zR mm_nul] (mm_z hi dh nx ns) Q) :=
  (wp_8 (l2 := [zR (1, 0, 0), zI x1, zI x2, zR (22, tx3, 0), zR (31, ty0, 0), vx5]) rfl).trans ((wp_3_1).trans ((wp_43).trans (mm_ic ((wp_5_0).trans ((wp_3_1).trans ((wp_15).trans ((wp_v2 mm_n_54 (mm_leq mm_m_54 (mm_lb rfl)) (mm_lb rfl) (mm_o1 hx)).trans rfl)))) (mm_kb bq_35_2 ((wp_38).trans ((wp_0).trans (rfl)))))))
theorem r_35_1_10a (x1 : Int) (x2 : Int) {tx3 : Int} (vx5 : mm_V) {ty0 : Int} {hi : mm_Id → Int → Int} {dh : Int → Int} {nx ns : Int} {Q : mm_V → mm_H → Prop} (htx3 : mm_isT tx3) (hty0 : mm_isS ty0) (hx : 5275 ≤ nx) :
    mm_Wp 35 (bk_35_1.drop 10) [zR (1, 0, 0), zI x1, zI x2, zR (22, tx3, 0), zR mm_nul, vx5] [zR (33, ty0, 0)] (mm_z hi dh nx ns) Q =
    mm_Wp 35 (mm_blk 35 3) [zR (1, 0, 0), zI x1, zI x2, zR (22, tx3, 0), zR mm_nul, vx5] [zR (33, ty0, 0)] (mm_z hi dh nx ns) Q :=
  (wp_56).trans (rfl)
theorem r_35_3a (x1 : Int) (x2 : Int) {tx3 : Int} {tx4 : Int} (vx5 : mm_V) {hi : mm_Id → Int → Int} {dh : Int → Int} {nx ns : Int} {Q : mm_V → mm_H → Prop} (htx3 : mm_isT tx3) (htx4 : mm_isD tx4) (hx : 5275 ≤ nx) :
    mm_Wp 35 (mm_blk 35 3) [zR (1, 0, 0), zI x1, zI x2, zR (22, tx3, 0), zR (31, tx4, 0), vx5] [zR mm_nul] (mm_z hi dh nx ns) Q =
    mm_Wp 35 (mm_blk 35 (mm_sw 1 x2)) [zR (1, 0, 0), zI x1, zI x2, zR (22, tx3, 0), zR (31, tx4, 0), zR mm_nul] [] (mm_z hi dh nx ns) Q :=
  mm_kb bq_35_3 ((wp_8 (l2 := [zR (1, 0, 0), zI x1, zI x2, zR (22, tx3, 0), zR (31, tx4, 0), zR mm_nul]) rfl).trans ((wp_3_2).trans (wp_57 rfl)))
theorem r_35_8 (x1 : Int) (vx2 : mm_V) (vx3 : mm_V) (vx5 : mm_V) {hi : mm_Id → Int → Int} {dh : Int → Int} {nx ns : Int} {Q : mm_V → mm_H → Prop} (hx : 5275 ≤ nx) :
    mm_Wp 35 (mm_blk 35 8) [zR (1, 0, 0), zI x1, vx2, vx3, zR mm_nul, vx5] [] (mm_z hi dh nx ns) Q =
    mm_Wp 35 (mm_blk 35 10) [zR (1, 0, 0), zI x1, vx2, vx3, zR mm_nul, vx5] [zI 0] (mm_z hi dh nx ns) Q :=
  mm_kb bq_35_8 ((wp_5_4).trans ((wp_54n).trans (mm_kb bq_35_9 ((wp_1).trans ((wp_0).trans (rfl))))))
theorem r_35_15 (vx0 : mm_V) (vx1 : mm_V) (vx2 : mm_V) {tx3 : Int} (vx4 : mm_V) (vx5 : mm_V) {hi : mm_Id → Int → Int} {dh : Int → Int} {nx ns : Int} {Q : mm_V → mm_H → Prop} (htx3 : mm_isT tx3) (hx : 5275 ≤ nx) :
    mm_Wp 35 (mm_blk 35 15) [vx0, vx1, vx2, zR (22, tx3, 0), vx4, vx5] [] (mm_z hi dh nx ns) Q =
    mm_Cl 159 [zR (22, tx3, 0)] (mm_z hi dh nx ns) (fun r h3 => mm_Wp 35 (bk_35_15.drop 2) [vx0, vx1, vx2, zR (22, tx3, 0), vx4, vx5] (mm_push r []) h3 Q) :=
  mm_kb bq_35_15 ((wp_5_3).trans ((wp_v1 mm_n_159 (mm_leq mm_m_159 (mm_lb rfl)) (mm_lb rfl) (mm_o22 htx3 hx)).trans rfl))
theorem r_35_16 (vx0 : mm_V) (vx1 : mm_V) (vx2 : mm_V) (vx3 : mm_V) (vx4 : mm_V) (vx5 : mm_V) {hi : mm_Id → Int → Int} {dh : Int → Int} {nx ns : Int} {Q : mm_V → mm_H → Prop} (hx : 5275 ≤ nx) :
    mm_Wp 35 (mm_blk 35 16) [vx0, vx1, vx2, vx3, vx4, vx5] [] (mm_z hi dh nx ns) Q =
    Q (zI (-2)) (mm_z hi dh nx ns) :=
  mm_kb bq_35_16 ((wp_1).trans (wp_90))
theorem r_35_3b (x1 : Int) (x2 : Int) {tx3 : Int} (vx5 : mm_V) {ty0 : Int} {hi : mm_Id → Int → Int} {dh : Int → Int} {nx ns : Int} {Q : mm_V → mm_H → Prop} (htx3 : mm_isT tx3) (hty0 : mm_isS ty0) (hx : 5275 ≤ nx) :
    mm_Wp 35 (mm_blk 35 3) [zR (1, 0, 0), zI x1, zI x2, zR (22, tx3, 0), zR mm_nul, vx5] [zR (33, ty0, 0)] (mm_z hi dh nx ns) Q =
    mm_Wp 35 (mm_blk 35 (mm_sw 1 x2)) [zR (1, 0, 0), zI x1, zI x2, zR (22, tx3, 0), zR mm_nul, zR (33, ty0, 0)] [] (mm_z hi dh nx ns) Q :=
  mm_kb bq_35_3 ((wp_8 (l2 := [zR (1, 0, 0), zI x1, zI x2, zR (22, tx3, 0), zR mm_nul, zR (33, ty0, 0)]) rfl).trans ((wp_3_2).trans (wp_57 rfl)))
theorem r_35_4a (vx0 : mm_V) (vx1 : mm_V) (vx2 : mm_V) (vx3 : mm_V) {tx4 : Int} {hi : mm_Id → Int → Int} {dh : Int → Int} {nx ns : Int} {Q : mm_V → mm_H → Prop} (htx4 : mm_isD tx4) (hx : 5275 ≤ nx) :
    mm_Wp 35 (mm_blk 35 4) [vx0, vx1, vx2, vx3, zR (31, tx4, 0), zR mm_nul] [] (mm_z hi dh nx ns) Q =
    mm_Wp 35 (mm_blk 35 7) [vx0, vx1, vx2, vx3, zR (31, tx4, 0), zR mm_nul] [zI (hi (31, tx4, 0) 4)] (mm_z hi dh nx ns) Q :=
  mm_kb bq_35_4 ((wp_5_4).trans ((wp_54 (by decide)).trans ((wp_5_4).trans ((wp_60 (by decide) (mm_o31 htx4 hx)).trans ((wp_56).trans (rfl))))))
theorem r_35_8a (x1 : Int) (vx2 : mm_V) (vx3 : mm_V) {tx4 : Int} (vx5 : mm_V) {hi : mm_Id → Int → Int} {dh : Int → Int} {nx ns : Int} {Q : mm_V → mm_H → Prop} (htx4 : mm_isD tx4) (hx : 5275 ≤ nx) :
    mm_Wp 35 (mm_blk 35 8) [zR (1, 0, 0), zI x1, vx2, vx3, zR (31, tx4, 0), vx5] [] (mm_z hi dh nx ns) Q =
    mm_Cl 73 [zR (1, 0, 0), zI x1] (mm_z hi dh nx ns) (fun r h3 => mm_Wp 35 (bk_35_8.drop 5) [zR (1, 0, 0), zI x1, vx2, vx3, zR (31, tx4, 0), vx5] (mm_push r []) h3 Q) :=
  mm_kb bq_35_8 ((wp_5_4).trans ((wp_54 (by decide)).trans ((wp_5_0).trans ((wp_3_1).trans ((wp_v2 mm_n_73 (mm_leq mm_m_73 (mm_lb rfl)) (mm_lb rfl) (mm_o1 hx)).trans rfl)))))
theorem r_35_11a (vx0 : mm_V) (vx1 : mm_V) (vx2 : mm_V) (vx3 : mm_V) {tx4 : Int} {hi : mm_Id → Int → Int} {dh : Int → Int} {nx ns : Int} {Q : mm_V → mm_H → Prop} (htx4 : mm_isD tx4) (hx : 5275 ≤ nx) :
    mm_Wp 35 (mm_blk 35 11) [vx0, vx1, vx2, vx3, zR (31, tx4, 0), zR mm_nul] [] (mm_z hi dh nx ns) Q =
    mm_Wp 35 (mm_blk 35 14) [vx0, vx1, vx2, vx3, zR (31, tx4, 0), zR mm_nul] [zI (hi (31, tx4, 0) 5)] (mm_z hi dh nx ns) Q :=
  mm_kb bq_35_11 ((wp_5_4).trans ((wp_54 (by decide)).trans ((wp_5_4).trans ((wp_60 (by decide) (mm_o31 htx4 hx)).trans ((wp_56).trans (rfl))))))
theorem r_35_7 (vx0 : mm_V) (vx1 : mm_V) (vx2 : mm_V) (vx3 : mm_V) (vx4 : mm_V) (vx5 : mm_V) (y0 : Int) {hi : mm_Id → Int → Int} {dh : Int → Int} {nx ns : Int} {Q : mm_V → mm_H → Prop} (hx : 5275 ≤ nx) :
    mm_Wp 35 (mm_blk 35 7) [vx0, vx1, vx2, vx3, vx4, vx5] [zI y0] (mm_z hi dh nx ns) Q =
    Q (zI y0) (mm_z hi dh nx ns) :=
  mm_kb bq_35_7 (wp_90)
theorem r_35_10 (vx0 : mm_V) (vx1 : mm_V) (vx2 : mm_V) (vx3 : mm_V) (vx4 : mm_V) (vx5 : mm_V) (y0 : Int) {hi : mm_Id → Int → Int} {dh : Int → Int} {nx ns : Int} {Q : mm_V → mm_H → Prop} (hx : 5275 ≤ nx) :
    mm_Wp 35 (mm_blk 35 10) [vx0, vx1, vx2, vx3, vx4, vx5] [zI y0] (mm_z hi dh nx ns) Q =
    Q (zI y0) (mm_z hi dh nx ns) :=
  mm_kb bq_35_10 (wp_90)
theorem r_35_13 (vx0 : mm_V) (vx1 : mm_V) (vx2 : mm_V) (vx3 : mm_V) (vx4 : mm_V) (vx5 : mm_V) {hi : mm_Id → Int → Int} {dh : Int → Int} {nx ns : Int} {Q : mm_V → mm_H → Prop} (hx : 5275 ≤ nx) :
    mm_Wp 35 (mm_blk 35 13) [vx0, vx1, vx2, vx3, vx4, vx5] [] (mm_z hi dh nx ns) Q =
    mm_Wp 35 (mm_blk 35 14) [vx0, vx1, vx2, vx3, vx4, vx5] [zI 0] (mm_z hi dh nx ns) Q :=
  mm_kb bq_35_13 ((wp_1).trans ((wp_0).trans (rfl)))
theorem r_35_15_2 (vx0 : mm_V) (vx1 : mm_V) (vx2 : mm_V) (vx3 : mm_V) (vx4 : mm_V) (vx5 : mm_V) (y0 : Int) {hi : mm_Id → Int → Int} {dh : Int → Int} {nx ns : Int} {Q : mm_V → mm_H → Prop} (hx : 5275 ≤ nx) :
    mm_Wp 35 (bk_35_15.drop 2) [vx0, vx1, vx2, vx3, vx4, vx5] [zI y0] (mm_z hi dh nx ns) Q =
    Q (zI y0) (mm_z hi dh nx ns) :=
  wp_90
theorem r_35_4b (vx0 : mm_V) (vx1 : mm_V) (vx2 : mm_V) (vx3 : mm_V) {tx5 : Int} {hi : mm_Id → Int → Int} {dh : Int → Int} {nx ns : Int} {Q : mm_V → mm_H → Prop} (htx5 : mm_isS tx5) (hx : 5275 ≤ nx) :
    mm_Wp 35 (mm_blk 35 4) [vx0, vx1, vx2, vx3, zR mm_nul, zR (33, tx5, 0)] [] (mm_z hi dh nx ns) Q =
    mm_Wp 35 (mm_blk 35 7) [vx0, vx1, vx2, vx3, zR mm_nul, zR (33, tx5, 0)] [zI (hi (33, tx5, 0) 2)] (mm_z hi dh nx ns) Q :=
  mm_kb bq_35_4 ((wp_5_4).trans ((wp_54n).trans (mm_kb bq_35_5 ((wp_5_5).trans ((wp_54 (by decide)).trans ((wp_5_5).trans ((wp_60 (by decide) (mm_o33 htx5 hx)).trans ((wp_56).trans (rfl)))))))))
theorem r_35_11b (vx0 : mm_V) (vx1 : mm_V) (vx2 : mm_V) (vx3 : mm_V) {tx5 : Int} {hi : mm_Id → Int → Int} {dh : Int → Int} {nx ns : Int} {Q : mm_V → mm_H → Prop} (htx5 : mm_isS tx5) (hx : 5275 ≤ nx) :
    mm_Wp 35 (mm_blk 35 11) [vx0, vx1, vx2, vx3, zR mm_nul, zR (33, tx5, 0)] [] (mm_z hi dh nx ns) Q =
    (if (hi (33, tx5, 0) 3) = 0 then mm_Wp 35 (mm_blk 35 13) [vx0, vx1, vx2, vx3, zR mm_nul, zR (33, tx5, 0)] [] (mm_z hi dh nx ns) Q else mm_Wp 35 (mm_blk 35 14) [vx0, vx1, vx2, vx3, zR mm_nul, zR (33, tx5, 0)] [zI 1] (mm_z hi dh nx ns) Q) :=
  mm_kb bq_35_11 ((wp_5_4).trans ((wp_54n).trans (mm_kb bq_35_12 ((wp_5_5).trans ((wp_54 (by decide)).trans ((wp_5_5).trans ((wp_60 (by decide) (mm_o33 htx5 hx)).trans ((wp_40).trans (mm_ic (rfl) ((wp_1).trans ((wp_56).trans (rfl))))))))))))
theorem r_35_8_5 (vx0 : mm_V) (vx1 : mm_V) (vx2 : mm_V) (vx3 : mm_V) (vx4 : mm_V) (vx5 : mm_V) (y0 : Int) {hi : mm_Id → Int → Int} {dh : Int → Int} {nx ns : Int} {Q : mm_V → mm_H → Prop} (hx : 5275 ≤ nx) :
    mm_Wp 35 (bk_35_8.drop 5) [vx0, vx1, vx2, vx3, vx4, vx5] [zI y0] (mm_z hi dh nx ns) Q =
    mm_Wp 35 (mm_blk 35 10) [vx0, vx1, vx2, vx3, vx4, vx5] [zI y0] (mm_z hi dh nx ns) Q :=
  (wp_56).trans (rfl)
theorem r_35_14 (vx0 : mm_V) (vx1 : mm_V) (vx2 : mm_V) (vx3 : mm_V) (vx4 : mm_V) (vx5 : mm_V) (y0 : Int) {hi : mm_Id → Int → Int} {dh : Int → Int} {nx ns : Int} {Q : mm_V → mm_H → Prop} (hx : 5275 ≤ nx) :
    mm_Wp 35 (mm_blk 35 14) [vx0, vx1, vx2, vx3, vx4, vx5] [zI y0] (mm_z hi dh nx ns) Q =
    Q (zI y0) (mm_z hi dh nx ns) :=
  mm_kb bq_35_14 (wp_90)
/-- PoolHouse.differs(III)I -/
theorem bq_36_0 : mm_blk 36 0 = bk_36_0 := by decide +kernel
theorem bq_36_1 : mm_blk 36 1 = bk_36_1 := by decide +kernel
theorem bq_36_2 : mm_blk 36 2 = bk_36_2 := by decide +kernel
theorem bq_36_3 : mm_blk 36 3 = bk_36_3 := by decide +kernel
theorem bq_36_4 : mm_blk 36 4 = bk_36_4 := by decide +kernel
theorem bq_36_5 : mm_blk 36 5 = bk_36_5 := by decide +kernel
theorem bq_36_6 : mm_blk 36 6 = bk_36_6 := by decide +kernel
theorem r_36_e (x1 : Int) (x2 : Int) (x3 : Int) {hi : mm_Id → Int → Int} {dh : Int → Int} {nx ns : Int} {Q : mm_V → mm_H → Prop} (hx : 5275 ≤ nx) :
    mm_Cl 36 [zR (1, 0, 0), zI x1, zI x2, zI x3] (mm_z hi dh nx ns) Q =
    mm_Cl 55 [zR (1, 0, 0), zI x1] (mm_z hi dh nx ns) (fun r h3 => mm_Wp 36 (bk_36_0.drop 3) [zR (1, 0, 0), zI x1, zI x2, zI x3, zU, zU, zU, zU] (mm_push r []) h3 Q) :=
  mm_ce (l2 := [zR (1, 0, 0), zI x1, zI x2, zI x3, zU, zU, zU, zU]) rfl (mm_kb bq_36_0 ((wp_5_0).trans ((wp_3_1).trans ((wp_v2 mm_n_55 (mm_leq mm_m_55 (mm_lb rfl)) (mm_lb rfl) (mm_o1 hx)).trans rfl))))
theorem r_36_0_3 (vx1 : mm_V) (x2 : Int) (x3 : Int) (vx4 : mm_V) (vx5 : mm_V) (vx6 : mm_V) (vx7 : mm_V) {hi : mm_Id → Int → Int} {dh : Int → Int} {nx ns : Int} {Q : mm_V → mm_H → Prop} (hx : 5275 ≤ nx) :
    mm_Wp 36 (bk_36_0.drop 3) [zR (1, 0, 0), vx1, zI x2, zI x3, vx4, vx5, vx6, vx7] [zR mm_nul] (mm_z hi dh nx ns) Q =
    mm_Cl 55 [zR (1, 0, 0), zI x2] (mm_z hi dh nx ns) (fun r h3 => mm_Wp 36 (bk_36_0.drop 7) [zR (1, 0, 0), vx1, zI x2, zI x3, zR mm_nul, vx5, vx6, vx7] (mm_push r []) h3 Q) :=
  (wp_8 (l2 := [zR (1, 0, 0), vx1, zI x2, zI x3, zR mm_nul, vx5, vx6, vx7]) rfl).trans ((wp_5_0).trans ((wp_3_2).trans ((wp_v2 mm_n_55 (mm_leq mm_m_55 (mm_lb rfl)) (mm_lb rfl) (mm_o1 hx)).trans rfl)))
theorem r_36_0_3a (vx1 : mm_V) (x2 : Int) (x3 : Int) (vx4 : mm_V) (vx5 : mm_V) (vx6 : mm_V) (vx7 : mm_V) {ty0 : Int} {hi : mm_Id → Int → Int} {dh : Int → Int} {nx ns : Int} {Q : mm_V → mm_H → Prop} (hty0 : mm_isT ty0) (hx : 5275 ≤ nx) :
    mm_Wp 36 (bk_36_0.drop 3) [zR (1, 0, 0), vx1, zI x2, zI x3, vx4, vx5, vx6, vx7] [zR (22, ty0, 0)] (mm_z hi dh nx ns) Q =
    mm_Cl 55 [zR (1, 0, 0), zI x2] (mm_z hi dh nx ns) (fun r h3 => mm_Wp 36 (bk_36_0.drop 7) [zR (1, 0, 0), vx1, zI x2, zI x3, zR (22, ty0, 0), vx5, vx6, vx7] (mm_push r []) h3 Q) :=
  (wp_8 (l2 := [zR (1, 0, 0), vx1, zI x2, zI x3, zR (22, ty0, 0), vx5, vx6, vx7]) rfl).trans ((wp_5_0).trans ((wp_3_2).trans ((wp_v2 mm_n_55 (mm_leq mm_m_55 (mm_lb rfl)) (mm_lb rfl) (mm_o1 hx)).trans rfl)))
theorem r_36_0_7 (vx1 : mm_V) (vx2 : mm_V) (x3 : Int) (vx5 : mm_V) (vx6 : mm_V) (vx7 : mm_V) {hi : mm_Id → Int → Int} {dh : Int → Int} {nx ns : Int} {Q : mm_V → mm_H → Prop} (hx : 5275 ≤ nx) :
    mm_Wp 36 (bk_36_0.drop 7) [zR (1, 0, 0), vx1, vx2, zI x3, zR mm_nul, vx5, vx6, vx7] [zR mm_nul] (mm_z hi dh nx ns) Q =
    mm_Wp 36 (mm_blk 36 1) [zR (1, 0, 0), vx1, vx2, zI x3, zR mm_nul, zR mm_nul, vx6, vx7] [] (mm_z hi dh nx ns) Q :=
  (wp_8 (l2 := [zR (1, 0, 0), vx1, vx2, zI x3, zR mm_nul, zR mm_nul, vx6, vx7]) rfl).trans ((wp_5_4).trans ((wp_54n).trans (rfl)))
theorem r_36_0_7a (vx1 : mm_V) (vx2 : mm_V) (x3 : Int) (vx5 : mm_V) (vx6 : mm_V) (vx7 : mm_V) {ty0 : Int} {hi : mm_Id → Int → Int} {dh : Int → Int} {nx ns : Int} {Q : mm_V → mm_H → Prop} (hty0 : mm_isT ty0) (hx : 5275 ≤ nx) :
    mm_Wp 36 (bk_36_0.drop 7) [zR (1, 0, 0), vx1, vx2, zI x3, zR mm_nul, vx5, vx6, vx7] [zR (22, ty0, 0)] (mm_z hi dh nx ns) Q =
    mm_Wp 36 (mm_blk 36 1) [zR (1, 0, 0), vx1, vx2, zI x3, zR mm_nul, zR (22, ty0, 0), vx6, vx7] [] (mm_z hi dh nx ns) Q :=
  (wp_8 (l2 := [zR (1, 0, 0), vx1, vx2, zI x3, zR mm_nul, zR (22, ty0, 0), vx6, vx7]) rfl).trans ((wp_5_4).trans ((wp_54n).trans (rfl)))
theorem r_36_0_7b (vx1 : mm_V) (vx2 : mm_V) (x3 : Int) {tx4 : Int} (vx5 : mm_V) (vx6 : mm_V) (vx7 : mm_V) {hi : mm_Id → Int → Int} {dh : Int → Int} {nx ns : Int} {Q : mm_V → mm_H → Prop} (htx4 : mm_isT tx4) (hx : 5275 ≤ nx) :
    mm_Wp 36 (bk_36_0.drop 7) [zR (1, 0, 0), vx1, vx2, zI x3, zR (22, tx4, 0), vx5, vx6, vx7] [zR mm_nul] (mm_z hi dh nx ns) Q =
    mm_Wp 36 (mm_blk 36 1) [zR (1, 0, 0), vx1, vx2, zI x3, zR (22, tx4, 0), zR mm_nul, vx6, vx7] [] (mm_z hi dh nx ns) Q :=
  (wp_8 (l2 := [zR (1, 0, 0), vx1, vx2, zI x3, zR (22, tx4, 0), zR mm_nul, vx6, vx7]) rfl).trans ((wp_5_4).trans ((wp_54 (by decide)).trans ((wp_5_5).trans ((wp_55n).trans ((wp_0).trans (rfl))))))
theorem r_36_0_7c (vx1 : mm_V) (vx2 : mm_V) (x3 : Int) {tx4 : Int} (vx5 : mm_V) (vx6 : mm_V) (vx7 : mm_V) {ty0 : Int} {hi : mm_Id → Int → Int} {dh : Int → Int} {nx ns : Int} {Q : mm_V → mm_H → Prop} (htx4 : mm_isT tx4) (hty0 : mm_isT ty0) (hx : 5275 ≤ nx) :
    mm_Wp 36 (bk_36_0.drop 7) [zR (1, 0, 0), vx1, vx2, zI x3, zR (22, tx4, 0), vx5, vx6, vx7] [zR (22, ty0, 0)] (mm_z hi dh nx ns) Q =
    mm_Wp 36 (mm_blk 36 3) [zR (1, 0, 0), vx1, vx2, zI x3, zR (22, tx4, 0), zR (22, ty0, 0), zI x3, zI 1] [] (mm_z hi dh nx ns) Q :=
  (wp_8 (l2 := [zR (1, 0, 0), vx1, vx2, zI x3, zR (22, tx4, 0), zR (22, ty0, 0), vx6, vx7]) rfl).trans ((wp_5_4).trans ((wp_54 (by decide)).trans ((wp_5_5).trans ((wp_55 (by decide)).trans (mm_kb bq_36_2 ((wp_3_3).trans ((wp_6 (l2 := [zR (1, 0, 0), vx1, vx2, zI x3, zR (22, tx4, 0), zR (22, ty0, 0), zI x3, vx7]) rfl).trans ((wp_1).trans ((wp_6 (l2 := [zR (1, 0, 0), vx1, vx2, zI x3, zR (22, tx4, 0), zR (22, ty0, 0), zI x3, zI 1]) rfl).trans ((wp_0).trans (rfl)))))))))))
theorem r_36_1 (vx0 : mm_V) (vx1 : mm_V) (vx2 : mm_V) (vx3 : mm_V) (vx4 : mm_V) (vx5 : mm_V) (vx6 : mm_V) (vx7 : mm_V) {hi : mm_Id → Int → Int} {dh : Int → Int} {nx ns : Int} {Q : mm_V → mm_H → Prop} (hx : 5275 ≤ nx) :
    mm_Wp 36 (mm_blk 36 1) [vx0, vx1, vx2, vx3, vx4, vx5, vx6, vx7] [] (mm_z hi dh nx ns) Q =
    Q (zI (-1)) (mm_z hi dh nx ns) :=
  mm_kb bq_36_1 ((wp_1).trans (wp_90))
theorem r_36_3 (vx1 : mm_V) (vx2 : mm_V) (vx3 : mm_V) {tx4 : Int} {tx5 : Int} (x6 : Int) (x7 : Int) {hi : mm_Id → Int → Int} {dh : Int → Int} {nx ns : Int} {Q : mm_V → mm_H → Prop} (htx4 : mm_isT tx4) (htx5 : mm_isT tx5) (hx : 5275 ≤ nx) :
    mm_Wp 36 (mm_blk 36 3) [zR (1, 0, 0), vx1, vx2, vx3, zR (22, tx4, 0), zR (22, tx5, 0), zI x6, zI x7] [] (mm_z hi dh nx ns) Q =
    (if 36 < x7 then mm_Wp 36 (mm_blk 36 6) [zR (1, 0, 0), vx1, vx2, vx3, zR (22, tx4, 0), zR (22, tx5, 0), zI x6, zI x7] [] (mm_z hi dh nx ns) Q else (if x6 < 0 then mm_Wp 36 (mm_blk 36 6) [zR (1, 0, 0), vx1, vx2, vx3, zR (22, tx4, 0), zR (22, tx5, 0), zI x6, zI x7] [] (mm_z hi dh nx ns) Q else ((0 ≤ x7 ∧ x7 < 37) ∧ ((0 ≤ x7 ∧ x7 < 37) ∧ mm_Cl 114 [zR (24, tx4, x7), zR (24, tx5, x7), zR (15, 0, 0)] (mm_z hi dh nx ns) (fun r h3 => mm_Wp 36 (bk_36_3.drop 16) [zR (1, 0, 0), vx1, vx2, vx3, zR (22, tx4, 0), zR (22, tx5, 0), zI x6, zI x7] (mm_push r []) h3 Q))))) :=
  mm_kb bq_36_3 ((wp_3_7).trans ((wp_1).trans ((wp_50).trans (mm_ic (rfl) ((wp_3_6).trans ((wp_42).trans (mm_ic (rfl) ((wp_5_4).trans ((wp_62 (by decide) (mm_o22 htx4 hx) (mm_r22_0 htx4)).trans ((wp_3_7).trans ((wp_73 (mm_q23 htx4 hx) (by decide) (fun q => mm_a23 htx4 q)).trans (mm_acd fun h1 => (wp_5_5).trans ((wp_62 (by decide) (mm_o22 htx5 hx) (mm_r22_0 htx5)).trans ((wp_3_7).trans ((wp_73 (mm_q23 htx5 hx) (by decide) (fun q => mm_a23 htx5 q)).trans (mm_acd fun h2 => (wp_5_0).trans ((wp_62 (by decide) (mm_o1 hx) mm_r1_0).trans ((wp_v3 mm_n_114 (mm_leq mm_m_114 (mm_lb rfl)) (mm_lb rfl) (mm_o24 htx4 h1 hx)).trans rfl))))))))))))))))))
theorem r_36_6 (vx0 : mm_V) (vx1 : mm_V) (vx2 : mm_V) (vx3 : mm_V) (vx4 : mm_V) (vx5 : mm_V) (vx6 : mm_V) (vx7 : mm_V) {hi : mm_Id → Int → Int} {dh : Int → Int} {nx ns : Int} {Q : mm_V → mm_H → Prop} (hx : 5275 ≤ nx) :
    mm_Wp 36 (mm_blk 36 6) [vx0, vx1, vx2, vx3, vx4, vx5, vx6, vx7] [] (mm_z hi dh nx ns) Q =
    Q (zI (-2)) (mm_z hi dh nx ns) :=
  mm_kb bq_36_6 ((wp_1).trans (wp_90))
theorem r_36_3_16 (vx1 : mm_V) (vx2 : mm_V) (vx3 : mm_V) {tx4 : Int} {tx5 : Int} (x6 : Int) (x7 : Int) (y0 : Int) {hi : mm_Id → Int → Int} {dh : Int → Int} {nx ns : Int} {Q : mm_V → mm_H → Prop} (htx4 : mm_isT tx4) (htx5 : mm_isT tx5) (hx : 5275 ≤ nx) :
    mm_Wp 36 (bk_36_3.drop 16) [zR (1, 0, 0), vx1, vx2, vx3, zR (22, tx4, 0), zR (22, tx5, 0), zI x6, zI x7] [zI y0] (mm_z hi dh nx ns) Q =
    (if y0 = 0 then (if x6 = 0 then Q (zI x7) (mm_z hi dh nx ns) else mm_Wp 36 (mm_blk 36 5) [zR (1, 0, 0), vx1, vx2, vx3, zR (22, tx4, 0), zR (22, tx5, 0), zI (mm_w (x6 + (-1))), zI x7] [] (mm_z hi dh nx ns) Q) else mm_Wp 36 (mm_blk 36 5) [zR (1, 0, 0), vx1, vx2, vx3, zR (22, tx4, 0), zR (22, tx5, 0), zI x6, zI x7] [] (mm_z hi dh nx ns) Q) :=
  (wp_41).trans (mm_ic ((wp_3_6).trans ((wp_41).trans (mm_ic ((wp_3_7).trans (wp_90)) (mm_kb bq_36_4 ((wp_9 (l2 := [zR (1, 0, 0), vx1, vx2, vx3, zR (22, tx4, 0), zR (22, tx5, 0), zI (mm_w (x6 + (-1))), zI x7]) rfl rfl).trans ((wp_0).trans (rfl))))))) (rfl))
theorem r_36_5 (vx1 : mm_V) (vx2 : mm_V) (vx3 : mm_V) {tx4 : Int} {tx5 : Int} (x6 : Int) (x7 : Int) {hi : mm_Id → Int → Int} {dh : Int → Int} {nx ns : Int} {Q : mm_V → mm_H → Prop} (htx4 : mm_isT tx4) (htx5 : mm_isT tx5) (hx : 5275 ≤ nx) :
    mm_Wp 36 (mm_blk 36 5) [zR (1, 0, 0), vx1, vx2, vx3, zR (22, tx4, 0), zR (22, tx5, 0), zI x6, zI x7] [] (mm_z hi dh nx ns) Q =
    mm_Wp 36 (mm_blk 36 3) [zR (1, 0, 0), vx1, vx2, vx3, zR (22, tx4, 0), zR (22, tx5, 0), zI x6, zI (mm_w (x7 + 1))] [] (mm_z hi dh nx ns) Q :=
  mm_kb bq_36_5 ((wp_9 (l2 := [zR (1, 0, 0), vx1, vx2, vx3, zR (22, tx4, 0), zR (22, tx5, 0), zI x6, zI (mm_w (x7 + 1))]) rfl rfl).trans ((wp_56).trans (rfl)))
/-- PoolHouse.send(II)I -/
theorem bq_37_0 : mm_blk 37 0 = bk_37_0 := by decide +kernel
theorem bq_37_1 : mm_blk 37 1 = bk_37_1 := by decide +kernel
theorem bq_37_2 : mm_blk 37 2 = bk_37_2 := by decide +kernel
theorem bq_37_3 : mm_blk 37 3 = bk_37_3 := by decide +kernel
theorem bq_37_4 : mm_blk 37 4 = bk_37_4 := by decide +kernel
theorem r_37_e (x1 : Int) (x2 : Int) {hi : mm_Id → Int → Int} {dh : Int → Int} {nx ns : Int} {Q : mm_V → mm_H → Prop} (hx : 5275 ≤ nx) :
    mm_Cl 37 [zR (1, 0, 0), zI x1, zI x2] (mm_z hi dh nx ns) Q =
    mm_Cl 54 [zR (1, 0, 0), zI x1] (mm_z hi dh nx ns) (fun r h3 => mm_Wp 37 (bk_37_0.drop 3) [zR (1, 0, 0), zI x1, zI x2, zU, zU] (mm_push r []) h3 Q) :=
  mm_ce (l2 := [zR (1, 0, 0), zI x1, zI x2, zU, zU]) rfl (mm_kb bq_37_0 ((wp_5_0).trans ((wp_3_1).trans ((wp_v2 mm_n_54 (mm_leq mm_m_54 (mm_lb rfl)) (mm_lb rfl) (mm_o1 hx)).trans rfl))))
theorem r_37_0_3 (vx1 : mm_V) (x2 : Int) (vx3 : mm_V) (vx4 : mm_V) {hi : mm_Id → Int → Int} {dh : Int → Int} {nx ns : Int} {Q : mm_V → mm_H → Prop} (hx : 5275 ≤ nx) :
    mm_Wp 37 (bk_37_0.drop 3) [zR (1, 0, 0), vx1, zI x2, vx3, vx4] [zR mm_nul] (mm_z hi dh nx ns) Q =
    mm_Cl 54 [zR (1, 0, 0), zI x2] (mm_z hi dh nx ns) (fun r h3 => mm_Wp 37 (bk_37_0.drop 7) [zR (1, 0, 0), vx1, zI x2, zR mm_nul, vx4] (mm_push r []) h3 Q) :=
  (wp_8 (l2 := [zR (1, 0, 0), vx1, zI x2, zR mm_nul, vx4]) rfl).trans ((wp_5_0).trans ((wp_3_2).trans ((wp_v2 mm_n_54 (mm_leq mm_m_54 (mm_lb rfl)) (mm_lb rfl) (mm_o1 hx)).trans rfl)))
theorem r_37_0_3a (vx1 : mm_V) (x2 : Int) (vx3 : mm_V) (vx4 : mm_V) {ty0 : Int} {hi : mm_Id → Int → Int} {dh : Int → Int} {nx ns : Int} {Q : mm_V → mm_H → Prop} (hty0 : mm_isS ty0) (hx : 5275 ≤ nx) :
    mm_Wp 37 (bk_37_0.drop 3) [zR (1, 0, 0), vx1, zI x2, vx3, vx4] [zR (33, ty0, 0)] (mm_z hi dh nx ns) Q =
    mm_Cl 54 [zR (1, 0, 0), zI x2] (mm_z hi dh nx ns) (fun r h3 => mm_Wp 37 (bk_37_0.drop 7) [zR (1, 0, 0), vx1, zI x2, zR (33, ty0, 0), vx4] (mm_push r []) h3 Q) :=
  (wp_8 (l2 := [zR (1, 0, 0), vx1, zI x2, zR (33, ty0, 0), vx4]) rfl).trans ((wp_5_0).trans ((wp_3_2).trans ((wp_v2 mm_n_54 (mm_leq mm_m_54 (mm_lb rfl)) (mm_lb rfl) (mm_o1 hx)).trans rfl)))
theorem r_37_0_7 (vx1 : mm_V) (vx2 : mm_V) (vx4 : mm_V) {hi : mm_Id → Int → Int} {dh : Int → Int} {nx ns : Int} {Q : mm_V → mm_H → Prop} (hx : 5275 ≤ nx) :
    mm_Wp 37 (bk_37_0.drop 7) [zR (1, 0, 0), vx1, vx2, zR mm_nul, vx4] [zR mm_nul] (mm_z hi dh nx ns) Q =
    mm_Wp 37 (mm_blk 37 1) [zR (1, 0, 0), vx1, vx2, zR mm_nul, zR mm_nul] [] (mm_z hi dh nx ns) Q :=
  (wp_8 (l2 := [zR (1, 0, 0), vx1, vx2, zR mm_nul, zR mm_nul]) rfl).trans ((wp_5_3).trans ((wp_54n).trans (rfl)))
theorem r_37_0_7a (vx1 : mm_V) (vx2 : mm_V) (vx4 : mm_V) {ty0 : Int} {hi : mm_Id → Int → Int} {dh : Int → Int} {nx ns : Int} {Q : mm_V → mm_H → Prop} (hty0 : mm_isS ty0) (hx : 5275 ≤ nx) :
    mm_Wp 37 (bk_37_0.drop 7) [zR (1, 0, 0), vx1, vx2, zR mm_nul, vx4] [zR (33, ty0, 0)] (mm_z hi dh nx ns) Q =
    mm_Wp 37 (mm_blk 37 1) [zR (1, 0, 0), vx1, vx2, zR mm_nul, zR (33, ty0, 0)] [] (mm_z hi dh nx ns) Q :=
  (wp_8 (l2 := [zR (1, 0, 0), vx1, vx2, zR mm_nul, zR (33, ty0, 0)]) rfl).trans ((wp_5_3).trans ((wp_54n).trans (rfl)))
theorem r_37_0_7b (vx1 : mm_V) (vx2 : mm_V) {tx3 : Int} (vx4 : mm_V) {hi : mm_Id → Int → Int} {dh : Int → Int} {nx ns : Int} {Q : mm_V → mm_H → Prop} (htx3 : mm_isS tx3) (hx : 5275 ≤ nx) :
    mm_Wp 37 (bk_37_0.drop 7) [zR (1, 0, 0), vx1, vx2, zR (33, tx3, 0), vx4] [zR mm_nul] (mm_z hi dh nx ns) Q =
    mm_Wp 37 (mm_blk 37 1) [zR (1, 0, 0), vx1, vx2, zR (33, tx3, 0), zR mm_nul] [] (mm_z hi dh nx ns) Q :=
  (wp_8 (l2 := [zR (1, 0, 0), vx1, vx2, zR (33, tx3, 0), zR mm_nul]) rfl).trans ((wp_5_3).trans ((wp_54 (by decide)).trans ((wp_5_4).trans ((wp_55n).trans ((wp_0).trans (rfl))))))
theorem r_37_0_7c (vx1 : mm_V) (vx2 : mm_V) {tx3 : Int} (vx4 : mm_V) {ty0 : Int} {hi : mm_Id → Int → Int} {dh : Int → Int} {nx ns : Int} {Q : mm_V → mm_H → Prop} (htx3 : mm_isS tx3) (hty0 : mm_isS ty0) (hx : 5275 ≤ nx) :
    mm_Wp 37 (bk_37_0.drop 7) [zR (1, 0, 0), vx1, vx2, zR (33, tx3, 0), vx4] [zR (33, ty0, 0)] (mm_z hi dh nx ns) Q =
    (if (hi (33, tx3, 0) 2) = (hi (33, ty0, 0) 2) then (if (hi (1, 0, 0) 12) = 0 then mm_Cl 165 [zR (22, 26, 0), zR (22, (5 + tx3), 0)] (mm_z hi dh nx ns) (fun r h3 => mm_Wp 37 (bk_37_4.drop 5) [zR (1, 0, 0), vx1, vx2, zR (33, tx3, 0), zR (33, ty0, 0)] (mm_push r []) h3 Q) else Q (zI (-5)) (mm_z hi dh nx ns)) else Q (zI (-3)) (mm_z hi dh nx ns)) :=
  (wp_8 (l2 := [zR (1, 0, 0), vx1, vx2, zR (33, tx3, 0), zR (33, ty0, 0)]) rfl).trans ((wp_5_3).trans ((wp_54 (by decide)).trans ((wp_5_4).trans ((wp_55 (by decide)).trans (mm_kb bq_37_2 ((wp_5_3).trans ((wp_60 (by decide) (mm_o33 htx3 hx)).trans ((wp_5_4).trans ((wp_60 (by decide) (mm_o33 hty0 hx)).trans ((wp_46).trans (mm_ic (mm_kb bq_37_3 ((wp_5_0).trans ((wp_60 (by decide) (mm_o1 hx)).trans ((wp_40).trans (mm_ic (mm_kb bq_37_4 ((wp_5_0).trans ((wp_62 (by decide) (mm_o1 hx) mm_r1_4).trans ((wp_5_3).trans ((wp_62 (by decide) (mm_o33 htx3 hx) (mm_r33_0 htx3)).trans ((wp_v2 mm_n_165 (mm_leq mm_m_165 (mm_lb rfl)) (mm_lb rfl) (mm_o22 mm_t26 hx)).trans rfl)))))) ((wp_1).trans (wp_90))))))) ((wp_1).trans (wp_90)))))))))))))
theorem r_37_1 (vx0 : mm_V) (vx1 : mm_V) (vx2 : mm_V) (vx3 : mm_V) (vx4 : mm_V) {hi : mm_Id → Int → Int} {dh : Int → Int} {nx ns : Int} {Q : mm_V → mm_H → Prop} (hx : 5275 ≤ nx) :
    mm_Wp 37 (mm_blk 37 1) [vx0, vx1, vx2, vx3, vx4] [] (mm_z hi dh nx ns) Q =
    Q (zI (-1)) (mm_z hi dh nx ns) :=
  mm_kb bq_37_1 ((wp_1).trans (wp_90))
theorem r_37_4_5 (vx1 : mm_V) (vx2 : mm_V) (vx3 : mm_V) {tx4 : Int} {hi : mm_Id → Int → Int} {dh : Int → Int} {nx ns : Int} {Q : mm_V → mm_H → Prop} (htx4 : mm_isS tx4) (hx : 5275 ≤ nx) :
    mm_Wp 37 (bk_37_4.drop 5) [zR (1, 0, 0), vx1, vx2, vx3, zR (33, tx4, 0)] [] (mm_z hi dh nx ns) Q =
    mm_Cl 167 [zR (22, 26, 0)] (mm_z hi dh nx ns) (fun r h3 => mm_Wp 37 (bk_37_4.drop 8) [zR (1, 0, 0), vx1, vx2, vx3, zR (33, tx4, 0)] (mm_push r []) h3 Q) :=
  (wp_5_0).trans ((wp_62 (by decide) (mm_o1 hx) mm_r1_4).trans ((wp_v1 mm_n_167 (mm_leq mm_m_167 (mm_lb rfl)) (mm_lb rfl) (mm_o22 mm_t26 hx)).trans rfl))
theorem r_37_4_8 (vx1 : mm_V) (vx2 : mm_V) (vx3 : mm_V) {tx4 : Int} {hi : mm_Id → Int → Int} {dh : Int → Int} {nx ns : Int} {Q : mm_V → mm_H → Prop} (htx4 : mm_isS tx4) (hx : 5275 ≤ nx) :
    mm_Wp 37 (bk_37_4.drop 8) [zR (1, 0, 0), vx1, vx2, vx3, zR (33, tx4, 0)] [] (mm_z hi dh nx ns) Q =
    mm_Cl 165 [zR (22, 27, 0), zR (22, (5 + tx4), 0)] (mm_z hi dh nx ns) (fun r h3 => mm_Wp 37 (bk_37_4.drop 13) [zR (1, 0, 0), vx1, vx2, vx3, zR (33, tx4, 0)] (mm_push r []) h3 Q) :=
  (wp_5_0).trans ((wp_62 (by decide) (mm_o1 hx) mm_r1_5).trans ((wp_5_4).trans ((wp_62 (by decide) (mm_o33 htx4 hx) (mm_r33_0 htx4)).trans ((wp_v2 mm_n_165 (mm_leq mm_m_165 (mm_lb rfl)) (mm_lb rfl) (mm_o22 mm_t27 hx)).trans rfl))))
theorem r_37_4_13 (vx1 : mm_V) (vx2 : mm_V) (vx3 : mm_V) (vx4 : mm_V) {hi : mm_Id → Int → Int} {dh : Int → Int} {nx ns : Int} {Q : mm_V → mm_H → Prop} (hx : 5275 ≤ nx) :
    mm_Wp 37 (bk_37_4.drop 13) [zR (1, 0, 0), vx1, vx2, vx3, vx4] [] (mm_z hi dh nx ns) Q =
    mm_Cl 167 [zR (22, 27, 0)] (mm_z hi dh nx ns) (fun r h3 => mm_Wp 37 (bk_37_4.drop 16) [zR (1, 0, 0), vx1, vx2, vx3, vx4] (mm_push r []) h3 Q) :=
  (wp_5_0).trans ((wp_62 (by decide) (mm_o1 hx) mm_r1_5).trans ((wp_v1 mm_n_167 (mm_leq mm_m_167 (mm_lb rfl)) (mm_lb rfl) (mm_o22 mm_t27 hx)).trans rfl))
theorem r_37_4_16 (vx1 : mm_V) (vx2 : mm_V) (vx3 : mm_V) (vx4 : mm_V) {hi : mm_Id → Int → Int} {dh : Int → Int} {nx ns : Int} {Q : mm_V → mm_H → Prop} (hx : 5275 ≤ nx) :
    mm_Wp 37 (bk_37_4.drop 16) [zR (1, 0, 0), vx1, vx2, vx3, vx4] [] (mm_z hi dh nx ns) Q =
    Q (zI 1) (mm_z (mm_up hi (1, 0, 0) 9 1) dh nx ns) :=
  (wp_5_0).trans ((wp_1).trans ((wp_64k (mm_o1 hx) (by decide)).trans ((wp_1).trans (wp_90))))
/-- PoolHouse.receive(I)I -/
theorem bq_38_0 : mm_blk 38 0 = bk_38_0 := by decide +kernel
theorem bq_38_1 : mm_blk 38 1 = bk_38_1 := by decide +kernel
theorem bq_38_2 : mm_blk 38 2 = bk_38_2 := by decide +kernel
theorem bq_38_3 : mm_blk 38 3 = bk_38_3 := by decide +kernel
theorem bq_38_4 : mm_blk 38 4 = bk_38_4 := by decide +kernel
theorem bq_38_5 : mm_blk 38 5 = bk_38_5 := by decide +kernel
theorem bq_38_6 : mm_blk 38 6 = bk_38_6 := by decide +kernel
theorem r_38_e (x1 : Int) {hi : mm_Id → Int → Int} {dh : Int → Int} {nx ns : Int} {Q : mm_V → mm_H → Prop} (hx : 5275 ≤ nx) :
    mm_Cl 38 [zR (1, 0, 0), zI x1] (mm_z hi dh nx ns) Q =
    mm_Cl 53 [zR (1, 0, 0), zI x1] (mm_z hi dh nx ns) (fun r h3 => mm_Wp 38 (bk_38_0.drop 3) [zR (1, 0, 0), zI x1, zU, zU, zU] (mm_push r []) h3 Q) :=
  mm_ce (l2 := [zR (1, 0, 0), zI x1, zU, zU, zU]) rfl (mm_kb bq_38_0 ((wp_5_0).trans ((wp_3_1).trans ((wp_v2 mm_n_53 (mm_leq mm_m_53 (mm_lb rfl)) (mm_lb rfl) (mm_o1 hx)).trans rfl))))
theorem r_38_0_3 (vx1 : mm_V) (vx2 : mm_V) (vx3 : mm_V) (vx4 : mm_V) {hi : mm_Id → Int → Int} {dh : Int → Int} {nx ns : Int} {Q : mm_V → mm_H → Prop} (hvx1 : mm_wt vx1 = 1) (hx : 5275 ≤ nx) :
    mm_Wp 38 (bk_38_0.drop 3) [zR (1, 0, 0), vx1, vx2, vx3, vx4] [zR mm_nul] (mm_z hi dh nx ns) Q =
    Q (zI (-1)) (mm_z hi dh nx ns) :=
  (wp_8 (l2 := [zR (1, 0, 0), vx1, zR mm_nul, vx3, vx4]) ((if_pos (mm_lb rfl)).trans (congrArg some (mm_stw rfl hvx1)))).trans ((wp_5_2).trans ((wp_55n).trans ((wp_1).trans (wp_90))))
theorem r_38_0_3a (vx1 : mm_V) (vx2 : mm_V) (vx3 : mm_V) (vx4 : mm_V) {ty0 : Int} {hi : mm_Id → Int → Int} {dh : Int → Int} {nx ns : Int} {Q : mm_V → mm_H → Prop} (hvx1 : mm_wt vx1 = 1) (hty0 : mm_isD ty0) (hx : 5275 ≤ nx) :
    mm_Wp 38 (bk_38_0.drop 3) [zR (1, 0, 0), vx1, vx2, vx3, vx4] [zR (31, ty0, 0)] (mm_z hi dh nx ns) Q =
    (if (hi (1, 0, 0) 9) = 0 then mm_Wp 38 (mm_blk 38 2) [zR (1, 0, 0), vx1, zR (31, ty0, 0), vx3, vx4] [] (mm_z hi dh nx ns) Q else mm_Cl 168 [zR (22, ty0, 0), zR (22, 26, 0)] (mm_z hi dh nx ns) (fun r h3 => mm_Wp 38 (bk_38_1.drop 8) [zR (1, 0, 0), vx1, zR (31, ty0, 0), vx3, vx4] (mm_push r []) h3 Q)) :=
  (wp_8 (l2 := [zR (1, 0, 0), vx1, zR (31, ty0, 0), vx3, vx4]) ((if_pos (mm_lb rfl)).trans (congrArg some (mm_stw rfl hvx1)))).trans ((wp_5_2).trans ((wp_55 (by decide)).trans (mm_kb bq_38_1 ((wp_5_0).trans ((wp_60 (by decide) (mm_o1 hx)).trans ((wp_40).trans (mm_ic (rfl) ((wp_5_2).trans ((wp_62 (by decide) (mm_o31 hty0 hx) (mm_r31_0 hty0)).trans ((wp_5_0).trans ((wp_62 (by decide) (mm_o1 hx) mm_r1_4).trans ((wp_v2 mm_n_168 (mm_leq mm_m_168 (mm_lb rfl)) (mm_lb rfl) (mm_o22 (mm_td hty0) hx)).trans rfl))))))))))))
theorem r_38_2 (vx0 : mm_V) (vx1 : mm_V) (vx2 : mm_V) (vx3 : mm_V) (vx4 : mm_V) {hi : mm_Id → Int → Int} {dh : Int → Int} {nx ns : Int} {Q : mm_V → mm_H → Prop} (hx : 5275 ≤ nx) :
    mm_Wp 38 (mm_blk 38 2) [vx0, vx1, vx2, vx3, vx4] [] (mm_z hi dh nx ns) Q =
    Q (zI (-3)) (mm_z hi dh nx ns) :=
  mm_kb bq_38_2 ((wp_1).trans (wp_90))
theorem r_38_1_8 (vx1 : mm_V) {tx2 : Int} (vx3 : mm_V) (vx4 : mm_V) (y0 : Int) {hi : mm_Id → Int → Int} {dh : Int → Int} {nx ns : Int} {Q : mm_V → mm_H → Prop} (htx2 : mm_isD tx2) (hx : 5275 ≤ nx) :
    mm_Wp 38 (bk_38_1.drop 8) [zR (1, 0, 0), vx1, zR (31, tx2, 0), vx3, vx4] [zI y0] (mm_z hi dh nx ns) Q =
    (if y0 = 0 then mm_Wp 38 (mm_blk 38 2) [zR (1, 0, 0), vx1, zR (31, tx2, 0), vx3, vx4] [] (mm_z hi dh nx ns) Q else (if (hi (1, 0, 0) 12) = 0 then mm_Cl 169 [zR (22, tx2, 0), zR (22, 27, 0)] (mm_z hi dh nx ns) (fun r h3 => mm_Wp 38 (bk_38_4.drop 5) [zR (1, 0, 0), vx1, zR (31, tx2, 0), vx3, vx4] (mm_push r []) h3 Q) else Q (zI (-5)) (mm_z hi dh nx ns))) :=
  (wp_41).trans (mm_ic ((wp_0).trans (rfl)) (mm_kb bq_38_3 ((wp_5_0).trans ((wp_60 (by decide) (mm_o1 hx)).trans ((wp_40).trans (mm_ic (mm_kb bq_38_4 ((wp_5_2).trans ((wp_62 (by decide) (mm_o31 htx2 hx) (mm_r31_0 htx2)).trans ((wp_5_0).trans ((wp_62 (by decide) (mm_o1 hx) mm_r1_5).trans ((wp_v2 mm_n_169 (mm_leq mm_m_169 (mm_lb rfl)) (mm_lb rfl) (mm_o22 (mm_td htx2) hx)).trans rfl)))))) ((wp_1).trans (wp_90))))))))
theorem r_38_4_5 (vx1 : mm_V) {tx2 : Int} (vx3 : mm_V) (vx4 : mm_V) (y0 : Int) {hi : mm_Id → Int → Int} {dh : Int → Int} {nx ns : Int} {Q : mm_V → mm_H → Prop} (htx2 : mm_isD tx2) (hx : 5275 ≤ nx) :
    mm_Wp 38 (bk_38_4.drop 5) [zR (1, 0, 0), vx1, zR (31, tx2, 0), vx3, vx4] [zI y0] (mm_z hi dh nx ns) Q =
    mm_Cl 170 [zR (22, tx2, 0), zR (22, 27, 0)] (mm_z hi dh nx ns) (fun r h3 => mm_Wp 38 (bk_38_4.drop 11) [zR (1, 0, 0), vx1, zR (31, tx2, 0), zI y0, vx4] (mm_push r []) h3 Q) :=
  (wp_6 (l2 := [zR (1, 0, 0), vx1, zR (31, tx2, 0), zI y0, vx4]) rfl).trans ((wp_5_2).trans ((wp_62 (by decide) (mm_o31 htx2 hx) (mm_r31_0 htx2)).trans ((wp_5_0).trans ((wp_62 (by decide) (mm_o1 hx) mm_r1_5).trans ((wp_v2 mm_n_170 (mm_leq mm_m_170 (mm_lb rfl)) (mm_lb rfl) (mm_o22 (mm_td htx2) hx)).trans rfl)))))
theorem r_38_4_11 (vx1 : mm_V) {tx2 : Int} (x3 : Int) (vx4 : mm_V) (y0 : Int) {hi : mm_Id → Int → Int} {dh : Int → Int} {nx ns : Int} {Q : mm_V → mm_H → Prop} (htx2 : mm_isD tx2) (hx : 5275 ≤ nx) :
    mm_Wp 38 (bk_38_4.drop 11) [zR (1, 0, 0), vx1, zR (31, tx2, 0), zI x3, vx4] [zI y0] (mm_z hi dh nx ns) Q =
    (if 400 < (mm_w ((mm_w ((hi (15, 0, 0) 7) - y0)) + x3)) then mm_Wp 38 (mm_blk 38 5) [zR (1, 0, 0), vx1, zR (31, tx2, 0), zI x3, zI y0] [] (mm_z hi dh nx ns) Q else mm_Cl 160 [zR (22, 27, 0)] (mm_z hi dh nx ns) (fun r h3 => mm_Wp 38 (bk_38_4.drop 24) [zR (1, 0, 0), vx1, zR (31, tx2, 0), zI x3, zI y0] (mm_push r []) h3 Q)) :=
  (wp_6 (l2 := [zR (1, 0, 0), vx1, zR (31, tx2, 0), zI x3, zI y0]) rfl).trans ((wp_5_0).trans ((wp_62 (by decide) (mm_o1 hx) mm_r1_0).trans ((wp_60 (by decide) (mm_o15 hx)).trans ((wp_3_4).trans ((wp_11).trans ((wp_3_3).trans ((wp_10).trans ((wp_1).trans ((wp_50).trans (mm_ic (rfl) ((wp_5_0).trans ((wp_62 (by decide) (mm_o1 hx) mm_r1_5).trans ((wp_v1 mm_n_160 (mm_leq mm_m_160 (mm_lb rfl)) (mm_lb rfl) (mm_o22 mm_t27 hx)).trans rfl)))))))))))))
theorem r_38_5 (vx0 : mm_V) (vx1 : mm_V) (vx2 : mm_V) (vx3 : mm_V) (vx4 : mm_V) {hi : mm_Id → Int → Int} {dh : Int → Int} {nx ns : Int} {Q : mm_V → mm_H → Prop} (hx : 5275 ≤ nx) :
    mm_Wp 38 (mm_blk 38 5) [vx0, vx1, vx2, vx3, vx4] [] (mm_z hi dh nx ns) Q =
    Q (zI (-4)) (mm_z hi dh nx ns) :=
  mm_kb bq_38_5 ((wp_1).trans (wp_90))
theorem r_38_4_24 (vx1 : mm_V) {tx2 : Int} (x3 : Int) (vx4 : mm_V) (y0 : Int) {hi : mm_Id → Int → Int} {dh : Int → Int} {nx ns : Int} {Q : mm_V → mm_H → Prop} (htx2 : mm_isD tx2) (hx : 5275 ≤ nx) :
    mm_Wp 38 (bk_38_4.drop 24) [zR (1, 0, 0), vx1, zR (31, tx2, 0), zI x3, vx4] [zI y0] (mm_z hi dh nx ns) Q =
    (if (hi (31, tx2, 0) 5) < y0 then mm_Wp 38 (mm_blk 38 5) [zR (1, 0, 0), vx1, zR (31, tx2, 0), zI x3, vx4] [] (mm_z hi dh nx ns) Q else mm_Cl 171 [zR (22, tx2, 0), zR (22, 27, 0)] (mm_z hi dh nx ns) (fun r h3 => mm_Wp 38 (bk_38_6.drop 5) [zR (1, 0, 0), vx1, zR (31, tx2, 0), zI x3, vx4] (mm_push r []) h3 Q)) :=
  (wp_5_2).trans ((wp_60 (by decide) (mm_o31 htx2 hx)).trans ((wp_51).trans (mm_ic ((wp_0).trans (rfl)) (mm_kb bq_38_6 ((wp_5_2).trans ((wp_62 (by decide) (mm_o31 htx2 hx) (mm_r31_0 htx2)).trans ((wp_5_0).trans ((wp_62 (by decide) (mm_o1 hx) mm_r1_5).trans ((wp_v2 mm_n_171 (mm_leq mm_m_171 (mm_lb rfl)) (mm_lb rfl) (mm_o22 (mm_td htx2) hx)).trans rfl)))))))))
theorem r_38_6_5 (vx1 : mm_V) {tx2 : Int} (x3 : Int) (vx4 : mm_V) {hi : mm_Id → Int → Int} {dh : Int → Int} {nx ns : Int} {Q : mm_V → mm_H → Prop} (htx2 : mm_isD tx2) (hx : 5275 ≤ nx) :
    mm_Wp 38 (bk_38_6.drop 5) [zR (1, 0, 0), vx1, zR (31, tx2, 0), zI x3, vx4] [] (mm_z hi dh nx ns) Q =
    mm_Cl 65 [zR (1, 0, 0), zR (31, tx2, 0)] (mm_z hi dh nx ns) (fun r h3 => mm_Wp 38 (bk_38_6.drop 8) [zR (1, 0, 0), vx1, zR (31, tx2, 0), zI x3, vx4] (mm_push r []) h3 Q) :=
  (wp_5_0).trans ((wp_5_2).trans ((wp_v2 mm_n_65 (mm_leq mm_m_65 (mm_lb rfl)) (mm_lb rfl) (mm_o1 hx)).trans rfl))
theorem r_38_6_8 (vx1 : mm_V) (vx2 : mm_V) (x3 : Int) (vx4 : mm_V) {hi : mm_Id → Int → Int} {dh : Int → Int} {nx ns : Int} {Q : mm_V → mm_H → Prop} (hx : 5275 ≤ nx) :
    mm_Wp 38 (bk_38_6.drop 8) [zR (1, 0, 0), vx1, vx2, zI x3, vx4] [] (mm_z hi dh nx ns) Q =
    mm_Cl 64 [zR (1, 0, 0)] (mm_z hi dh nx ns) (fun r h3 => mm_Wp 38 (bk_38_6.drop 10) [zR (1, 0, 0), vx1, vx2, zI x3, vx4] (mm_push r []) h3 Q) :=
  (wp_5_0).trans ((wp_v1 mm_n_64 (mm_leq mm_m_64 (mm_lb rfl)) (mm_lb rfl) (mm_o1 hx)).trans rfl)
theorem r_38_6_10 (vx0 : mm_V) (vx1 : mm_V) (vx2 : mm_V) (x3 : Int) (vx4 : mm_V) (y0 : Int) {hi : mm_Id → Int → Int} {dh : Int → Int} {nx ns : Int} {Q : mm_V → mm_H → Prop} (hx : 5275 ≤ nx) :
    mm_Wp 38 (bk_38_6.drop 10) [vx0, vx1, vx2, zI x3, vx4] [zI y0] (mm_z hi dh nx ns) Q =
    Q (zI x3) (mm_z hi dh nx ns) :=
  (wp_36i).trans ((wp_3_3).trans (wp_90))
/-- PoolHouse.commit()I -/
theorem bq_39_0 : mm_blk 39 0 = bk_39_0 := by decide +kernel
theorem r_39_e  {hi : mm_Id → Int → Int} {dh : Int → Int} {nx ns : Int} {Q : mm_V → mm_H → Prop} (hx : 5275 ≤ nx) :
    mm_Cl 39 [zR (1, 0, 0)] (mm_z hi dh nx ns) Q =
    mm_Cl 64 [zR (1, 0, 0)] (mm_z hi dh nx ns) (fun r h3 => mm_Wp 39 (bk_39_0.drop 2) [zR (1, 0, 0)] (mm_push r []) h3 Q) :=
  mm_ce (l2 := [zR (1, 0, 0)]) rfl (mm_kb bq_39_0 ((wp_5_0).trans ((wp_v1 mm_n_64 (mm_leq mm_m_64 (mm_lb rfl)) (mm_lb rfl) (mm_o1 hx)).trans rfl)))
theorem r_39_0_2 (vx0 : mm_V) (y0 : Int) {hi : mm_Id → Int → Int} {dh : Int → Int} {nx ns : Int} {Q : mm_V → mm_H → Prop} (hx : 5275 ≤ nx) :
    mm_Wp 39 (bk_39_0.drop 2) [vx0] [zI y0] (mm_z hi dh nx ns) Q =
    Q (zI y0) (mm_z hi dh nx ns) :=
  wp_90
/-- PoolHouse.sync()I -/
theorem bq_40_0 : mm_blk 40 0 = bk_40_0 := by decide +kernel
theorem r_40_e  {hi : mm_Id → Int → Int} {dh : Int → Int} {nx ns : Int} {Q : mm_V → mm_H → Prop} (hx : 5275 ≤ nx) :
    mm_Cl 40 [zR (1, 0, 0)] (mm_z hi dh nx ns) Q =
    mm_Cl 64 [zR (1, 0, 0)] (mm_z hi dh nx ns) (fun r h3 => mm_Wp 40 (bk_40_0.drop 2) [zR (1, 0, 0)] (mm_push r []) h3 Q) :=
  mm_ce (l2 := [zR (1, 0, 0)]) rfl (mm_kb bq_40_0 ((wp_5_0).trans ((wp_v1 mm_n_64 (mm_leq mm_m_64 (mm_lb rfl)) (mm_lb rfl) (mm_o1 hx)).trans rfl)))
theorem r_40_0_2 (vx0 : mm_V) (y0 : Int) {hi : mm_Id → Int → Int} {dh : Int → Int} {nx ns : Int} {Q : mm_V → mm_H → Prop} (hx : 5275 ≤ nx) :
    mm_Wp 40 (bk_40_0.drop 2) [vx0] [zI y0] (mm_z hi dh nx ns) Q =
    Q (zI y0) (mm_z hi dh nx ns) :=
  wp_90
/-- PoolHouse.crash(I)I -/
theorem bq_41_0 : mm_blk 41 0 = bk_41_0 := by decide +kernel
theorem bq_41_1 : mm_blk 41 1 = bk_41_1 := by decide +kernel
theorem bq_41_2 : mm_blk 41 2 = bk_41_2 := by decide +kernel
theorem bq_41_3 : mm_blk 41 3 = bk_41_3 := by decide +kernel
theorem bq_41_4 : mm_blk 41 4 = bk_41_4 := by decide +kernel
theorem bq_41_5 : mm_blk 41 5 = bk_41_5 := by decide +kernel
theorem bq_41_6 : mm_blk 41 6 = bk_41_6 := by decide +kernel
theorem bq_41_7 : mm_blk 41 7 = bk_41_7 := by decide +kernel
theorem r_41_e (x1 : Int) {hi : mm_Id → Int → Int} {dh : Int → Int} {nx ns : Int} {Q : mm_V → mm_H → Prop} (hx : 5275 ≤ nx) :
    mm_Cl 41 [zR (1, 0, 0), zI x1] (mm_z hi dh nx ns) Q =
    (if x1 < 0 then mm_Wp 41 (mm_blk 41 1) [zR (1, 0, 0), zI x1, zU, zU, zU] [] (mm_z hi dh nx ns) Q else (if 4 < x1 then mm_Wp 41 (mm_blk 41 1) [zR (1, 0, 0), zI x1, zU, zU, zU] [] (mm_z hi dh nx ns) Q else (if x1 = 4 then mm_Cl 64 [zR (1, 0, 0)] (mm_z hi dh nx ns) (fun r h3 => mm_Wp 41 (bk_41_2.drop 5) [zR (1, 0, 0), zI x1, zU, zU, zU] (mm_push r []) h3 Q) else mm_Wp 41 (mm_blk 41 3) [zR (1, 0, 0), zI x1, zU, zU, zU] [] (mm_z hi dh nx ns) Q))) :=
  mm_ce (l2 := [zR (1, 0, 0), zI x1, zU, zU, zU]) rfl (mm_kb bq_41_0 ((wp_3_1).trans ((wp_42).trans (mm_ic (rfl) ((wp_3_1).trans ((wp_1).trans ((wp_51).trans (mm_ic ((wp_0).trans (rfl)) (mm_kb bq_41_2 ((wp_3_1).trans ((wp_1).trans ((wp_47).trans (mm_ic ((wp_5_0).trans ((wp_v1 mm_n_64 (mm_leq mm_m_64 (mm_lb rfl)) (mm_lb rfl) (mm_o1 hx)).trans rfl)) (rfl))))))))))))))
theorem r_41_1 (vx0 : mm_V) (vx1 : mm_V) (vx2 : mm_V) (vx3 : mm_V) (vx4 : mm_V) {hi : mm_Id → Int → Int} {dh : Int → Int} {nx ns : Int} {Q : mm_V → mm_H → Prop} (hx : 5275 ≤ nx) :
    mm_Wp 41 (mm_blk 41 1) [vx0, vx1, vx2, vx3, vx4] [] (mm_z hi dh nx ns) Q =
    Q (zI (-2)) (mm_z hi dh nx ns) :=
  mm_kb bq_41_1 ((wp_1).trans (wp_90))
theorem r_41_3 (vx1 : mm_V) (vx2 : mm_V) (vx3 : mm_V) (vx4 : mm_V) {hi : mm_Id → Int → Int} {dh : Int → Int} {nx ns : Int} {Q : mm_V → mm_H → Prop} (hvx1 : mm_wt vx1 = 1) (hx : 5275 ≤ nx) :
    mm_Wp 41 (mm_blk 41 3) [zR (1, 0, 0), vx1, vx2, vx3, vx4] [] (mm_z hi dh nx ns) Q =
    mm_Wp 41 (mm_blk 41 4) [zR (1, 0, 0), vx1, zI (hi (1, 0, 0) 13), zI 0, vx4] [] (mm_z hi dh nx ns) Q :=
  mm_kb bq_41_3 ((wp_5_0).trans ((wp_60 (by decide) (mm_o1 hx)).trans ((wp_6 (l2 := [zR (1, 0, 0), vx1, zI (hi (1, 0, 0) 13), vx3, vx4]) ((if_pos (mm_lb rfl)).trans (congrArg some (mm_stw rfl hvx1)))).trans ((wp_1).trans ((wp_6 (l2 := [zR (1, 0, 0), vx1, zI (hi (1, 0, 0) 13), zI 0, vx4]) rfl).trans ((wp_0).trans (rfl)))))))
theorem r_41_2_5 (vx1 : mm_V) (vx2 : mm_V) (vx3 : mm_V) (vx4 : mm_V) (y0 : Int) {hi : mm_Id → Int → Int} {dh : Int → Int} {nx ns : Int} {Q : mm_V → mm_H → Prop} (hx : 5275 ≤ nx) :
    mm_Wp 41 (bk_41_2.drop 5) [zR (1, 0, 0), vx1, vx2, vx3, vx4] [zI y0] (mm_z hi dh nx ns) Q =
    mm_Wp 41 (mm_blk 41 3) [zR (1, 0, 0), vx1, vx2, vx3, vx4] [] (mm_z hi dh nx ns) Q :=
  (wp_36i).trans ((wp_0).trans (rfl))
theorem r_41_4 (vx1 : mm_V) (x2 : Int) (x3 : Int) (vx4 : mm_V) {hi : mm_Id → Int → Int} {dh : Int → Int} {nx ns : Int} {Q : mm_V → mm_H → Prop} (hx : 5275 ≤ nx) :
    mm_Wp 41 (mm_blk 41 4) [zR (1, 0, 0), vx1, zI x2, zI x3, vx4] [] (mm_z hi dh nx ns) Q =
    (if x3 < 5 then ((0 ≤ x3 ∧ x3 < 5) ∧ (if (hi (31, x3, 0) 6) = 0 then mm_Wp 41 (mm_blk 41 5) [zR (1, 0, 0), vx1, zI x2, zI x3, zR (31, x3, 0)] [] (mm_z hi dh nx ns) Q else mm_Cl 165 [zR (22, x3, 0), zR (22, (13 + x3), 0)] (mm_z hi dh nx ns) (fun r h3 => mm_Wp 41 (bk_41_4.drop 16) [zR (1, 0, 0), vx1, zI x2, zI x3, zR (31, x3, 0)] (mm_push r []) h3 Q))) else mm_Cl 64 [zR (1, 0, 0)] (mm_z hi dh nx ns) (fun r h3 => mm_Wp 41 (bk_41_7.drop 2) [zR (1, 0, 0), vx1, zI x2, zI x3, vx4] (mm_push r []) h3 Q)) :=
  mm_kb bq_41_4 ((wp_3_3).trans ((wp_1).trans ((wp_49).trans (mm_ic ((wp_5_0).trans ((wp_62 (by decide) (mm_o1 hx) mm_r1_1).trans ((wp_3_3).trans ((wp_73 (mm_q2 hx) (by decide) (fun q => mm_a2 q)).trans (mm_acd fun h1 => (wp_8 (l2 := [zR (1, 0, 0), vx1, zI x2, zI x3, zR (31, x3, 0)]) rfl).trans ((wp_5_4).trans ((wp_60 (by decide) (mm_o31 h1 hx)).trans ((wp_40).trans (mm_ic (rfl) ((wp_5_4).trans ((wp_62 (by decide) (mm_o31 h1 hx) (mm_r31_0 h1)).trans ((wp_5_4).trans ((wp_62 (by decide) (mm_o31 h1 hx) (mm_r31_1 h1)).trans ((wp_v2 mm_n_165 (mm_leq mm_m_165 (mm_lb rfl)) (mm_lb rfl) (mm_o22 (mm_td h1) hx)).trans rfl)))))))))))))) (mm_kb bq_41_7 ((wp_5_0).trans ((wp_v1 mm_n_64 (mm_leq mm_m_64 (mm_lb rfl)) (mm_lb rfl) (mm_o1 hx)).trans rfl)))))))
theorem r_41_7_2 (vx1 : mm_V) (x2 : Int) (vx3 : mm_V) (vx4 : mm_V) (y0 : Int) {hi : mm_Id → Int → Int} {dh : Int → Int} {nx ns : Int} {Q : mm_V → mm_H → Prop} (hx : 5275 ≤ nx) :
    mm_Wp 41 (bk_41_7.drop 2) [zR (1, 0, 0), vx1, zI x2, vx3, vx4] [zI y0] (mm_z hi dh nx ns) Q =
    mm_Cl 119 [zR (5, 0, 0)] (mm_z (mm_up hi (1, 0, 0) 12 0) dh nx ns) (fun r h3 => mm_Wp 41 (bk_41_7.drop 9) [zR (1, 0, 0), vx1, zI x2, vx3, vx4] (mm_push r []) h3 Q) :=
  (wp_36i).trans ((wp_5_0).trans ((wp_1).trans ((wp_63 (mm_o1 hx)).trans ((wp_5_0).trans ((wp_62 (by decide) (mm_o1 hx) mm_r1_6).trans ((wp_v1 mm_n_119 (mm_leq mm_m_119 (mm_lb rfl)) (mm_lb rfl) (mm_o5 hx)).trans rfl))))))
theorem r_41_5 (vx1 : mm_V) (x2 : Int) (x3 : Int) {tx4 : Int} {hi : mm_Id → Int → Int} {dh : Int → Int} {nx ns : Int} {Q : mm_V → mm_H → Prop} (htx4 : mm_isD tx4) (hx : 5275 ≤ nx) :
    mm_Wp 41 (mm_blk 41 5) [zR (1, 0, 0), vx1, zI x2, zI x3, zR (31, tx4, 0)] [] (mm_z hi dh nx ns) Q =
    (if (hi (31, tx4, 0) 3) = 0 then mm_Wp 41 (mm_blk 41 6) [zR (1, 0, 0), vx1, zI x2, zI x3, zR (31, tx4, 0)] [] (mm_z hi dh nx ns) Q else mm_Cl 65 [zR (1, 0, 0), zR (31, tx4, 0)] (mm_z hi dh nx ns) (fun r h3 => mm_Wp 41 (bk_41_5.drop 6) [zR (1, 0, 0), vx1, zI x2, zI x3, zR (31, tx4, 0)] (mm_push r []) h3 Q)) :=
  mm_kb bq_41_5 ((wp_5_4).trans ((wp_60 (by decide) (mm_o31 htx4 hx)).trans ((wp_40).trans (mm_ic (rfl) ((wp_5_0).trans ((wp_5_4).trans ((wp_v2 mm_n_65 (mm_leq mm_m_65 (mm_lb rfl)) (mm_lb rfl) (mm_o1 hx)).trans rfl)))))))
theorem r_41_4_16 (vx1 : mm_V) (x2 : Int) (x3 : Int) {tx4 : Int} {hi : mm_Id → Int → Int} {dh : Int → Int} {nx ns : Int} {Q : mm_V → mm_H → Prop} (htx4 : mm_isD tx4) (hx : 5275 ≤ nx) :
    mm_Wp 41 (bk_41_4.drop 16) [zR (1, 0, 0), vx1, zI x2, zI x3, zR (31, tx4, 0)] [] (mm_z hi dh nx ns) Q =
    mm_Wp 41 (mm_blk 41 5) [zR (1, 0, 0), vx1, zI x2, zI x3, zR (31, tx4, 0)] [] (mm_z hi dh nx ns) Q :=
  (wp_0).trans (rfl)
theorem r_41_7_9 (vx1 : mm_V) (x2 : Int) (vx3 : mm_V) (vx4 : mm_V) {hi : mm_Id → Int → Int} {dh : Int → Int} {nx ns : Int} {Q : mm_V → mm_H → Prop} (hx : 5275 ≤ nx) :
    mm_Wp 41 (bk_41_7.drop 9) [zR (1, 0, 0), vx1, zI x2, vx3, vx4] [] (mm_z hi dh nx ns) Q =
    mm_Cl 166 [zR (22, 26, 0)] (mm_z (mm_up hi (1, 0, 0) 9 0) dh nx ns) (fun r h3 => mm_Wp 41 (bk_41_7.drop 15) [zR (1, 0, 0), vx1, zI x2, vx3, vx4] (mm_push r []) h3 Q) :=
  (wp_5_0).trans ((wp_1).trans ((wp_64k (mm_o1 hx) (by decide)).trans ((wp_5_0).trans ((wp_62 (by decide) (mm_o1 hx) mm_r1_4).trans ((wp_v1 mm_n_166 (mm_leq mm_m_166 (mm_lb rfl)) (mm_lb rfl) (mm_o22 mm_t26 hx)).trans rfl)))))
theorem r_41_6 (vx1 : mm_V) (x2 : Int) (x3 : Int) (vx4 : mm_V) {hi : mm_Id → Int → Int} {dh : Int → Int} {nx ns : Int} {Q : mm_V → mm_H → Prop} (hx : 5275 ≤ nx) :
    mm_Wp 41 (mm_blk 41 6) [zR (1, 0, 0), vx1, zI x2, zI x3, vx4] [] (mm_z hi dh nx ns) Q =
    mm_Wp 41 (mm_blk 41 4) [zR (1, 0, 0), vx1, zI x2, zI (mm_w (x3 + 1)), vx4] [] (mm_z hi dh nx ns) Q :=
  mm_kb bq_41_6 ((wp_9 (l2 := [zR (1, 0, 0), vx1, zI x2, zI (mm_w (x3 + 1)), vx4]) rfl rfl).trans ((wp_56).trans (rfl)))
theorem r_41_5_6 (vx1 : mm_V) (x2 : Int) (x3 : Int) (vx4 : mm_V) {hi : mm_Id → Int → Int} {dh : Int → Int} {nx ns : Int} {Q : mm_V → mm_H → Prop} (hx : 5275 ≤ nx) :
    mm_Wp 41 (bk_41_5.drop 6) [zR (1, 0, 0), vx1, zI x2, zI x3, vx4] [] (mm_z hi dh nx ns) Q =
    mm_Wp 41 (mm_blk 41 6) [zR (1, 0, 0), vx1, zI x2, zI x3, vx4] [] (mm_z hi dh nx ns) Q :=
  (wp_0).trans (rfl)
theorem r_41_7_15 (vx1 : mm_V) (x2 : Int) (vx3 : mm_V) (vx4 : mm_V) {hi : mm_Id → Int → Int} {dh : Int → Int} {nx ns : Int} {Q : mm_V → mm_H → Prop} (hx : 5275 ≤ nx) :
    mm_Wp 41 (bk_41_7.drop 15) [zR (1, 0, 0), vx1, zI x2, vx3, vx4] [] (mm_z hi dh nx ns) Q =
    mm_Cl 166 [zR (22, 27, 0)] (mm_z hi dh nx ns) (fun r h3 => mm_Wp 41 (bk_41_7.drop 18) [zR (1, 0, 0), vx1, zI x2, vx3, vx4] (mm_push r []) h3 Q) :=
  (wp_5_0).trans ((wp_62 (by decide) (mm_o1 hx) mm_r1_5).trans ((wp_v1 mm_n_166 (mm_leq mm_m_166 (mm_lb rfl)) (mm_lb rfl) (mm_o22 mm_t27 hx)).trans rfl))
theorem r_41_7_18 (vx0 : mm_V) (vx1 : mm_V) (x2 : Int) (vx3 : mm_V) (vx4 : mm_V) {hi : mm_Id → Int → Int} {dh : Int → Int} {nx ns : Int} {Q : mm_V → mm_H → Prop} (hx : 5275 ≤ nx) :
    mm_Wp 41 (bk_41_7.drop 18) [vx0, vx1, zI x2, vx3, vx4] [] (mm_z hi dh nx ns) Q =
    Q (zI x2) (mm_z hi dh nx ns) :=
  (wp_3_2).trans (wp_90)
/-- PoolHouse.oddities()I -/
theorem bq_52_0 : mm_blk 52 0 = bk_52_0 := by decide +kernel
theorem bq_52_1 : mm_blk 52 1 = bk_52_1 := by decide +kernel
theorem bq_52_2 : mm_blk 52 2 = bk_52_2 := by decide +kernel
theorem bq_52_3 : mm_blk 52 3 = bk_52_3 := by decide +kernel
theorem bq_52_4 : mm_blk 52 4 = bk_52_4 := by decide +kernel
theorem r_52_e  {hi : mm_Id → Int → Int} {dh : Int → Int} {nx ns : Int} {Q : mm_V → mm_H → Prop} (hx : 5275 ≤ nx) :
    mm_Cl 52 [zR (1, 0, 0)] (mm_z hi dh nx ns) Q =
    mm_Cl 134 [zR (15, 0, 0)] (mm_z hi dh nx ns) (fun r h3 => mm_Wp 52 (bk_52_0.drop 3) [zR (1, 0, 0), zU] (mm_push r []) h3 Q) :=
  mm_ce (l2 := [zR (1, 0, 0), zU]) rfl (mm_kb bq_52_0 ((wp_5_0).trans ((wp_62 (by decide) (mm_o1 hx) mm_r1_0).trans ((wp_v1 mm_n_134 (mm_leq mm_m_134 (mm_lb rfl)) (mm_lb rfl) (mm_o15 hx)).trans rfl))))
theorem r_52_0_3 (vx1 : mm_V) {hi : mm_Id → Int → Int} {dh : Int → Int} {nx ns : Int} {Q : mm_V → mm_H → Prop} (hx : 5275 ≤ nx) :
    mm_Wp 52 (bk_52_0.drop 3) [zR (1, 0, 0), vx1] [] (mm_z hi dh nx ns) Q =
    mm_Wp 52 (mm_blk 52 1) [zR (1, 0, 0), zI 0] [] (mm_z hi dh nx ns) Q :=
  (wp_1).trans ((wp_6 (l2 := [zR (1, 0, 0), zI 0]) rfl).trans ((wp_0).trans (rfl)))
theorem r_52_1 (x1 : Int) {hi : mm_Id → Int → Int} {dh : Int → Int} {nx ns : Int} {Q : mm_V → mm_H → Prop} (hx : 5275 ≤ nx) :
    mm_Wp 52 (mm_blk 52 1) [zR (1, 0, 0), zI x1] [] (mm_z hi dh nx ns) Q =
    (if x1 < 5 then ((0 ≤ x1 ∧ x1 < 5) ∧ mm_Cl 172 [zR (22, x1, 0)] (mm_z hi dh nx ns) (fun r h3 => mm_Wp 52 (bk_52_1.drop 9) [zR (1, 0, 0), zI x1] (mm_push r []) h3 Q)) else mm_Wp 52 (mm_blk 52 3) [zR (1, 0, 0), zI 0] [] (mm_z hi dh nx ns) Q) :=
  mm_kb bq_52_1 ((wp_3_1).trans ((wp_1).trans ((wp_49).trans (mm_ic ((wp_5_0).trans ((wp_62 (by decide) (mm_o1 hx) mm_r1_1).trans ((wp_3_1).trans ((wp_73 (mm_q2 hx) (by decide) (fun q => mm_a2 q)).trans (mm_acd fun h1 => (wp_62 (by decide) (mm_o31 h1 hx) (mm_r31_0 h1)).trans ((wp_v1 mm_n_172 (mm_leq mm_m_172 (mm_lb rfl)) (mm_lb rfl) (mm_o22 (mm_td h1) hx)).trans rfl)))))) (mm_kb bq_52_2 ((wp_1).trans ((wp_6 (l2 := [zR (1, 0, 0), zI 0]) rfl).trans ((wp_0).trans (rfl)))))))))
theorem r_52_3 (x1 : Int) {hi : mm_Id → Int → Int} {dh : Int → Int} {nx ns : Int} {Q : mm_V → mm_H → Prop} (hx : 5275 ≤ nx) :
    mm_Wp 52 (mm_blk 52 3) [zR (1, 0, 0), zI x1] [] (mm_z hi dh nx ns) Q =
    (if x1 < 8 then ((0 ≤ x1 ∧ x1 < 8) ∧ mm_Cl 172 [zR (22, (5 + x1), 0)] (mm_z hi dh nx ns) (fun r h3 => mm_Wp 52 (bk_52_3.drop 9) [zR (1, 0, 0), zI x1] (mm_push r []) h3 Q)) else mm_Cl 172 [zR (22, 26, 0)] (mm_z hi dh nx ns) (fun r h3 => mm_Wp 52 (bk_52_4.drop 3) [zR (1, 0, 0), zI x1] (mm_push r []) h3 Q)) :=
  mm_kb bq_52_3 ((wp_3_1).trans ((wp_1).trans ((wp_49).trans (mm_ic ((wp_5_0).trans ((wp_62 (by decide) (mm_o1 hx) mm_r1_2).trans ((wp_3_1).trans ((wp_73 (mm_q3 hx) (by decide) (fun q => mm_a3 q)).trans (mm_acd fun h1 => (wp_62 (by decide) (mm_o33 h1 hx) (mm_r33_0 h1)).trans ((wp_v1 mm_n_172 (mm_leq mm_m_172 (mm_lb rfl)) (mm_lb rfl) (mm_o22 (mm_ts h1) hx)).trans rfl)))))) (mm_kb bq_52_4 ((wp_5_0).trans ((wp_62 (by decide) (mm_o1 hx) mm_r1_4).trans ((wp_v1 mm_n_172 (mm_leq mm_m_172 (mm_lb rfl)) (mm_lb rfl) (mm_o22 mm_t26 hx)).trans rfl))))))))
theorem r_52_1_9 (x1 : Int) {hi : mm_Id → Int → Int} {dh : Int → Int} {nx ns : Int} {Q : mm_V → mm_H → Prop} (hx : 5275 ≤ nx) :
    mm_Wp 52 (bk_52_1.drop 9) [zR (1, 0, 0), zI x1] [] (mm_z hi dh nx ns) Q =
    ((0 ≤ x1 ∧ x1 < 5) ∧ mm_Cl 172 [zR (22, (13 + x1), 0)] (mm_z hi dh nx ns) (fun r h3 => mm_Wp 52 (bk_52_1.drop 15) [zR (1, 0, 0), zI x1] (mm_push r []) h3 Q)) :=
  (wp_5_0).trans ((wp_62 (by decide) (mm_o1 hx) mm_r1_1).trans ((wp_3_1).trans ((wp_73 (mm_q2 hx) (by decide) (fun q => mm_a2 q)).trans (mm_acd fun h1 => (wp_62 (by decide) (mm_o31 h1 hx) (mm_r31_1 h1)).trans ((wp_v1 mm_n_172 (mm_leq mm_m_172 (mm_lb rfl)) (mm_lb rfl) (mm_o22 (mm_tk h1) hx)).trans rfl)))))
theorem r_52_4_3 (vx1 : mm_V) {hi : mm_Id → Int → Int} {dh : Int → Int} {nx ns : Int} {Q : mm_V → mm_H → Prop} (hx : 5275 ≤ nx) :
    mm_Wp 52 (bk_52_4.drop 3) [zR (1, 0, 0), vx1] [] (mm_z hi dh nx ns) Q =
    mm_Cl 172 [zR (22, 27, 0)] (mm_z hi dh nx ns) (fun r h3 => mm_Wp 52 (bk_52_4.drop 6) [zR (1, 0, 0), vx1] (mm_push r []) h3 Q) :=
  (wp_5_0).trans ((wp_62 (by decide) (mm_o1 hx) mm_r1_5).trans ((wp_v1 mm_n_172 (mm_leq mm_m_172 (mm_lb rfl)) (mm_lb rfl) (mm_o22 mm_t27 hx)).trans rfl))
theorem r_52_3_9 (x1 : Int) {hi : mm_Id → Int → Int} {dh : Int → Int} {nx ns : Int} {Q : mm_V → mm_H → Prop} (hx : 5275 ≤ nx) :
    mm_Wp 52 (bk_52_3.drop 9) [zR (1, 0, 0), zI x1] [] (mm_z hi dh nx ns) Q =
    mm_Wp 52 (mm_blk 52 3) [zR (1, 0, 0), zI (mm_w (x1 + 1))] [] (mm_z hi dh nx ns) Q :=
  (wp_9 (l2 := [zR (1, 0, 0), zI (mm_w (x1 + 1))]) rfl rfl).trans ((wp_56).trans (rfl))
theorem r_52_1_15 (x1 : Int) {hi : mm_Id → Int → Int} {dh : Int → Int} {nx ns : Int} {Q : mm_V → mm_H → Prop} (hx : 5275 ≤ nx) :
    mm_Wp 52 (bk_52_1.drop 15) [zR (1, 0, 0), zI x1] [] (mm_z hi dh nx ns) Q =
    mm_Wp 52 (mm_blk 52 1) [zR (1, 0, 0), zI (mm_w (x1 + 1))] [] (mm_z hi dh nx ns) Q :=
  (wp_9 (l2 := [zR (1, 0, 0), zI (mm_w (x1 + 1))]) rfl rfl).trans ((wp_56).trans (rfl))
theorem r_52_4_6 (vx1 : mm_V) {hi : mm_Id → Int → Int} {dh : Int → Int} {nx ns : Int} {Q : mm_V → mm_H → Prop} (hx : 5275 ≤ nx) :
    mm_Wp 52 (bk_52_4.drop 6) [zR (1, 0, 0), vx1] [] (mm_z hi dh nx ns) Q =
    mm_Cl 136 [zR (15, 0, 0)] (mm_z hi dh nx ns) (fun r h3 => mm_Wp 52 (bk_52_4.drop 9) [zR (1, 0, 0), vx1] (mm_push r []) h3 Q) :=
  (wp_5_0).trans ((wp_62 (by decide) (mm_o1 hx) mm_r1_0).trans ((wp_v1 mm_n_136 (mm_leq mm_m_136 (mm_lb rfl)) (mm_lb rfl) (mm_o15 hx)).trans rfl))
theorem r_52_4_9 (vx0 : mm_V) (vx1 : mm_V) (y0 : Int) {hi : mm_Id → Int → Int} {dh : Int → Int} {nx ns : Int} {Q : mm_V → mm_H → Prop} (hx : 5275 ≤ nx) :
    mm_Wp 52 (bk_52_4.drop 9) [vx0, vx1] [zI y0] (mm_z hi dh nx ns) Q =
    Q (zI y0) (mm_z hi dh nx ns) :=
  wp_90
/-- PoolHouse.datasetOf(I)LPoolHouse$Dataset; -/
theorem bq_53_0 : mm_blk 53 0 = bk_53_0 := by decide +kernel
theorem bq_53_1 : mm_blk 53 1 = bk_53_1 := by decide +kernel
theorem bq_53_2 : mm_blk 53 2 = bk_53_2 := by decide +kernel
theorem bq_53_3 : mm_blk 53 3 = bk_53_3 := by decide +kernel
theorem r_53_e (x1 : Int) {hi : mm_Id → Int → Int} {dh : Int → Int} {nx ns : Int} {Q : mm_V → mm_H → Prop} (hx : 5275 ≤ nx) :
    mm_Cl 53 [zR (1, 0, 0), zI x1] (mm_z hi dh nx ns) Q =
    mm_Wp 53 (mm_blk 53 1) [zR (1, 0, 0), zI x1, zI 0] [] (mm_z hi dh nx ns) Q :=
  mm_ce (l2 := [zR (1, 0, 0), zI x1, zU]) rfl (mm_kb bq_53_0 ((wp_1).trans ((wp_6 (l2 := [zR (1, 0, 0), zI x1, zI 0]) rfl).trans ((wp_0).trans (rfl)))))
theorem r_53_1 (x1 : Int) (x2 : Int) {hi : mm_Id → Int → Int} {dh : Int → Int} {nx ns : Int} {Q : mm_V → mm_H → Prop} (hx : 5275 ≤ nx) :
    mm_Wp 53 (mm_blk 53 1) [zR (1, 0, 0), zI x1, zI x2] [] (mm_z hi dh nx ns) Q =
    (if 0 < x1 then (if x2 < 5 then ((0 ≤ x2 ∧ x2 < 5) ∧ (if (hi (31, x2, 0) 3) = x1 then ((0 ≤ x2 ∧ x2 < 5) ∧ Q (zR (31, x2, 0)) (mm_z hi dh nx ns)) else mm_Wp 53 (mm_blk 53 1) [zR (1, 0, 0), zI x1, zI (mm_w (x2 + 1))] [] (mm_z hi dh nx ns) Q)) else mm_Wp 53 (mm_blk 53 3) [zR (1, 0, 0), zI x1, zI x2] [] (mm_z hi dh nx ns) Q) else mm_Wp 53 (mm_blk 53 3) [zR (1, 0, 0), zI x1, zI x2] [] (mm_z hi dh nx ns) Q) :=
  mm_kb bq_53_1 ((wp_3_1).trans ((wp_45).trans (mm_ic ((wp_3_2).trans ((wp_1).trans ((wp_49).trans (mm_ic ((wp_5_0).trans ((wp_62 (by decide) (mm_o1 hx) mm_r1_1).trans ((wp_3_2).trans ((wp_73 (mm_q2 hx) (by decide) (fun q => mm_a2 q)).trans (mm_acd fun h1 => (wp_60 (by decide) (mm_o31 h1 hx)).trans ((wp_3_1).trans ((wp_47).trans (mm_ic ((wp_5_0).trans ((wp_62 (by decide) (mm_o1 hx) mm_r1_1).trans ((wp_3_2).trans ((wp_73 (mm_q2 hx) (by decide) (fun q => mm_a2 q)).trans (mm_acd fun h2 => wp_92))))) (mm_kb bq_53_2 ((wp_9 (l2 := [zR (1, 0, 0), zI x1, zI (mm_w (x2 + 1))]) rfl rfl).trans ((wp_56).trans (rfl)))))))))))) (rfl))))) (rfl))))
theorem r_53_3 (vx0 : mm_V) (vx1 : mm_V) (vx2 : mm_V) {hi : mm_Id → Int → Int} {dh : Int → Int} {nx ns : Int} {Q : mm_V → mm_H → Prop} (hx : 5275 ≤ nx) :
    mm_Wp 53 (mm_blk 53 3) [vx0, vx1, vx2] [] (mm_z hi dh nx ns) Q =
    Q (zR mm_nul) (mm_z hi dh nx ns) :=
  mm_kb bq_53_3 ((wp_38).trans (wp_92))
/-- PoolHouse.snapshotOf(I)LPoolHouse$Snapshot; -/
theorem bq_54_0 : mm_blk 54 0 = bk_54_0 := by decide +kernel
theorem bq_54_1 : mm_blk 54 1 = bk_54_1 := by decide +kernel
theorem bq_54_2 : mm_blk 54 2 = bk_54_2 := by decide +kernel
theorem bq_54_3 : mm_blk 54 3 = bk_54_3 := by decide +kernel
theorem r_54_e (x1 : Int) {hi : mm_Id → Int → Int} {dh : Int → Int} {nx ns : Int} {Q : mm_V → mm_H → Prop} (hx : 5275 ≤ nx) :
    mm_Cl 54 [zR (1, 0, 0), zI x1] (mm_z hi dh nx ns) Q =
    mm_Wp 54 (mm_blk 54 1) [zR (1, 0, 0), zI x1, zI 0] [] (mm_z hi dh nx ns) Q :=
  mm_ce (l2 := [zR (1, 0, 0), zI x1, zU]) rfl (mm_kb bq_54_0 ((wp_1).trans ((wp_6 (l2 := [zR (1, 0, 0), zI x1, zI 0]) rfl).trans ((wp_0).trans (rfl)))))
theorem r_54_1 (x1 : Int) (x2 : Int) {hi : mm_Id → Int → Int} {dh : Int → Int} {nx ns : Int} {Q : mm_V → mm_H → Prop} (hx : 5275 ≤ nx) :
    mm_Wp 54 (mm_blk 54 1) [zR (1, 0, 0), zI x1, zI x2] [] (mm_z hi dh nx ns) Q =
    (if 0 < x1 then (if x2 < 8 then ((0 ≤ x2 ∧ x2 < 8) ∧ (if (hi (33, x2, 0) 1) = x1 then ((0 ≤ x2 ∧ x2 < 8) ∧ Q (zR (33, x2, 0)) (mm_z hi dh nx ns)) else mm_Wp 54 (mm_blk 54 1) [zR (1, 0, 0), zI x1, zI (mm_w (x2 + 1))] [] (mm_z hi dh nx ns) Q)) else mm_Wp 54 (mm_blk 54 3) [zR (1, 0, 0), zI x1, zI x2] [] (mm_z hi dh nx ns) Q) else mm_Wp 54 (mm_blk 54 3) [zR (1, 0, 0), zI x1, zI x2] [] (mm_z hi dh nx ns) Q) :=
  mm_kb bq_54_1 ((wp_3_1).trans ((wp_45).trans (mm_ic ((wp_3_2).trans ((wp_1).trans ((wp_49).trans (mm_ic ((wp_5_0).trans ((wp_62 (by decide) (mm_o1 hx) mm_r1_2).trans ((wp_3_2).trans ((wp_73 (mm_q3 hx) (by decide) (fun q => mm_a3 q)).trans (mm_acd fun h1 => (wp_60 (by decide) (mm_o33 h1 hx)).trans ((wp_3_1).trans ((wp_47).trans (mm_ic ((wp_5_0).trans ((wp_62 (by decide) (mm_o1 hx) mm_r1_2).trans ((wp_3_2).trans ((wp_73 (mm_q3 hx) (by decide) (fun q => mm_a3 q)).trans (mm_acd fun h2 => wp_92))))) (mm_kb bq_54_2 ((wp_9 (l2 := [zR (1, 0, 0), zI x1, zI (mm_w (x2 + 1))]) rfl rfl).trans ((wp_56).trans (rfl)))))))))))) (rfl))))) (rfl))))
theorem r_54_3 (vx0 : mm_V) (vx1 : mm_V) (vx2 : mm_V) {hi : mm_Id → Int → Int} {dh : Int → Int} {nx ns : Int} {Q : mm_V → mm_H → Prop} (hx : 5275 ≤ nx) :
    mm_Wp 54 (mm_blk 54 3) [vx0, vx1, vx2] [] (mm_z hi dh nx ns) Q =
    Q (zR mm_nul) (mm_z hi dh nx ns) :=
  mm_kb bq_54_3 ((wp_38).trans (wp_92))
/-- PoolHouse.treeOf(I)LPoolHouse$Tree; -/
theorem bq_55_0 : mm_blk 55 0 = bk_55_0 := by decide +kernel
theorem bq_55_1 : mm_blk 55 1 = bk_55_1 := by decide +kernel
theorem bq_55_2 : mm_blk 55 2 = bk_55_2 := by decide +kernel
theorem bq_55_3 : mm_blk 55 3 = bk_55_3 := by decide +kernel
theorem bq_55_4 : mm_blk 55 4 = bk_55_4 := by decide +kernel
theorem bq_55_5 : mm_blk 55 5 = bk_55_5 := by decide +kernel
theorem r_55_e (x1 : Int) {hi : mm_Id → Int → Int} {dh : Int → Int} {nx ns : Int} {Q : mm_V → mm_H → Prop} (hx : 5275 ≤ nx) :
    mm_Cl 55 [zR (1, 0, 0), zI x1] (mm_z hi dh nx ns) Q =
    mm_Cl 53 [zR (1, 0, 0), zI x1] (mm_z hi dh nx ns) (fun r h3 => mm_Wp 55 (bk_55_0.drop 3) [zR (1, 0, 0), zI x1, zU, zU] (mm_push r []) h3 Q) :=
  mm_ce (l2 := [zR (1, 0, 0), zI x1, zU, zU]) rfl (mm_kb bq_55_0 ((wp_5_0).trans ((wp_3_1).trans ((wp_v2 mm_n_53 (mm_leq mm_m_53 (mm_lb rfl)) (mm_lb rfl) (mm_o1 hx)).trans rfl))))
theorem r_55_0_3 (x1 : Int) (vx2 : mm_V) (vx3 : mm_V) {hi : mm_Id → Int → Int} {dh : Int → Int} {nx ns : Int} {Q : mm_V → mm_H → Prop} (hx : 5275 ≤ nx) :
    mm_Wp 55 (bk_55_0.drop 3) [zR (1, 0, 0), zI x1, vx2, vx3] [zR mm_nul] (mm_z hi dh nx ns) Q =
    (if x1 < 0 then mm_Cl 54 [zR (1, 0, 0), zI (mm_w (-x1))] (mm_z hi dh nx ns) (fun r h3 => mm_Wp 55 (bk_55_1.drop 6) [zR (1, 0, 0), zI x1, zR mm_nul, vx3] (mm_push r []) h3 Q) else mm_Wp 55 (mm_blk 55 3) [zR (1, 0, 0), zI x1, zR mm_nul, vx3] [zR mm_nul] (mm_z hi dh nx ns) Q) :=
  (wp_8 (l2 := [zR (1, 0, 0), zI x1, zR mm_nul, vx3]) rfl).trans ((wp_5_2).trans ((wp_54n).trans (mm_kb bq_55_1 ((wp_3_1).trans ((wp_43).trans (mm_ic ((wp_5_0).trans ((wp_3_1).trans ((wp_15).trans ((wp_v2 mm_n_54 (mm_leq mm_m_54 (mm_lb rfl)) (mm_lb rfl) (mm_o1 hx)).trans rfl)))) (mm_kb bq_55_2 ((wp_38).trans ((wp_0).trans (rfl))))))))))
theorem r_55_0_3a (x1 : Int) (vx2 : mm_V) (vx3 : mm_V) {ty0 : Int} {hi : mm_Id → Int → Int} {dh : Int → Int} {nx ns : Int} {Q : mm_V → mm_H → Prop} (hty0 : mm_isD ty0) (hx : 5275 ≤ nx) :
    mm_Wp 55 (bk_55_0.drop 3) [zR (1, 0, 0), zI x1, vx2, vx3] [zR (31, ty0, 0)] (mm_z hi dh nx ns) Q =
    Q (zR (22, ty0, 0)) (mm_z hi dh nx ns) :=
  (wp_8 (l2 := [zR (1, 0, 0), zI x1, zR (31, ty0, 0), vx3]) rfl).trans ((wp_5_2).trans ((wp_54 (by decide)).trans ((wp_5_2).trans ((wp_62 (by decide) (mm_o31 hty0 hx) (mm_r31_0 hty0)).trans (wp_92)))))
theorem r_55_3 (vx0 : mm_V) (vx1 : mm_V) (vx2 : mm_V) (vx3 : mm_V) {hi : mm_Id → Int → Int} {dh : Int → Int} {nx ns : Int} {Q : mm_V → mm_H → Prop} (hvx2 : mm_wt vx2 = 1) (hx : 5275 ≤ nx) :
    mm_Wp 55 (mm_blk 55 3) [vx0, vx1, vx2, vx3] [zR mm_nul] (mm_z hi dh nx ns) Q =
    mm_Wp 55 (mm_blk 55 5) [vx0, vx1, vx2, zR mm_nul] [zR mm_nul] (mm_z hi dh nx ns) Q :=
  mm_kb bq_55_3 ((wp_8 (l2 := [vx0, vx1, vx2, zR mm_nul]) ((if_pos (mm_lb rfl)).trans (congrArg some (mm_stw rfl hvx2)))).trans ((wp_5_3).trans ((wp_55n).trans ((wp_38).trans ((wp_56).trans (rfl))))))
theorem r_55_1_6 (vx0 : mm_V) (vx1 : mm_V) (vx2 : mm_V) (vx3 : mm_V) {hi : mm_Id → Int → Int} {dh : Int → Int} {nx ns : Int} {Q : mm_V → mm_H → Prop} (hx : 5275 ≤ nx) :
    mm_Wp 55 (bk_55_1.drop 6) [vx0, vx1, vx2, vx3] [zR mm_nul] (mm_z hi dh nx ns) Q =
    mm_Wp 55 (mm_blk 55 3) [vx0, vx1, vx2, vx3] [zR mm_nul] (mm_z hi dh nx ns) Q :=
  (wp_56).trans (rfl)
theorem r_55_1_6a (vx0 : mm_V) (vx1 : mm_V) (vx2 : mm_V) (vx3 : mm_V) {ty0 : Int} {hi : mm_Id → Int → Int} {dh : Int → Int} {nx ns : Int} {Q : mm_V → mm_H → Prop} (hty0 : mm_isS ty0) (hx : 5275 ≤ nx) :
    mm_Wp 55 (bk_55_1.drop 6) [vx0, vx1, vx2, vx3] [zR (33, ty0, 0)] (mm_z hi dh nx ns) Q =
    mm_Wp 55 (mm_blk 55 3) [vx0, vx1, vx2, vx3] [zR (33, ty0, 0)] (mm_z hi dh nx ns) Q :=
  (wp_56).trans (rfl)
theorem r_55_5 (vx0 : mm_V) (vx1 : mm_V) (vx2 : mm_V) (vx3 : mm_V) {hi : mm_Id → Int → Int} {dh : Int → Int} {nx ns : Int} {Q : mm_V → mm_H → Prop} (hx : 5275 ≤ nx) :
    mm_Wp 55 (mm_blk 55 5) [vx0, vx1, vx2, vx3] [zR mm_nul] (mm_z hi dh nx ns) Q =
    Q (zR mm_nul) (mm_z hi dh nx ns) :=
  mm_kb bq_55_5 (wp_92)
theorem r_55_3a (vx0 : mm_V) (vx1 : mm_V) (vx2 : mm_V) (vx3 : mm_V) {ty0 : Int} {hi : mm_Id → Int → Int} {dh : Int → Int} {nx ns : Int} {Q : mm_V → mm_H → Prop} (hvx2 : mm_wt vx2 = 1) (hty0 : mm_isS ty0) (hx : 5275 ≤ nx) :
    mm_Wp 55 (mm_blk 55 3) [vx0, vx1, vx2, vx3] [zR (33, ty0, 0)] (mm_z hi dh nx ns) Q =
    mm_Wp 55 (mm_blk 55 5) [vx0, vx1, vx2, zR (33, ty0, 0)] [zR (22, (5 + ty0), 0)] (mm_z hi dh nx ns) Q :=
  mm_kb bq_55_3 ((wp_8 (l2 := [vx0, vx1, vx2, zR (33, ty0, 0)]) ((if_pos (mm_lb rfl)).trans (congrArg some (mm_stw rfl hvx2)))).trans ((wp_5_3).trans ((wp_55 (by decide)).trans (mm_kb bq_55_4 ((wp_5_3).trans ((wp_62 (by decide) (mm_o33 hty0 hx) (mm_r33_0 hty0)).trans ((wp_0).trans (rfl))))))))
theorem r_55_5a (vx0 : mm_V) (vx1 : mm_V) (vx2 : mm_V) (vx3 : mm_V) {ty0 : Int} {hi : mm_Id → Int → Int} {dh : Int → Int} {nx ns : Int} {Q : mm_V → mm_H → Prop} (hty0 : mm_isT ty0) (hx : 5275 ≤ nx) :
    mm_Wp 55 (mm_blk 55 5) [vx0, vx1, vx2, vx3] [zR (22, ty0, 0)] (mm_z hi dh nx ns) Q =
    Q (zR (22, ty0, 0)) (mm_z hi dh nx ns) :=
  mm_kb bq_55_5 (wp_92)
/-- PoolHouse.nodeOf(LPoolHouse$Tree;I)LPoolHouse$Node; -/
theorem bq_56_0 : mm_blk 56 0 = bk_56_0 := by decide +kernel
theorem bq_56_1 : mm_blk 56 1 = bk_56_1 := by decide +kernel
theorem bq_56_2 : mm_blk 56 2 = bk_56_2 := by decide +kernel
theorem r_56_e (x2 : Int) {hi : mm_Id → Int → Int} {dh : Int → Int} {nx ns : Int} {Q : mm_V → mm_H → Prop} (hx : 5275 ≤ nx) :
    mm_Cl 56 [zR (1, 0, 0), zR mm_nul, zI x2] (mm_z hi dh nx ns) Q =
    mm_Wp 56 (mm_blk 56 2) [zR (1, 0, 0), zR mm_nul, zI x2] [zR mm_nul] (mm_z hi dh nx ns) Q :=
  mm_ce (l2 := [zR (1, 0, 0), zR mm_nul, zI x2]) rfl (mm_kb bq_56_0 ((wp_5_1).trans ((wp_55n).trans ((wp_38).trans ((wp_56).trans (rfl))))))
theorem r_56_ea {tx1 : Int} (x2 : Int) {hi : mm_Id → Int → Int} {dh : Int → Int} {nx ns : Int} {Q : mm_V → mm_H → Prop} (htx1 : mm_isT tx1) (hx : 5275 ≤ nx) :
    mm_Cl 56 [zR (1, 0, 0), zR (22, tx1, 0), zI x2] (mm_z hi dh nx ns) Q =
    mm_Cl 157 [zR (22, tx1, 0), zI x2] (mm_z hi dh nx ns) (fun r h3 => mm_Wp 56 (bk_56_1.drop 3) [zR (1, 0, 0), zR (22, tx1, 0), zI x2] (mm_push r []) h3 Q) :=
  mm_ce (l2 := [zR (1, 0, 0), zR (22, tx1, 0), zI x2]) rfl (mm_kb bq_56_0 ((wp_5_1).trans ((wp_55 (by decide)).trans (mm_kb bq_56_1 ((wp_5_1).trans ((wp_3_2).trans ((wp_v2 mm_n_157 (mm_leq mm_m_157 (mm_lb rfl)) (mm_lb rfl) (mm_o22 htx1 hx)).trans rfl)))))))
theorem r_56_2 (vx0 : mm_V) (vx1 : mm_V) (vx2 : mm_V) {hi : mm_Id → Int → Int} {dh : Int → Int} {nx ns : Int} {Q : mm_V → mm_H → Prop} (hx : 5275 ≤ nx) :
    mm_Wp 56 (mm_blk 56 2) [vx0, vx1, vx2] [zR mm_nul] (mm_z hi dh nx ns) Q =
    Q (zR mm_nul) (mm_z hi dh nx ns) :=
  mm_kb bq_56_2 (wp_92)
theorem r_56_1_3 (vx0 : mm_V) (vx1 : mm_V) (vx2 : mm_V) {hi : mm_Id → Int → Int} {dh : Int → Int} {nx ns : Int} {Q : mm_V → mm_H → Prop} (hx : 5275 ≤ nx) :
    mm_Wp 56 (bk_56_1.drop 3) [vx0, vx1, vx2] [zR mm_nul] (mm_z hi dh nx ns) Q =
    mm_Wp 56 (mm_blk 56 2) [vx0, vx1, vx2] [zR mm_nul] (mm_z hi dh nx ns) Q :=
  (wp_0).trans (rfl)
theorem r_56_1_3a (vx0 : mm_V) (vx1 : mm_V) (vx2 : mm_V) {ty0 ny0 : Int} {hi : mm_Id → Int → Int} {dh : Int → Int} {nx ns : Int} {Q : mm_V → mm_H → Prop} (hty0 : mm_isT ty0) (hny0 : mm_isN ny0) (hx : 5275 ≤ nx) :
    mm_Wp 56 (bk_56_1.drop 3) [vx0, vx1, vx2] [zR (24, ty0, ny0)] (mm_z hi dh nx ns) Q =
    mm_Wp 56 (mm_blk 56 2) [vx0, vx1, vx2] [zR (24, ty0, ny0)] (mm_z hi dh nx ns) Q :=
  (wp_0).trans (rfl)
theorem r_56_2a (vx0 : mm_V) (vx1 : mm_V) (vx2 : mm_V) {ty0 ny0 : Int} {hi : mm_Id → Int → Int} {dh : Int → Int} {nx ns : Int} {Q : mm_V → mm_H → Prop} (hty0 : mm_isT ty0) (hny0 : mm_isN ny0) (hx : 5275 ≤ nx) :
    mm_Wp 56 (mm_blk 56 2) [vx0, vx1, vx2] [zR (24, ty0, ny0)] (mm_z hi dh nx ns) Q =
    Q (zR (24, ty0, ny0)) (mm_z hi dh nx ns) :=
  mm_kb bq_56_2 (wp_92)
/-- PoolHouse.openHandle(I)LPoolHouse$Handle; -/
theorem bq_57_0 : mm_blk 57 0 = bk_57_0 := by decide +kernel
theorem bq_57_1 : mm_blk 57 1 = bk_57_1 := by decide +kernel
theorem bq_57_2 : mm_blk 57 2 = bk_57_2 := by decide +kernel
theorem r_57_e (x1 : Int) {hi : mm_Id → Int → Int} {dh : Int → Int} {nx ns : Int} {Q : mm_V → mm_H → Prop} (hx : 5275 ≤ nx) :
    mm_Cl 57 [zR (1, 0, 0), zI x1] (mm_z hi dh nx ns) Q =
    (if x1 < 1 then mm_Wp 57 (mm_blk 57 1) [zR (1, 0, 0), zI x1] [] (mm_z hi dh nx ns) Q else (if 8 < x1 then mm_Wp 57 (mm_blk 57 1) [zR (1, 0, 0), zI x1] [] (mm_z hi dh nx ns) Q else ((0 ≤ (mm_w (x1 - 1)) ∧ (mm_w (x1 - 1)) < 8) ∧ (if 0 ≤ dh (mm_w (x1 - 1)) ∧ dh (mm_w (x1 - 1)) < 5 then ((0 ≤ (mm_w (x1 - 1)) ∧ (mm_w (x1 - 1)) < 8) ∧ Q (zR (34, (mm_w (x1 - 1)), 0)) (mm_z hi dh nx ns)) else mm_Wp 57 (mm_blk 57 1) [zR (1, 0, 0), zI x1] [] (mm_z hi dh nx ns) Q)))) :=
  mm_ce (l2 := [zR (1, 0, 0), zI x1]) rfl (mm_kb bq_57_0 ((wp_3_1).trans ((wp_1).trans ((wp_48).trans (mm_ic (rfl) ((wp_3_1).trans ((wp_1).trans ((wp_50).trans (mm_ic (rfl) ((wp_5_0).trans ((wp_62 (by decide) (mm_o1 hx) mm_r1_3).trans ((wp_3_1).trans ((wp_1).trans ((wp_11).trans ((wp_73 (mm_q4 hx) (by decide) (fun q => mm_a4 q)).trans (mm_acd fun h1 => (wp_62d h1 (mm_o34 h1 hx)).trans (mm_icd (fun h2 => (wp_55 (by decide)).trans (mm_kb bq_57_2 ((wp_5_0).trans ((wp_62 (by decide) (mm_o1 hx) mm_r1_3).trans ((wp_3_1).trans ((wp_1).trans ((wp_11).trans ((wp_73 (mm_q4 hx) (by decide) (fun q => mm_a4 q)).trans (mm_acd fun h3 => wp_92))))))))) (fun _ => (wp_55n).trans ((wp_0).trans (rfl))))))))))))))))))))
theorem r_57_1 (vx0 : mm_V) (vx1 : mm_V) {hi : mm_Id → Int → Int} {dh : Int → Int} {nx ns : Int} {Q : mm_V → mm_H → Prop} (hx : 5275 ≤ nx) :
    mm_Wp 57 (mm_blk 57 1) [vx0, vx1] [] (mm_z hi dh nx ns) Q =
    Q (zR mm_nul) (mm_z hi dh nx ns) :=
  mm_kb bq_57_1 ((wp_38).trans (wp_92))
/-- PoolHouse.isName(I)Z -/
theorem bq_58_0 : mm_blk 58 0 = bk_58_0 := by decide +kernel
theorem bq_58_1 : mm_blk 58 1 = bk_58_1 := by decide +kernel
theorem bq_58_2 : mm_blk 58 2 = bk_58_2 := by decide +kernel
theorem r_58_e (x1 : Int) {hi : mm_Id → Int → Int} {dh : Int → Int} {nx ns : Int} {Q : mm_V → mm_H → Prop} (hx : 5275 ≤ nx) :
    mm_Cl 58 [zR (1, 0, 0), zI x1] (mm_z hi dh nx ns) Q =
    (if x1 < 1 then mm_Wp 58 (mm_blk 58 1) [zR (1, 0, 0), zI x1] [] (mm_z hi dh nx ns) Q else (if 1000000 < x1 then mm_Wp 58 (mm_blk 58 1) [zR (1, 0, 0), zI x1] [] (mm_z hi dh nx ns) Q else mm_Wp 58 (mm_blk 58 2) [zR (1, 0, 0), zI x1] [zI 1] (mm_z hi dh nx ns) Q)) :=
  mm_ce (l2 := [zR (1, 0, 0), zI x1]) rfl (mm_kb bq_58_0 ((wp_3_1).trans ((wp_1).trans ((wp_48).trans (mm_ic (rfl) ((wp_3_1).trans ((wp_1).trans ((wp_50).trans (mm_ic (rfl) ((wp_1).trans ((wp_56).trans (rfl))))))))))))
theorem r_58_1 (vx0 : mm_V) (vx1 : mm_V) {hi : mm_Id → Int → Int} {dh : Int → Int} {nx ns : Int} {Q : mm_V → mm_H → Prop} (hx : 5275 ≤ nx) :
    mm_Wp 58 (mm_blk 58 1) [vx0, vx1] [] (mm_z hi dh nx ns) Q =
    mm_Wp 58 (mm_blk 58 2) [vx0, vx1] [zI 0] (mm_z hi dh nx ns) Q :=
  mm_kb bq_58_1 ((wp_1).trans ((wp_0).trans (rfl)))
theorem r_58_2 (vx0 : mm_V) (vx1 : mm_V) (y0 : Int) {hi : mm_Id → Int → Int} {dh : Int → Int} {nx ns : Int} {Q : mm_V → mm_H → Prop} (hx : 5275 ≤ nx) :
    mm_Wp 58 (mm_blk 58 2) [vx0, vx1] [zI y0] (mm_z hi dh nx ns) Q =
    ((y0 = 0 ∨ y0 = 1) ∧ Q (zI y0) (mm_z hi dh nx ns)) :=
  mm_kb bq_58_2 (wp_94z)
/-- PoolHouse.isUser(I)Z -/
theorem bq_59_0 : mm_blk 59 0 = bk_59_0 := by decide +kernel
theorem bq_59_1 : mm_blk 59 1 = bk_59_1 := by decide +kernel
theorem bq_59_2 : mm_blk 59 2 = bk_59_2 := by decide +kernel
theorem r_59_e (x1 : Int) {hi : mm_Id → Int → Int} {dh : Int → Int} {nx ns : Int} {Q : mm_V → mm_H → Prop} (hx : 5275 ≤ nx) :
    mm_Cl 59 [zR (1, 0, 0), zI x1] (mm_z hi dh nx ns) Q =
    (if x1 < 0 then mm_Wp 59 (mm_blk 59 1) [zR (1, 0, 0), zI x1] [] (mm_z hi dh nx ns) Q else (if x1 < 8 then mm_Wp 59 (mm_blk 59 2) [zR (1, 0, 0), zI x1] [zI 1] (mm_z hi dh nx ns) Q else mm_Wp 59 (mm_blk 59 1) [zR (1, 0, 0), zI x1] [] (mm_z hi dh nx ns) Q)) :=
  mm_ce (l2 := [zR (1, 0, 0), zI x1]) rfl (mm_kb bq_59_0 ((wp_3_1).trans ((wp_42).trans (mm_ic (rfl) ((wp_3_1).trans ((wp_1).trans ((wp_49).trans (mm_ic ((wp_1).trans ((wp_56).trans (rfl))) (rfl)))))))))
theorem r_59_1 (vx0 : mm_V) (vx1 : mm_V) {hi : mm_Id → Int → Int} {dh : Int → Int} {nx ns : Int} {Q : mm_V → mm_H → Prop} (hx : 5275 ≤ nx) :
    mm_Wp 59 (mm_blk 59 1) [vx0, vx1] [] (mm_z hi dh nx ns) Q =
    mm_Wp 59 (mm_blk 59 2) [vx0, vx1] [zI 0] (mm_z hi dh nx ns) Q :=
  mm_kb bq_59_1 ((wp_1).trans ((wp_0).trans (rfl)))
theorem r_59_2 (vx0 : mm_V) (vx1 : mm_V) (y0 : Int) {hi : mm_Id → Int → Int} {dh : Int → Int} {nx ns : Int} {Q : mm_V → mm_H → Prop} (hx : 5275 ≤ nx) :
    mm_Wp 59 (mm_blk 59 2) [vx0, vx1] [zI y0] (mm_z hi dh nx ns) Q =
    ((y0 = 0 ∨ y0 = 1) ∧ Q (zI y0) (mm_z hi dh nx ns)) :=
  mm_kb bq_59_2 (wp_94z)
/-- PoolHouse.may(LPoolHouse$Node;I)Z -/
theorem bq_60_0 : mm_blk 60 0 = bk_60_0 := by decide +kernel
theorem bq_60_1 : mm_blk 60 1 = bk_60_1 := by decide +kernel
theorem bq_60_2 : mm_blk 60 2 = bk_60_2 := by decide +kernel
theorem bq_60_3 : mm_blk 60 3 = bk_60_3 := by decide +kernel
theorem bq_60_4 : mm_blk 60 4 = bk_60_4 := by decide +kernel
theorem bq_60_5 : mm_blk 60 5 = bk_60_5 := by decide +kernel
theorem r_60_e {tx1 nx1 : Int} (x2 : Int) {hi : mm_Id → Int → Int} {dh : Int → Int} {nx ns : Int} {Q : mm_V → mm_H → Prop} (htx1 : mm_isT tx1) (hnx1 : mm_isN nx1) (hx : 5275 ≤ nx) :
    mm_Cl 60 [zR (1, 0, 0), zR (24, tx1, nx1), zI x2] (mm_z hi dh nx ns) Q =
    (if (hi (24, tx1, nx1) 2) = (hi (1, 0, 0) 12) then mm_Wp 60 (mm_blk 60 2) [zR (1, 0, 0), zR (24, tx1, nx1), zI x2, zU] [zI (mm_shr (hi (24, tx1, nx1) 3) 3)] (mm_z hi dh nx ns) Q else mm_Wp 60 (mm_blk 60 2) [zR (1, 0, 0), zR (24, tx1, nx1), zI x2, zU] [zI (hi (24, tx1, nx1) 3)] (mm_z hi dh nx ns) Q) :=
  mm_ce (l2 := [zR (1, 0, 0), zR (24, tx1, nx1), zI x2, zU]) rfl (mm_kb bq_60_0 ((wp_5_1).trans ((wp_60 (by decide) (mm_o24 htx1 hnx1 hx)).trans ((wp_5_0).trans ((wp_60 (by decide) (mm_o1 hx)).trans ((wp_47).trans (mm_ic ((wp_5_1).trans ((wp_60 (by decide) (mm_o24 htx1 hnx1 hx)).trans ((wp_1).trans ((wp_17).trans ((wp_56).trans (rfl)))))) (mm_kb bq_60_1 ((wp_5_1).trans ((wp_60 (by decide) (mm_o24 htx1 hnx1 hx)).trans ((wp_0).trans (rfl))))))))))))
theorem r_60_2 (vx1 : mm_V) (x2 : Int) (vx3 : mm_V) (y0 : Int) {hi : mm_Id → Int → Int} {dh : Int → Int} {nx ns : Int} {Q : mm_V → mm_H → Prop} (hx : 5275 ≤ nx) :
    mm_Wp 60 (mm_blk 60 2) [zR (1, 0, 0), vx1, zI x2, vx3] [zI y0] (mm_z hi dh nx ns) Q =
    (if (hi (1, 0, 0) 12) = 0 then mm_Wp 60 (mm_blk 60 3) [zR (1, 0, 0), vx1, zI x2, zI y0] [] (mm_z hi dh nx ns) Q else (if (mm_and y0 x2) = 0 then mm_Wp 60 (mm_blk 60 5) [zR (1, 0, 0), vx1, zI x2, zI y0] [zI 0] (mm_z hi dh nx ns) Q else mm_Wp 60 (mm_blk 60 3) [zR (1, 0, 0), vx1, zI x2, zI y0] [] (mm_z hi dh nx ns) Q)) :=
  mm_kb bq_60_2 ((wp_6 (l2 := [zR (1, 0, 0), vx1, zI x2, zI y0]) rfl).trans ((wp_5_0).trans ((wp_60 (by decide) (mm_o1 hx)).trans ((wp_40).trans (mm_ic (rfl) ((wp_3_3).trans ((wp_3_2).trans ((wp_16).trans ((wp_40).trans (mm_ic (mm_kb bq_60_4 ((wp_1).trans ((wp_0).trans (rfl)))) ((wp_0).trans (rfl))))))))))))
theorem r_60_3 (vx0 : mm_V) (vx1 : mm_V) (vx2 : mm_V) (vx3 : mm_V) {hi : mm_Id → Int → Int} {dh : Int → Int} {nx ns : Int} {Q : mm_V → mm_H → Prop} (hx : 5275 ≤ nx) :
    mm_Wp 60 (mm_blk 60 3) [vx0, vx1, vx2, vx3] [] (mm_z hi dh nx ns) Q =
    mm_Wp 60 (mm_blk 60 5) [vx0, vx1, vx2, vx3] [zI 1] (mm_z hi dh nx ns) Q :=
  mm_kb bq_60_3 ((wp_1).trans ((wp_56).trans (rfl)))
theorem r_60_5 (vx0 : mm_V) (vx1 : mm_V) (vx2 : mm_V) (vx3 : mm_V) (y0 : Int) {hi : mm_Id → Int → Int} {dh : Int → Int} {nx ns : Int} {Q : mm_V → mm_H → Prop} (hx : 5275 ≤ nx) :
    mm_Wp 60 (mm_blk 60 5) [vx0, vx1, vx2, vx3] [zI y0] (mm_z hi dh nx ns) Q =
    ((y0 = 0 ∨ y0 = 1) ∧ Q (zI y0) (mm_z hi dh nx ns)) :=
  mm_kb bq_60_5 (wp_94z)
/-- PoolHouse.mayChange(LPoolHouse$Node;)Z -/
theorem bq_61_0 : mm_blk 61 0 = bk_61_0 := by decide +kernel
theorem bq_61_1 : mm_blk 61 1 = bk_61_1 := by decide +kernel
theorem bq_61_2 : mm_blk 61 2 = bk_61_2 := by decide +kernel
theorem r_61_e {tx1 nx1 : Int} {hi : mm_Id → Int → Int} {dh : Int → Int} {nx ns : Int} {Q : mm_V → mm_H → Prop} (htx1 : mm_isT tx1) (hnx1 : mm_isN nx1) (hx : 5275 ≤ nx) :
    mm_Cl 61 [zR (1, 0, 0), zR (24, tx1, nx1)] (mm_z hi dh nx ns) Q =
    mm_Cl 60 [zR (1, 0, 0), zR (24, tx1, nx1), zI 2] (mm_z hi dh nx ns) (fun r h3 => mm_Wp 61 (bk_61_0.drop 4) [zR (1, 0, 0), zR (24, tx1, nx1)] (mm_push r []) h3 Q) :=
  mm_ce (l2 := [zR (1, 0, 0), zR (24, tx1, nx1)]) rfl (mm_kb bq_61_0 ((wp_5_0).trans ((wp_5_1).trans ((wp_1).trans ((wp_v3 mm_n_60 (mm_leq mm_m_60 (mm_lb rfl)) (mm_lb rfl) (mm_o1 hx)).trans rfl)))))
theorem r_61_0_4 {tx1 nx1 : Int} (y0 : Int) {hi : mm_Id → Int → Int} {dh : Int → Int} {nx ns : Int} {Q : mm_V → mm_H → Prop} (htx1 : mm_isT tx1) (hnx1 : mm_isN nx1) (hx : 5275 ≤ nx) :
    mm_Wp 61 (bk_61_0.drop 4) [zR (1, 0, 0), zR (24, tx1, nx1)] [zI y0] (mm_z hi dh nx ns) Q =
    (if y0 = 0 then mm_Wp 61 (mm_blk 61 1) [zR (1, 0, 0), zR (24, tx1, nx1)] [] (mm_z hi dh nx ns) Q else mm_Cl 60 [zR (1, 0, 0), zR (24, tx1, nx1), zI 1] (mm_z hi dh nx ns) (fun r h3 => mm_Wp 61 (bk_61_0.drop 9) [zR (1, 0, 0), zR (24, tx1, nx1)] (mm_push r []) h3 Q)) :=
  (wp_40).trans (mm_ic (rfl) ((wp_5_0).trans ((wp_5_1).trans ((wp_1).trans ((wp_v3 mm_n_60 (mm_leq mm_m_60 (mm_lb rfl)) (mm_lb rfl) (mm_o1 hx)).trans rfl)))))
theorem r_61_1 (vx0 : mm_V) (vx1 : mm_V) {hi : mm_Id → Int → Int} {dh : Int → Int} {nx ns : Int} {Q : mm_V → mm_H → Prop} (hx : 5275 ≤ nx) :
    mm_Wp 61 (mm_blk 61 1) [vx0, vx1] [] (mm_z hi dh nx ns) Q =
    mm_Wp 61 (mm_blk 61 2) [vx0, vx1] [zI 0] (mm_z hi dh nx ns) Q :=
  mm_kb bq_61_1 ((wp_1).trans ((wp_0).trans (rfl)))
theorem r_61_0_9 (vx0 : mm_V) (vx1 : mm_V) (y0 : Int) {hi : mm_Id → Int → Int} {dh : Int → Int} {nx ns : Int} {Q : mm_V → mm_H → Prop} (hx : 5275 ≤ nx) :
    mm_Wp 61 (bk_61_0.drop 9) [vx0, vx1] [zI y0] (mm_z hi dh nx ns) Q =
    (if y0 = 0 then mm_Wp 61 (mm_blk 61 1) [vx0, vx1] [] (mm_z hi dh nx ns) Q else mm_Wp 61 (mm_blk 61 2) [vx0, vx1] [zI 1] (mm_z hi dh nx ns) Q) :=
  (wp_40).trans (mm_ic (rfl) ((wp_1).trans ((wp_56).trans (rfl))))
theorem r_61_2 (vx0 : mm_V) (vx1 : mm_V) (y0 : Int) {hi : mm_Id → Int → Int} {dh : Int → Int} {nx ns : Int} {Q : mm_V → mm_H → Prop} (hx : 5275 ≤ nx) :
    mm_Wp 61 (mm_blk 61 2) [vx0, vx1] [zI y0] (mm_z hi dh nx ns) Q =
    ((y0 = 0 ∨ y0 = 1) ∧ Q (zI y0) (mm_z hi dh nx ns)) :=
  mm_kb bq_61_2 (wp_94z)
/-- PoolHouse.act(LPoolHouse$Dataset;)V -/
theorem bq_63_0 : mm_blk 63 0 = bk_63_0 := by decide +kernel
theorem bq_63_1 : mm_blk 63 1 = bk_63_1 := by decide +kernel
theorem r_63_e {tx1 : Int} {hi : mm_Id → Int → Int} {dh : Int → Int} {nx ns : Int} {Q : mm_V → mm_H → Prop} (htx1 : mm_isD tx1) (hx : 5275 ≤ nx) :
    mm_Cl 63 [zR (1, 0, 0), zR (31, tx1, 0)] (mm_z hi dh nx ns) Q =
    (if ((mm_up (mm_up hi (31, tx1, 0) 6 1) (1, 0, 0) 13 (mm_w (((mm_up hi (31, tx1, 0) 6 1) (1, 0, 0) 13) + 1))) (1, 0, 0) 13) < 100 then mm_Wp 63 (mm_blk 63 1) [zR (1, 0, 0), zR (31, tx1, 0)] [] (mm_z (mm_up (mm_up hi (31, tx1, 0) 6 1) (1, 0, 0) 13 (mm_w (((mm_up hi (31, tx1, 0) 6 1) (1, 0, 0) 13) + 1))) dh nx ns) Q else mm_Cl 64 [zR (1, 0, 0)] (mm_z (mm_up (mm_up hi (31, tx1, 0) 6 1) (1, 0, 0) 13 (mm_w (((mm_up hi (31, tx1, 0) 6 1) (1, 0, 0) 13) + 1))) dh nx ns) (fun r h3 => mm_Wp 63 (bk_63_0.drop 15) [zR (1, 0, 0), zR (31, tx1, 0)] (mm_push r []) h3 Q)) :=
  mm_ce (l2 := [zR (1, 0, 0), zR (31, tx1, 0)]) rfl (mm_kb bq_63_0 ((wp_5_1).trans ((wp_1).trans ((wp_64k (mm_o31 htx1 hx) (by decide)).trans ((wp_5_0).trans ((wp_35r).trans ((wp_60 (by decide) (mm_o1 hx)).trans ((wp_1).trans ((wp_10).trans ((wp_63 (mm_o1 hx)).trans ((wp_5_0).trans ((wp_60 (by decide) (mm_o1 hx)).trans ((wp_1).trans ((wp_48).trans (mm_ic (rfl) ((wp_5_0).trans ((wp_v1 mm_n_64 (mm_leq mm_m_64 (mm_lb rfl)) (mm_lb rfl) (mm_o1 hx)).trans rfl)))))))))))))))))
theorem r_63_1 (vx0 : mm_V) (vx1 : mm_V) {hi : mm_Id → Int → Int} {dh : Int → Int} {nx ns : Int} {Q : mm_V → mm_H → Prop} (hx : 5275 ≤ nx) :
    mm_Wp 63 (mm_blk 63 1) [vx0, vx1] [] (mm_z hi dh nx ns) Q =
    Q zU (mm_z hi dh nx ns) :=
  mm_kb bq_63_1 (wp_93)
theorem r_63_0_15 (vx0 : mm_V) (vx1 : mm_V) (y0 : Int) {hi : mm_Id → Int → Int} {dh : Int → Int} {nx ns : Int} {Q : mm_V → mm_H → Prop} (hx : 5275 ≤ nx) :
    mm_Wp 63 (bk_63_0.drop 15) [vx0, vx1] [zI y0] (mm_z hi dh nx ns) Q =
    mm_Wp 63 (mm_blk 63 1) [vx0, vx1] [] (mm_z hi dh nx ns) Q :=
  (wp_36i).trans ((wp_0).trans (rfl))
/-- PoolHouse.putDown()I -/
theorem bq_64_0 : mm_blk 64 0 = bk_64_0 := by decide +kernel
theorem bq_64_1 : mm_blk 64 1 = bk_64_1 := by decide +kernel
theorem bq_64_2 : mm_blk 64 2 = bk_64_2 := by decide +kernel
theorem bq_64_3 : mm_blk 64 3 = bk_64_3 := by decide +kernel
theorem r_64_e  {hi : mm_Id → Int → Int} {dh : Int → Int} {nx ns : Int} {Q : mm_V → mm_H → Prop} (hx : 5275 ≤ nx) :
    mm_Cl 64 [zR (1, 0, 0)] (mm_z hi dh nx ns) Q =
    mm_Wp 64 (mm_blk 64 1) [zR (1, 0, 0), zI 0] [] (mm_z hi dh nx ns) Q :=
  mm_ce (l2 := [zR (1, 0, 0), zU]) rfl (mm_kb bq_64_0 ((wp_1).trans ((wp_6 (l2 := [zR (1, 0, 0), zI 0]) rfl).trans ((wp_0).trans (rfl)))))
theorem r_64_1 (x1 : Int) {hi : mm_Id → Int → Int} {dh : Int → Int} {nx ns : Int} {Q : mm_V → mm_H → Prop} (hx : 5275 ≤ nx) :
    mm_Wp 64 (mm_blk 64 1) [zR (1, 0, 0), zI x1] [] (mm_z hi dh nx ns) Q =
    (if x1 < 5 then ((0 ≤ x1 ∧ x1 < 5) ∧ (if (hi (31, x1, 0) 6) = 0 then mm_Wp 64 (mm_blk 64 2) [zR (1, 0, 0), zI x1] [] (mm_z hi dh nx ns) Q else ((0 ≤ x1 ∧ x1 < 5) ∧ ((0 ≤ x1 ∧ x1 < 5) ∧ mm_Cl 165 [zR (22, (13 + x1), 0), zR (22, x1, 0)] (mm_z hi dh nx ns) (fun r h3 => mm_Wp 64 (bk_64_1.drop 20) [zR (1, 0, 0), zI x1] (mm_push r []) h3 Q))))) else Q (zI (hi (1, 0, 0) 13)) (mm_z (mm_up hi (1, 0, 0) 13 0) dh nx ns)) :=
  mm_kb bq_64_1 ((wp_3_1).trans ((wp_1).trans ((wp_49).trans (mm_ic ((wp_5_0).trans ((wp_62 (by decide) (mm_o1 hx) mm_r1_1).trans ((wp_3_1).trans ((wp_73 (mm_q2 hx) (by decide) (fun q => mm_a2 q)).trans (mm_acd fun h1 => (wp_60 (by decide) (mm_o31 h1 hx)).trans ((wp_40).trans (mm_ic (rfl) ((wp_5_0).trans ((wp_62 (by decide) (mm_o1 hx) mm_r1_1).trans ((wp_3_1).trans ((wp_73 (mm_q2 hx) (by decide) (fun q => mm_a2 q)).trans (mm_acd fun h2 => (wp_62 (by decide) (mm_o31 h2 hx) (mm_r31_1 h2)).trans ((wp_5_0).trans ((wp_62 (by decide) (mm_o1 hx) mm_r1_1).trans ((wp_3_1).trans ((wp_73 (mm_q2 hx) (by decide) (fun q => mm_a2 q)).trans (mm_acd fun h3 => (wp_62 (by decide) (mm_o31 h3 hx) (mm_r31_0 h3)).trans ((wp_v2 mm_n_165 (mm_leq mm_m_165 (mm_lb rfl)) (mm_lb rfl) (mm_o22 (mm_tk h2) hx)).trans rfl)))))))))))))))))) (mm_kb bq_64_3 ((wp_5_0).trans ((wp_60 (by decide) (mm_o1 hx)).trans ((wp_6 (l2 := [zR (1, 0, 0), zI (hi (1, 0, 0) 13)]) rfl).trans ((wp_5_0).trans ((wp_1).trans ((wp_63 (mm_o1 hx)).trans ((wp_3_1).trans (wp_90)))))))))))))
theorem r_64_2 (x1 : Int) {hi : mm_Id → Int → Int} {dh : Int → Int} {nx ns : Int} {Q : mm_V → mm_H → Prop} (hx : 5275 ≤ nx) :
    mm_Wp 64 (mm_blk 64 2) [zR (1, 0, 0), zI x1] [] (mm_z hi dh nx ns) Q =
    mm_Wp 64 (mm_blk 64 1) [zR (1, 0, 0), zI (mm_w (x1 + 1))] [] (mm_z hi dh nx ns) Q :=
  mm_kb bq_64_2 ((wp_9 (l2 := [zR (1, 0, 0), zI (mm_w (x1 + 1))]) rfl rfl).trans ((wp_56).trans (rfl)))
theorem r_64_1_20 (x1 : Int) {hi : mm_Id → Int → Int} {dh : Int → Int} {nx ns : Int} {Q : mm_V → mm_H → Prop} (hx : 5275 ≤ nx) :
    mm_Wp 64 (bk_64_1.drop 20) [zR (1, 0, 0), zI x1] [] (mm_z hi dh nx ns) Q =
    ((0 ≤ x1 ∧ x1 < 5) ∧ mm_Wp 64 (mm_blk 64 2) [zR (1, 0, 0), zI x1] [] (mm_z (mm_up hi (31, x1, 0) 6 0) dh nx ns) Q) :=
  (wp_5_0).trans ((wp_62 (by decide) (mm_o1 hx) mm_r1_1).trans ((wp_3_1).trans ((wp_73 (mm_q2 hx) (by decide) (fun q => mm_a2 q)).trans (mm_acd fun h1 => (wp_1).trans ((wp_64k (mm_o31 h1 hx) (by decide)).trans ((wp_0).trans (rfl)))))))
/-- PoolHouse.takeUp(LPoolHouse$Dataset;)V -/
theorem bq_65_0 : mm_blk 65 0 = bk_65_0 := by decide +kernel
theorem r_65_e {tx1 : Int} {hi : mm_Id → Int → Int} {dh : Int → Int} {nx ns : Int} {Q : mm_V → mm_H → Prop} (htx1 : mm_isD tx1) (hx : 5275 ≤ nx) :
    mm_Cl 65 [zR (1, 0, 0), zR (31, tx1, 0)] (mm_z hi dh nx ns) Q =
    mm_Cl 66 [zR (1, 0, 0), zR (31, tx1, 0)] (mm_z hi dh nx ns) (fun r h3 => mm_Wp 65 (bk_65_0.drop 3) [zR (1, 0, 0), zR (31, tx1, 0)] (mm_push r []) h3 Q) :=
  mm_ce (l2 := [zR (1, 0, 0), zR (31, tx1, 0)]) rfl (mm_kb bq_65_0 ((wp_5_0).trans ((wp_5_1).trans ((wp_v2 mm_n_66 (mm_leq mm_m_66 (mm_lb rfl)) (mm_lb rfl) (mm_o1 hx)).trans rfl))))
theorem r_65_0_3 (vx0 : mm_V) {tx1 : Int} {hi : mm_Id → Int → Int} {dh : Int → Int} {nx ns : Int} {Q : mm_V → mm_H → Prop} (htx1 : mm_isD tx1) (hx : 5275 ≤ nx) :
    mm_Wp 65 (bk_65_0.drop 3) [vx0, zR (31, tx1, 0)] [] (mm_z hi dh nx ns) Q =
    mm_Cl 167 [zR (22, tx1, 0)] (mm_z hi dh nx ns) (fun r h3 => mm_Wp 65 (bk_65_0.drop 6) [vx0, zR (31, tx1, 0)] (mm_push r []) h3 Q) :=
  (wp_5_1).trans ((wp_62 (by decide) (mm_o31 htx1 hx) (mm_r31_0 htx1)).trans ((wp_v1 mm_n_167 (mm_leq mm_m_167 (mm_lb rfl)) (mm_lb rfl) (mm_o22 (mm_td htx1) hx)).trans rfl))
theorem r_65_0_6 (vx0 : mm_V) {tx1 : Int} {hi : mm_Id → Int → Int} {dh : Int → Int} {nx ns : Int} {Q : mm_V → mm_H → Prop} (htx1 : mm_isD tx1) (hx : 5275 ≤ nx) :
    mm_Wp 65 (bk_65_0.drop 6) [vx0, zR (31, tx1, 0)] [] (mm_z hi dh nx ns) Q =
    Q zU (mm_z (mm_up hi (31, tx1, 0) 6 1) dh nx ns) :=
  (wp_5_1).trans ((wp_1).trans ((wp_64k (mm_o31 htx1 hx) (by decide)).trans (wp_93)))
/-- PoolHouse.closeAll(LPoolHouse$Dataset;)V -/
theorem bq_66_0 : mm_blk 66 0 = bk_66_0 := by decide +kernel
theorem bq_66_1 : mm_blk 66 1 = bk_66_1 := by decide +kernel
theorem bq_66_2 : mm_blk 66 2 = bk_66_2 := by decide +kernel
theorem bq_66_3 : mm_blk 66 3 = bk_66_3 := by decide +kernel
theorem r_66_e {tx1 : Int} {hi : mm_Id → Int → Int} {dh : Int → Int} {nx ns : Int} {Q : mm_V → mm_H → Prop} (htx1 : mm_isD tx1) (hx : 5275 ≤ nx) :
    mm_Cl 66 [zR (1, 0, 0), zR (31, tx1, 0)] (mm_z hi dh nx ns) Q =
    mm_Wp 66 (mm_blk 66 1) [zR (1, 0, 0), zR (31, tx1, 0), zI 0] [] (mm_z hi dh nx ns) Q :=
  mm_ce (l2 := [zR (1, 0, 0), zR (31, tx1, 0), zU]) rfl (mm_kb bq_66_0 ((wp_1).trans ((wp_6 (l2 := [zR (1, 0, 0), zR (31, tx1, 0), zI 0]) rfl).trans ((wp_0).trans (rfl)))))
theorem r_66_1 {tx1 : Int} (x2 : Int) {hi : mm_Id → Int → Int} {dh : Int → Int} {nx ns : Int} {Q : mm_V → mm_H → Prop} (htx1 : mm_isD tx1) (hx : 5275 ≤ nx) :
    mm_Wp 66 (mm_blk 66 1) [zR (1, 0, 0), zR (31, tx1, 0), zI x2] [] (mm_z hi dh nx ns) Q =
    (if x2 < 8 then ((0 ≤ x2 ∧ x2 < 8) ∧ (if 0 ≤ dh x2 ∧ dh x2 < 5 then (if (dh x2) = tx1 then ((0 ≤ x2 ∧ x2 < 8) ∧ mm_Wp 66 (mm_blk 66 2) [zR (1, 0, 0), zR (31, tx1, 0), zI x2] [] (mm_z hi (fun k => if k = x2 then -1 else dh k) nx ns) Q) else mm_Wp 66 (mm_blk 66 2) [zR (1, 0, 0), zR (31, tx1, 0), zI x2] [] (mm_z hi dh nx ns) Q) else mm_Wp 66 (mm_blk 66 2) [zR (1, 0, 0), zR (31, tx1, 0), zI x2] [] (mm_z hi dh nx ns) Q)) else Q zU (mm_z hi dh nx ns)) :=
  mm_kb bq_66_1 ((wp_3_2).trans ((wp_1).trans ((wp_49).trans (mm_ic ((wp_5_0).trans ((wp_62 (by decide) (mm_o1 hx) mm_r1_3).trans ((wp_3_2).trans ((wp_73 (mm_q4 hx) (by decide) (fun q => mm_a4 q)).trans (mm_acd fun h1 => (wp_62d h1 (mm_o34 h1 hx)).trans (mm_icd (fun h2 => (wp_5_1).trans ((wp_53_31 h2 htx1).trans (mm_ic ((wp_5_0).trans ((wp_62 (by decide) (mm_o1 hx) mm_r1_3).trans ((wp_3_2).trans ((wp_73 (mm_q4 hx) (by decide) (fun q => mm_a4 q)).trans (mm_acd fun h3 => (wp_38).trans ((wp_66n h3 (mm_o34 h3 hx)).trans ((wp_0).trans (rfl)))))))) (rfl)))) (fun _ => (wp_5_1).trans ((wp_53n htx1).trans (rfl))))))))) (mm_kb bq_66_3 (wp_93))))))
theorem r_66_2 {tx1 : Int} (x2 : Int) {hi : mm_Id → Int → Int} {dh : Int → Int} {nx ns : Int} {Q : mm_V → mm_H → Prop} (htx1 : mm_isD tx1) (hx : 5275 ≤ nx) :
    mm_Wp 66 (mm_blk 66 2) [zR (1, 0, 0), zR (31, tx1, 0), zI x2] [] (mm_z hi dh nx ns) Q =
    mm_Wp 66 (mm_blk 66 1) [zR (1, 0, 0), zR (31, tx1, 0), zI (mm_w (x2 + 1))] [] (mm_z hi dh nx ns) Q :=
  mm_kb bq_66_2 ((wp_9 (l2 := [zR (1, 0, 0), zR (31, tx1, 0), zI (mm_w (x2 + 1))]) rfl rfl).trans ((wp_56).trans (rfl)))

