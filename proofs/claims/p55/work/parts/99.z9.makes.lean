/-! constructors: the cls's -/
section
variable {hi : mm_Id → Int → Int} {P : mm_Id → Int → Prop} {nx ns : Int} {Q : mm_V → mm_H → Prop}
theorem s118c (K : Q zU (hi, kk_gr (fun y j => P y j ∨ y = (5, 0, 0)), 7, ns + 108)) : mm_Cl 118 [zR (5, 0, 0)] (hi, kk_gr P, 5, ns) Q := by
  show mm_Wp 118 (mm_blk 118 0) [zR (5, 0, 0)] [] _ Q
  rw [bq_118_0]
  unfold bk_118_0
  rw [wp_5_0, wq_97 (by simp)]
  rw [wp_5_0, wp_1, wq_81 (x := (6, 0, 0)) (show mm_SH (6, 0, 0) = (2, 8) from rfl) (by decide) (by decide) (by decide) (by decide), wq_66 (v := (6, 0, 0)) rfl (kk_okI (show mm_SH (5, 0, 0) = (1, 5) from rfl) (by decide))]
  rw [wp_5_0, wp_1, wq_81 (x := (7, 0, 0)) (show mm_SH (7, 0, 0) = (2, 100) from rfl) (by decide) (by decide) (by decide) (by decide), wq_66 (v := (7, 0, 0)) rfl (kk_okI (show mm_SH (5, 0, 0) = (1, 5) from rfl) (by decide))]
  rw [wp_93]
  have E : kk_gr (fun y j => P y j ∨ y = (5, 0, 0)) = kk_gr (fun y j => (P y j ∨ y = (5, 0, 0) ∧ j = ((0 : Nat) : Int)) ∨ y = (5, 0, 0) ∧ j = ((1 : Nat) : Int)) := kk_grE (fun y j q => by
    constructor
    · rintro (p | p)
      · exact Or.inl (Or.inl p)
      · subst p
        have z : j = 0 ∨ j = 1 := by
          apply Classical.byContradiction
          intro c
          simp only [not_or] at c
          exact q (by simp [mm_mkR, c])
        rcases z with z | z
        · exact Or.inl (Or.inr ⟨rfl, z⟩)
        · exact Or.inr ⟨rfl, z⟩
    · rintro ((p | p) | p)
      · exact Or.inl p
      all_goals exact Or.inr p.1)
  rw [E] at K
  rw [show (5 : Int) + 1 + 1 = 7 by decide, show ns + 8 + 100 = ns + 108 by omega]
  exact K
theorem s137c (K : Q zU (mm_up hi (8, 0, 0) 9 (-2), kk_gr (fun y j => P y j ∨ y = (8, 0, 0)), 13, ns + 43225)) : mm_Cl 137 [zR (8, 0, 0)] (hi, kk_gr P, 8, ns) Q := by
  show mm_Wp 137 (mm_blk 137 0) [zR (8, 0, 0)] [] _ Q
  rw [bq_137_0]
  unfold bk_137_0
  rw [wp_5_0, wq_97 (by simp)]
  rw [wp_5_0, wp_1, wq_81 (x := (9, 0, 0)) (show mm_SH (9, 0, 0) = (3, 8000) from rfl) (by decide) (by decide) (by decide) (by decide), wq_66 (v := (9, 0, 0)) rfl (kk_okI (show mm_SH (8, 0, 0) = (1, 7) from rfl) (by decide))]
  rw [wp_5_0, wp_1, wq_81 (x := (10, 0, 0)) (show mm_SH (10, 0, 0) = (3, 33600) from rfl) (by decide) (by decide) (by decide) (by decide), wq_66 (v := (10, 0, 0)) rfl (kk_okI (show mm_SH (8, 0, 0) = (1, 7) from rfl) (by decide))]
  rw [wp_5_0, wp_1, wq_81 (x := (11, 0, 0)) (show mm_SH (11, 0, 0) = (5, 1600) from rfl) (by decide) (by decide) (by decide) (by decide), wq_66 (v := (11, 0, 0)) rfl (kk_okI (show mm_SH (8, 0, 0) = (1, 7) from rfl) (by decide))]
  rw [wp_5_0, wp_1, wq_81 (x := (12, 0, 0)) (show mm_SH (12, 0, 0) = (5, 5) from rfl) (by decide) (by decide) (by decide) (by decide), wq_66 (v := (12, 0, 0)) rfl (kk_okI (show mm_SH (8, 0, 0) = (1, 7) from rfl) (by decide))]
  rw [wp_5_0, wp_1, wq_81 (x := (13, 0, 0)) (show mm_SH (13, 0, 0) = (3, 20) from rfl) (by decide) (by decide) (by decide) (by decide), wq_66 (v := (13, 0, 0)) rfl (kk_okI (show mm_SH (8, 0, 0) = (1, 7) from rfl) (by decide))]
  rw [wp_5_0, wp_1, wq_63 (kk_okI (show mm_SH (8, 0, 0) = (1, 7) from rfl) (by decide))]
  rw [wp_93]
  have E : kk_gr (fun y j => P y j ∨ y = (8, 0, 0)) = kk_gr (fun y j => ((((P y j ∨ y = (8, 0, 0) ∧ j = ((0 : Nat) : Int)) ∨ y = (8, 0, 0) ∧ j = ((2 : Nat) : Int)) ∨ y = (8, 0, 0) ∧ j = ((4 : Nat) : Int)) ∨ y = (8, 0, 0) ∧ j = ((6 : Nat) : Int)) ∨ y = (8, 0, 0) ∧ j = ((7 : Nat) : Int)) := kk_grE (fun y j q => by
    constructor
    · rintro (p | p)
      · exact Or.inl (Or.inl (Or.inl (Or.inl (Or.inl p))))
      · subst p
        have z : j = 0 ∨ j = 2 ∨ j = 4 ∨ j = 6 ∨ j = 7 := by
          apply Classical.byContradiction
          intro c
          simp only [not_or] at c
          exact q (by simp [mm_mkR, c])
        rcases z with z | z | z | z | z
        · exact Or.inl (Or.inl (Or.inl (Or.inl (Or.inr ⟨rfl, z⟩))))
        · exact Or.inl (Or.inl (Or.inl (Or.inr ⟨rfl, z⟩)))
        · exact Or.inl (Or.inl (Or.inr ⟨rfl, z⟩))
        · exact Or.inl (Or.inr ⟨rfl, z⟩)
        · exact Or.inr ⟨rfl, z⟩
    · rintro (((((p | p) | p) | p) | p) | p)
      · exact Or.inl p
      all_goals exact Or.inr p.1)
  rw [E] at K
  rw [show (8 : Int) + 1 + 1 + 1 + 1 + 1 = 13 by decide, show ns + 8000 + 33600 + 1600 + 5 + 20 = ns + 43225 by omega]
  exact K
theorem s125c (K : Q zU (hi, kk_gr (fun y j => P y j ∨ y = (15, 0, 0)), 21, ns + 110565)) : mm_Cl 125 [zR (15, 0, 0)] (hi, kk_gr P, 15, ns) Q := by
  show mm_Wp 125 (mm_blk 125 0) [zR (15, 0, 0)] [] _ Q
  rw [bq_125_0]
  unfold bk_125_0
  rw [wp_5_0, wq_97 (by simp)]
  rw [wp_5_0, wp_1, wq_81 (x := (16, 0, 0)) (show mm_SH (16, 0, 0) = (3, 102060) from rfl) (by decide) (by decide) (by decide) (by decide), wq_66 (v := (16, 0, 0)) rfl (kk_okI (show mm_SH (15, 0, 0) = (1, 6) from rfl) (by decide))]
  rw [wp_5_0, wp_1, wq_81 (x := (17, 0, 0)) (show mm_SH (17, 0, 0) = (2, 1701) from rfl) (by decide) (by decide) (by decide) (by decide), wq_66 (v := (17, 0, 0)) rfl (kk_okI (show mm_SH (15, 0, 0) = (1, 6) from rfl) (by decide))]
  rw [wp_5_0, wp_1, wq_81 (x := (18, 0, 0)) (show mm_SH (18, 0, 0) = (2, 1701) from rfl) (by decide) (by decide) (by decide) (by decide), wq_66 (v := (18, 0, 0)) rfl (kk_okI (show mm_SH (15, 0, 0) = (1, 6) from rfl) (by decide))]
  rw [wp_5_0, wp_1, wq_81 (x := (19, 0, 0)) (show mm_SH (19, 0, 0) = (4, 1701) from rfl) (by decide) (by decide) (by decide) (by decide), wq_66 (v := (19, 0, 0)) rfl (kk_okI (show mm_SH (15, 0, 0) = (1, 6) from rfl) (by decide))]
  rw [wp_5_0, wp_1, wq_81 (x := (20, 0, 0)) (show mm_SH (20, 0, 0) = (2, 1701) from rfl) (by decide) (by decide) (by decide) (by decide), wq_66 (v := (20, 0, 0)) rfl (kk_okI (show mm_SH (15, 0, 0) = (1, 6) from rfl) (by decide))]
  rw [wp_5_0, wp_1, wq_81 (x := (21, 0, 0)) (show mm_SH (21, 0, 0) = (2, 1701) from rfl) (by decide) (by decide) (by decide) (by decide), wq_66 (v := (21, 0, 0)) rfl (kk_okI (show mm_SH (15, 0, 0) = (1, 6) from rfl) (by decide))]
  rw [wp_93]
  have E : kk_gr (fun y j => P y j ∨ y = (15, 0, 0)) = kk_gr (fun y j => (((((P y j ∨ y = (15, 0, 0) ∧ j = ((0 : Nat) : Int)) ∨ y = (15, 0, 0) ∧ j = ((1 : Nat) : Int)) ∨ y = (15, 0, 0) ∧ j = ((2 : Nat) : Int)) ∨ y = (15, 0, 0) ∧ j = ((3 : Nat) : Int)) ∨ y = (15, 0, 0) ∧ j = ((4 : Nat) : Int)) ∨ y = (15, 0, 0) ∧ j = ((5 : Nat) : Int)) := kk_grE (fun y j q => by
    constructor
    · rintro (p | p)
      · exact Or.inl (Or.inl (Or.inl (Or.inl (Or.inl (Or.inl p)))))
      · subst p
        have z : j = 0 ∨ j = 1 ∨ j = 2 ∨ j = 3 ∨ j = 4 ∨ j = 5 := by
          apply Classical.byContradiction
          intro c
          simp only [not_or] at c
          exact q (by simp [mm_mkR, c])
        rcases z with z | z | z | z | z | z
        · exact Or.inl (Or.inl (Or.inl (Or.inl (Or.inl (Or.inr ⟨rfl, z⟩)))))
        · exact Or.inl (Or.inl (Or.inl (Or.inl (Or.inr ⟨rfl, z⟩))))
        · exact Or.inl (Or.inl (Or.inl (Or.inr ⟨rfl, z⟩)))
        · exact Or.inl (Or.inl (Or.inr ⟨rfl, z⟩))
        · exact Or.inl (Or.inr ⟨rfl, z⟩)
        · exact Or.inr ⟨rfl, z⟩
    · rintro ((((((p | p) | p) | p) | p) | p) | p)
      · exact Or.inl p
      all_goals exact Or.inr p.1)
  rw [E] at K
  rw [show (15 : Int) + 1 + 1 + 1 + 1 + 1 + 1 = 21 by decide, show ns + 102060 + 1701 + 1701 + 1701 + 1701 + 1701 = ns + 110565 by omega]
  exact K
theorem s83c {c : Int} (K : Q zU (mm_up hi (14, 0, 0) 0 c, kk_gr P, 14, ns)) : mm_Cl 83 [zR (14, 0, 0), zI c] (hi, kk_gr P, 14, ns) Q := by
  show mm_Wp 83 (mm_blk 83 0) [zR (14, 0, 0), zI c] [] _ Q
  rw [bq_83_0]
  unfold bk_83_0
  rw [wp_5_0, wq_97 (by simp), wp_5_0, wp_3_1, wq_63 (kk_okI (show mm_SH (14, 0, 0) = (1, 2) from rfl) (by decide)), wp_93]
  exact K
theorem kk_nR34 {t j : Int} (h : kk_R0 (34, t, 0) j ≠ mm_nul) : j = 0 := by
  apply Classical.byContradiction
  intro c
  refine h ?_
  have e : mm_dr (-1) = mm_nul := mm_drn (-1) (by unfold mm_isD; omega)
  unfold kk_R0 mm_mkR
  simp only [if_neg c, e]
  split <;> (try split) <;> rfl
theorem s89c {t : Int} (ht : mm_isS t) (hx : nx = 5259 + 2 * t + 1) (K : Q zU (hi, kk_gr (fun y j => P y j ∨ y = (34, t, 0)), nx + 1, ns + 2160)) : mm_Cl 89 [zR (34, t, 0)] (hi, kk_gr P, nx, ns) Q := by
  have le := Int.le_refl 5275
  have S := (mm_q34 ht le).1
  show mm_Wp 89 (mm_blk 89 0) [zR (34, t, 0)] [] _ Q
  rw [bq_89_0]
  unfold bk_89_0
  rw [wp_5_0, wq_97 (by simp), wp_5_0, wp_1, wq_81 (x := (35, t, 0)) (mm_q35 ht le).1 (by show 35 < 90; decide) (by show _ = 5260 + 2 * t; omega) (by decide) (by decide), wq_66 (mm_r34_0 ht) (kk_okI S (by show 5259 + 2 * t < _; omega)), wp_93]
  have E : kk_gr (fun y j => P y j ∨ y = (34, t, 0)) = kk_gr (fun y j => P y j ∨ y = (34, t, 0) ∧ j = ((0 : Nat) : Int)) := kk_grE (fun y j q => by
    constructor
    · rintro (p | p)
      · exact Or.inl p
      · subst p; exact Or.inr ⟨rfl, kk_nR34 q⟩
    · rintro (p | p)
      · exact Or.inl p
      · exact Or.inr p.1)
  rw [E] at K
  exact K
theorem kk_nR33 {t j : Int} (h : kk_R0 (33, t, 0) j ≠ mm_nul) : j = 0 := by
  apply Classical.byContradiction
  intro c
  refine h ?_
  unfold kk_R0 mm_mkR
  simp only [if_neg c]
  split <;> rfl
theorem kk_nR31 {t j : Int} (h : kk_R0 (31, t, 0) j ≠ mm_nul) : j = 0 ∨ j = 1 ∨ j = 2 := by
  apply Classical.byContradiction
  intro c
  simp only [not_or] at c
  refine h ?_
  unfold kk_R0 mm_mkR
  simp only [if_neg c.1, if_neg c.2.1, if_neg c.2.2]
  split <;> rfl
theorem s153c {t : Int} (ht : mm_isS t) (hx : nx = 3163 + 262 * t + 1) (K : Q zU (mm_up hi (22, 5 + t, 0) 2 0, kk_gr (fun y j => P y j ∨ y = (33, t, 0) ∨ 22 ≤ y.1 ∧ y.1 ≤ 24 ∧ y.2.1 = 5 + t), nx + 261, ns + 4332)) : mm_Cl 153 [zR (33, t, 0), zR (15, 0, 0)] (hi, kk_gr P, nx, ns) Q := by
  have le := Int.le_refl 5275
  have S := (mm_q33 ht le).1
  have iT := mm_ts ht
  have tb : mm_tb (5 + t) = 3164 + 262 * t := by
    have := ht.1
    have := ht.2
    unfold mm_tb
    rw [if_neg (by omega), if_pos (by omega)]
    omega
  show mm_Wp 153 (mm_blk 153 0) [zR (33, t, 0), zR (15, 0, 0)] [] _ Q
  rw [bq_153_0]
  unfold bk_153_0
  rw [wp_5_0, wq_97 (by simp), wp_5_0, wq_80 (x := (22, 5 + t, 0)) (mm_q22 iT le).1 (by show 22 < 90; decide) (by show _ = mm_tb (5 + t); omega) (by decide), wp_35r, wp_5_1, wp_1, wp_p3 mm_n_156 (mm_leq mm_m_156 (mm_lb rfl)) (mm_lb rfl) (kk_okI (mm_q22 iT le).1 (by show mm_tb (5 + t) < nx + 1; omega))]
  refine s156c iT (Or.inl rfl) (by omega) ?_
  show mm_Wp 153 _ _ _ _ _
  rw [mm_pU, wq_66 (mm_r33_0 ht) (kk_okI S (by show 3163 + 262 * t < _; omega)), wp_93]
  have E : kk_gr (fun y j => P y j ∨ y = (33, t, 0) ∨ 22 ≤ y.1 ∧ y.1 ≤ 24 ∧ y.2.1 = 5 + t) = kk_gr (fun y j => (P y j ∨ 22 ≤ y.1 ∧ y.1 ≤ 24 ∧ y.2.1 = 5 + t) ∨ y = (33, t, 0) ∧ j = ((0 : Nat) : Int)) := kk_grE (fun y j q => by
    constructor
    · rintro (p | p | p)
      · exact Or.inl (Or.inl p)
      · subst p; exact Or.inr ⟨rfl, kk_nR33 q⟩
      · exact Or.inl (Or.inr p)
    · rintro ((p | p) | p)
      · exact Or.inl p
      · exact Or.inr (Or.inr p)
      · exact Or.inr (Or.inl p.1))
  rw [E] at K
  rw [mm_nf_9, show nx + 1 + 260 = nx + 261 by omega, show ns + 3 + 4329 = ns + 4332 by omega]
  exact K
theorem s79c {t : Int} (ht : mm_isD t) (hx : nx = 543 + 524 * t + 1) (K : Q zU (mm_up (mm_up hi (22, t, 0) 2 0) (22, 13 + t, 0) 2 1, kk_gr (fun y j => P y j ∨ y = (31, t, 0) ∨ 22 ≤ y.1 ∧ y.1 ≤ 24 ∧ (y.2.1 = t ∨ y.2.1 = 13 + t)), nx + 523, ns + 8672)) : mm_Cl 79 [zR (31, t, 0), zR (15, 0, 0)] (hi, kk_gr P, nx, ns) Q := by
  have le := Int.le_refl 5275
  have S := (mm_q31 ht le).1
  have iT := mm_td ht
  have iK := mm_tk ht
  have t0 := ht.1
  have t1 := ht.2
  have tb : mm_tb t = 545 + 524 * t := by
    unfold mm_tb
    rw [if_pos (by omega)]
  have tb2 : mm_tb (13 + t) = 806 + 524 * t := by
    unfold mm_tb
    rw [if_neg (by omega), if_neg (by omega), if_pos (by omega)]
    omega
  show mm_Wp 79 (mm_blk 79 0) [zR (31, t, 0), zR (15, 0, 0)] [] _ Q
  rw [bq_79_0]
  unfold bk_79_0
  rw [wp_5_0, wq_97 (by simp), wp_5_0, wp_1, wq_81 (x := (32, t, 0)) (mm_q32 ht le).1 (by show 32 < 90; decide) (by show _ = 544 + 524 * t; omega) (by decide) (by decide), wq_66 (mm_r31_2 ht) (kk_okI S (by show 543 + 524 * t < _; omega))]
  rw [wp_5_0, wq_80 (x := (22, t, 0)) (mm_q22 iT le).1 (by show 22 < 90; decide) (by show _ = mm_tb t; omega) (by decide), wp_35r, wp_5_1, wp_1, wp_p3 mm_n_156 (mm_leq mm_m_156 (mm_lb rfl)) (mm_lb rfl) (kk_okI (mm_q22 iT le).1 (by show mm_tb t < nx + 1 + 1; omega))]
  refine s156c iT (Or.inl rfl) (by omega) ?_
  show mm_Wp 79 _ _ _ _ _
  rw [mm_pU, wq_66 (mm_r31_0 ht) (kk_okI S (by show 543 + 524 * t < _; omega))]
  rw [wp_5_0, wq_80 (x := (22, 13 + t, 0)) (mm_q22 iK le).1 (by show 22 < 90; decide) (by show _ = mm_tb (13 + t); omega) (by decide), wp_35r, wp_5_1, wp_1, wp_p3 mm_n_156 (mm_leq mm_m_156 (mm_lb rfl)) (mm_lb rfl) (kk_okI (mm_q22 iK le).1 (by show mm_tb (13 + t) < nx + 1 + 1 + 260 + 1; omega))]
  refine s156c iK (Or.inr rfl) (by omega) ?_
  show mm_Wp 79 _ _ _ _ _
  rw [mm_pU, wq_66 (mm_r31_1 ht) (kk_okI S (by show 543 + 524 * t < _; omega)), wp_93]
  have E : kk_gr (fun y j => P y j ∨ y = (31, t, 0) ∨ 22 ≤ y.1 ∧ y.1 ≤ 24 ∧ (y.2.1 = t ∨ y.2.1 = 13 + t)) = kk_gr (fun y j => ((((P y j ∨ y = (31, t, 0) ∧ j = ((2 : Nat) : Int)) ∨ 22 ≤ y.1 ∧ y.1 ≤ 24 ∧ y.2.1 = t) ∨ y = (31, t, 0) ∧ j = ((0 : Nat) : Int)) ∨ 22 ≤ y.1 ∧ y.1 ≤ 24 ∧ y.2.1 = 13 + t) ∨ y = (31, t, 0) ∧ j = ((1 : Nat) : Int)) := kk_grE (fun y j q => by
    constructor
    · rintro (p | p | ⟨p1, p2, p3 | p3⟩)
      · exact Or.inl (Or.inl (Or.inl (Or.inl (Or.inl p))))
      · subst p
        rcases kk_nR31 q with z | z | z
        · exact Or.inl (Or.inl (Or.inr ⟨rfl, z⟩))
        · exact Or.inr ⟨rfl, z⟩
        · exact Or.inl (Or.inl (Or.inl (Or.inl (Or.inr ⟨rfl, z⟩))))
      · exact Or.inl (Or.inl (Or.inl (Or.inr ⟨p1, p2, p3⟩)))
      · exact Or.inl (Or.inr ⟨p1, p2, p3⟩)
    · rintro (((((p | p) | p) | p) | p) | p)
      · exact Or.inl p
      · exact Or.inr (Or.inl p.1)
      · exact Or.inr (Or.inr ⟨p.1, p.2.1, Or.inl p.2.2⟩)
      · exact Or.inr (Or.inl p.1)
      · exact Or.inr (Or.inr ⟨p.1, p.2.1, Or.inr p.2.2⟩)
      · exact Or.inr (Or.inl p.1))
  rw [E] at K
  rw [mm_nf_9, show nx + 1 + 1 + 260 + 1 + 260 = nx + 523 by omega, show ns + 8 + 3 + 4329 + 3 + 4329 = ns + 8672 by omega]
  exact K
end

