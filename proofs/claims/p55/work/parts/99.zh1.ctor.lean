/-! the pool's constructor, cut in two -/
section
variable {hi : mm_Id → Int → Int} {P : mm_Id → Int → Prop} {nx ns : Int} {Q : mm_V → mm_H → Prop}
theorem ct_pre {x1 : Int} (K : mm_Wp 0 (mm_blk 0 1) [zR (1, 0, 0), zI x1, zR (15, 0, 0), zI 0] [] (kk_ht (fun t => (t = 26 ∨ t = 27) ∨ (0 ≤ t ∧ t < 0 ∨ 13 ≤ t ∧ t < 13 + 0)) (mm_up (mm_up hi (8, 0, 0) 9 (-2)) (14, 0, 0) 0 (kk_c47 x1)), kk_gr (kk_PB 0), 543 + 524 * 0, ns + 162614 + 8679 * 0) Q) : mm_Cl 0 [zR (1, 0, 0), zI x1] (hi, kk_gr (fun _ _ => False), 1, ns) Q := by
  have S1 : mm_SH (1, 0, 0) = (1, 0) := rfl
  have i26 := mm_t26
  have i27 := mm_t27
  -- from the first row
  show mm_Wp 0 (mm_blk 0 0) [zR (1, 0, 0), zI x1, zU, zU] [] _ Q
  rw [bq_0_0]
  unfold bk_0_0
  rw [wp_5_0, wq_97 (by simp)]
  rw [wp_5_0, wp_1, wq_82 (x := (2, 0, 0)) (show mm_SH (2, 0, 0) = (6, 5) from rfl) (by decide) (by decide) (by decide) (by decide), wq_66 (v := (2, 0, 0)) rfl (kk_okI S1 (by decide))]
  rw [wp_5_0, wp_1, wq_82 (x := (3, 0, 0)) (show mm_SH (3, 0, 0) = (7, 8) from rfl) (by decide) (by decide) (by decide) (by decide), wq_66 (v := (3, 0, 0)) rfl (kk_okI S1 (by decide))]
  rw [wp_5_0, wp_1, wq_82 (x := (4, 0, 0)) (show mm_SH (4, 0, 0) = (8, 8) from rfl) (by decide) (by decide) (by decide) (by decide), wq_66 (v := (4, 0, 0)) rfl (kk_okI S1 (by decide))]
  rw [wp_5_0, wq_80 (x := (5, 0, 0)) (show mm_SH (5, 0, 0) = (1, 5) from rfl) (by decide) (by decide) (by decide), wp_35r, wp_p1 mm_n_118 (mm_leq mm_m_118 (mm_lb rfl)) (mm_lb rfl) (kk_okI (show mm_SH (5, 0, 0) = (1, 5) from rfl) (by show (4 : Int) < 5; decide))]
  rw [show (1 : Int) + 1 + 1 + 1 + 1 = 5 by decide]
  refine s118c ?_
  show mm_Wp 0 _ _ _ _ _
  rw [mm_pU, wq_66 (v := (5, 0, 0)) rfl (kk_okI S1 (by decide))]
  rw [wp_5_0, wq_80 (x := (8, 0, 0)) (show mm_SH (8, 0, 0) = (1, 7) from rfl) (by decide) (by decide) (by decide), wp_35r, wp_p1 mm_n_137 (mm_leq mm_m_137 (mm_lb rfl)) (mm_lb rfl) (kk_okI (show mm_SH (8, 0, 0) = (1, 7) from rfl) (by show (7 : Int) < 8; decide))]
  rw [show (7 : Int) + 1 = 8 by decide]
  refine s137c ?_
  show mm_Wp 0 _ _ _ _ _
  rw [mm_pU, wq_66 (v := (8, 0, 0)) rfl (kk_okI S1 (by decide))]
  rw [wp_5_0, wq_80 (x := (14, 0, 0)) (show mm_SH (14, 0, 0) = (1, 2) from rfl) (by decide) (by decide) (by decide), wp_35r, wp_1, wp_1, wp_3_1, wp_98 (mm_lb rfl), wp_99 (mm_lb rfl), wp_p2 mm_n_83 (mm_leq mm_m_83 (mm_lb rfl)) (mm_lb rfl) (kk_okI (show mm_SH (14, 0, 0) = (1, 2) from rfl) (by show (13 : Int) < 14; decide))]
  rw [show (13 : Int) + 1 = 14 by decide]
  refine s83c ?_
  show mm_Wp 0 _ _ _ _ _
  rw [mm_pU, wq_66 (v := (14, 0, 0)) rfl (kk_okI S1 (by decide))]
  rw [wq_80 (x := (15, 0, 0)) (show mm_SH (15, 0, 0) = (1, 6) from rfl) (by decide) (by decide) (by decide), wp_35r, wp_p1 mm_n_125 (mm_leq mm_m_125 (mm_lb rfl)) (mm_lb rfl) (kk_okI (show mm_SH (15, 0, 0) = (1, 6) from rfl) (by show (14 : Int) < 15; decide))]
  rw [show (14 : Int) + 1 = 15 by decide]
  refine s125c ?_
  show mm_Wp 0 _ _ _ _ _
  rw [mm_pU, wp_8 (l2 := [zR (1, 0, 0), zI x1, zR (15, 0, 0), zU]) rfl, wp_5_0, wp_5_2, wq_66 (v := (15, 0, 0)) rfl (kk_okI S1 (by decide))]
  rw [wp_5_0, wq_80 (x := (22, 26, 0)) (show mm_SH (22, 26, 0) = (1, 9) from rfl) (by decide) (by decide) (by decide), wp_35r, wp_5_2, wp_1, wp_p3 mm_n_156 (mm_leq mm_m_156 (mm_lb rfl)) (mm_lb rfl) (kk_okI (show mm_SH (22, 26, 0) = (1, 9) from rfl) (by show (21 : Int) < 22; decide))]
  refine s156c i26 (Or.inr rfl) (by decide) ?_
  show mm_Wp 0 _ _ _ _ _
  rw [mm_pU, wq_66 (v := (22, 26, 0)) rfl (kk_okI S1 (by decide))]
  rw [wp_5_0, wq_80 (x := (22, 27, 0)) (show mm_SH (22, 27, 0) = (1, 9) from rfl) (by decide) (by decide) (by decide), wp_35r, wp_5_2, wp_1, wp_p3 mm_n_156 (mm_leq mm_m_156 (mm_lb rfl)) (mm_lb rfl) (kk_okI (show mm_SH (22, 27, 0) = (1, 9) from rfl) (by show (282 : Int) < 283; decide))]
  refine s156c i27 (Or.inr rfl) (by decide) ?_
  show mm_Wp 0 _ _ _ _ _
  rw [mm_pU, wq_66 (v := (22, 27, 0)) rfl (kk_okI S1 (by decide)), wp_1, wp_6 (l2 := [zR (1, 0, 0), zI x1, zR (15, 0, 0), zI 0]) rfl, wp_0]
  have ec : (if (if 4 < x1 then x1 else 4) < 7 then (if 4 < x1 then x1 else 4) else 7) = kk_c47 x1 := by
    unfold kk_c47
    by_cases c1 : 4 < x1
    · rw [if_pos c1, if_neg (by omega : ¬ x1 < 4)]
      by_cases c2 : x1 < 7
      · rw [if_pos c2, if_neg (by omega)]
      · rw [if_neg c2]
        by_cases c3 : 7 < x1
        · rw [if_pos c3]
        · rw [if_neg c3]; omega
    · rw [if_neg c1, if_pos (by omega)]
      by_cases c2 : x1 < 4
      · rw [if_pos c2]
      · rw [if_neg c2, if_neg (by omega)]; omega
  rw [ec]
  obtain ⟨g, eg⟩ : ∃ g, g = mm_up (mm_up hi (8, 0, 0) 9 (-2)) (14, 0, 0) 0 (kk_c47 x1) := ⟨_, rfl⟩
  have h1 := kk_htu (T := fun _ => False) (T2 := fun t => t = 26) (hi := g) (t := 26) (v := 1) (by decide) (fun i => by simp)
  rw [kk_ht0] at h1
  have h2 := kk_htu (T := fun t => t = 26) (T2 := fun t => (t = 26 ∨ t = 27) ∨ (0 ≤ t ∧ t < 0 ∨ 13 ≤ t ∧ t < 13 + 0)) (hi := g) (t := 27) (v := 1) (by decide) (fun i => by omega)
  rw [← eg, h1, h2, mm_nf_5, mm_nf_7, mm_nf_2, mm_nf_6, mm_nf_9]
  refine kk_Wgr (kk_PB 0) (fun y j q => ?_) ?_
  · obtain ⟨f, a, b⟩ := y
    have nz := kk_nRa q
    have n1 : f = 1 → (a = 0 ∧ b = 0) ∧ 0 ≤ j ∧ j < 9 := fun e => by omega
    have n5 : f = 5 ∨ f = 8 ∨ f = 15 → a = 0 ∧ b = 0 := fun e => by omega
    clear nz
    unfold kk_PB kk_PA
    simp only [Prod.mk.injEq]
    constructor
    · rintro ((((((((((((((p | p) | p) | p) | p) | p) | p) | p) | p) | p) | p) | p) | p) | p) | p)
      · exact absurd p id
      · exact Or.inl (Or.inl p.1.1)
      · exact Or.inl (Or.inl p.1.1)
      · exact Or.inl (Or.inl p.1.1)
      · exact Or.inl (Or.inr (Or.inl p.1))
      · exact Or.inl (Or.inl p.1.1)
      · exact Or.inl (Or.inr (Or.inr (Or.inl p.1)))
      · exact Or.inl (Or.inl p.1.1)
      · exact Or.inl (Or.inl p.1.1)
      · exact Or.inl (Or.inr (Or.inr (Or.inr (Or.inl p.1))))
      · exact Or.inl (Or.inl p.1.1)
      · exact Or.inl (Or.inr (Or.inr (Or.inr (Or.inr ⟨p.1, p.2.1, Or.inl p.2.2⟩))))
      · exact Or.inl (Or.inl p.1.1)
      · exact Or.inl (Or.inr (Or.inr (Or.inr (Or.inr ⟨p.1, p.2.1, Or.inr p.2.2⟩))))
      · exact Or.inl (Or.inl p.1.1)
    · rintro ((p | p | p | p | ⟨p1, p2, p3 | p3⟩) | p | p | p)
      · obtain ⟨m1, m2⟩ := n1 p
        have jj : j = 0 ∨ j = 1 ∨ j = 2 ∨ j = 3 ∨ j = 4 ∨ j = 5 ∨ j = 6 ∨ j = 7 ∨ j = 8 := by omega
        rcases jj with w | w | w | w | w | w | w | w | w
        · exact Or.inl (Or.inl (Or.inl (Or.inl (Or.inr ⟨⟨p, m1⟩, w⟩))))
        · exact Or.inl (Or.inl (Or.inl (Or.inl (Or.inl (Or.inl (Or.inl (Or.inl (Or.inl (Or.inl (Or.inl (Or.inl (Or.inl (Or.inr ⟨⟨p, m1⟩, w⟩)))))))))))))
        · exact Or.inl (Or.inl (Or.inl (Or.inl (Or.inl (Or.inl (Or.inl (Or.inl (Or.inl (Or.inl (Or.inl (Or.inl (Or.inr ⟨⟨p, m1⟩, w⟩))))))))))))
        · exact Or.inl (Or.inl (Or.inl (Or.inl (Or.inl (Or.inl (Or.inl (Or.inl (Or.inl (Or.inl (Or.inl (Or.inr ⟨⟨p, m1⟩, w⟩)))))))))))
        · exact Or.inl (Or.inl (Or.inr ⟨⟨p, m1⟩, w⟩))
        · exact Or.inr ⟨⟨p, m1⟩, w⟩
        · exact Or.inl (Or.inl (Or.inl (Or.inl (Or.inl (Or.inl (Or.inl (Or.inl (Or.inl (Or.inr ⟨⟨p, m1⟩, w⟩)))))))))
        · exact Or.inl (Or.inl (Or.inl (Or.inl (Or.inl (Or.inl (Or.inr ⟨⟨p, m1⟩, w⟩))))))
        · exact Or.inl (Or.inl (Or.inl (Or.inl (Or.inl (Or.inl (Or.inl (Or.inr ⟨⟨p, m1⟩, w⟩)))))))
      · exact Or.inl (Or.inl (Or.inl (Or.inl (Or.inl (Or.inl (Or.inl (Or.inl (Or.inl (Or.inl (Or.inr ⟨p, n5 (by omega)⟩))))))))))
      · exact Or.inl (Or.inl (Or.inl (Or.inl (Or.inl (Or.inl (Or.inl (Or.inl (Or.inr ⟨p, n5 (by omega)⟩))))))))
      · exact Or.inl (Or.inl (Or.inl (Or.inl (Or.inl (Or.inr ⟨p, n5 (by omega)⟩)))))
      · exact Or.inl (Or.inl (Or.inl (Or.inr ⟨p1, p2, p3⟩)))
      · exact Or.inl (Or.inr ⟨p1, p2, p3⟩)
      · exact absurd (show (0 : Int) < 0 by obtain ⟨_, x, z⟩ := p; exact Int.lt_of_le_of_lt x z) (by decide)
      · exact absurd (show (0 : Int) < 0 by obtain ⟨_, x, z⟩ := p; exact Int.lt_of_le_of_lt x z) (by decide)
      · exact absurd p.2.2 (fun p => by clear n1 n5; omega)
  · rw [show ns + 5 + 8 + 8 + 4 + 108 + 15 + 43225 + 3 + 9 + 110565 + 3 + 4329 + 3 + 4329 = ns + 162614 + 8679 * 0 by omega, eg]
    exact K
theorem ct_suf {x1 c : Int} (z0 : ∀ x j, x ≠ (90, 0, 0) → hi x j = 0) (K : ∀ H, kk_CF c hi H → (∀ t n j, n ≠ 0 → H (22, t, n) j = hi (22, t, n) j) → Q zU (mm_z H (fun _ => -1) 5275 (ns + 258001))) : mm_Wp 0 (mm_blk 0 1) [zR (1, 0, 0), zI x1, zR (15, 0, 0), zI 0] [] (kk_ht (fun t => (t = 26 ∨ t = 27) ∨ (0 ≤ t ∧ t < 0 ∨ 13 ≤ t ∧ t < 13 + 0)) (mm_up (mm_up hi (8, 0, 0) 9 (-2)) (14, 0, 0) 0 c), kk_gr (kk_PB 0), 543 + 524 * 0, ns + 162614 + 8679 * 0) Q := by
  have hx : (5275 : Int) ≤ 5275 := Int.le_refl 5275
  have S1 : mm_SH (1, 0, 0) = (1, 0) := rfl
  have iD : mm_isD 0 := ⟨by omega, by omega⟩
  have iT : mm_isT 0 := mm_td iD
  have iK : mm_isT (13 + 0) := mm_tk iD
  have i26 := mm_t26
  have i27 := mm_t27
  have n1 : mm_isN 1 := ⟨by omega, by omega⟩
  -- the last stretch
  have E : ∀ v3, mm_Wp 0 (mm_blk 0 6) [zR (1, 0, 0), zI x1, zR (15, 0, 0), v3] [] (mm_z (kk_ht (fun t => (t = 26 ∨ t = 27) ∨ (0 ≤ t ∧ t < 5 ∨ 13 ≤ t ∧ t < 13 + 5) ∨ 5 ≤ t ∧ t < 5 + 8) (mm_up (mm_up hi (8, 0, 0) 9 (-2)) (14, 0, 0) 0 (c))) (fun _ => -1) 5275 (ns + 258001)) Q := by
    intro v3
    obtain ⟨h0, e0⟩ : ∃ h0, h0 = kk_ht (fun t => (t = 26 ∨ t = 27) ∨ (0 ≤ t ∧ t < 5 ∨ 13 ≤ t ∧ t < 13 + 5) ∨ 5 ≤ t ∧ t < 5 + 8) (mm_up (mm_up hi (8, 0, 0) 9 (-2)) (14, 0, 0) 0 (c)) := ⟨_, rfl⟩
    rw [← e0]
    have f22 : ∀ t, mm_isT t → h0 (22, t, 0) 2 = kk_as t := fun t ht => by
      rw [e0]
      unfold kk_ht
      rw [@if_pos _ (Classical.propDecidable _) ⟨rfl, rfl, rfl, by unfold mm_isT at ht; show (t = 26 ∨ t = 27) ∨ (0 ≤ t ∧ t < 5 ∨ 13 ≤ t ∧ t < 13 + 5) ∨ 5 ≤ t ∧ t < 5 + 8; omega⟩]
    have f0 : ∀ x j, ¬ (x.1 = 22) → h0 x j = mm_up (mm_up hi (8, 0, 0) 9 (-2)) (14, 0, 0) 0 (c) x j := fun x j q => by
      rw [e0]
      unfold kk_ht
      rw [@if_neg _ (Classical.propDecidable _) (fun w => q w.1)]
    rw [bq_0_6]
    unfold bk_0_6
    rw [wp_5_0, wp_1, wp_63 (mm_o1 hx), wp_5_0, wp_62 (by decide) (mm_o1 hx) mm_r1_1, wp_1, wp_73k (mm_q2 hx) (by decide) (by decide) (mm_a2 (by decide)), wp_1, wp_1, wp_v3 mm_n_80 (mm_leq mm_m_80 (mm_lb rfl)) (mm_lb rfl) (mm_o31 iD hx)]
    refine s80 hx iD (fun h2 a1 a2 a3 => ?_)
    show mm_Wp 0 _ _ _ _ _
    rw [mm_pU, wp_5_0, wp_62 (by decide) (mm_o1 hx) mm_r1_1, wp_1, wp_73k (mm_q2 hx) (by decide) (by decide) (mm_a2 (by decide)), wp_62 (by decide) (mm_o31 iD hx) (mm_r31_0 iD), wp_62 (by decide) (mm_o22 iT hx) (mm_r22_0 iT), wp_1, wp_73k (mm_q23 iT hx) (by decide) (by decide) (mm_a23 iT (by decide)), wp_1, wp_1, wp_v3 mm_n_95 (mm_leq mm_m_95 (mm_lb rfl)) (mm_lb rfl) (mm_o24 iT n1 hx)]
    refine s95 iT n1 hx (fun h3 b1 b2 => ?_)
    show mm_Wp 0 _ _ _ _ _
    rw [mm_pU, wp_5_0, wp_62 (by decide) (mm_o1 hx) mm_r1_1, wp_1, wp_73k (mm_q2 hx) (by decide) (by decide) (mm_a2 (by decide)), wp_62 (by decide) (mm_o31 iD hx) (mm_r31_1 iD), wp_5_0, wp_62 (by decide) (mm_o1 hx) mm_r1_1, wp_1, wp_73k (mm_q2 hx) (by decide) (by decide) (mm_a2 (by decide)), wp_62 (by decide) (mm_o31 iD hx) (mm_r31_0 iD), wp_v2 mm_n_165 (mm_leq mm_m_165 (mm_lb rfl)) (mm_lb rfl) (mm_o22 iK hx)]
    have z3 : ∀ (f : Nat) t n j, ¬ (f = 1 ∨ f = 8 ∨ f = 14 ∨ f = 22 ∨ f = 31 ∨ f = 32 ∨ f = 24 ∨ f = 90) → h3 (f, t, n) j = 0 := fun f t n j q => by
      rw [b2 _ _ (fun w => by have := (Prod.mk.inj w.1).1; omega), a3 _ _ (fun w => by have := (Prod.mk.inj w.1).1; omega) (fun w => by have := (Prod.mk.inj w).1; omega), mm_upne' (fun w => by have := (Prod.mk.inj w.1).1; omega), f0 _ _ (by show ¬ f = 22; omega), mm_upne' (fun w => by have := (Prod.mk.inj w.1).1; omega), mm_upne' (fun w => by have := (Prod.mk.inj w.1).1; omega)]
      exact z0 _ _ (fun w => by have := (Prod.mk.inj w).1; omega)
    have z24 : ∀ t n j, ¬ (t = 0 ∧ n = 1 ∧ kk_F j) → h3 (24, t, n) j = 0 := fun t n j q => by
      rw [b2 _ _ (fun w => q ⟨(Prod.mk.inj (Prod.mk.inj w.1).2).1, (Prod.mk.inj (Prod.mk.inj w.1).2).2, w.2⟩), a3 _ _ (by simp) (by simp), mm_upf (by decide), f0 _ _ (by simp), mm_upf (by decide), mm_upf (by decide)]
      exact z0 _ _ (by simp)
    have R3 : kk_R h3 := kk_R00 (fun t n p => z3 27 t n p (by omega)) (fun j => z3 15 0 0 j (by omega)) (fun j => z3 17 0 0 j (by omega)) (fun j => z3 18 0 0 j (by omega)) (fun j => z3 19 0 0 j (by omega))
    have nz : ∀ t n, kk_nz (h3 (27, t, n)) = 0 := fun t n => kk_sm0 _ (fun p _ _ => by rw [z3 27 t n p (by omega), if_pos rfl])
    have nw : ∀ t n, kk_nw h3 t n := fun t n => by
      unfold kk_nw
      rw [nz, z24 t n 9 (fun q => by have := q.2.2; unfold kk_F at this; omega)]
      by_cases c : t = 0 ∧ n = 1
      · obtain ⟨c1, c2⟩ := c
        subst c1 c2
        obtain ⟨y0, y1, y2, y3, y4, y5, y6, y11, y14⟩ := b1
        rw [y14, y11]
        exact ⟨Or.inl rfl, by omega, rfl⟩
      · rw [z24 t n 14 (fun q => c ⟨q.1, q.2.1⟩), z24 t n 11 (fun q => c ⟨q.1, q.2.1⟩)]
        exact ⟨Or.inl rfl, by omega, rfl⟩
    have g22 : ∀ t, mm_isT t → h3 (22, t, 0) 2 = kk_as t := fun t ht => by
      rw [b2 _ _ (by simp), a3 _ _ (by simp) (by simp), mm_upf (by decide)]
      exact f22 t ht
    refine s165 iK iT hx (by omega) R3 (fun n _ _ => nw _ n) (fun n _ _ => nw _ n) (g22 _ iK) (fun h4 c1 c2 c3 => ?_)
    show mm_Wp 0 _ _ _ _ _
    rw [mm_pU, wp_93]
    have k4 : ∀ (f : Nat) t n j, (f < 15 ∨ f = 22 ∨ 31 ≤ f) → h4 (f, t, n) j = h3 (f, t, n) j := fun f t n j q => c3 _ _ (by unfold kk_ct; simp; omega) (by unfold kk_tr; simp; omega)
    have k0 : ∀ n j, h4 (24, 0, n) j = h3 (24, 0, n) j := fun n j => c3 _ _ (by unfold kk_ct; simp) (by unfold kk_tr; simp)
    refine K h4 ⟨?_, ?_, ?_, fun t ht => ?_, ⟨?_, ?_, ?_⟩, fun u u0 u1 => ?_, ?_, c1, fun n n0 n1 => ?_, fun x j q1 q2 q3 q4 q5 q6 q7 q8 q9 => ?_⟩ (fun t n j q => ?_)
    · rw [k4 _ _ _ _ (by omega), b2 _ _ (by simp), a3 _ _ (by simp) (by simp)]
      exact mm_ups
    · rw [k4 _ _ _ _ (by omega), b2 _ _ (by simp), a3 _ _ (by simp) (by simp), mm_upf (by decide), f0 _ _ (by simp), mm_upf (by decide), mm_ups]
    · rw [k4 _ _ _ _ (by omega), b2 _ _ (by simp), a3 _ _ (by simp) (by simp), mm_upf (by decide), f0 _ _ (by simp), mm_ups]
    · rw [k4 _ _ _ _ (by omega)]; exact g22 t ht
    · rw [k4 _ _ _ _ (by omega), b2 _ _ (by simp)]; exact a1.1
    · rw [k4 _ _ _ _ (by omega), b2 _ _ (by simp)]; exact a1.2.1
    · rw [k4 _ _ _ _ (by omega), b2 _ _ (by simp)]; exact a1.2.2
    · rw [k4 _ _ _ _ (by omega), b2 _ _ (by simp)]; exact a2 u u0 u1
    · simp only [k0]
      exact b1
    · have z := c2 n n0 n1
      have e2 : ∀ f, 24 ≤ f → f ≤ 30 → ∀ n, h4 (f, 0, n) = h3 (f, 0, n) := fun f f0 f1 n => funext (fun j => c3 _ _ (by unfold kk_ct; simp; omega) (by unfold kk_tr; simp))
      unfold kk_cpd kk_sd at z ⊢
      rw [e2 24 (by omega) (by omega), e2 25 (by omega) (by omega), e2 26 (by omega) (by omega), e2 27 (by omega) (by omega), e2 28 (by omega) (by omega), e2 29 (by omega) (by omega), e2 30 (by omega) (by omega)]
      exact z
    · rw [c3 x j q8 q9, b2 x j q7, a3 x j q5 q6, show ((10 : Nat) : Int) = 10 from rfl, mm_upne' q1, f0 x j q4, mm_upne' q3, mm_upne' q2]
    · rw [k4 22 t n j (by omega), b2 _ _ (by simp), a3 _ _ (by simp) (by simp), mm_upf (by decide), e0]
      unfold kk_ht
      rw [@if_neg _ (Classical.propDecidable _) (fun w => q w.2.1), mm_upf (by decide), mm_upf (by decide)]
  obtain ⟨g, eg⟩ : ∃ g, g = mm_up (mm_up hi (8, 0, 0) 9 (-2)) (14, 0, 0) 0 c := ⟨_, rfl⟩
  rw [← eg]
  have z := s0L1 (hi := g) (x1 := x1) (ns := ns + 162614) (Q := Q) (fun v3 => by
    rw [bq_0_2]
    unfold bk_0_2
    rw [wp_1, wp_6 (l2 := [zR (1, 0, 0), zI x1, zR (15, 0, 0), zI 0]) rfl, wp_0]
    have y := s0L2 (hi := g) (x1 := x1) (ns := ns + 162614 + 43395) (Q := Q) (fun v3 => by
      rw [bq_0_4]
      unfold bk_0_4
      rw [wp_1, wp_6 (l2 := [zR (1, 0, 0), zI x1, zR (15, 0, 0), zI 0]) rfl, wp_0]
      have x := s0L3 (hi := kk_ht (fun t => (t = 26 ∨ t = 27) ∨ (0 ≤ t ∧ t < 5 ∨ 13 ≤ t ∧ t < 13 + 5) ∨ 5 ≤ t ∧ t < 5 + 8) g) (x1 := x1) (ns := ns + 162614 + 43395 + 34688) (Q := Q) (fun v3 => by
        rw [kk_PDe, show ns + 162614 + 43395 + 34688 + 17304 = ns + 258001 by omega, eg]
        exact E v3) 8 0 (by omega) (by omega)
      have e : kk_gr (kk_PD 0) = kk_gr (kk_PC 8) := kk_grE (fun y j _ => ⟨fun p => p.elim id (fun p => absurd (show (0 : Int) < 0 by omega) (by decide)), Or.inl⟩)
      rw [e] at x
      rw [show ns + 162614 + 43395 + 34688 = ns + 162614 + 43395 + 34688 + 2163 * 0 by omega]
      exact x) 8 0 (by omega) (by omega)
    have e : kk_gr (kk_PC 0) = kk_gr (kk_PB 5) := kk_grE (fun y j _ => ⟨fun p => p.elim id (fun p => absurd (show (0 : Int) < 0 by omega) (by decide)), Or.inl⟩)
    have e2 : kk_ht (fun t => (t = 26 ∨ t = 27) ∨ (0 ≤ t ∧ t < 5 ∨ 13 ≤ t ∧ t < 13 + 5) ∨ 5 ≤ t ∧ t < 5 + 0) g = kk_ht (fun t => (t = 26 ∨ t = 27) ∨ (0 ≤ t ∧ t < 5 ∨ 13 ≤ t ∧ t < 13 + 5)) g := kk_htE (fun t => by omega)
    rw [e, e2] at y
    rw [show ns + 162614 + 43395 = ns + 162614 + 43395 + 4336 * 0 by omega]
    exact y) 5 0 (by omega) (by omega)
  exact z
end
