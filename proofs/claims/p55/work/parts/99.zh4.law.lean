/-! the law, from its first row to its answer -/
theorem bq_297_0 : mm_blk 297 0 = bk_297_0 := by decide +kernel
theorem mm_nf_0 : mm_nf 0 = 14 := by decide +kernel
theorem tt_law {S : Int → Int} {N : Int} (sN : S (-1) = N) (nN : 0 ≤ N ∧ N ≤ 1000000) : mm_Cl 297 [zR (90, 0, 0)] (kk_h0 S, fun _ _ => mm_nul, 0, 0) (fun r h1 => r = zI 1 ∧ h1.2.2.1 = 10550 ∧ h1.2.2.2 = 516030) := by
  have S1 : mm_SH (1, 0, 0) = (1, 0) := rfl
  have S2 : mm_SH (1, 0, 100) = (1, 0) := by decide +kernel
  have z0 : ∀ x j, x ≠ (90, 0, 0) → kk_h0 S x j = 0 := fun x j q => if_neg q
  have h90 : ∀ j, kk_h0 S (90, 0, 0) j = S j := fun j => if_pos rfl
  obtain ⟨H, h5, hC, h22, C4, C5, e5, A5, d0, d1, d2⟩ := ct_two (hi := kk_h0 S) (ns := 14) z0
  have H90 : ∀ j, H (90, 0, 0) j = S j := fun j => by
    rw [hC.2.2.2.2.2.2.2.2.2 _ _ (by simp) (by simp) (by simp) (by simp) (by simp) (by simp) (by simp) (by unfold kk_ct; simp) (by unfold kk_tr; simp)]
    exact h90 j
  have HZ : ∀ (x : mm_Id) j, 40 < x.1 → x.1 < 90 → H x j = 0 := fun x j q q2 => by
    have nn : ∀ y : mm_Id, y.1 ≤ 40 → x ≠ y := fun y w e => by rw [e] at q; omega
    rw [hC.2.2.2.2.2.2.2.2.2 x j (fun w => nn _ (by decide) w.1) (fun w => nn _ (by decide) w.1) (fun w => nn _ (by decide) w.1) (by omega) (fun w => nn _ (by decide) w.1) (nn _ (by decide)) (fun w => nn _ (by decide) w.1) (fun w => by
      unfold kk_ct at w
      rcases w with w | w | w | w
      · exact nn _ (by decide) w.1
      · exact nn _ (by decide) w
      · exact nn _ (by decide) w
      · exact nn _ (by decide) w) (fun w => by unfold kk_tr at w; omega)]
    exact z0 x j (fun w => by rw [w] at q2; exact absurd q2 (by decide))
  obtain ⟨G, hM⟩ : ∃ G, kk_MFC 4 H G := by
    obtain ⟨f, r, h1, e, q⟩ := m173c (hi := H) (ns := 0) (x1 := 4) (Q := fun _ _ => ∃ G, kk_MFC 4 H G) HZ (fun G h => ⟨G, h⟩)
    exact q
  have core := kk_Zcore (by omega) (kk_Zm z0 hC hM)
  have GH : ∀ (x : mm_Id) j, x.1 < 36 → G x j = H x j := fun x j q => hM.2.2.2.2.2.1 x j (Or.inl (by omega))
  have mkE : ∀ (x : mm_Id) j, x.1 < 36 → mm_mkR (fun _ => -1) 5275 x j = mm_mkR (fun _ => -1) 10581 x j := fun x j q => kk_mkn (fun w => by rw [w] at q; exact absurd q (by decide))
  obtain ⟨f, r5, hh, e, er5, eh5⟩ := C5
  subst er5 eh5
  obtain ⟨k0, ek0⟩ : ∃ k0 : mm_H, k0 = (H, mm_mkR (fun _ => -1) 5275, 5276, 258029) := ⟨_, rfl⟩
  have hT : tt_C (fun n => 0 ≤ n ∧ n ≤ 5275) (kk_h0 S, kk_gr (fun _ _ => False), 1, 14) := ⟨fun x j q => by
    show tt_S (kk_gr (fun _ _ => False) x j) = true
    rw [kk_gr0 (fun w => w)]; decide, show (0 : Int) ≤ 1 ∧ (1 : Int) ≤ 5275 by omega⟩
  have n5 : hh.2.2.1 = 5275 := congrArg Prod.fst e5
  have n6 : hh.2.2.2 = 258015 := (congrArg Prod.snd e5).trans (by decide)
  have R := (tt_run (ds := 258015) tt_Km tt_RC f 0 _ _ _ _ _ _ e (by decide +kernel) (tt_RC 0 (by decide +kernel) 0) (mm_SLE (mm_SLc (mm_SVR (by decide)) (mm_SLc (mm_SVI _) mm_SLn))) mm_SLn hT (by rw [n5]; exact Int.le_refl _)).2.2 k0
  have em : tt_m 100 false 5275 258015 (kk_h0 S, kk_gr (fun _ _ => False), 1, 14) k0 = k0 := by
    refine Prod.ext ?_ (Prod.ext ?_ (Prod.ext ?_ ?_))
    · funext z j
      show (if tt_S (tt_i 100 z) = true ∧ ¬ tt_X false z then kk_h0 S (tt_i 100 z) j else k0.1 z j) = k0.1 z j
      by_cases q : tt_S (tt_i 100 z) = true ∧ ¬ tt_X false z
      · have := (ct_q (j := j) hC h22 z0 q.1 (fun w => q.2 (Or.inl w))).1
        rw [if_pos q, ek0]
        refine Eq.trans ?_ this.symm
        refine z0 _ _ (fun w => ?_)
        have q1 := (tt_Si.1 q.1).1
        rw [w] at q1
        exact absurd q1 (by decide)
      · rw [if_neg q]
    · funext z j
      show (if tt_S (tt_i 100 z) = true ∧ z.1 ≠ 0 then tt_r 100 (kk_gr (fun _ _ => False) (tt_i 100 z) j) else k0.2.1 z j) = k0.2.1 z j
      by_cases q : tt_S (tt_i 100 z) = true ∧ z.1 ≠ 0
      · have := (ct_q (j := j) hC h22 z0 q.1 q.2).2
        rw [if_pos q, ek0, kk_gr0 (fun w => w), tt_r0]
        exact this.symm
      · rw [if_neg q]
    · rw [ek0]; rfl
    · rw [ek0]; rfl
  rw [em] at R
  obtain ⟨k, ek⟩ : ∃ k, k = tt_m 100 false 5275 258015 hh k0 := ⟨_, rfl⟩
  rw [← ek] at R
  have lo : ∀ x : mm_Id, x.2.2 < 100 → x.1 ≠ 0 → tt_S (tt_i 100 x) ≠ true := fun x q h0 w => by
    rw [tt_Si] at w
    unfold tt_i at w
    rw [if_neg h0] at w
    dsimp only at w
    omega
  have k1 : ∀ (x : mm_Id) j, x.2.2 < 100 → x.1 ≠ 0 → k.1 x j = H x j := fun x j q h0 => by
    rw [ek]
    show (if tt_S (tt_i 100 x) = true ∧ ¬ tt_X false x then hh.1 (tt_i 100 x) j else k0.1 x j) = _
    rw [if_neg (fun w => lo x q h0 w.1), ek0]
  have k2 : ∀ (x : mm_Id) j, x.2.2 < 100 → x.1 ≠ 0 → k.2.1 x j = mm_mkR (fun _ => -1) 5275 x j := fun x j q h0 => by
    rw [ek]
    show (if tt_S (tt_i 100 x) = true ∧ x.1 ≠ 0 then tt_r 100 (hh.2.1 (tt_i 100 x) j) else k0.2.1 x j) = _
    rw [if_neg (fun w => lo x q h0 w.1), ek0]
  have kq : ∀ (x : mm_Id) j, tt_S x = true → x.1 ≠ 0 → k.1 (tt_r 100 x) j = hh.1 x j := fun x j hS h0 => by
    rw [ek]
    exact tt_m1 hS (fun w => w.elim h0 (fun w => by cases w.1))
  have J : tt_J 0 G (fun _ => -1) k := by
    refine ⟨⟨0, Int.le_refl _, core⟩, fun x hS h0 => ⟨fun h14 j => ?_, fun j => ?_⟩, fun x hS h0 => ⟨fun h14 j => ?_, fun j => ?_⟩, ?_⟩
    · rw [tt_rz, GH x j (tt_Si.1 hS).1]
      exact k1 x j (tt_Si.1 hS).2.2 h0
    · rw [tt_rz, tt_rz, ← mkE x j (tt_Si.1 hS).1]
      exact k2 x j (tt_Si.1 hS).2.2 h0
    · rw [kq x j hS h0, GH x j (tt_Si.1 hS).1]
      exact (A5 x hS h0).1 h14 j
    · rw [← mkE x j (tt_Si.1 hS).1, ← (A5 x hS h0).2 j, ek]
      exact tt_m2 hS h0
    · rw [ek]
      show hh.2.2.1 + 5275 = 10550
      rw [n5]; rfl
  have r14 : tt_r 100 (14, 0, 0) = (14, 0, 100) := by decide
  have q14 : ∀ j, k.1 (14, 0, 100) j = hh.1 (14, 0, 0) j := fun j => by
    have := kq (14, 0, 0) j (by decide) (by decide)
    rw [r14] at this
    exact this
  have q : tt_Q 0 0 k := ⟨⟨(q14 0).trans d0, (q14 1).trans d1, (q14 2).trans d2⟩, ⟨by omega, by omega⟩, Or.inl rfl⟩
  have k22 : k.2.2 = (10550, 516030) := by
    refine Prod.ext J.2.2.2 ?_
    rw [ek]
    show hh.2.2.2 + 258015 = 516030
    rw [n6]; rfl
  have k90 : k.1 (90, 0, 0) (-1) = N := ((k1 (90, 0, 0) (-1) (by decide) (by decide)).trans (H90 _)).trans sN
  show mm_Wp 297 (mm_blk 297 0) [zR (90, 0, 0), zU, zU, zU, zU, zU, zU, zU, zU, zU, zU] [] _ _
  rw [bq_297_0]
  unfold bk_297_0
  rw [wq_80 (x := (1, 0, 0)) S1 (by decide) (by decide) (by decide), wp_35r, wp_1, wp_p2 mm_n_0 (mm_leq mm_m_0 (mm_lb rfl)) (mm_lb rfl) (kk_okI S1 (by show (0 : Int) < 1; decide)), ← kk_gr00, mm_nf_0, show (0 : Int) + 1 = 1 by decide, show (0 : Int) + 14 = 14 by decide]
  refine mm_Clm ?_ C4
  rintro r k3 ⟨er, ek3⟩
  subst er ek3
  show mm_Wp 297 _ _ _ (H, mm_mkR (fun _ => -1) 5275, 5275, 14 + 258001) _
  rw [mm_pU, wp_8 (l2 := [zR (90, 0, 0), zR (1, 0, 0), zU, zU, zU, zU, zU, zU, zU, zU, zU]) rfl, wq_80 (x := (1, 0, 100)) S2 (by decide) (by decide +kernel) (by decide), wp_35r, wp_1, wp_p2 mm_n_0 (mm_leq mm_m_0 (mm_lb rfl)) (mm_lb rfl) (kk_okI S2 (show mm_off (1, 0, 100) < 5275 + 1 by decide +kernel)), mm_nf_0, show (5275 : Int) + 1 = 5276 by decide, show (14 : Int) + 258001 + 14 = 258029 by decide, ← ek0]
  refine ⟨f, _, _, R, ?_⟩
  show mm_Wp 297 _ _ _ k _
  show mm_Wp 297 _ _ [zR (1, 0, 100)] k _
  rw [wp_8 (l2 := [zR (90, 0, 0), zR (1, 0, 0), zR (1, 0, 100), zU, zU, zU, zU, zU, zU, zU, zU]) rfl, wp_1, wp_6 (l2 := [zR (90, 0, 0), zR (1, 0, 0), zR (1, 0, 100), zI 0, zU, zU, zU, zU, zU, zU, zU]) rfl, wp_1, wp_6 (l2 := [zR (90, 0, 0), zR (1, 0, 0), zR (1, 0, 100), zI 0, zI 0, zU, zU, zU, zU, zU, zU]) rfl, wp_1, wp_6 (l2 := [zR (90, 0, 0), zR (1, 0, 0), zR (1, 0, 100), zI 0, zI 0, zI 0, zU, zU, zU, zU, zU]) rfl, wp_0]
  exact tt_lawL nN (fun k2 w => ⟨rfl, by rw [w], by rw [w]⟩) 200 0 0 0 0 G (fun _ => -1) k _ _ _ _ _ (by omega) (by omega) (by omega) (by omega) J q k90 k22 rfl
