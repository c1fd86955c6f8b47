/-! constructors: rows over any heap, cells that hold what they hold in the end -/
abbrev kk_R0 : mm_Id → Int → mm_Id := mm_mkR (fun _ => -1) 0
noncomputable def kk_gr (P : mm_Id → Int → Prop) : mm_Id → Int → mm_Id := fun y j => @ite mm_Id (P y j) (Classical.propDecidable _) (kk_R0 y j) mm_nul
theorem kk_gr1 {P : mm_Id → Int → Prop} {y : mm_Id} {j : Int} (h : P y j) : kk_gr P y j = kk_R0 y j := @if_pos _ (Classical.propDecidable _) h _ _ _
theorem kk_gr0 {P : mm_Id → Int → Prop} {y : mm_Id} {j : Int} (h : ¬ P y j) : kk_gr P y j = mm_nul := @if_neg _ (Classical.propDecidable _) h _ _ _
theorem kk_grE {P P2 : mm_Id → Int → Prop} (h : ∀ y j, kk_R0 y j ≠ mm_nul → (P y j ↔ P2 y j)) : kk_gr P = kk_gr P2 := by
  funext y j
  by_cases c : kk_R0 y j = mm_nul
  · by_cases p : P y j
    · by_cases p2 : P2 y j
      · rw [kk_gr1 p, kk_gr1 p2]
      · rw [kk_gr1 p, kk_gr0 p2, c]
    · by_cases p2 : P2 y j
      · rw [kk_gr0 p, kk_gr1 p2, c]
      · rw [kk_gr0 p, kk_gr0 p2]
  · by_cases p : P y j
    · rw [kk_gr1 p, kk_gr1 ((h y j c).1 p)]
    · rw [kk_gr0 p, kk_gr0 (fun q => p ((h y j c).2 q))]
theorem kk_gru {P : mm_Id → Int → Prop} {x v : mm_Id} {a : Int} (hv : kk_R0 x a = v) : mm_up (kk_gr P) x a v = kk_gr (fun y j => P y j ∨ y = x ∧ j = a) := by
  funext y j
  by_cases c : y = x ∧ j = a
  · rw [c.1, c.2, mm_ups, kk_gr1 (Or.inr ⟨rfl, rfl⟩), hv]
  · rw [mm_upne' c]
    by_cases p : P y j
    · rw [kk_gr1 p, kk_gr1 (Or.inl p)]
    · rw [kk_gr0 p, kk_gr0 (fun q => q.elim p c)]
theorem kk_okI {x : mm_Id} {nx c : Int} (h : mm_SH x = (1, c)) (l : mm_off x < nx) : mm_ok x nx 1 c = true := by
  unfold mm_ok mm_lv
  simp only [h, decide_eq_true l, decide_true, Bool.and_self]
theorem kk_off24 {f : Nat} {t n : Int} (hn : mm_isN n) (hf : f < 36) : mm_off (f, t, n) = mm_offo (f, t, n) := mm_off_lo hf (by have : 0 ≤ n ∧ n < 37 := hn; show n < 100; omega)
section
variable {y : Nat} {is : List mm_I} {l s : List mm_V} {hi : mm_Id → Int → Int} {hr : mm_Id → Int → mm_Id} {P : mm_Id → Int → Prop} {nx ns : Int} {Q : mm_V → mm_H → Prop} {a : Nat} {c : Int} {d e : Nat}
theorem wq_97 {x : mm_Id} {h : mm_H} (hx : x ≠ mm_nul) : mm_Wp y ((97, a, c, d, e) :: is) l [zR x] h Q = mm_Wp y is l [] h Q := by
  refine (mm_wpx _ _ (by decide) (by decide) (by decide)).trans ?_
  have hx2 : ¬ x = (0, 0, 0) := hx
  simp [mm_x, mm_x5, hx2]
theorem wq_80 {x : mm_Id} (hx : mm_SH x = (1, (a : Int))) (h9 : x.1 < 90) (hn : nx = mm_off x) (ha : a < 10) : mm_Wp y ((80, a, c, d, e) :: is) l s (hi, hr, nx, ns) Q = mm_Wp y is l (zR x :: s) (hi, hr, nx + 1, ns + mm_nf a) Q := by
  refine (mm_wpx _ _ (by decide) (by decide) (by decide)).trans ?_
  have e1 : mm_be nx = x := by rw [hn]; exact (mm_be_off x (by rw [hx]; simp) h9).1
  simp [mm_x, mm_x5, e1, hx, ha]
theorem wq_81 {x : mm_Id} {n : Int} (hx : mm_SH x = (a, n)) (h9 : x.1 < 90) (hn : nx = mm_off x) (ha : 2 ≤ a ∧ a ≤ 5) (n0 : 0 ≤ n) : mm_Wp y ((81, a, c, d, e) :: is) l (zI n :: s) (hi, hr, nx, ns) Q = mm_Wp y is l (zR x :: s) (hi, hr, nx + 1, ns + n) Q := by
  refine (mm_wpx _ _ (by decide) (by decide) (by decide)).trans ?_
  have e1 : mm_be nx = x := by rw [hn]; exact (mm_be_off x (by rw [hx]; intro q; have := (Prod.mk.inj q).1; omega) h9).1
  simp [mm_x, mm_x5, e1, hx, ha, n0]
theorem wq_82 {x : mm_Id} {n : Int} (hx : mm_SH x = (a, n)) (h9 : x.1 < 90) (hn : nx = mm_off x) (ha : 6 ≤ a ∧ a ≤ 9) (n0 : 0 ≤ n) : mm_Wp y ((82, a, c, d, e) :: is) l (zI n :: s) (hi, hr, nx, ns) Q = mm_Wp y is l (zR x :: s) (hi, hr, nx + 1, ns + n) Q := by
  refine (mm_wpx _ _ (by decide) (by decide) (by decide)).trans ?_
  have e1 : mm_be nx = x := by rw [hn]; exact (mm_be_off x (by rw [hx]; intro q; have := (Prod.mk.inj q).1; omega) h9).1
  simp [mm_x, mm_x5, e1, hx, ha, n0]
theorem wq_66 {x v : mm_Id} (hv : kk_R0 x a = v) (ho : mm_ok x nx 1 c = true) : mm_Wp y ((66, a, c, d, e) :: is) l (zR v :: zR x :: s) (hi, kk_gr P, nx, ns) Q = mm_Wp y is l s (hi, kk_gr (fun y j => P y j ∨ y = x ∧ j = a), nx, ns) Q := by
  refine (mm_wpx _ _ (by decide) (by decide) (by decide)).trans ?_
  have e2 := kk_gru (P := P) hv
  simp only [mm_x, mm_x3, ho]
  simp [e2]
theorem wq_62 {x v : mm_Id} (hv : hr x a = v) (hc : c < 11) (ho : mm_ok x nx 1 c = true) : mm_Wp y ((62, a, c, d, e) :: is) l (zR x :: s) (hi, hr, nx, ns) Q = mm_Wp y is l (zR v :: s) (hi, hr, nx, ns) Q := by
  refine (mm_wpx _ _ (by decide) (by decide) (by decide)).trans ?_
  have h20 : ¬ c = 20 := by omega
  have h21 : ¬ c = 21 := by omega
  have h11 : ¬ c = 11 := by omega
  subst hv
  simp [mm_x, mm_x3, h20, h21, h11, ho]
theorem wq_63 {x : mm_Id} {v : Int} (ho : mm_ok x nx 1 c = true) : mm_Wp y ((63, a, c, d, e) :: is) l (zI v :: zR x :: s) (hi, hr, nx, ns) Q = mm_Wp y is l s (mm_up hi x a v, hr, nx, ns) Q := by
  refine (mm_wpx _ _ (by decide) (by decide) (by decide)).trans ?_
  simp [mm_x, mm_x3, ho]
theorem wq_64 {x : mm_Id} {v : Int} (ho : mm_ok x nx 1 c = true) (hv : v = 0 ∨ v = 1) : mm_Wp y ((64, a, c, d, e) :: is) l (zI v :: zR x :: s) (hi, hr, nx, ns) Q = mm_Wp y is l s (mm_up hi x a v, hr, nx, ns) Q := by
  refine (mm_wpx _ _ (by decide) (by decide) (by decide)).trans ?_
  simp [mm_x, mm_x3, ho, hv]
theorem wq_77 {x v : mm_Id} {j n : Int} {k : Nat} (hx : mm_SH x = (k, n)) (hk : 6 ≤ k ∧ k ≤ 9) (hl : mm_off x < nx) (hj : 0 ≤ j ∧ j < n) (ho : mm_ok v nx 1 (mm_ec k : Int) = true) (hv : kk_R0 x j = v) : mm_Wp y ((77, a, c, d, e) :: is) l (zR v :: zI j :: zR x :: s) (hi, kk_gr P, nx, ns) Q = mm_Wp y is l s (hi, kk_gr (fun y i => P y i ∨ y = x ∧ i = j), nx, ns) Q := by
  refine (mm_wpx _ _ (by decide) (by decide) (by decide)).trans ?_
  have e2 := kk_gru (P := P) hv
  have e3 : mm_in x nx k j = true := by unfold mm_in mm_lv; simp [hx, hl, hj]
  simp [mm_x, mm_x4, hx, hk, e3, ho, e2]
end
theorem kk_n24 {t n j : Int} (h : kk_R0 (24, t, n) j ≠ mm_nul) : j = 7 ∨ j = 8 ∨ j = 10 ∨ j = 12 ∨ j = 13 ∨ j = 15 := by
  apply Classical.byContradiction
  intro q
  simp only [not_or] at q
  obtain ⟨q1, q2, q3, q4, q5, q6⟩ := q
  exact h (by simp [mm_mkR, q1, q2, q3, q4, q5, q6])
theorem bq_94_0 : mm_blk 94 0 = bk_94_0 := by decide +kernel
theorem bq_156_0 : mm_blk 156 0 = bk_156_0 := by decide +kernel
theorem bq_156_1 : mm_blk 156 1 = bk_156_1 := by decide +kernel
theorem bq_156_2 : mm_blk 156 2 = bk_156_2 := by decide +kernel
theorem bq_79_0 : mm_blk 79 0 = bk_79_0 := by decide +kernel
theorem bq_153_0 : mm_blk 153 0 = bk_153_0 := by decide +kernel
theorem bq_89_0 : mm_blk 89 0 = bk_89_0 := by decide +kernel
theorem bq_83_0 : mm_blk 83 0 = bk_83_0 := by decide +kernel
theorem bq_118_0 : mm_blk 118 0 = bk_118_0 := by decide +kernel
theorem bq_125_0 : mm_blk 125 0 = bk_125_0 := by decide +kernel
theorem bq_137_0 : mm_blk 137 0 = bk_137_0 := by decide +kernel
theorem bq_0_0 : mm_blk 0 0 = bk_0_0 := by decide +kernel
theorem bq_0_1 : mm_blk 0 1 = bk_0_1 := by decide +kernel
theorem bq_0_2 : mm_blk 0 2 = bk_0_2 := by decide +kernel
theorem bq_0_3 : mm_blk 0 3 = bk_0_3 := by decide +kernel
theorem bq_0_4 : mm_blk 0 4 = bk_0_4 := by decide +kernel
theorem bq_0_5 : mm_blk 0 5 = bk_0_5 := by decide +kernel
theorem bq_0_6 : mm_blk 0 6 = bk_0_6 := by decide +kernel
theorem bq_173_0 : mm_blk 173 0 = bk_173_0 := by decide +kernel
theorem bq_173_1 : mm_blk 173 1 = bk_173_1 := by decide +kernel
theorem bq_173_2 : mm_blk 173 2 = bk_173_2 := by decide +kernel
theorem bq_173_3 : mm_blk 173 3 = bk_173_3 := by decide +kernel
theorem mm_nf_1 : mm_nf 1 = 7 := by decide +kernel
theorem mm_nf_2 : mm_nf 2 = 3 := by decide +kernel
theorem mm_nf_3 : mm_nf 3 = 3 := by decide +kernel
theorem mm_nf_4 : mm_nf 4 = 16 := by decide +kernel
theorem mm_nf_5 : mm_nf 5 = 4 := by decide +kernel
theorem mm_nf_6 : mm_nf 6 = 9 := by decide +kernel
theorem mm_nf_7 : mm_nf 7 = 15 := by decide +kernel
theorem mm_nf_8 : mm_nf 8 = 4 := by decide +kernel
theorem mm_nf_9 : mm_nf 9 = 3 := by decide +kernel
theorem kk_nfR {f : Nat} {t n j : Int} (h : kk_R0 (f, t, n) j ≠ mm_nul) : (f = 22 → n = 0 ∧ (j = 0 ∨ j = 1)) ∧ (f = 23 → n = 0 ∧ 0 ≤ j ∧ j < 37) ∧ (f = 24 → 0 ≤ n ∧ n < 37) := by
  refine ⟨fun e => ?_, fun e => ?_, fun e => ?_⟩
  · subst e
    apply Classical.byContradiction
    intro q
    apply h
    by_cases n0 : n = 0
    · have j0 : ¬ j = 0 := fun w => q ⟨n0, Or.inl w⟩
      have j1 : ¬ j = 1 := fun w => q ⟨n0, Or.inr w⟩
      simp [mm_mkR, j0, j1]
    · simp [mm_mkR, n0]
  · subst e
    apply Classical.byContradiction
    intro q
    apply h
    unfold kk_R0 mm_mkR
    simp only
    rw [if_neg (fun w => q ⟨w.1.2, w.2⟩)]
  · subst e
    apply Classical.byContradiction
    intro q
    apply h
    unfold kk_R0 mm_mkR
    simp only
    rw [if_neg (fun w => q w.2)]
section
variable {hi : mm_Id → Int → Int} {P : mm_Id → Int → Prop} {nx ns t n : Int} {Q : mm_V → mm_H → Prop}
/-- a node -/
theorem s94c (ht : mm_isT t) (hn : mm_isN n) (hx : nx = mm_tb t + 2 + 7 * n + 1) (K : Q zU (hi, kk_gr (fun y j => P y j ∨ y = (24, t, n)), nx + 6, ns + 100)) : mm_Cl 94 [zR (24, t, n)] (hi, kk_gr P, nx, ns) Q := by
  have S := (mm_q24 ht hn (Int.le_refl 5275)).1
  have le := Int.le_refl 5275
  show mm_Wp 94 (mm_blk 94 0) [zR (24, t, n)] [] _ Q
  rw [bq_94_0]
  unfold bk_94_0
  rw [wp_5_0]
  rw [wq_97 (by simp)]
  rw [wp_5_0]
  rw [wp_1]
  rw [wq_81 (x := (25, t, n)) (mm_q25 ht hn le).1 (by show 25 < 90; decide) (by rw [kk_off24 hn (by decide)]; show _ = mm_tb t + 2 + 7 * n + 1; omega) (by decide) (by decide)]
  rw [wq_66 (mm_r24_7 ht hn) (kk_okI S (by rw [kk_off24 hn (by decide)]; show mm_tb t + 2 + 7 * n + 0 < _; omega))]
  rw [wp_5_0]
  rw [wp_1]
  rw [wq_81 (x := (26, t, n)) (mm_q26 ht hn le).1 (by show 26 < 90; decide) (by rw [kk_off24 hn (by decide)]; show _ = mm_tb t + 2 + 7 * n + 2; omega) (by decide) (by decide)]
  rw [wq_66 (mm_r24_8 ht hn) (kk_okI S (by rw [kk_off24 hn (by decide)]; show mm_tb t + 2 + 7 * n + 0 < _; omega))]
  rw [wp_5_0]
  rw [wp_1]
  rw [wq_81 (x := (27, t, n)) (mm_q27 ht hn le).1 (by show 27 < 90; decide) (by rw [kk_off24 hn (by decide)]; show _ = mm_tb t + 2 + 7 * n + 3; omega) (by decide) (by decide)]
  rw [wq_66 (mm_r24_10 ht hn) (kk_okI S (by rw [kk_off24 hn (by decide)]; show mm_tb t + 2 + 7 * n + 0 < _; omega))]
  rw [wp_5_0]
  rw [wp_1]
  rw [wq_81 (x := (28, t, n)) (mm_q28 ht hn le).1 (by show 28 < 90; decide) (by rw [kk_off24 hn (by decide)]; show _ = mm_tb t + 2 + 7 * n + 4; omega) (by decide) (by decide)]
  rw [wq_66 (mm_r24_12 ht hn) (kk_okI S (by rw [kk_off24 hn (by decide)]; show mm_tb t + 2 + 7 * n + 0 < _; omega))]
  rw [wp_5_0]
  rw [wp_1]
  rw [wq_81 (x := (29, t, n)) (mm_q29 ht hn le).1 (by show 29 < 90; decide) (by rw [kk_off24 hn (by decide)]; show _ = mm_tb t + 2 + 7 * n + 5; omega) (by decide) (by decide)]
  rw [wq_66 (mm_r24_13 ht hn) (kk_okI S (by rw [kk_off24 hn (by decide)]; show mm_tb t + 2 + 7 * n + 0 < _; omega))]
  rw [wp_5_0]
  rw [wp_1]
  rw [wq_81 (x := (30, t, n)) (mm_q30 ht hn le).1 (by show 30 < 90; decide) (by rw [kk_off24 hn (by decide)]; show _ = mm_tb t + 2 + 7 * n + 6; omega) (by decide) (by decide)]
  rw [wq_66 (mm_r24_15 ht hn) (kk_okI S (by rw [kk_off24 hn (by decide)]; show mm_tb t + 2 + 7 * n + 0 < _; omega))]
  rw [wp_93]
  have E : kk_gr (fun y j => P y j ∨ y = (24, t, n)) = kk_gr (fun y j => (((((P y j ∨ y = (24, t, n) ∧ j = ((7 : Nat) : Int)) ∨ y = (24, t, n) ∧ j = ((8 : Nat) : Int)) ∨ y = (24, t, n) ∧ j = ((10 : Nat) : Int)) ∨ y = (24, t, n) ∧ j = ((12 : Nat) : Int)) ∨ y = (24, t, n) ∧ j = ((13 : Nat) : Int)) ∨ y = (24, t, n) ∧ j = ((15 : Nat) : Int)) := kk_grE (fun y j q => by
    constructor
    · rintro (p | p)
      · exact Or.inl (Or.inl (Or.inl (Or.inl (Or.inl (Or.inl p)))))
      · rw [p] at q
        rcases kk_n24 q with w | w | w | w | w | w
        · exact Or.inl (Or.inl (Or.inl (Or.inl (Or.inl (Or.inr ⟨p, w⟩)))))
        · exact Or.inl (Or.inl (Or.inl (Or.inl (Or.inr ⟨p, w⟩))))
        · exact Or.inl (Or.inl (Or.inl (Or.inr ⟨p, w⟩)))
        · exact Or.inl (Or.inl (Or.inr ⟨p, w⟩))
        · exact Or.inl (Or.inr ⟨p, w⟩)
        · exact Or.inr ⟨p, w⟩
    · rintro ((((((p | p) | p) | p) | p) | p) | p)
      · exact Or.inl p
      all_goals exact Or.inr p.1)
  rw [E] at K
  rw [show nx + 1 + 1 + 1 + 1 + 1 + 1 = nx + 6 by omega, show ns + 24 + 24 + 36 + 4 + 4 + 8 = ns + 100 by omega]
  exact K
/-- a tree, as far as its n-th node -/
def kk_PT (P : mm_Id → Int → Prop) (t n : Int) : mm_Id → Int → Prop := fun y j => P y j ∨ y = (22, t, 0) ∨ (y.1 = 24 ∧ y.2.1 = t ∧ 0 ≤ y.2.2 ∧ y.2.2 < n) ∨ y = (23, t, 0) ∧ 0 ≤ j ∧ j < n
theorem kk_PTs {P : mm_Id → Int → Prop} {t n : Int} (hn : 0 ≤ n) : kk_gr (fun y i => (kk_PT P t n y i ∨ y = (24, t, n)) ∨ y = (23, t, 0) ∧ i = n) = kk_gr (kk_PT P t (n + 1)) := kk_grE (fun y j _ => by
  obtain ⟨f, a, b⟩ := y
  unfold kk_PT
  simp only [Prod.mk.injEq]
  constructor
  · rintro ((((p | p | p | p) | p) | p))
    · exact Or.inl p
    · exact Or.inr (Or.inl p)
    · exact Or.inr (Or.inr (Or.inl ⟨p.1, p.2.1, p.2.2.1, by omega⟩))
    · exact Or.inr (Or.inr (Or.inr ⟨p.1, p.2.1, by omega⟩))
    · exact Or.inr (Or.inr (Or.inl ⟨p.1, p.2.1, by omega, by omega⟩))
    · exact Or.inr (Or.inr (Or.inr ⟨p.1, by omega, by omega⟩))
  · rintro (p | p | p | p)
    · exact Or.inl (Or.inl (Or.inl p))
    · exact Or.inl (Or.inl (Or.inr (Or.inl p)))
    · by_cases c : b = n
      · exact Or.inl (Or.inr ⟨p.1, p.2.1, c⟩)
      · exact Or.inl (Or.inl (Or.inr (Or.inr (Or.inl ⟨p.1, p.2.1, p.2.2.1, by omega⟩))))
    · by_cases c : j = n
      · exact Or.inr ⟨p.1, c⟩
      · exact Or.inl (Or.inl (Or.inr (Or.inr (Or.inr ⟨p.1, p.2.1, by omega⟩)))))
theorem kk_PTe {P : mm_Id → Int → Prop} {t : Int} : kk_gr (kk_PT P t 37) = kk_gr (fun y j => P y j ∨ 22 ≤ y.1 ∧ y.1 ≤ 24 ∧ y.2.1 = t) := kk_grE (fun y j q => by
  obtain ⟨f, a, b⟩ := y
  obtain ⟨q1, q2, q3⟩ := kk_nfR q
  unfold kk_PT
  simp only [Prod.mk.injEq]
  constructor
  · rintro (p | p | p | p)
    · exact Or.inl p
    · exact Or.inr ⟨by omega, by omega, p.2.1⟩
    · exact Or.inr ⟨by omega, by omega, p.2.1⟩
    · exact Or.inr ⟨by omega, by omega, p.1.2.1⟩
  · rintro (p | ⟨p1, p2, p3⟩)
    · exact Or.inl p
    · by_cases c : f = 22
      · exact Or.inr (Or.inl ⟨c, p3, (q1 c).1⟩)
      · by_cases c2 : f = 23
        · exact Or.inr (Or.inr (Or.inr ⟨⟨c2, p3, (q2 c2).1⟩, (q2 c2).2⟩))
        · have c3 : f = 24 := by omega
          exact Or.inr (Or.inr (Or.inl ⟨c3, p3, q3 c3⟩)))
theorem kk_PT0 {P : mm_Id → Int → Prop} {t : Int} : kk_gr (fun y j => (P y j ∨ y = (22, t, 0) ∧ j = ((0 : Nat) : Int)) ∨ y = (22, t, 0) ∧ j = ((1 : Nat) : Int)) = kk_gr (kk_PT P t 0) := kk_grE (fun y j q => by
  obtain ⟨f, a, b⟩ := y
  obtain ⟨q1, q2, q3⟩ := kk_nfR q
  unfold kk_PT
  simp only [Prod.mk.injEq]
  constructor
  · rintro ((p | p) | p)
    · exact Or.inl p
    · exact Or.inr (Or.inl p.1)
    · exact Or.inr (Or.inl p.1)
  · rintro (p | p | p | p)
    · exact Or.inl (Or.inl p)
    · rcases (q1 p.1).2 with w | w
      · exact Or.inl (Or.inr ⟨p, by omega⟩)
      · exact Or.inr ⟨p, by omega⟩
    · omega
    · omega)
/-- a tree -/
theorem s156c (ht : mm_isT t) {b : Int} (hb : b = 0 ∨ b = 1) (hx : nx = mm_tb t + 1) (K : Q zU (mm_up hi (22, t, 0) 2 b, kk_gr (fun y j => P y j ∨ 22 ≤ y.1 ∧ y.1 ≤ 24 ∧ y.2.1 = t), nx + 260, ns + 4329)) : mm_Cl 156 [zR (22, t, 0), zR (15, 0, 0), zI b] (hi, kk_gr P, nx, ns) Q := by
  have le := Int.le_refl 5275
  have S := (mm_q22 ht le).1
  have L : ∀ (k : Nat) (n : Int), 37 - n = k → 0 ≤ n → mm_Wp 156 (mm_blk 156 1) [zR (22, t, 0), zR (15, 0, 0), zI b, zI n] [] (mm_up hi (22, t, 0) 2 b, kk_gr (kk_PT P t n), mm_tb t + 2 + 7 * n, ns + 37 + 116 * n) Q := by
    intro k
    induction k with
    | zero =>
      intro n e1 e2
      have en : n = 37 := by omega
      subst en
      rw [bq_156_1]
      unfold bk_156_1
      rw [wp_3_3, wp_1, wp_50, if_pos (by omega), bq_156_2]
      unfold bk_156_2
      rw [wp_93, kk_PTe, show mm_tb t + 2 + 7 * 37 = nx + 260 by omega, show ns + 37 + 116 * 37 = ns + 4329 by omega]
      exact K
    | succ k ih =>
      intro n e1 e2
      have hn : mm_isN n := ⟨e2, by omega⟩
      have SN := (mm_q24 ht hn le).1
      rw [bq_156_1]
      unfold bk_156_1
      rw [wp_3_3, wp_1, wp_50, if_neg (by omega), wp_5_0, wq_62 (v := (23, t, 0)) ((kk_gr1 (Or.inr (Or.inl rfl))).trans (mm_r22_0 ht)) (by decide) (kk_okI S (by show mm_tb t < _; omega)), wp_3_3, wq_80 (x := (24, t, n)) SN (by show 24 < 90; decide) (by rw [kk_off24 hn (by decide)]; show _ = mm_tb t + 2 + 7 * n + 0; omega) (by decide), wp_35r, wp_p1 mm_n_94 (mm_leq mm_m_94 (mm_lb rfl)) (mm_lb rfl) (kk_okI SN (by rw [kk_off24 hn (by decide)]; show mm_tb t + 2 + 7 * n + 0 < mm_tb t + 2 + 7 * n + 1; omega))]
      refine s94c ht hn (by omega) ?_
      show mm_Wp 156 _ _ _ _ _
      rw [mm_pU, wq_77 (k := 9) (n := 37) (mm_q23 ht le).1 (by decide) (by show mm_tb t + 1 < _; omega) ⟨e2, by omega⟩ (kk_okI SN (by rw [kk_off24 hn (by decide)]; show mm_tb t + 2 + 7 * n + 0 < _; omega)) (mm_a23 ht ⟨e2, by omega⟩), wp_9 (l2 := [zR (22, t, 0), zR (15, 0, 0), zI b, zI (n + 1)]) rfl (by rw [mm_wi (by omega) (by omega)]; rfl), wp_56, kk_PTs e2, mm_nf_4]
      have z := ih (n + 1) (by omega) (by omega)
      rw [show mm_tb t + 2 + 7 * (n + 1) = mm_tb t + 2 + 7 * n + 1 + 6 by omega, show ns + 37 + 116 * (n + 1) = ns + 37 + 116 * n + 16 + 100 by omega] at z
      exact z
  show mm_Wp 156 (mm_blk 156 0) [zR (22, t, 0), zR (15, 0, 0), zI b, zU] [] _ Q
  rw [bq_156_0]
  unfold bk_156_0
  rw [wp_5_0, wq_97 (by simp), wp_5_0, wp_1, wq_82 (x := (23, t, 0)) (mm_q23 ht le).1 (by show 23 < 90; decide) (by show _ = mm_tb t + 1; omega) (by decide) (by decide), wq_66 (mm_r22_0 ht) (kk_okI S (by show mm_tb t < _; omega)), wp_5_0, wp_5_1, wq_66 (mm_r22_1 ht) (kk_okI S (by show mm_tb t < _; omega)), wp_5_0, wp_3_2, wq_64 (kk_okI S (by show mm_tb t < _; omega)) hb, wp_1, wp_6 (l2 := [zR (22, t, 0), zR (15, 0, 0), zI b, zI 0]) rfl, wp_0, kk_PT0]
  have z := L 37 0 (by omega) (by omega)
  rw [show mm_tb t + 2 + 7 * 0 = nx + 1 by omega, show ns + 37 + 116 * 0 = ns + 37 by omega] at z
  exact z
end

