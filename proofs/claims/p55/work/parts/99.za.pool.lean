/-! constructors: PoolHouse -/
theorem kk_nRa {f : Nat} {t n j : Int} (h : kk_R0 (f, t, n) j ≠ mm_nul) : (f = 1 ∧ (t = 0 ∧ n = 0) ∧ 0 ≤ j ∧ j < 9) ∨ (f = 2 ∧ (t = 0 ∧ n = 0) ∧ 0 ≤ j ∧ j < 5) ∨ (f = 3 ∧ (t = 0 ∧ n = 0) ∧ 0 ≤ j ∧ j < 8) ∨ (f = 4 ∧ (t = 0 ∧ n = 0) ∧ 0 ≤ j ∧ j < 8) ∨ (f = 5 ∧ t = 0 ∧ n = 0) ∨ (f = 8 ∧ t = 0 ∧ n = 0) ∨ (f = 15 ∧ t = 0 ∧ n = 0) ∨ ((22 ≤ f ∧ f ≤ 24) ∧ mm_isT t) ∨ (f = 31 ∧ mm_isD t ∧ n = 0) ∨ (f = 33 ∧ mm_isS t ∧ n = 0) ∨ (f = 34 ∧ mm_isS t ∧ n = 0) := by
  unfold kk_R0 mm_mkR at h
  simp only at h
  split at h
  · by_cases c : t = 0 ∧ n = 0
    · rw [if_pos c] at h
      refine Or.inl ⟨rfl, c, ?_⟩
      apply Classical.byContradiction
      intro k
      rw [if_neg (by omega), if_neg (by omega), if_neg (by omega), if_neg (by omega), if_neg (by omega), if_neg (by omega), if_neg (by omega), if_neg (by omega), if_neg (by omega)] at h
      exact h rfl
    · rw [if_neg c] at h; exact absurd rfl h
  · by_cases c : (t = 0 ∧ n = 0) ∧ 0 ≤ j ∧ j < 5
    · exact Or.inr (Or.inl ⟨rfl, c⟩)
    · rw [if_neg c] at h; exact absurd rfl h
  · by_cases c : (t = 0 ∧ n = 0) ∧ 0 ≤ j ∧ j < 8
    · exact Or.inr (Or.inr (Or.inl ⟨rfl, c⟩))
    · rw [if_neg c] at h; exact absurd rfl h
  · by_cases c : (t = 0 ∧ n = 0) ∧ 0 ≤ j ∧ j < 8
    · exact Or.inr (Or.inr (Or.inr (Or.inl ⟨rfl, c⟩)))
    · rw [if_neg c] at h; exact absurd rfl h
  · by_cases c : t = 0 ∧ n = 0
    · exact Or.inr (Or.inr (Or.inr (Or.inr (Or.inl ⟨rfl, c⟩))))
    · rw [if_neg c] at h; exact absurd rfl h
  · by_cases c : t = 0 ∧ n = 0
    · exact Or.inr (Or.inr (Or.inr (Or.inr (Or.inr (Or.inl ⟨rfl, c⟩)))))
    · rw [if_neg c] at h; exact absurd rfl h
  · by_cases c : t = 0 ∧ n = 0
    · exact Or.inr (Or.inr (Or.inr (Or.inr (Or.inr (Or.inr (Or.inl ⟨rfl, c⟩))))))
    · rw [if_neg c] at h; exact absurd rfl h
  · by_cases c : (0 ≤ t ∧ t < 18 ∨ t = 26 ∨ t = 27) ∧ n = 0
    · exact Or.inr (Or.inr (Or.inr (Or.inr (Or.inr (Or.inr (Or.inr (Or.inl ⟨by omega, c.1⟩)))))))
    · rw [if_neg c] at h; exact absurd rfl h
  · by_cases c : ((0 ≤ t ∧ t < 18 ∨ t = 26 ∨ t = 27) ∧ n = 0) ∧ 0 ≤ j ∧ j < 37
    · exact Or.inr (Or.inr (Or.inr (Or.inr (Or.inr (Or.inr (Or.inr (Or.inl ⟨by omega, c.1.1⟩)))))))
    · rw [if_neg c] at h; exact absurd rfl h
  · by_cases c : (0 ≤ t ∧ t < 18 ∨ t = 26 ∨ t = 27) ∧ 0 ≤ n ∧ n < 37
    · exact Or.inr (Or.inr (Or.inr (Or.inr (Or.inr (Or.inr (Or.inr (Or.inl ⟨by omega, c.1⟩)))))))
    · rw [if_neg c] at h; exact absurd rfl h
  · by_cases c : (0 ≤ t ∧ t < 5) ∧ n = 0
    · exact Or.inr (Or.inr (Or.inr (Or.inr (Or.inr (Or.inr (Or.inr (Or.inr (Or.inl ⟨rfl, c.1, c.2⟩))))))))
    · rw [if_neg c] at h; exact absurd rfl h
  · by_cases c : (0 ≤ t ∧ t < 8) ∧ n = 0
    · exact Or.inr (Or.inr (Or.inr (Or.inr (Or.inr (Or.inr (Or.inr (Or.inr (Or.inr (Or.inl ⟨rfl, c.1, c.2⟩)))))))))
    · rw [if_neg c] at h; exact absurd rfl h
  · by_cases c : (0 ≤ t ∧ t < 8) ∧ n = 0
    · exact Or.inr (Or.inr (Or.inr (Or.inr (Or.inr (Or.inr (Or.inr (Or.inr (Or.inr (Or.inr ⟨rfl, c.1, c.2⟩)))))))))
    · rw [if_neg c] at h; exact absurd rfl h
  · rw [if_neg (by omega)] at h; exact absurd rfl h
  · exact absurd rfl h
/-- trees that have their mark -/
noncomputable def kk_ht (T : Int → Prop) (hi : mm_Id → Int → Int) : mm_Id → Int → Int := fun x j => @ite Int (x.1 = 22 ∧ x.2.2 = 0 ∧ j = 2 ∧ T x.2.1) (Classical.propDecidable _) (kk_as x.2.1) (hi x j)
theorem kk_htu {T T2 : Int → Prop} {hi : mm_Id → Int → Int} {t v : Int} (hv : v = kk_as t) (e : ∀ i, T2 i ↔ (T i ∨ i = t)) : mm_up (kk_ht T hi) (22, t, 0) 2 v = kk_ht T2 hi := by
  funext x j
  obtain ⟨f, a, b⟩ := x
  unfold kk_ht
  simp only
  by_cases c : (f, a, b) = ((22, t, 0) : mm_Id) ∧ j = 2
  · obtain ⟨c1, c2⟩ := c
    injection c1 with c1 c3
    injection c3 with c3 c4
    subst c1 c3 c4 c2
    rw [mm_ups, @if_pos _ (Classical.propDecidable _) ⟨rfl, rfl, rfl, (e a).2 (Or.inr rfl)⟩, hv]
  · rw [mm_upne' c]
    by_cases p : f = 22 ∧ b = 0 ∧ j = 2 ∧ T a
    · rw [@if_pos _ (Classical.propDecidable _) p, @if_pos _ (Classical.propDecidable _) ⟨p.1, p.2.1, p.2.2.1, (e a).2 (Or.inl p.2.2.2)⟩]
    · rw [@if_neg _ (Classical.propDecidable _) p, @if_neg _ (Classical.propDecidable _) (fun q => ?_)]
      rcases (e a).1 q.2.2.2 with w | w
      · exact p ⟨q.1, q.2.1, q.2.2.1, w⟩
      · exact c ⟨by rw [q.1, q.2.1, w], q.2.2.1⟩
theorem kk_ht0 {hi : mm_Id → Int → Int} : kk_ht (fun _ => False) hi = hi := by
  funext x j
  unfold kk_ht
  rw [@if_neg _ (Classical.propDecidable _) (fun q => q.2.2.2)]
section
variable {hi : mm_Id → Int → Int} {P : mm_Id → Int → Prop} {nx ns : Int} {Q : mm_V → mm_H → Prop} {y : Nat} {is : List mm_I} {l s : List mm_V}
theorem kk_Wgr (P2 : mm_Id → Int → Prop) (h : ∀ y j, kk_R0 y j ≠ mm_nul → (P y j ↔ P2 y j)) (k : mm_Wp y is l s (hi, kk_gr P2, nx, ns) Q) : mm_Wp y is l s (hi, kk_gr P, nx, ns) Q := by
  rw [kk_grE h]; exact k
/-- what is set before the trees of the datasets -/
def kk_PA (y : mm_Id) (_ : Int) : Prop := y.1 = 1 ∨ y.1 = 5 ∨ y.1 = 8 ∨ y.1 = 15 ∨ (22 ≤ y.1 ∧ y.1 ≤ 24 ∧ (y.2.1 = 26 ∨ y.2.1 = 27))
def kk_PB (i : Int) (y : mm_Id) (j : Int) : Prop := kk_PA y j ∨ (y.1 = 2 ∧ 0 ≤ j ∧ j < i) ∨ (y.1 = 31 ∧ 0 ≤ y.2.1 ∧ y.2.1 < i) ∨ (22 ≤ y.1 ∧ y.1 ≤ 24 ∧ (0 ≤ y.2.1 ∧ y.2.1 < i ∨ 13 ≤ y.2.1 ∧ y.2.1 < 13 + i))
def kk_PC (i : Int) (y : mm_Id) (j : Int) : Prop := kk_PB 5 y j ∨ (y.1 = 3 ∧ 0 ≤ j ∧ j < i) ∨ (y.1 = 33 ∧ 0 ≤ y.2.1 ∧ y.2.1 < i) ∨ (22 ≤ y.1 ∧ y.1 ≤ 24 ∧ 5 ≤ y.2.1 ∧ y.2.1 < 5 + i)
def kk_PD (i : Int) (y : mm_Id) (j : Int) : Prop := kk_PC 8 y j ∨ (y.1 = 4 ∧ 0 ≤ j ∧ j < i) ∨ (y.1 = 34 ∧ 0 ≤ y.2.1 ∧ y.2.1 < i)
theorem kk_PDe : kk_gr (kk_PD 8) = mm_mkR (fun _ => -1) 5275 := by
  funext y j
  obtain ⟨f, t, n⟩ := y
  have e : kk_R0 (f, t, n) j = mm_mkR (fun _ => -1) 5275 (f, t, n) j := by
    unfold kk_R0 mm_mkR
    simp only
    split
    all_goals first
      | rfl
      | (rw [if_neg (by omega), if_neg (by omega)])
  rw [← e]
  by_cases c : kk_R0 (f, t, n) j = mm_nul
  · by_cases p : kk_PD 8 (f, t, n) j
    · rw [kk_gr1 p]
    · rw [kk_gr0 p, c]
  · refine kk_gr1 ?_
    unfold kk_PD kk_PC kk_PB kk_PA
    simp only
    rcases kk_nRa c with z | z | z | z | z | z | z | ⟨z, z2⟩ | ⟨z, z2, z3⟩ | ⟨z, z2, z3⟩ | ⟨z, z2, z3⟩
    · omega
    · omega
    · omega
    · omega
    · omega
    · omega
    · omega
    · unfold mm_isT at z2
      omega
    · unfold mm_isD at z2
      omega
    · unfold mm_isS at z2
      omega
    · unfold mm_isS at z2
      omega
/-- handles are made -/
theorem s0L3 {x1 : Int} (K : ∀ v3, mm_Wp 0 (mm_blk 0 6) [zR (1, 0, 0), zI x1, zR (15, 0, 0), v3] [] (hi, kk_gr (kk_PD 8), 5275, ns + 17304) Q) : ∀ (k : Nat) (i : Int), 8 - i = k → 0 ≤ i → mm_Wp 0 (mm_blk 0 5) [zR (1, 0, 0), zI x1, zR (15, 0, 0), zI i] [] (hi, kk_gr (kk_PD i), 5259 + 2 * i, ns + 2163 * i) Q := by
  have le := Int.le_refl 5275
  intro k
  induction k with
  | zero =>
    intro i e1 e2
    have e8 : i = 8 := by omega
    subst e8
    rw [bq_0_5]
    unfold bk_0_5
    rw [wp_3_3, wp_1, wp_49, if_neg (by omega)]
    rw [show (5259 : Int) + 2 * 8 = 5275 by decide, show ns + 2163 * 8 = ns + 17304 by omega]
    exact K _
  | succ k ih =>
    intro i e1 e2
    have iS : mm_isS i := ⟨e2, by omega⟩
    have S := (mm_q34 iS le).1
    rw [bq_0_5]
    unfold bk_0_5
    rw [wp_3_3, wp_1, wp_49, if_pos (by omega), wp_5_0, wq_62 (v := (4, 0, 0)) (kk_gr1 (P := kk_PD i) (y := (1, 0, 0)) (j := ((3 : Nat) : Int)) (Or.inl (Or.inl (Or.inl (Or.inl rfl))))) (by decide) (kk_okI (show mm_SH (1, 0, 0) = (1, 0) from rfl) (by show 0 < 5259 + 2 * i; omega)), wp_3_3, wq_80 (x := (34, i, 0)) S (by show 34 < 90; decide) (by show _ = 5259 + 2 * i; rfl) (by decide), wp_35r, wp_p1 mm_n_89 (mm_leq mm_m_89 (mm_lb rfl)) (mm_lb rfl) (kk_okI S (by show 5259 + 2 * i < 5259 + 2 * i + 1; omega))]
    refine s89c iS rfl ?_
    show mm_Wp 0 _ _ _ _ _
    rw [mm_pU, wq_77 (k := 8) (n := 8) (show mm_SH (4, 0, 0) = (8, 8) from rfl) (by decide) (by show 3 < _; omega) ⟨e2, by omega⟩ (kk_okI S (by show 5259 + 2 * i < _; omega)) (mm_a4 ⟨e2, by omega⟩), wp_9 (l2 := [zR (1, 0, 0), zI x1, zR (15, 0, 0), zI (i + 1)]) rfl (by rw [mm_wi (by omega) (by omega)]; rfl), wp_56, mm_nf_3]
    refine kk_Wgr (kk_PD (i + 1)) (fun y j q => ?_) ?_
    · obtain ⟨f, a, b⟩ := y
      unfold kk_PD
      simp only [Prod.mk.injEq]
      have nz := kk_nRa q
      constructor
      · rintro (((p | p | p) | p) | p)
        · exact Or.inl p
        · exact Or.inr (Or.inl ⟨p.1, by omega, by omega⟩)
        · exact Or.inr (Or.inr ⟨p.1, by omega, by omega⟩)
        · exact Or.inr (Or.inr ⟨p.1, by omega, by omega⟩)
        · exact Or.inr (Or.inl ⟨p.1.1, by omega, by omega⟩)
      · rintro (p | p | p)
        · exact Or.inl (Or.inl (Or.inl p))
        · by_cases c : j = i
          · refine Or.inr ⟨⟨p.1, ?_⟩, c⟩
            omega
          · exact Or.inl (Or.inl (Or.inr (Or.inl ⟨p.1, by omega, by omega⟩)))
        · by_cases c : a = i
          · refine Or.inl (Or.inr ⟨p.1, c, ?_⟩)
            omega
          · exact Or.inl (Or.inl (Or.inr (Or.inr ⟨p.1, by omega, by omega⟩)))
    · have z := ih (i + 1) (by omega) (by omega)
      rw [show 5259 + 2 * (i + 1) = 5259 + 2 * i + 1 + 1 by omega, show ns + 2163 * (i + 1) = ns + 2163 * i + 3 + 2160 by omega] at z
      exact z
/-- snapshots are made -/
theorem s0L2 {x1 : Int} (K : ∀ v3, mm_Wp 0 (mm_blk 0 4) [zR (1, 0, 0), zI x1, zR (15, 0, 0), v3] [] (kk_ht (fun t => (t = 26 ∨ t = 27) ∨ (0 ≤ t ∧ t < 5 ∨ 13 ≤ t ∧ t < 13 + 5) ∨ 5 ≤ t ∧ t < 5 + 8) hi, kk_gr (kk_PC 8), 5259, ns + 34688) Q) : ∀ (k : Nat) (i : Int), 8 - i = k → 0 ≤ i → mm_Wp 0 (mm_blk 0 3) [zR (1, 0, 0), zI x1, zR (15, 0, 0), zI i] [] (kk_ht (fun t => (t = 26 ∨ t = 27) ∨ (0 ≤ t ∧ t < 5 ∨ 13 ≤ t ∧ t < 13 + 5) ∨ 5 ≤ t ∧ t < 5 + i) hi, kk_gr (kk_PC i), 3163 + 262 * i, ns + 4336 * i) Q := by
  have le := Int.le_refl 5275
  intro k
  induction k with
  | zero =>
    intro i e1 e2
    have e8 : i = 8 := by omega
    subst e8
    rw [bq_0_3]
    unfold bk_0_3
    rw [wp_3_3, wp_1, wp_49, if_neg (by omega)]
    rw [show (3163 : Int) + 262 * 8 = 5259 by decide, show ns + 4336 * 8 = ns + 34688 by omega]
    exact K _
  | succ k ih =>
    intro i e1 e2
    have iS : mm_isS i := ⟨e2, by omega⟩
    have S := (mm_q33 iS le).1
    rw [bq_0_3]
    unfold bk_0_3
    rw [wp_3_3, wp_1, wp_49, if_pos (by omega), wp_5_0, wq_62 (v := (3, 0, 0)) (kk_gr1 (P := kk_PC i) (y := (1, 0, 0)) (j := ((2 : Nat) : Int)) (Or.inl (Or.inl (Or.inl rfl)))) (by decide) (kk_okI (show mm_SH (1, 0, 0) = (1, 0) from rfl) (by show 0 < 3163 + 262 * i; omega)), wp_3_3, wq_80 (x := (33, i, 0)) S (by show 33 < 90; decide) (by show _ = 3163 + 262 * i; rfl) (by decide), wp_35r, wp_5_2, wp_p2 mm_n_153 (mm_leq mm_m_153 (mm_lb rfl)) (mm_lb rfl) (kk_okI S (by show 3163 + 262 * i < 3163 + 262 * i + 1; omega))]
    refine s153c iS rfl ?_
    show mm_Wp 0 _ _ _ _ _
    rw [mm_pU, wq_77 (k := 7) (n := 8) (show mm_SH (3, 0, 0) = (7, 8) from rfl) (by decide) (by show 2 < _; omega) ⟨e2, by omega⟩ (kk_okI S (by show 3163 + 262 * i < _; omega)) (mm_a3 ⟨e2, by omega⟩), wp_9 (l2 := [zR (1, 0, 0), zI x1, zR (15, 0, 0), zI (i + 1)]) rfl (by rw [mm_wi (by omega) (by omega)]; rfl), wp_56, mm_nf_8]
    rw [kk_htu (T2 := fun t => (t = 26 ∨ t = 27) ∨ (0 ≤ t ∧ t < 5 ∨ 13 ≤ t ∧ t < 13 + 5) ∨ 5 ≤ t ∧ t < 5 + (i + 1)) (by unfold kk_as; rw [if_pos (by omega)]) (fun t => by omega)]
    refine kk_Wgr (kk_PC (i + 1)) (fun y j q => ?_) ?_
    · obtain ⟨f, a, b⟩ := y
      unfold kk_PC
      simp only [Prod.mk.injEq]
      have nz := kk_nRa q
      constructor
      · rintro (((p | p | p | p) | p | p) | p)
        · exact Or.inl p
        · exact Or.inr (Or.inl ⟨p.1, by omega, by omega⟩)
        · exact Or.inr (Or.inr (Or.inl ⟨p.1, by omega, by omega⟩))
        · exact Or.inr (Or.inr (Or.inr ⟨p.1, p.2.1, by omega, by omega⟩))
        · exact Or.inr (Or.inr (Or.inl ⟨p.1, by omega, by omega⟩))
        · exact Or.inr (Or.inr (Or.inr ⟨p.1, p.2.1, by omega, by omega⟩))
        · exact Or.inr (Or.inl ⟨p.1.1, by omega, by omega⟩)
      · rintro (p | p | p | p)
        · exact Or.inl (Or.inl (Or.inl p))
        · by_cases c : j = i
          · refine Or.inr ⟨⟨p.1, ?_⟩, c⟩
            omega
          · exact Or.inl (Or.inl (Or.inr (Or.inl ⟨p.1, by omega, by omega⟩)))
        · by_cases c : a = i
          · refine Or.inl (Or.inr (Or.inl ⟨p.1, c, ?_⟩))
            omega
          · exact Or.inl (Or.inl (Or.inr (Or.inr (Or.inl ⟨p.1, by omega, by omega⟩))))
        · by_cases c : a = 5 + i
          · exact Or.inl (Or.inr (Or.inr ⟨p.1, p.2.1, c⟩))
          · exact Or.inl (Or.inl (Or.inr (Or.inr (Or.inr ⟨p.1, p.2.1, by omega, by omega⟩))))
    · have z := ih (i + 1) (by omega) (by omega)
      rw [show 3163 + 262 * (i + 1) = 3163 + 262 * i + 1 + 261 by omega, show ns + 4336 * (i + 1) = ns + 4336 * i + 4 + 4332 by omega] at z
      exact z
/-- datasets are made -/
theorem s0L1 {x1 : Int} (K : ∀ v3, mm_Wp 0 (mm_blk 0 2) [zR (1, 0, 0), zI x1, zR (15, 0, 0), v3] [] (kk_ht (fun t => (t = 26 ∨ t = 27) ∨ (0 ≤ t ∧ t < 5 ∨ 13 ≤ t ∧ t < 13 + 5)) hi, kk_gr (kk_PB 5), 3163, ns + 43395) Q) : ∀ (k : Nat) (i : Int), 5 - i = k → 0 ≤ i → mm_Wp 0 (mm_blk 0 1) [zR (1, 0, 0), zI x1, zR (15, 0, 0), zI i] [] (kk_ht (fun t => (t = 26 ∨ t = 27) ∨ (0 ≤ t ∧ t < i ∨ 13 ≤ t ∧ t < 13 + i)) hi, kk_gr (kk_PB i), 543 + 524 * i, ns + 8679 * i) Q := by
  have le := Int.le_refl 5275
  intro k
  induction k with
  | zero =>
    intro i e1 e2
    have e8 : i = 5 := by omega
    subst e8
    rw [bq_0_1]
    unfold bk_0_1
    rw [wp_3_3, wp_1, wp_49, if_neg (by omega)]
    rw [show (543 : Int) + 524 * 5 = 3163 by decide, show ns + 8679 * 5 = ns + 43395 by omega]
    exact K _
  | succ k ih =>
    intro i e1 e2
    have iD : mm_isD i := ⟨e2, by omega⟩
    have S := (mm_q31 iD le).1
    rw [bq_0_1]
    unfold bk_0_1
    rw [wp_3_3, wp_1, wp_49, if_pos (by omega), wp_5_0, wq_62 (v := (2, 0, 0)) (kk_gr1 (P := kk_PB i) (y := (1, 0, 0)) (j := ((1 : Nat) : Int)) (Or.inl (Or.inl rfl))) (by decide) (kk_okI (show mm_SH (1, 0, 0) = (1, 0) from rfl) (by show 0 < 543 + 524 * i; omega)), wp_3_3, wq_80 (x := (31, i, 0)) S (by show 31 < 90; decide) (by show _ = 543 + 524 * i; rfl) (by decide), wp_35r, wp_5_2, wp_p2 mm_n_79 (mm_leq mm_m_79 (mm_lb rfl)) (mm_lb rfl) (kk_okI S (by show 543 + 524 * i < 543 + 524 * i + 1; omega))]
    refine s79c iD rfl ?_
    show mm_Wp 0 _ _ _ _ _
    rw [mm_pU, wq_77 (k := 6) (n := 5) (show mm_SH (2, 0, 0) = (6, 5) from rfl) (by decide) (by show 1 < _; omega) ⟨e2, by omega⟩ (kk_okI S (by show 543 + 524 * i < _; omega)) (mm_a2 ⟨e2, by omega⟩), wp_9 (l2 := [zR (1, 0, 0), zI x1, zR (15, 0, 0), zI (i + 1)]) rfl (by rw [mm_wi (by omega) (by omega)]; rfl), wp_56, mm_nf_1]
    rw [kk_htu (T2 := fun t => ((t = 26 ∨ t = 27) ∨ (0 ≤ t ∧ t < i ∨ 13 ≤ t ∧ t < 13 + i)) ∨ t = i) (by unfold kk_as; rw [if_pos (by omega)]) (fun t => Iff.rfl)]
    rw [kk_htu (T2 := fun t => (t = 26 ∨ t = 27) ∨ (0 ≤ t ∧ t < i + 1 ∨ 13 ≤ t ∧ t < 13 + (i + 1))) (by unfold kk_as; rw [if_neg (by omega)]) (fun t => by omega)]
    refine kk_Wgr (kk_PB (i + 1)) (fun y j q => ?_) ?_
    · obtain ⟨f, a, b⟩ := y
      unfold kk_PB
      simp only [Prod.mk.injEq]
      have nz := kk_nRa q
      constructor
      · rintro (((p | p | p | p) | p | p) | p)
        · exact Or.inl p
        · exact Or.inr (Or.inl ⟨p.1, by omega, by omega⟩)
        · exact Or.inr (Or.inr (Or.inl ⟨p.1, by omega, by omega⟩))
        · exact Or.inr (Or.inr (Or.inr ⟨p.1, p.2.1, by omega⟩))
        · exact Or.inr (Or.inr (Or.inl ⟨p.1, by omega, by omega⟩))
        · exact Or.inr (Or.inr (Or.inr ⟨p.1, p.2.1, by omega⟩))
        · exact Or.inr (Or.inl ⟨p.1.1, by omega, by omega⟩)
      · rintro (p | p | p | p)
        · exact Or.inl (Or.inl (Or.inl p))
        · by_cases c : j = i
          · refine Or.inr ⟨⟨p.1, ?_⟩, c⟩
            omega
          · exact Or.inl (Or.inl (Or.inr (Or.inl ⟨p.1, by omega, by omega⟩)))
        · by_cases c : a = i
          · refine Or.inl (Or.inr (Or.inl ⟨p.1, c, ?_⟩))
            omega
          · exact Or.inl (Or.inl (Or.inr (Or.inr (Or.inl ⟨p.1, by omega, by omega⟩))))
        · by_cases c : a = i ∨ a = 13 + i
          · exact Or.inl (Or.inr (Or.inr ⟨p.1, p.2.1, c⟩))
          · exact Or.inl (Or.inl (Or.inr (Or.inr (Or.inr ⟨p.1, p.2.1, by omega⟩))))
    · have z := ih (i + 1) (by omega) (by omega)
      rw [show 543 + 524 * (i + 1) = 543 + 524 * i + 1 + 523 by omega, show ns + 8679 * (i + 1) = ns + 8679 * i + 7 + 8672 by omega] at z
      exact z
end

