/-! nodes held against nodes; keys; a piece renewed -/
theorem mm_cmp0 {u v : Int} : mm_cmp u v = 0 ↔ u = v := by
  unfold mm_cmp
  split
  · omega
  · split <;> simp_all
section
variable {hi : mm_Id → Int → Int} {dh : Int → Int} {nx ns : Int} {Q : mm_V → mm_H → Prop} {t n t1 n1 : Int}

theorem s115 (ht : mm_isT t) (hn : mm_isN n) (ht1 : mm_isT t1) (hn1 : mm_isN n1) (hx : 5275 ≤ nx) (hc : 0 ≤ hi (24, t, n) 6 ∧ hi (24, t, n) 6 ≤ 24)
    (K1 : (hi (24, t, n) 6 = hi (24, t1, n1) 6 ∧ ∀ e, 0 ≤ e → e < hi (24, t, n) 6 → hi (25, t, n) e = hi (25, t1, n1) e ∧ hi (26, t, n) e = hi (26, t1, n1) e) → Q (zI 1) (mm_z hi dh nx ns)) (K0 : ¬ (hi (24, t, n) 6 = hi (24, t1, n1) 6 ∧ ∀ e, 0 ≤ e → e < hi (24, t, n) 6 → hi (25, t, n) e = hi (25, t1, n1) e ∧ hi (26, t, n) e = hi (26, t1, n1) e) → Q (zI 0) (mm_z hi dh nx ns)) :
    mm_Cl 115 [zR (24, t, n), zR (24, t1, n1)] (mm_z hi dh nx ns) Q := by
  have z0 : ∀ i, ¬ (hi (24, t, n) 6 = hi (24, t1, n1) 6 ∧ ∀ e, 0 ≤ e → e < hi (24, t, n) 6 → hi (25, t, n) e = hi (25, t1, n1) e ∧ hi (26, t, n) e = hi (26, t1, n1) e) → mm_Wp 115 (mm_blk 115 3) [zR (24, t, n), zR (24, t1, n1), zI 0, zI i] [] (mm_z hi dh nx ns) Q := by
    intro i h
    rw [r_115_3 (htx0 := ht) (hnx0 := hn) (htx1 := ht1) (hnx1 := hn1) (hx := hx), if_pos rfl, r_115_6 (hx := hx)]
    exact ⟨Or.inl rfl, K0 h⟩
  have L : ∀ (k : Nat) (i : Int), hi (24, t, n) 6 - i = k → 0 ≤ i → hi (24, t, n) 6 = hi (24, t1, n1) 6 → (∀ e, 0 ≤ e → e < i → hi (25, t, n) e = hi (25, t1, n1) e ∧ hi (26, t, n) e = hi (26, t1, n1) e) → mm_Wp 115 (mm_blk 115 3) [zR (24, t, n), zR (24, t1, n1), zI 1, zI i] [] (mm_z hi dh nx ns) Q := by
    intro k
    induction k with
    | zero =>
      intro i e1 e2 e3 e4
      rw [r_115_3 (htx0 := ht) (hnx0 := hn) (htx1 := ht1) (hnx1 := hn1) (hx := hx), if_neg (by decide), if_neg (by omega), r_115_6 (hx := hx)]
      exact ⟨Or.inr rfl, K1 ⟨e3, fun e a b => e4 e a (by omega)⟩⟩
    | succ k ih =>
      intro i e1 e2 e3 e4
      rw [r_115_3 (htx0 := ht) (hnx0 := hn) (htx1 := ht1) (hnx1 := hn1) (hx := hx), if_neg (by decide), if_pos (by omega)]
      refine ⟨by omega, by omega, ?_⟩
      split
      · rename_i h1
        refine ⟨by omega, by omega, ?_⟩
        split
        · rename_i h2
          rw [r_115_5 (htx0 := ht) (hnx0 := hn) (htx1 := ht1) (hnx1 := hn1) (hx := hx), mm_wi (by omega) (by omega)]
          exact ih (i + 1) (by omega) (by omega) e3 (fun e a b => by
            by_cases c : e = i
            · rw [c]; exact ⟨h1, h2⟩
            · exact e4 e a (by omega))
        · rename_i h2
          rw [r_115_4 (htx0 := ht) (hnx0 := hn) (htx1 := ht1) (hnx1 := hn1) (hx := hx), r_115_5 (htx0 := ht) (hnx0 := hn) (htx1 := ht1) (hnx1 := hn1) (hx := hx)]
          exact z0 _ (fun q => h2 (q.2 i e2 (by omega)).2)
      · rename_i h1
        rw [r_115_4 (htx0 := ht) (hnx0 := hn) (htx1 := ht1) (hnx1 := hn1) (hx := hx), r_115_5 (htx0 := ht) (hnx0 := hn) (htx1 := ht1) (hnx1 := hn1) (hx := hx)]
        exact z0 _ (fun q => h1 (q.2 i e2 (by omega)).1)
  rw [r_115_e (htx0 := ht) (hnx0 := hn) (htx1 := ht1) (hnx1 := hn1) (hx := hx)]
  split
  · rename_i h
    rw [r_115_2 (htx0 := ht) (hnx0 := hn) (htx1 := ht1) (hnx1 := hn1) (hx := hx)]
    exact L (hi (24, t, n) 6).toNat 0 (by omega) (by omega) h (fun e a b => by omega)
  · rename_i h
    rw [r_115_2 (htx0 := ht) (hnx0 := hn) (htx1 := ht1) (hnx1 := hn1) (hx := hx)]
    exact z0 _ (fun q => h q.1)
theorem s116 (ht : mm_isT t) (hn : mm_isN n) (ht1 : mm_isT t1) (hn1 : mm_isN n1) (hx : 5275 ≤ nx) (hc : 0 ≤ hi (24, t, n) 11 ∧ hi (24, t, n) 11 ≤ 4)
    (K1 : (hi (24, t, n) 11 = hi (24, t1, n1) 11 ∧ ∀ e, 0 ≤ e → e < hi (24, t, n) 11 → hi (28, t, n) e = hi (28, t1, n1) e ∧ hi (29, t, n) e = hi (29, t1, n1) e) → Q (zI 1) (mm_z hi dh nx ns)) (K0 : ¬ (hi (24, t, n) 11 = hi (24, t1, n1) 11 ∧ ∀ e, 0 ≤ e → e < hi (24, t, n) 11 → hi (28, t, n) e = hi (28, t1, n1) e ∧ hi (29, t, n) e = hi (29, t1, n1) e) → Q (zI 0) (mm_z hi dh nx ns)) :
    mm_Cl 116 [zR (24, t, n), zR (24, t1, n1)] (mm_z hi dh nx ns) Q := by
  have z0 : ∀ i, ¬ (hi (24, t, n) 11 = hi (24, t1, n1) 11 ∧ ∀ e, 0 ≤ e → e < hi (24, t, n) 11 → hi (28, t, n) e = hi (28, t1, n1) e ∧ hi (29, t, n) e = hi (29, t1, n1) e) → mm_Wp 116 (mm_blk 116 3) [zR (24, t, n), zR (24, t1, n1), zI 0, zI i] [] (mm_z hi dh nx ns) Q := by
    intro i h
    rw [r_116_3 (htx0 := ht) (hnx0 := hn) (htx1 := ht1) (hnx1 := hn1) (hx := hx), if_pos rfl, r_116_6 (hx := hx)]
    exact ⟨Or.inl rfl, K0 h⟩
  have L : ∀ (k : Nat) (i : Int), hi (24, t, n) 11 - i = k → 0 ≤ i → hi (24, t, n) 11 = hi (24, t1, n1) 11 → (∀ e, 0 ≤ e → e < i → hi (28, t, n) e = hi (28, t1, n1) e ∧ hi (29, t, n) e = hi (29, t1, n1) e) → mm_Wp 116 (mm_blk 116 3) [zR (24, t, n), zR (24, t1, n1), zI 1, zI i] [] (mm_z hi dh nx ns) Q := by
    intro k
    induction k with
    | zero =>
      intro i e1 e2 e3 e4
      rw [r_116_3 (htx0 := ht) (hnx0 := hn) (htx1 := ht1) (hnx1 := hn1) (hx := hx), if_neg (by decide), if_neg (by omega), r_116_6 (hx := hx)]
      exact ⟨Or.inr rfl, K1 ⟨e3, fun e a b => e4 e a (by omega)⟩⟩
    | succ k ih =>
      intro i e1 e2 e3 e4
      rw [r_116_3 (htx0 := ht) (hnx0 := hn) (htx1 := ht1) (hnx1 := hn1) (hx := hx), if_neg (by decide), if_pos (by omega)]
      refine ⟨by omega, by omega, ?_⟩
      split
      · rename_i h1
        refine ⟨by omega, by omega, ?_⟩
        split
        · rename_i h2
          rw [mm_cmp0] at h2
          rw [r_116_5 (htx0 := ht) (hnx0 := hn) (htx1 := ht1) (hnx1 := hn1) (hx := hx), mm_wi (by omega) (by omega)]
          exact ih (i + 1) (by omega) (by omega) e3 (fun e a b => by
            by_cases c : e = i
            · rw [c]; exact ⟨h1, h2⟩
            · exact e4 e a (by omega))
        · rename_i h2
          rw [mm_cmp0] at h2
          rw [r_116_4 (htx0 := ht) (hnx0 := hn) (htx1 := ht1) (hnx1 := hn1) (hx := hx), r_116_5 (htx0 := ht) (hnx0 := hn) (htx1 := ht1) (hnx1 := hn1) (hx := hx)]
          exact z0 _ (fun q => h2 (q.2 i e2 (by omega)).2)
      · rename_i h1
        rw [r_116_4 (htx0 := ht) (hnx0 := hn) (htx1 := ht1) (hnx1 := hn1) (hx := hx), r_116_5 (htx0 := ht) (hnx0 := hn) (htx1 := ht1) (hnx1 := hn1) (hx := hx)]
        exact z0 _ (fun q => h1 (q.2 i e2 (by omega)).1)
  rw [r_116_e (htx0 := ht) (hnx0 := hn) (htx1 := ht1) (hnx1 := hn1) (hx := hx)]
  split
  · rename_i h
    rw [r_116_2 (htx0 := ht) (hnx0 := hn) (htx1 := ht1) (hnx1 := hn1) (hx := hx)]
    exact L (hi (24, t, n) 11).toNat 0 (by omega) (by omega) h (fun e a b => by omega)
  · rename_i h
    rw [r_116_2 (htx0 := ht) (hnx0 := hn) (htx1 := ht1) (hnx1 := hn1) (hx := hx)]
    exact z0 _ (fun q => h q.1)
theorem s117 (ht : mm_isT t) (hn : mm_isN n) (ht1 : mm_isT t1) (hn1 : mm_isN n1) (hx : 5275 ≤ nx) (hc : 0 ≤ hi (24, t, n) 1 ∧ hi (24, t, n) 1 ≤ 8)
    (K1 : (hi (24, t, n) 14 = hi (24, t1, n1) 14 ∧ ∀ e, 0 ≤ e → e < hi (24, t, n) 1 → hi (30, t, n) e = hi (30, t1, n1) e) → Q (zI 1) (mm_z hi dh nx ns)) (K0 : ¬ (hi (24, t, n) 14 = hi (24, t1, n1) 14 ∧ ∀ e, 0 ≤ e → e < hi (24, t, n) 1 → hi (30, t, n) e = hi (30, t1, n1) e) → Q (zI 0) (mm_z hi dh nx ns)) :
    mm_Cl 117 [zR (24, t, n), zR (24, t1, n1)] (mm_z hi dh nx ns) Q := by
  have z0 : ∀ i, ¬ (hi (24, t, n) 14 = hi (24, t1, n1) 14 ∧ ∀ e, 0 ≤ e → e < hi (24, t, n) 1 → hi (30, t, n) e = hi (30, t1, n1) e) → mm_Wp 117 (mm_blk 117 3) [zR (24, t, n), zR (24, t1, n1), zI 0, zI i] [] (mm_z hi dh nx ns) Q := by
    intro i h
    rw [r_117_3 (htx0 := ht) (hnx0 := hn) (htx1 := ht1) (hnx1 := hn1) (hx := hx), if_pos rfl, r_117_6 (hx := hx)]
    exact ⟨Or.inl rfl, K0 h⟩
  have L : ∀ (k : Nat) (i : Int), hi (24, t, n) 1 - i = k → 0 ≤ i → hi (24, t, n) 14 = hi (24, t1, n1) 14 → (∀ e, 0 ≤ e → e < i → hi (30, t, n) e = hi (30, t1, n1) e) → mm_Wp 117 (mm_blk 117 3) [zR (24, t, n), zR (24, t1, n1), zI 1, zI i] [] (mm_z hi dh nx ns) Q := by
    intro k
    induction k with
    | zero =>
      intro i e1 e2 e3 e4
      rw [r_117_3 (htx0 := ht) (hnx0 := hn) (htx1 := ht1) (hnx1 := hn1) (hx := hx), if_neg (by decide), if_neg (by omega), r_117_6 (hx := hx)]
      exact ⟨Or.inr rfl, K1 ⟨e3, fun e a b => e4 e a (by omega)⟩⟩
    | succ k ih =>
      intro i e1 e2 e3 e4
      rw [r_117_3 (htx0 := ht) (hnx0 := hn) (htx1 := ht1) (hnx1 := hn1) (hx := hx), if_neg (by decide), if_pos (by omega), if_pos (by omega)]
      refine ⟨by omega, by omega, ?_⟩
      split
      · rename_i h1
        rw [r_117_5 (htx0 := ht) (hnx0 := hn) (htx1 := ht1) (hnx1 := hn1) (hx := hx), mm_wi (by omega) (by omega)]
        exact ih (i + 1) (by omega) (by omega) e3 (fun e a b => by
          by_cases c : e = i
          · rw [c]; exact h1
          · exact e4 e a (by omega))
      · rename_i h1
        rw [r_117_5 (htx0 := ht) (hnx0 := hn) (htx1 := ht1) (hnx1 := hn1) (hx := hx)]
        exact z0 _ (fun q => h1 (q.2 i e2 (by omega)))
  rw [r_117_e (htx0 := ht) (hnx0 := hn) (htx1 := ht1) (hnx1 := hn1) (hx := hx)]
  split
  · rename_i h
    rw [r_117_2 (htx0 := ht) (hnx0 := hn) (htx1 := ht1) (hnx1 := hn1) (hx := hx)]
    exact L (hi (24, t, n) 1).toNat 0 (by omega) (by omega) h (fun e a b => by omega)
  · rename_i h
    rw [r_117_2 (htx0 := ht) (hnx0 := hn) (htx1 := ht1) (hnx1 := hn1) (hx := hx)]
    exact z0 _ (fun q => h q.1)
/-- two rows have the same bytes -/
def kk_rb (h : mm_Id → Int → Int) (u v : Int) : Prop := ∀ i, 0 ≤ i → i < 60 → h (16, 0, 0) (60 * u + i) = h (16, 0, 0) (60 * v + i)
/-- two nodes are alike -/
def kk_al (h : mm_Id → Int → Int) (t n t1 n1 : Int) : Prop := h (24, t, n) 0 = h (24, t1, n1) 0 ∧ (h (24, t, n) 0 ≠ 0 → h (24, t, n) 1 = h (24, t1, n1) 1 ∧ h (24, t, n) 2 = h (24, t1, n1) 2 ∧ h (24, t, n) 3 = h (24, t1, n1) 3 ∧ (∀ p, 0 ≤ p → p < 36 → kk_rb h (h (27, t, n) p) (h (27, t1, n1) p)) ∧
  (h (24, t, n) 6 = h (24, t1, n1) 6 ∧ ∀ e, 0 ≤ e → e < h (24, t, n) 6 → h (25, t, n) e = h (25, t1, n1) e ∧ h (26, t, n) e = h (26, t1, n1) e) ∧ (h (24, t, n) 11 = h (24, t1, n1) 11 ∧ ∀ e, 0 ≤ e → e < h (24, t, n) 11 → h (28, t, n) e = h (28, t1, n1) e ∧ h (29, t, n) e = h (29, t1, n1) e) ∧
  (h (24, t, n) 0 = 3 → h (24, t, n) 14 = h (24, t1, n1) 14 ∧ ∀ e, 0 ≤ e → e < h (24, t, n) 1 → h (30, t, n) e = h (30, t1, n1) e))
theorem s114 (ht : mm_isT t) (hn : mm_isN n) (ht1 : mm_isT t1) (hn1 : mm_isN n1) (hx : 5275 ≤ nx) (hR1 : kk_R1 hi) (hb : hi (24, t, n) 9 = kk_nz (hi (27, t, n))) (hb1 : hi (24, t1, n1) 9 = kk_nz (hi (27, t1, n1)))
    (hc : 0 ≤ hi (24, t, n) 6 ∧ hi (24, t, n) 6 ≤ 24) (hk : 0 ≤ hi (24, t, n) 11 ∧ hi (24, t, n) 11 ≤ 4) (hl : hi (24, t, n) 0 = 3 → 0 ≤ hi (24, t, n) 1 ∧ hi (24, t, n) 1 ≤ 8)
    (K1 : kk_al hi t n t1 n1 → Q (zI 1) (mm_z hi dh nx ns)) (K0 : ¬ kk_al hi t n t1 n1 → Q (zI 0) (mm_z hi dh nx ns)) :
    mm_Cl 114 [zR (24, t, n), zR (24, t1, n1), zR (15, 0, 0)] (mm_z hi dh nx ns) Q := by
  have rest : ∀ (v2 v3 : mm_V), hi (24, t, n) 0 = hi (24, t1, n1) 0 → hi (24, t, n) 0 ≠ 0 → hi (24, t, n) 1 = hi (24, t1, n1) 1 → hi (24, t, n) 2 = hi (24, t1, n1) 2 → hi (24, t, n) 3 = hi (24, t1, n1) 3 → (∀ p, 0 ≤ p → p < 36 → kk_rb hi (hi (27, t, n) p) (hi (27, t1, n1) p)) →
      mm_Wp 114 (mm_blk 114 10) [zR (24, t, n), zR (24, t1, n1), v2, v3] [] (mm_z hi dh nx ns) Q := by
    intro v2 v3 a0 a1 a2 a3 a4 a5
    rw [r_114_10 (htx0 := ht) (hnx0 := hn) (htx1 := ht1) (hnx1 := hn1) (hx := hx)]
    refine s115 ht hn ht1 hn1 hx hc (fun h1 => ?_) (fun h1 => ?_)
    · rw [mm_pI, r_114_10_3 (htx0 := ht) (hnx0 := hn) (htx1 := ht1) (hnx1 := hn1) (hx := hx), if_neg (by decide)]
      refine s116 ht hn ht1 hn1 hx hk (fun h2 => ?_) (fun h2 => ?_)
      · rw [mm_pI, r_114_10_7 (htx0 := ht) (hnx0 := hn) (htx1 := ht1) (hnx1 := hn1) (hx := hx), if_neg (by decide)]
        split
        · rename_i h3
          refine s117 ht hn ht1 hn1 hx (hl h3) (fun h4 => ?_) (fun h4 => ?_)
          · rw [mm_pI, r_114_10_15 (hx := hx), if_neg (by decide), r_114_11 (hx := hx), r_114_13 (hx := hx)]
            exact ⟨Or.inr rfl, K1 ⟨a0, fun _ => ⟨a2, a3, a4, a5, h1, h2, fun _ => h4⟩⟩⟩
          · rw [mm_pI, r_114_10_15 (hx := hx), if_pos rfl, r_114_12 (hx := hx), r_114_13 (hx := hx)]
            exact ⟨Or.inl rfl, K0 (fun q => h4 ((q.2 a1).2.2.2.2.2.2 h3))⟩
        · rename_i h3
          rw [r_114_11 (hx := hx), r_114_13 (hx := hx)]
          exact ⟨Or.inr rfl, K1 ⟨a0, fun _ => ⟨a2, a3, a4, a5, h1, h2, fun q => absurd q h3⟩⟩⟩
      · rw [mm_pI, r_114_10_7 (htx0 := ht) (hnx0 := hn) (htx1 := ht1) (hnx1 := hn1) (hx := hx), if_pos rfl, r_114_12 (hx := hx), r_114_13 (hx := hx)]
        exact ⟨Or.inl rfl, K0 (fun q => h2 (q.2 a1).2.2.2.2.2.1)⟩
    · rw [mm_pI, r_114_10_3 (htx0 := ht) (hnx0 := hn) (htx1 := ht1) (hnx1 := hn1) (hx := hx), if_pos rfl, r_114_12 (hx := hx), r_114_13 (hx := hx)]
      exact ⟨Or.inl rfl, K0 (fun q => h1 (q.2 a1).2.2.2.2.1)⟩
  have L : ∀ (k : Nat) (i : Int), 36 - i = k → 0 ≤ i → hi (24, t, n) 0 = hi (24, t1, n1) 0 → hi (24, t, n) 0 ≠ 0 → hi (24, t, n) 1 = hi (24, t1, n1) 1 → hi (24, t, n) 2 = hi (24, t1, n1) 2 → hi (24, t, n) 3 = hi (24, t1, n1) 3 → (∀ p, 0 ≤ p → p < i → kk_rb hi (hi (27, t, n) p) (hi (27, t1, n1) p)) →
      mm_Wp 114 (mm_blk 114 7) [zR (24, t, n), zR (24, t1, n1), zR (15, 0, 0), zI i] [] (mm_z hi dh nx ns) Q := by
    intro k
    induction k with
    | zero =>
      intro i e1 e2 a0 a1 a2 a3 a4 a5
      have q := rest (zR (15, 0, 0)) (zI i) a0 a1 a2 a3 a4 (fun p b1 b2 => a5 p b1 (by omega))
      have q2 : mm_Wp 114 (mm_blk 114 8) [zR (24, t, n), zR (24, t1, n1), zR (15, 0, 0), zI i] [] (mm_z hi dh nx ns) Q := by
        rw [r_114_8 (htx0 := ht) (hnx0 := hn) (htx1 := ht1) (hnx1 := hn1) (hx := hx), if_neg (by omega)]; exact q
      rw [r_114_7 (htx0 := ht) (hnx0 := hn) (htx1 := ht1) (hnx1 := hn1) (hx := hx)]
      split
      · exact q2
      · split
        · exact q2
        · exact q
    | succ k ih =>
      intro i e1 e2 a0 a1 a2 a3 a4 a5
      have q2 : mm_Wp 114 (mm_blk 114 8) [zR (24, t, n), zR (24, t1, n1), zR (15, 0, 0), zI i] [] (mm_z hi dh nx ns) Q := by
        rw [r_114_8 (htx0 := ht) (hnx0 := hn) (htx1 := ht1) (hnx1 := hn1) (hx := hx), if_pos (by omega)]
        refine ⟨by omega, by omega, s133 hx (hR1 t n i ht hn e2 (by omega)) (hR1 t1 n1 i ht1 hn1 e2 (by omega)) (fun h1 => ?_) (fun h1 => ?_)⟩
        · rw [mm_pI, r_114_8_13 (htx0 := ht) (hnx0 := hn) (htx1 := ht1) (hnx1 := hn1) (hx := hx), if_neg (by decide), mm_wi (by omega) (by omega)]
          exact ih (i + 1) (by omega) (by omega) a0 a1 a2 a3 a4 (fun p b1 b2 => by
            by_cases c : p = i
            · rw [c]; exact h1
            · exact a5 p b1 (by omega))
        · rw [mm_pI, r_114_8_13 (htx0 := ht) (hnx0 := hn) (htx1 := ht1) (hnx1 := hn1) (hx := hx), if_pos rfl]
          exact K0 (fun q => by
            obtain ⟨j, j1, j2, j3⟩ := h1
            exact j3 ((q.2 a1).2.2.2.1 i e2 (by omega) j j1 j2))
      rw [r_114_7 (htx0 := ht) (hnx0 := hn) (htx1 := ht1) (hnx1 := hn1) (hx := hx)]
      split
      · exact q2
      · split
        · exact q2
        · refine rest _ _ a0 a1 a2 a3 a4 (fun p b1 b2 => ?_)
          rw [kk_nzI (f := hi (27, t, n)) (by omega) b1 b2, kk_nzI (f := hi (27, t1, n1)) (by omega) b1 b2]
          exact fun i _ _ => rfl
  rw [r_114_e (htx0 := ht) (hnx0 := hn) (htx1 := ht1) (hnx1 := hn1) (hx := hx)]
  split
  · rename_i h0
    split
    · rename_i h1
      rw [r_114_1 (htx0 := ht) (hnx0 := hn) (htx1 := ht1) (hnx1 := hn1) (hx := hx), if_pos h0, r_114_3 (hx := hx)]
      exact ⟨Or.inr rfl, K1 ⟨h0, fun q => absurd h1 q⟩⟩
    · rename_i h1
      split
      · rename_i h2
        split
        · rename_i h3
          split
          · rename_i h4
            exact L 36 0 (by omega) (by omega) h0 h1 h2 h3 h4 (fun p a b => by omega)
          · rename_i h4
            rw [r_114_5 (hx := hx)]
            exact K0 (fun q => h4 (q.2 h1).2.2.1)
        · rename_i h3
          rw [r_114_5 (hx := hx)]
          exact K0 (fun q => h3 (q.2 h1).2.1)
      · rename_i h2
        rw [r_114_5 (hx := hx)]
        exact K0 (fun q => h2 (q.2 h1).1)
  · rename_i h0
    rw [r_114_1 (htx0 := ht) (hnx0 := hn) (htx1 := ht1) (hnx1 := hn1) (hx := hx), if_neg h0, r_114_3 (hx := hx)]
    exact ⟨Or.inl rfl, K0 (fun q => h0 q.1)⟩
/-- whether a piece stays -/
def kk_kp (h : mm_Id → Int → Int) (t n t1 n1 p : Int) : Prop := (h (24, t, n) 0 = 1 ∧ h (24, t, n) 5 ≠ 0 ∧ h (24, t1, n1) 0 = 1) ∧ (h (27, t, n) p = 0 ↔ h (27, t1, n1) p = 0) ∧ kk_rb h (h (27, t, n) p) (h (27, t1, n1) p)
theorem s113 (ht : mm_isT t) (hn : mm_isN n) (ht1 : mm_isT t1) (hn1 : mm_isN n1) (hx : 5275 ≤ nx) (hR1 : kk_R1 hi) {p : Int} (hp : 0 ≤ p ∧ p < 36)
    (K1 : kk_kp hi t n t1 n1 p → Q (zI 1) (mm_z hi dh nx ns)) (K0 : ¬ kk_kp hi t n t1 n1 p → Q (zI 0) (mm_z hi dh nx ns)) :
    mm_Cl 113 [zR (24, t, n), zI p, zR (24, t1, n1), zR (15, 0, 0)] (mm_z hi dh nx ns) Q := by
  have no : ∀ v0 v1 v2 v3 v4 : mm_V, ¬ kk_kp hi t n t1 n1 p → mm_Wp 113 (mm_blk 113 7) [v0, v1, v2, v3, v4] [] (mm_z hi dh nx ns) Q := by
    intro v0 v1 v2 v3 v4 h
    rw [r_113_7 (hx := hx), r_113_8 (hx := hx)]
    exact ⟨Or.inl rfl, K0 h⟩
  have six : ∀ y0 y1, ((y1 = y0) ↔ (hi (27, t, n) p = 0 ↔ hi (27, t1, n1) p = 0)) → (hi (24, t, n) 0 = 1 ∧ hi (24, t, n) 5 ≠ 0 ∧ hi (24, t1, n1) 0 = 1) → ∀ v4, mm_Wp 113 (mm_blk 113 6) [zR (24, t, n), zI p, zR (24, t1, n1), zR (15, 0, 0), v4] [zI y0, zI y1] (mm_z hi dh nx ns) Q := by
    intro y0 y1 hy ha v4
    rw [r_113_6 (htx0 := ht) (hnx0 := hn) (htx2 := ht1) (hnx2 := hn1) (hx := hx)]
    split
    · rename_i h1
      refine ⟨by omega, by omega, s133 hx (hR1 t n p ht hn hp.1 hp.2) (hR1 t1 n1 p ht1 hn1 hp.1 hp.2) (fun h2 => ?_) (fun h2 => ?_)⟩
      · rw [mm_pI, r_113_6_11 (hx := hx), if_neg (by decide), r_113_8 (hx := hx)]
        exact ⟨Or.inr rfl, K1 ⟨ha, hy.1 h1, h2⟩⟩
      · rw [mm_pI, r_113_6_11 (hx := hx), if_pos rfl]
        exact no _ _ _ _ _ (fun q => by
          obtain ⟨j, j1, j2, j3⟩ := h2
          exact j3 (q.2.2 j j1 j2))
    · rename_i h1
      exact no _ _ _ _ _ (fun q => h1 (hy.2 q.2.1))
  rw [r_113_e (htx0 := ht) (hnx0 := hn) (htx2 := ht1) (hnx2 := hn1) (hx := hx)]
  split
  · rename_i h0
    split
    · rename_i h1
      rw [r_113_1 (hx := hx)]
      exact K0 (fun q => q.1.2.1 h1)
    · rename_i h1
      split
      · rename_i h2
        refine ⟨by omega, ?_⟩
        split
        · rename_i h3
          rw [r_113_4 (htx0 := ht) (hnx0 := hn) (htx2 := ht1) (hnx2 := hn1) (hx := hx)]
          refine ⟨by omega, ?_⟩
          split
          · rename_i h4
            exact six 1 1 (by simp [h3, h4]) ⟨h0, h1, h2⟩ _
          · rename_i h4
            exact six 0 1 (by simp [h3, h4]) ⟨h0, h1, h2⟩ _
        · rename_i h3
          rw [r_113_4 (htx0 := ht) (hnx0 := hn) (htx2 := ht1) (hnx2 := hn1) (hx := hx)]
          refine ⟨by omega, ?_⟩
          split
          · rename_i h4
            exact six 1 0 (by simp [h3, h4]) ⟨h0, h1, h2⟩ _
          · rename_i h4
            exact six 0 0 (by simp [h3, h4]) ⟨h0, h1, h2⟩ _
      · rename_i h2
        rw [r_113_1 (hx := hx)]
        exact K0 (fun q => h2 q.1.2.2)
  · rename_i h0
    rw [r_113_1 (hx := hx)]
    exact K0 (fun q => h0 q.1.1)
/-- a piece becomes a new block with the bytes that it has -/
theorem s107 (ht : 0 ≤ t ∧ t < 13) (hn : mm_isN n) (hx : 5275 ≤ nx) {p : Int} (hp : 0 ≤ p ∧ p < 36) (hR : kk_R hi) (hb : hi (24, t, n) 9 = kk_nz (hi (27, t, n))) (hf : ∃ r, 1 ≤ r ∧ r < 1701 ∧ hi (19, 0, 0) r = 0)
    (K : ∀ h2 r, 1 ≤ r → r < 1701 → hi (19, 0, 0) r = 0 → kk_R h2 → h2 (27, t, n) p = r → h2 (24, t, n) 9 = kk_nz (h2 (27, t, n)) → (∀ i, 0 ≤ i → i < 60 → h2 (16, 0, 0) (60 * r + i) = hi (16, 0, 0) (60 * hi (27, t, n) p + i)) →
      (∀ x j, ¬ kk_ct x j → ¬ (x = (15, 0, 0) ∧ j = 8) → ¬ (x = (16, 0, 0) ∧ 60 * r ≤ j ∧ j < 60 * r + 60) → ¬ (x = (27, t, n) ∧ j = p) → ¬ (x = (24, t, n) ∧ j = 9) → h2 x j = hi x j) → Q zU (mm_z h2 dh nx ns)) :
    mm_Cl 107 [zR (24, t, n), zI p, zR (15, 0, 0)] (mm_z hi dh nx ns) Q := by
  have htT : mm_isT t := Or.inl ⟨ht.1, by omega⟩
  obtain ⟨R1, R2, R3, R4, R5, R6, R7, R8⟩ := id hR
  have hs := kk_smR hR
  rw [r_107_e (htx0 := htT) (hnx0 := hn) (hx := hx), if_neg (by omega), if_pos hp.2]
  refine ⟨hp, s127 hx (R1 t n p htT hn hp.1 hp.2) ⟨R4, R5⟩ hs.2 hf (fun r r1 r2 r3 => ?_)⟩
  rw [mm_pI, r_107_2_11 (htx0 := htT) (hnx0 := hn) (hty2 := htT) (hny2 := hn) (hx := hx)]
  have hs2 : kk_sm (mm_up (kk_tak hi (hi (27, t, n) p) r) (27, t, n) p r) := by
    refine ⟨fun q q1 q2 => ?_, ?_⟩
    · rw [mm_upf (by decide), mm_upf (by decide), kk_t17, kk_t18]
      have := hs.1 q q1 q2
      split <;> omega
    · rw [mm_upf (by decide), kk_t15]
      have := hs.2
      have := kk_hdub hi
      omega
  refine ⟨hp, s129 hx hs2 ?_⟩
  have mv := kk_move2 (o' := hi (27, t, n) p) hR ht hn hp ⟨r1, r2⟩ r3
  rw [kk_ltgup, mm_pU, r_107_2_16 (htx0 := htT) (hnx0 := hn) (hx := hx)]
  have e9 : mm_up (kk_ltg (kk_tak hi (hi (27, t, n) p) r) (hi (27, t, n) p) 0) (27, t, n) p r (24, t, n) 9 = hi (24, t, n) 9 := by
    rw [mm_upf (by decide), kk_ltgf (by unfold kk_ct; simp), kk_tf (by unfold kk_ct; simp) (by simp) (by simp)]
  have epc : ∀ q, q ≠ p → mm_up (kk_ltg (kk_tak hi (hi (27, t, n) p) r) (hi (27, t, n) p) 0) (27, t, n) p r (27, t, n) q = hi (27, t, n) q := fun q hq => by
    rw [mm_upj hq, kk_ltgf (by unfold kk_ct; simp), kk_tf (by unfold kk_ct; simp) (by simp) (by simp)]
  have nzn := kk_nznn (hi (27, t, n))
  have nzu := kk_nzub (hi (27, t, n))
  have fin : ∀ d, (d = if hi (27, t, n) p = 0 then 1 else 0) → Q zU (mm_z (mm_up (mm_up (kk_ltg (kk_tak hi (hi (27, t, n) p) r) (hi (27, t, n) p) 0) (27, t, n) p r) (24, t, n) 9 (mm_w (hi (24, t, n) 9 + d))) dh nx ns) := by
    intro d hd
    have hd2 : 0 ≤ d ∧ d ≤ 1 := by rw [hd]; split <;> omega
    rw [mm_wi (by omega) (by omega)]
    refine K _ r r1 r2 r3 (kk_Rup (Or.inl rfl) mv) (by rw [mm_upf (by decide), mm_ups]) ?_ (fun i i1 i2 => ?_) (fun x j b1 b2 b3 b4 b5 => ?_)
    · have e4 := kk_nz1 (f := hi (27, t, n)) (g := mm_up (mm_up (kk_ltg (kk_tak hi (hi (27, t, n) p) r) (hi (27, t, n) p) 0) (27, t, n) p r) (24, t, n) 9 (hi (24, t, n) 9 + d) (27, t, n)) (p := p) hp.1 hp.2 (fun q hq => by rw [mm_upf (by decide), epc q hq])
      rw [mm_ups, e4, mm_upf (by decide), mm_ups, if_neg (by omega), hb, hd]
      split <;> omega
    · rw [mm_upf (by decide), mm_upf (by decide), kk_ltgf (by unfold kk_ct; simp), kk_t16 ⟨i1, i2⟩]
    · rw [mm_upne' b5, mm_upne' b4, kk_ltgf b1, kk_tf b1 b2 b3]
  split
  · rename_i h1
    rw [r_107_4 (hty2 := htT) (hny2 := hn) (hx := hx), e9]
    exact fin 1 (by rw [if_pos h1])
  · rename_i h1
    rw [r_107_4 (hty2 := htT) (hny2 := hn) (hx := hx), e9]
    exact fin 0 (by rw [if_neg h1])
end

