/-! the cls: what is looked up, what the caller may, handles -/
section
variable {hi : mm_Id → Int → Int} {dh : Int → Int} {nx ns : Int} {Q : mm_V → mm_H → Prop} {t n : Int}
theorem s53 (hx : 5275 ≤ nx) {x : Int} (K1 : ∀ i, mm_isD i → 0 < x → hi (31, i, 0) 3 = x → (∀ j, 0 ≤ j → j < i → hi (31, j, 0) 3 ≠ x) → Q (zR (31, i, 0)) (mm_z hi dh nx ns)) (K0 : ¬ (0 < x ∧ ∃ j, mm_isD j ∧ hi (31, j, 0) 3 = x) → Q (zR mm_nul) (mm_z hi dh nx ns)) :
    mm_Cl 53 [zR (1, 0, 0), zI x] (mm_z hi dh nx ns) Q := by
  have L : ∀ (k : Nat) (i : Int), 5 - i = k → 0 ≤ i → (∀ j, 0 ≤ j → j < i → hi (31, j, 0) 3 ≠ x) → mm_Wp 53 (mm_blk 53 1) [zR (1, 0, 0), zI x, zI i] [] (mm_z hi dh nx ns) Q := by
    intro k
    induction k with
    | zero =>
      intro i e1 e2 e3
      rw [r_53_1 (hx := hx), if_neg (show ¬ i < 5 by omega), r_53_3 (hx := hx), ite_self]
      exact K0 (fun ⟨_, j, j1, j2⟩ => e3 j j1.1 (by have := j1.2; omega) j2)
    | succ k ih =>
      intro i e1 e2 e3
      rw [r_53_1 (hx := hx)]
      split
      · rename_i h0
        rw [if_pos (by omega)]
        refine ⟨by omega, ?_⟩
        split
        · rename_i h1
          exact ⟨by omega, K1 i ⟨by omega, by omega⟩ h0 h1 e3⟩
        · rename_i h1
          rw [mm_wi (by omega) (by omega)]
          exact ih (i + 1) (by omega) (by omega) (fun j a b => by
            by_cases c : j = i
            · rw [c]; exact h1
            · exact e3 j a (by omega))
      · rename_i h0
        rw [r_53_3 (hx := hx)]
        exact K0 (fun q => h0 q.1)
  rw [r_53_e (hx := hx)]
  exact L 5 0 (by omega) (by omega) (fun j a b => by omega)
theorem s54 (hx : 5275 ≤ nx) {x : Int} (K1 : ∀ i, mm_isS i → 0 < x → hi (33, i, 0) 1 = x → (∀ j, 0 ≤ j → j < i → hi (33, j, 0) 1 ≠ x) → Q (zR (33, i, 0)) (mm_z hi dh nx ns)) (K0 : ¬ (0 < x ∧ ∃ j, mm_isS j ∧ hi (33, j, 0) 1 = x) → Q (zR mm_nul) (mm_z hi dh nx ns)) :
    mm_Cl 54 [zR (1, 0, 0), zI x] (mm_z hi dh nx ns) Q := by
  have L : ∀ (k : Nat) (i : Int), 8 - i = k → 0 ≤ i → (∀ j, 0 ≤ j → j < i → hi (33, j, 0) 1 ≠ x) → mm_Wp 54 (mm_blk 54 1) [zR (1, 0, 0), zI x, zI i] [] (mm_z hi dh nx ns) Q := by
    intro k
    induction k with
    | zero =>
      intro i e1 e2 e3
      rw [r_54_1 (hx := hx), if_neg (show ¬ i < 8 by omega), r_54_3 (hx := hx), ite_self]
      exact K0 (fun ⟨_, j, j1, j2⟩ => e3 j j1.1 (by have := j1.2; omega) j2)
    | succ k ih =>
      intro i e1 e2 e3
      rw [r_54_1 (hx := hx)]
      split
      · rename_i h0
        rw [if_pos (by omega)]
        refine ⟨by omega, ?_⟩
        split
        · rename_i h1
          exact ⟨by omega, K1 i ⟨by omega, by omega⟩ h0 h1 e3⟩
        · rename_i h1
          rw [mm_wi (by omega) (by omega)]
          exact ih (i + 1) (by omega) (by omega) (fun j a b => by
            by_cases c : j = i
            · rw [c]; exact h1
            · exact e3 j a (by omega))
      · rename_i h0
        rw [r_54_3 (hx := hx)]
        exact K0 (fun q => h0 q.1)
  rw [r_54_e (hx := hx)]
  exact L 8 0 (by omega) (by omega) (fun j a b => by omega)
/-- the number of a tree: a dataset's, or a snapshot's below 0 -/
def kk_no (h : mm_Id → Int → Int) (s : Int) : Int := if s < 5 then h (31, s, 0) 3 else h (33, s - 5, 0) 1
/-- a tree told by a number: the first such one -/
def kk_tl (h : mm_Id → Int → Int) (x s : Int) : Prop := 0 < kk_no h s ∧ kk_no h s = if s < 5 then x else -x
def kk_tp (h : mm_Id → Int → Int) (x s : Int) : Prop := (0 ≤ s ∧ s < 13) ∧ kk_tl h x s ∧ ∀ j, 0 ≤ j → j < s → ¬ kk_tl h x j
def kk_np (h : mm_Id → Int → Int) (x : Int) : Prop := ∀ j, 0 ≤ j → j < 13 → ¬ kk_tl h x j
/-- numbers of trees are small -/
def kk_nm (h : mm_Id → Int → Int) : Prop := ∀ s, 0 ≤ s → s < 13 → 0 ≤ kk_no h s ∧ kk_no h s < 2000000
theorem kk_tp1 {h : mm_Id → Int → Int} {x s s2 : Int} (h1 : kk_tp h x s) (h2 : kk_tp h x s2) : s = s2 := by
  obtain ⟨a1, a2, a3⟩ := h1
  obtain ⟨b1, b2, b3⟩ := h2
  by_cases c : s < s2
  · exact absurd a2 (b3 s a1.1 c)
  · by_cases d : s2 < s
    · exact absurd b2 (a3 s2 b1.1 d)
    · omega
theorem s55 (hx : 5275 ≤ nx) {x : Int} (hm : kk_nm hi) (hr : -2147483648 ≤ x) (hr2 : x < 2147483648) (K1 : ∀ s, kk_tp hi x s → Q (zR (22, s, 0)) (mm_z hi dh nx ns)) (K0 : kk_np hi x → Q (zR mm_nul) (mm_z hi dh nx ns)) :
    mm_Cl 55 [zR (1, 0, 0), zI x] (mm_z hi dh nx ns) Q := by
  have d1 : ∀ j, 0 ≤ j → j < 5 → (kk_tl hi x j ↔ 0 < x ∧ hi (31, j, 0) 3 = x) := fun j a b => by
    have := hm j a (by omega)
    unfold kk_tl
    unfold kk_no at this ⊢
    rw [if_pos b, if_pos b] at *
    omega
  have d2 : ∀ j, 5 ≤ j → j < 13 → (kk_tl hi x j ↔ x < 0 ∧ hi (33, j - 5, 0) 1 = -x) := fun j a b => by
    have := hm j (by omega) b
    unfold kk_tl
    unfold kk_no at this ⊢
    rw [if_neg (by omega), if_neg (by omega)] at *
    omega
  rw [r_55_e (hx := hx)]
  refine s53 hx (fun i h1 h2 h3 h4 => ?_) (fun h1 => ?_)
  · rw [mm_pR, r_55_0_3a (hty0 := h1) (hx := hx)]
    exact K1 i ⟨⟨h1.1, by have := h1.2; omega⟩, (d1 i h1.1 h1.2).2 ⟨h2, h3⟩, fun j a b q => h4 j a b ((d1 j a (by have := h1.2; omega)).1 q).2⟩
  · have no1 : ∀ j, 0 ≤ j → j < 5 → ¬ kk_tl hi x j := fun j a b q => h1 ⟨((d1 j a b).1 q).1, j, ⟨a, b⟩, ((d1 j a b).1 q).2⟩
    rw [mm_pR, r_55_0_3 (hx := hx)]
    split
    · rename_i h2
      have fin0 : (¬ ∃ j, mm_isS j ∧ hi (33, j, 0) 1 = -x) → Q (zR mm_nul) (mm_z hi dh nx ns) := fun h3 => K0 (fun j a b => by
        by_cases c : j < 5
        · exact no1 j a c
        · intro q
          exact h3 ⟨j - 5, ⟨by omega, by omega⟩, ((d2 j (by omega) b).1 q).2⟩)
      by_cases c : x = -2147483648
      · have hw : mm_w (-x) = -2147483648 := by rw [c]; decide
        rw [hw]
        refine s54 hx (fun i a1 a2 a3 a4 => by omega) (fun h3 => ?_)
        rw [mm_pR, r_55_1_6 (hx := hx), r_55_3 (hvx2 := mm_wR _) (hx := hx), r_55_5 (hx := hx)]
        refine fin0 (fun ⟨j, j1, j2⟩ => ?_)
        have := hm (j + 5) (by have := j1.1; omega) (by have := j1.2; omega)
        unfold kk_no at this
        rw [if_neg (by have := j1.1; omega), show j + 5 - 5 = j by omega] at this
        omega
      · rw [mm_wi (by omega) (by omega)]
        refine s54 hx (fun i a1 a2 a3 a4 => ?_) (fun h3 => ?_)
        · rw [mm_pR, r_55_1_6a (hty0 := a1) (hx := hx), r_55_3a (hvx2 := mm_wR _) (hty0 := a1) (hx := hx), r_55_5a (hty0 := mm_ts a1) (hx := hx)]
          refine K1 (5 + i) ⟨by have := a1.1; have := a1.2; omega, (d2 (5 + i) (by have := a1.1; omega) (by have := a1.2; omega)).2 ⟨h2, by rw [show 5 + i - 5 = i by omega]; exact a3⟩, fun j b1 b2 => ?_⟩
          by_cases c2 : j < 5
          · exact no1 j b1 c2
          · intro q
            exact a4 (j - 5) (by omega) (by omega) ((d2 j (by omega) (by have := a1.2; omega)).1 q).2
        · rw [mm_pR, r_55_1_6 (hx := hx), r_55_3 (hvx2 := mm_wR _) (hx := hx), r_55_5 (hx := hx)]
          exact fin0 (fun q => h3 ⟨by omega, q⟩)
    · rename_i h2
      rw [r_55_3 (hvx2 := mm_wR _) (hx := hx), r_55_5 (hx := hx)]
      exact K0 (fun j a b => by
        by_cases c : j < 5
        · exact no1 j a c
        · intro q
          have := ((d2 j (by omega) b).1 q).1
          omega)
theorem s56n (hx : 5275 ≤ nx) {k : Int} (K : Q (zR mm_nul) (mm_z hi dh nx ns)) : mm_Cl 56 [zR (1, 0, 0), zR mm_nul, zI k] (mm_z hi dh nx ns) Q := by
  rw [r_56_e (hx := hx), r_56_2 (hx := hx)]
  exact K
theorem s56 (ht : mm_isT t) (hx : 5275 ≤ nx) {k : Int} (K1 : (1 ≤ k ∧ k < 37) → hi (24, t, k) 0 ≠ 0 → Q (zR (24, t, k)) (mm_z hi dh nx ns)) (K0 : ¬ ((1 ≤ k ∧ k < 37) ∧ hi (24, t, k) 0 ≠ 0) → Q (zR mm_nul) (mm_z hi dh nx ns)) :
    mm_Cl 56 [zR (1, 0, 0), zR (22, t, 0), zI k] (mm_z hi dh nx ns) Q := by
  rw [r_56_ea (htx1 := ht) (hx := hx)]
  refine s157 ht hx (fun h1 h2 => ?_) (fun h1 => ?_)
  · rw [mm_pR, r_56_1_3a (hty0 := ht) (hny0 := ⟨by omega, h1.2⟩) (hx := hx), r_56_2a (hty0 := ht) (hny0 := ⟨by omega, h1.2⟩) (hx := hx)]
    exact K1 h1 h2
  · rw [mm_pR, r_56_1_3 (hx := hx), r_56_2 (hx := hx)]
    exact K0 h1
theorem s57 (hx : 5275 ≤ nx) {k : Int} (K1 : (1 ≤ k ∧ k < 9) → mm_isD (dh (k - 1)) → Q (zR (34, k - 1, 0)) (mm_z hi dh nx ns)) (K0 : ¬ ((1 ≤ k ∧ k < 9) ∧ mm_isD (dh (k - 1))) → Q (zR mm_nul) (mm_z hi dh nx ns)) :
    mm_Cl 57 [zR (1, 0, 0), zI k] (mm_z hi dh nx ns) Q := by
  rw [r_57_e (hx := hx)]
  split
  · rw [r_57_1 (hx := hx)]; exact K0 (by omega)
  · split
    · rw [r_57_1 (hx := hx)]; exact K0 (by omega)
    · rw [mm_wi (by omega) (by omega)]
      refine ⟨by omega, ?_⟩
      split
      · rename_i h3
        exact ⟨by omega, K1 (by omega) h3⟩
      · rename_i h3
        rw [r_57_1 (hx := hx)]
        exact K0 (fun q => h3 q.2)
theorem s58 (hx : 5275 ≤ nx) {k : Int} (K1 : (1 ≤ k ∧ k ≤ 1000000) → Q (zI 1) (mm_z hi dh nx ns)) (K0 : ¬ (1 ≤ k ∧ k ≤ 1000000) → Q (zI 0) (mm_z hi dh nx ns)) : mm_Cl 58 [zR (1, 0, 0), zI k] (mm_z hi dh nx ns) Q := by
  rw [r_58_e (hx := hx)]
  split
  · rw [r_58_1 (hx := hx), r_58_2 (hx := hx)]; exact ⟨Or.inl rfl, K0 (by omega)⟩
  · split
    · rw [r_58_1 (hx := hx), r_58_2 (hx := hx)]; exact ⟨Or.inl rfl, K0 (by omega)⟩
    · rw [r_58_2 (hx := hx)]; exact ⟨Or.inr rfl, K1 (by omega)⟩
theorem s59 (hx : 5275 ≤ nx) {k : Int} (K1 : (0 ≤ k ∧ k < 8) → Q (zI 1) (mm_z hi dh nx ns)) (K0 : ¬ (0 ≤ k ∧ k < 8) → Q (zI 0) (mm_z hi dh nx ns)) : mm_Cl 59 [zR (1, 0, 0), zI k] (mm_z hi dh nx ns) Q := by
  rw [r_59_e (hx := hx)]
  split
  · rw [r_59_1 (hx := hx), r_59_2 (hx := hx)]; exact ⟨Or.inl rfl, K0 (by omega)⟩
  · split
    · rw [r_59_2 (hx := hx)]; exact ⟨Or.inr rfl, K1 (by omega)⟩
    · rw [r_59_1 (hx := hx), r_59_2 (hx := hx)]; exact ⟨Or.inl rfl, K0 (by omega)⟩
theorem s60 (ht : mm_isT t) (hn : mm_isN n) (hx : 5275 ≤ nx) {r : Int} (K1 : kk_may (hi (1, 0, 0) 12) (hi (24, t, n) 2) (hi (24, t, n) 3) r → Q (zI 1) (mm_z hi dh nx ns)) (K0 : ¬ kk_may (hi (1, 0, 0) 12) (hi (24, t, n) 2) (hi (24, t, n) 3) r → Q (zI 0) (mm_z hi dh nx ns)) :
    mm_Cl 60 [zR (1, 0, 0), zR (24, t, n), zI r] (mm_z hi dh nx ns) Q := by
  rw [r_60_e (htx1 := ht) (hnx1 := hn) (hx := hx)]
  have two : ∀ y v, (y = if hi (1, 0, 0) 12 = hi (24, t, n) 2 then mm_shr (hi (24, t, n) 3) 3 else hi (24, t, n) 3) → mm_Wp 60 (mm_blk 60 2) [zR (1, 0, 0), zR (24, t, n), zI r, v] [zI y] (mm_z hi dh nx ns) Q := by
    intro y v hy2
    rw [r_60_2 (hx := hx)]
    split
    · rename_i h
      rw [r_60_3 (hx := hx), r_60_5 (hx := hx)]
      exact ⟨Or.inr rfl, K1 (Or.inl h)⟩
    · rename_i h
      split
      · rename_i h2
        rw [r_60_5 (hx := hx)]
        exact ⟨Or.inl rfl, K0 (by unfold kk_may; rw [← hy2]; rintro (q | q); exact h q; exact q h2)⟩
      · rename_i h2
        rw [r_60_3 (hx := hx), r_60_5 (hx := hx)]
        exact ⟨Or.inr rfl, K1 (by unfold kk_may; rw [← hy2]; exact Or.inr h2)⟩
  split
  · rename_i h
    exact two _ _ (by rw [if_pos h.symm])
  · rename_i h
    exact two _ _ (by rw [if_neg (Ne.symm h)])
def kk_mc (c o m : Int) : Prop := kk_may c o m 2 ∧ kk_may c o m 1
theorem s61 (ht : mm_isT t) (hn : mm_isN n) (hx : 5275 ≤ nx) (K1 : kk_mc (hi (1, 0, 0) 12) (hi (24, t, n) 2) (hi (24, t, n) 3) → Q (zI 1) (mm_z hi dh nx ns)) (K0 : ¬ kk_mc (hi (1, 0, 0) 12) (hi (24, t, n) 2) (hi (24, t, n) 3) → Q (zI 0) (mm_z hi dh nx ns)) :
    mm_Cl 61 [zR (1, 0, 0), zR (24, t, n)] (mm_z hi dh nx ns) Q := by
  rw [r_61_e (htx1 := ht) (hnx1 := hn) (hx := hx)]
  refine s60 ht hn hx (fun h1 => ?_) (fun h1 => ?_)
  · rw [mm_pI, r_61_0_4 (htx1 := ht) (hnx1 := hn) (hx := hx), if_neg (by decide)]
    refine s60 ht hn hx (fun h2 => ?_) (fun h2 => ?_)
    · rw [mm_pI, r_61_0_9 (hx := hx), if_neg (by decide), r_61_2 (hx := hx)]
      exact ⟨Or.inr rfl, K1 ⟨h1, h2⟩⟩
    · rw [mm_pI, r_61_0_9 (hx := hx), if_pos rfl, r_61_1 (hx := hx), r_61_2 (hx := hx)]
      exact ⟨Or.inl rfl, K0 (fun q => h2 q.2)⟩
  · rw [mm_pI, r_61_0_4 (htx1 := ht) (hnx1 := hn) (hx := hx), if_pos rfl, r_61_1 (hx := hx), r_61_2 (hx := hx)]
    exact ⟨Or.inl rfl, K0 (fun q => h1 q.1)⟩
/-- the handles of a dataset are closed -/
theorem s66 (hx : 5275 ≤ nx) {d : Int} (hd : mm_isD d) (K : ∀ dh2, (∀ i, 0 ≤ i → i < 8 → dh i = d → dh2 i = -1) → (∀ i, ¬ ((0 ≤ i ∧ i < 8) ∧ dh i = d) → dh2 i = dh i) → Q zU (mm_z hi dh2 nx ns)) :
    mm_Cl 66 [zR (1, 0, 0), zR (31, d, 0)] (mm_z hi dh nx ns) Q := by
  have L : ∀ (k : Nat) (i : Int) (g : Int → Int), 8 - i = k → 0 ≤ i → (∀ j, 0 ≤ j → j < i → dh j = d → g j = -1) → (∀ j, ¬ ((0 ≤ j ∧ j < i) ∧ dh j = d) → g j = dh j) → mm_Wp 66 (mm_blk 66 1) [zR (1, 0, 0), zR (31, d, 0), zI i] [] (mm_z hi g nx ns) Q := by
    intro k
    induction k with
    | zero =>
      intro i g e1 e2 a1 a2
      have e3 : i = 8 := by omega
      subst e3
      rw [r_66_1 (htx1 := hd) (hx := hx), if_neg (by omega)]
      exact K g a1 a2
    | succ k ih =>
      intro i g e1 e2 a1 a2
      have gi : g i = dh i := a2 i (by omega)
      have skip : dh i ≠ d → mm_Wp 66 (mm_blk 66 2) [zR (1, 0, 0), zR (31, d, 0), zI i] [] (mm_z hi g nx ns) Q := by
        intro hn
        rw [r_66_2 (htx1 := hd) (hx := hx), mm_wi (by omega) (by omega)]
        refine ih (i + 1) g (by omega) (by omega) (fun j b1 b2 b3 => ?_) (fun j b => a2 j (by omega))
        by_cases c : j = i
        · rw [c] at b3; exact absurd b3 hn
        · exact a1 j b1 (by omega) b3
      rw [r_66_1 (htx1 := hd) (hx := hx), if_pos (by omega), gi]
      refine ⟨by omega, ?_⟩
      split
      · rename_i h1
        split
        · rename_i h2
          refine ⟨by omega, ?_⟩
          rw [r_66_2 (htx1 := hd) (hx := hx), mm_wi (by omega) (by omega)]
          refine ih (i + 1) _ (by omega) (by omega) (fun j b1 b2 b3 => ?_) (fun j b => ?_)
          · by_cases c : j = i
            · rw [if_pos c]
            · rw [if_neg c]; exact a1 j b1 (by omega) b3
          · by_cases c : j = i
            · rw [c] at b; exact absurd ⟨⟨e2, by omega⟩, h2⟩ b
            · rw [if_neg c]; exact a2 j (by omega)
        · rename_i h2
          exact skip h2
      · rename_i h1
        exact skip (fun q => h1 (by rw [q]; exact hd))
  rw [r_66_e (htx1 := hd) (hx := hx)]
  exact L 8 0 dh (by omega) (by omega) (fun j a b => by omega) (fun j _ => rfl)
end

