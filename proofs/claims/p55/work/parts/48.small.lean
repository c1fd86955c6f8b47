/-! both: places of trees, keys, handles, the path -/
section
variable {hi : mm_Id → Int → Int} {dh : Int → Int} {nx ns : Int} {Q : mm_V → mm_H → Prop} {t n : Int}
/-- the numbers of both are the same -/
def kk_N (h : mm_Id → Int → Int) : Prop := ∀ s, 0 ≤ s → s < 13 → h (57, 0, 0) s = kk_no h s
theorem kk_tl1 {x s : Int} (hm : kk_nm hi) (h0 : 0 ≤ s) (h : s < 5) : kk_tl hi x s ↔ 0 < x ∧ hi (31, s, 0) 3 = x := by
  have := hm s h0 (by omega)
  unfold kk_tl
  unfold kk_no at this ⊢
  rw [if_pos h, if_pos h] at *
  omega
theorem kk_tl2 {x s : Int} (hm : kk_nm hi) (h0 : 5 ≤ s) (h : s < 13) : kk_tl hi x s ↔ x < 0 ∧ hi (33, s - 5, 0) 1 = -x := by
  have := hm s (by omega) h
  unfold kk_tl
  unfold kk_no at this ⊢
  rw [if_neg (by omega), if_neg (by omega)] at *
  omega
theorem s53t (hx : 5275 ≤ nx) {x : Int} (hm : kk_nm hi) (K1 : ∀ s, 0 ≤ s → s < 5 → kk_tp hi x s → Q (zR (31, s, 0)) (mm_z hi dh nx ns)) (K0 : (∀ s, s < 5 → ¬ kk_tp hi x s) → Q (zR mm_nul) (mm_z hi dh nx ns)) : mm_Cl 53 [zR (1, 0, 0), zI x] (mm_z hi dh nx ns) Q := by
  refine s53 hx (fun i h1 h2 h3 h4 => ?_) (fun h => ?_)
  · exact K1 i h1.1 h1.2 ⟨⟨h1.1, by have := h1.2; omega⟩, (kk_tl1 hm h1.1 h1.2).2 ⟨h2, h3⟩, fun j a b q => h4 j a b ((kk_tl1 hm a (by have := h1.2; omega)).1 q).2⟩
  · exact K0 (fun s hs q => h ⟨((kk_tl1 hm q.1.1 hs).1 q.2.1).1, s, ⟨q.1.1, hs⟩, ((kk_tl1 hm q.1.1 hs).1 q.2.1).2⟩)
theorem s54t (hx : 5275 ≤ nx) {x : Int} (hm : kk_nm hi) (K1 : ∀ s, 5 ≤ s → s < 13 → kk_tp hi (-x) s → Q (zR (33, s - 5, 0)) (mm_z hi dh nx ns)) (K0 : (∀ s, 5 ≤ s → ¬ kk_tp hi (-x) s) → Q (zR mm_nul) (mm_z hi dh nx ns)) : mm_Cl 54 [zR (1, 0, 0), zI x] (mm_z hi dh nx ns) Q := by
  refine s54 hx (fun i h1 h2 h3 h4 => ?_) (fun h => ?_)
  · have h5 := h1.1
    have h6 := h1.2
    have e : 5 + i - 5 = i := by omega
    have := K1 (5 + i) (by omega) (by omega) ⟨⟨by omega, by omega⟩, (kk_tl2 hm (by omega) (by omega)).2 ⟨by omega, by rw [e]; omega⟩, fun j a b q => by
      by_cases c : j < 5
      · have := ((kk_tl1 hm a c).1 q).1; omega
      · have := ((kk_tl2 hm (by omega) (by omega)).1 q).2
        exact h4 (j - 5) (by omega) (by omega) (by omega)⟩
    rw [e] at this
    exact this
  · refine K0 (fun s hs q => ?_)
    have := (kk_tl2 hm hs q.1.2).1 q.2.1
    exact h ⟨by omega, s - 5, ⟨by omega, by have := q.1.2; omega⟩, by omega⟩
theorem m181t (hy : 10581 ≤ nx) {x : Int} (hm : kk_nm hi) (hN : kk_N hi) (hr : -2147483648 ≤ x) (hr2 : x < 2147483648) (K1 : ∀ s, 0 ≤ s → s < 13 → kk_tp hi x s → Q (zI s) (mm_z hi dh nx ns)) (K0 : kk_np hi x → Q (zI (-1)) (mm_z hi dh nx ns)) : mm_Cl 181 [zR (40, 0, 0), zI x] (mm_z hi dh nx ns) Q := by
  have e : ∀ s, 0 ≤ s → s < 13 → ((0 < hi (57, 0, 0) s ∧ hi (57, 0, 0) s = if s < 5 then x else mm_w (-x)) ↔ kk_tl hi x s) := fun s a b => by
    have h1 := hm s a b
    rw [hN s a b]
    unfold kk_tl
    by_cases c : s < 5
    · rw [if_pos c, if_pos c]
    · rw [if_neg c, if_neg c]
      by_cases d : x = -2147483648
      · have hw : mm_w (-x) = -2147483648 := by rw [d]; decide
        rw [hw]; omega
      · rw [mm_wi (by omega) (by omega)]
  exact m181 hy (fun s a b c d => K1 s a b ⟨⟨a, b⟩, (e s a b).1 c, fun j j1 j2 q => d j j1 j2 ((e j j1 (by omega)).2 q)⟩) (fun h => K0 (fun j a b q => h j a b ((e j a b).2 q)))
theorem m182 (hy : 10581 ≤ nx) {x : Int} (hm : kk_nm hi) (hN : kk_N hi) (hr : -2147483648 ≤ x) (hr2 : x < 2147483648) (K1 : ∀ s, 0 ≤ s → s < 5 → kk_tp hi x s → Q (zI s) (mm_z hi dh nx ns)) (K0 : (∀ s, s < 5 → ¬ kk_tp hi x s) → Q (zI (-1)) (mm_z hi dh nx ns)) : mm_Cl 182 [zR (40, 0, 0), zI x] (mm_z hi dh nx ns) Q := by
  rw [r_182_e (hy := hy)]
  split
  · rename_i h
    refine m181t hy hm hN hr hr2 (fun s a b c => ?_) (fun c => ?_)
    · rw [mm_pI, r_182_0_5 (hy := hy), r_182_2 (hy := hy)]
      exact K1 s a (by
        apply Classical.byContradiction
        intro q
        have := ((kk_tl2 hm (by omega) b).1 c.2.1).1
        omega) c
    · rw [mm_pI, r_182_0_5 (hy := hy), r_182_2 (hy := hy)]
      exact K0 (fun s _ q => c s q.1.1 q.1.2 q.2.1)
  · rename_i h
    rw [r_182_2 (hy := hy)]
    exact K0 (fun s hs q => h ((kk_tl1 hm q.1.1 hs).1 q.2.1).1)
theorem m183 (hy : 10581 ≤ nx) {x : Int} (hm : kk_nm hi) (hN : kk_N hi) (hr : -2147483648 ≤ x) (hr2 : x < 2147483648) (K1 : ∀ s, 5 ≤ s → s < 13 → kk_tp hi (-x) s → Q (zI s) (mm_z hi dh nx ns)) (K0 : (∀ s, 5 ≤ s → ¬ kk_tp hi (-x) s) → Q (zI (-1)) (mm_z hi dh nx ns)) : mm_Cl 183 [zR (40, 0, 0), zI x] (mm_z hi dh nx ns) Q := by
  rw [r_183_e (hy := hy)]
  split
  · rename_i h
    rw [mm_wi (by omega) (by omega)]
    refine m181t hy hm hN (by omega) (by omega) (fun s a b c => ?_) (fun c => ?_)
    · rw [mm_pI, r_183_0_6 (hy := hy), r_183_2 (hy := hy)]
      exact K1 s (by
        apply Classical.byContradiction
        intro q
        have := ((kk_tl1 hm a (by omega)).1 c.2.1).1
        omega) b c
    · rw [mm_pI, r_183_0_6 (hy := hy), r_183_2 (hy := hy)]
      exact K0 (fun s _ q => c s q.1.1 q.1.2 q.2.1)
  · rename_i h
    rw [r_183_2 (hy := hy)]
    exact K0 (fun s hs q => by have := ((kk_tl2 hm hs q.1.2).1 q.2.1).1; omega)
theorem m210 (hy : 10581 ≤ nx) {s n : Int} (hs : 0 ≤ s ∧ s < 29) (K1 : (1 ≤ n ∧ n < 37) → 0 < hi (41, 0, 0) (36 * s + n - 1) → Q (zI 1) (mm_z hi dh nx ns)) (K0 : ¬ ((1 ≤ n ∧ n < 37) ∧ 0 < hi (41, 0, 0) (36 * s + n - 1)) → Q (zI 0) (mm_z hi dh nx ns)) :
    mm_Cl 210 [zR (40, 0, 0), zI s, zI n] (mm_z hi dh nx ns) Q := by
  rw [r_210_e (hy := hy), if_neg (by omega)]
  refine m176 hy hs (fun h1 h2 => ?_) (fun h => ?_)
  · rw [mm_pI, r_210_0_6 (hy := hy), if_neg (by decide), r_210_2 (hy := hy)]
    exact ⟨Or.inr rfl, K1 h1 h2⟩
  · rw [mm_pI, r_210_0_6 (hy := hy), if_pos rfl, r_210_1 (hy := hy), r_210_2 (hy := hy)]
    exact ⟨Or.inl rfl, K0 h⟩
theorem m210n (hy : 10581 ≤ nx) {n : Int} (K : Q (zI 0) (mm_z hi dh nx ns)) : mm_Cl 210 [zR (40, 0, 0), zI (-1), zI n] (mm_z hi dh nx ns) Q := by
  rw [r_210_e (hy := hy), if_pos (by omega), r_210_1 (hy := hy), r_210_2 (hy := hy)]
  exact ⟨Or.inl rfl, K⟩
theorem m211 (hy : 10581 ≤ nx) {s n : Int} (hs : 0 ≤ s ∧ s < 29) (hn : 1 ≤ n ∧ n < 37) (K : ∀ b, (b = if hi (41, 0, 0) (36 * s + n - 1) = 2 then 1 else 0) → Q (zI b) (mm_z hi dh nx ns)) : mm_Cl 211 [zR (40, 0, 0), zI s, zI n] (mm_z hi dh nx ns) Q := by
  rw [r_211_e (hy := hy)]
  refine m175 hy hs hn ?_
  rw [mm_pI, r_211_0_5 (hy := hy)]
  refine ⟨by omega, ?_⟩
  split
  · rename_i h
    rw [r_211_2 (hy := hy)]; exact ⟨Or.inr rfl, K 1 (by rw [if_pos h])⟩
  · rename_i h
    rw [r_211_2 (hy := hy)]; exact ⟨Or.inl rfl, K 0 (by rw [if_neg h])⟩
theorem m204 (hy : 10581 ≤ nx) {s n : Int} (hs : 0 ≤ s ∧ s < 29) (hn : 1 ≤ n ∧ n < 37) (K1 : kk_mc (hi (40, 0, 0) 29) (hi (47, 0, 0) (36 * s + n - 1)) (hi (48, 0, 0) (36 * s + n - 1)) → Q (zI 1) (mm_z hi dh nx ns)) (K0 : ¬ kk_mc (hi (40, 0, 0) 29) (hi (47, 0, 0) (36 * s + n - 1)) (hi (48, 0, 0) (36 * s + n - 1)) → Q (zI 0) (mm_z hi dh nx ns)) :
    mm_Cl 204 [zR (40, 0, 0), zI s, zI n] (mm_z hi dh nx ns) Q := by
  rw [r_204_e (hy := hy)]
  refine m203 hy hs hn (fun h1 => ?_) (fun h1 => ?_)
  · rw [mm_pI, r_204_0_5 (hy := hy), if_neg (by decide)]
    refine m203 hy hs hn (fun h2 => ?_) (fun h2 => ?_)
    · rw [mm_pI, r_204_0_11 (hy := hy), if_neg (by decide), r_204_2 (hy := hy)]
      exact ⟨Or.inr rfl, K1 ⟨h1, h2⟩⟩
    · rw [mm_pI, r_204_0_11 (hy := hy), if_pos rfl, r_204_1 (hy := hy), r_204_2 (hy := hy)]
      exact ⟨Or.inl rfl, K0 (fun q => h2 q.2)⟩
  · rw [mm_pI, r_204_0_5 (hy := hy), if_pos rfl, r_204_1 (hy := hy), r_204_2 (hy := hy)]
    exact ⟨Or.inl rfl, K0 (fun q => h1 q.1)⟩
theorem m242 (hy : 10581 ≤ nx) {k : Int} (K1 : (1 ≤ k ∧ k < 9) → 0 < hi (63, 0, 0) k → Q (zI 1) (mm_z hi dh nx ns)) (K0 : ¬ ((1 ≤ k ∧ k < 9) ∧ 0 < hi (63, 0, 0) k) → Q (zI 0) (mm_z hi dh nx ns)) : mm_Cl 242 [zR (40, 0, 0), zI k] (mm_z hi dh nx ns) Q := by
  rw [r_242_e (hy := hy)]
  refine m174 hy (fun h => ?_) (fun h => ?_)
  · rw [mm_pI, r_242_0_5 (hy := hy), if_neg (by decide)]
    refine ⟨by omega, ?_⟩
    split
    · rename_i h2
      rw [r_242_2 (hy := hy)]; exact ⟨Or.inr rfl, K1 (by omega) h2⟩
    · rename_i h2
      rw [r_242_1 (hy := hy), r_242_2 (hy := hy)]; exact ⟨Or.inl rfl, K0 (fun q => h2 q.2)⟩
  · rw [mm_pI, r_242_0_5 (hy := hy), if_pos rfl, r_242_1 (hy := hy), r_242_2 (hy := hy)]
    exact ⟨Or.inl rfl, K0 (by omega)⟩
theorem m248 (hy : 10581 ≤ nx) {a b : Int} (ha : 0 ≤ a ∧ a ≤ b ∧ b ≤ 13) (K : ∀ k, a ≤ k → k ≤ b → (∀ j, a ≤ j → j < k → 0 < hi (57, 0, 0) j) → (k < b → ¬ 0 < hi (57, 0, 0) k) → Q (zI k) (mm_z hi dh nx ns)) : mm_Cl 248 [zR (40, 0, 0), zI a, zI b] (mm_z hi dh nx ns) Q := by
  have L : ∀ (m : Nat) (k : Int), b - k = m → a ≤ k → (∀ j, a ≤ j → j < k → 0 < hi (57, 0, 0) j) → mm_Wp 248 (mm_blk 248 1) [zR (40, 0, 0), zI a, zI b, zI k] [] (mm_z hi dh nx ns) Q := by
    intro m
    induction m with
    | zero =>
      intro k e1 e2 e3
      rw [r_248_1 (hy := hy), if_neg (by omega), r_248_2 (hy := hy)]
      exact K k e2 (by omega) e3 (fun q => by omega)
    | succ m ih =>
      intro k e1 e2 e3
      rw [r_248_1 (hy := hy), if_pos (by omega)]
      refine ⟨by omega, ?_⟩
      split
      · rename_i h
        rw [mm_wi (by omega) (by omega)]
        exact ih (k + 1) (by omega) (by omega) (fun j c d => by
          by_cases z : j = k
          · rw [z]; exact h
          · exact e3 j c (by omega))
      · rename_i h
        rw [r_248_2 (hy := hy)]
        exact K k e2 (by omega) e3 (fun _ => h)
  rw [r_248_e (hy := hy)]
  exact L (b - a).toNat a (by omega) (by omega) (fun j c d => by omega)
theorem m249 (hy : 10581 ≤ nx) {s : Int} (hs : 0 ≤ s ∧ s < 29) (K : ∀ h2, (∀ n, 1 ≤ n → n < 37 → kk_mz h2 (36 * s + n - 1)) → (∀ x j, ¬ (∃ n, 1 ≤ n ∧ n < 37 ∧ kk_cx (36 * s + n - 1) x j) → h2 x j = hi x j) → Q zU (mm_z h2 dh nx ns)) : mm_Cl 249 [zR (40, 0, 0), zI s] (mm_z hi dh nx ns) Q := by
  have L : ∀ (k : Nat) (i : Int) (h : mm_Id → Int → Int), 37 - i = k → 1 ≤ i → (∀ n, 1 ≤ n → n < i → kk_mz h (36 * s + n - 1)) → (∀ x j, ¬ (∃ n, 1 ≤ n ∧ n < i ∧ kk_cx (36 * s + n - 1) x j) → h x j = hi x j) → mm_Wp 249 (mm_blk 249 1) [zR (40, 0, 0), zI s, zI i] [] (mm_z h dh nx ns) Q := by
    intro k
    induction k with
    | zero =>
      intro i h e1 e2 a1 a2
      have e3 : i = 37 := by omega
      subst e3
      rw [r_249_1 (hy := hy), if_pos (by omega)]
      exact K h a1 a2
    | succ k ih =>
      intro i h e1 e2 a1 a2
      rw [r_249_1 (hy := hy), if_neg (by omega)]
      refine m175 hy hs (by omega) ?_
      rw [mm_pI, r_249_1_7 (hy := hy)]
      refine m180 hy (by omega) (fun g b1 b2 b3 => ?_)
      rw [mm_pU, r_249_1_8 (hy := hy), mm_wi (by omega) (by omega)]
      have fr : ∀ x j, ¬ kk_cx (36 * s + i - 1) x j → g x j = h x j := fun x j q => b3 x j (fun w => q (Or.inl w)) (fun w => q (Or.inr w))
      refine ih (i + 1) g (by omega) (by omega) (fun n d1 d2 => ?_) (fun x j d => ?_)
      · by_cases z : n = i
        · rw [z]; exact ⟨b1, b2⟩
        · obtain ⟨⟨q1, q2, q3, q4⟩, q5⟩ := a1 n d1 (by omega)
          have z2 : 36 * s + n - 1 ≠ 36 * s + i - 1 := by omega
          refine ⟨⟨?_, ?_, ?_, ?_⟩, fun p p1 p2 => ?_⟩
          · rw [fr _ _ (kk_cxd z2 (Or.inl ⟨Or.inl rfl, rfl⟩))]; exact q1
          · rw [fr _ _ (kk_cxd z2 (Or.inl ⟨Or.inr (Or.inl rfl), rfl⟩))]; exact q2
          · rw [fr _ _ (kk_cxd z2 (Or.inl ⟨Or.inr (Or.inr (Or.inl rfl)), rfl⟩))]; exact q3
          · rw [fr _ _ (kk_cxd z2 (Or.inl ⟨Or.inr (Or.inr (Or.inr rfl)), rfl⟩))]; exact q4
          · rw [fr _ _ (kk_cxd z2 (Or.inr ⟨rfl, by omega, by omega⟩))]; exact q5 p p1 p2
      · rw [fr x j (fun q => d ⟨i, e2, by omega, q⟩)]
        exact a2 x j (fun ⟨n, n1, n2, n3⟩ => d ⟨n, n1, by omega, n3⟩)
  rw [r_249_e (hy := hy)]
  exact L 36 1 hi (by omega) (by omega) (fun n a b => by omega) (fun x j _ => rfl)
/-- a node that counts where files without entries are left out -/
def kk_ctn2 (h : mm_Id → Int → Int) (s n : Int) : Prop := 0 < h (41, 0, 0) (36 * s + n - 1) ∧ (h (41, 0, 0) (36 * s + n - 1) = 1 → 0 < kk_ef h s n)
theorem m261 (hy : 10581 ≤ nx) {s n : Int} (hs : 0 ≤ s ∧ s < 29) (hn : 1 ≤ n ∧ n < 37) (hc : ∀ d, 1 ≤ d → d < 37 → 0 ≤ hi (44, 0, 0) (36 * s + d - 1) ∧ hi (44, 0, 0) (36 * s + d - 1) ≤ 24) (K1 : kk_ctn2 hi s n → Q (zI 1) (mm_z hi dh nx ns)) (K0 : ¬ kk_ctn2 hi s n → Q (zI 0) (mm_z hi dh nx ns)) :
    mm_Cl 261 [zR (40, 0, 0), zI s, zI n] (mm_z hi dh nx ns) Q := by
  rw [r_261_e (hy := hy)]
  refine m175 hy hs hn ?_
  rw [mm_pI, r_261_0_5 (hy := hy)]
  refine ⟨by omega, ?_⟩
  split
  · rename_i h1
    refine m175 hy hs hn ?_
    rw [mm_pI, r_261_0_12 (hy := hy)]
    refine ⟨by omega, ?_⟩
    split
    · rename_i h2
      refine m188 hy hs hc ?_
      rw [mm_pI, r_261_0_19 (hy := hy)]
      split
      · rename_i h3
        rw [r_261_1 (hy := hy), r_261_3 (hy := hy)]; exact ⟨Or.inr rfl, K1 ⟨h1, fun _ => h3⟩⟩
      · rename_i h3
        rw [r_261_2 (hy := hy), r_261_3 (hy := hy)]; exact ⟨Or.inl rfl, K0 (fun q => h3 (q.2 h2))⟩
    · rename_i h2
      rw [r_261_1 (hy := hy), r_261_3 (hy := hy)]; exact ⟨Or.inr rfl, K1 ⟨h1, fun q => absurd q h2⟩⟩
  · rename_i h1
    rw [r_261_2 (hy := hy), r_261_3 (hy := hy)]; exact ⟨Or.inl rfl, K0 (fun q => h1 q.1)⟩
/-- two blocks of the reference have the same bytes -/
def kk_mb (h : mm_Id → Int → Int) (b c : Int) : Prop := ∀ i, 0 ≤ i → i < 60 → h (54, 0, 0) (60 * b + i) = h (54, 0, 0) (60 * c + i)
theorem m263 (hy : 10581 ≤ nx) {b c : Int} (hb : 0 ≤ b ∧ b ≤ 3000) (hc : 0 ≤ c ∧ c ≤ 3000) (K1 : kk_mb hi b c → Q (zI 1) (mm_z hi dh nx ns)) (K0 : ¬ kk_mb hi b c → Q (zI 0) (mm_z hi dh nx ns)) : mm_Cl 263 [zR (40, 0, 0), zI b, zI c] (mm_z hi dh nx ns) Q := by
  have z0 : ∀ i, ¬ kk_mb hi b c → mm_Wp 263 (mm_blk 263 1) [zR (40, 0, 0), zI b, zI c, zI 0, zI i] [] (mm_z hi dh nx ns) Q := by
    intro i h
    rw [r_263_1 (hy := hy), if_pos rfl, r_263_4 (hy := hy), ite_self]
    exact ⟨Or.inl rfl, K0 h⟩
  have L : ∀ (k : Nat) (i : Int), 60 - i = k → 0 ≤ i → (∀ e, 0 ≤ e → e < i → hi (54, 0, 0) (60 * b + e) = hi (54, 0, 0) (60 * c + e)) → mm_Wp 263 (mm_blk 263 1) [zR (40, 0, 0), zI b, zI c, zI 1, zI i] [] (mm_z hi dh nx ns) Q := by
    intro k
    induction k with
    | zero =>
      intro i e1 e2 e3
      rw [r_263_1 (hy := hy), if_neg (by omega), r_263_4 (hy := hy)]
      exact ⟨Or.inr rfl, K1 (fun e a b => e3 e a (by omega))⟩
    | succ k ih =>
      intro i e1 e2 e3
      rw [r_263_1 (hy := hy), if_pos (by omega), if_neg (by decide), mm_wi (z := 60 * b) (by omega) (by omega), mm_wi (z := 60 * c) (by omega) (by omega), mm_wi (z := 60 * b + i) (by omega) (by omega), mm_wi (z := 60 * c + i) (by omega) (by omega)]
      refine ⟨by omega, by omega, ?_⟩
      split
      · rename_i h
        rw [r_263_3 (hy := hy), mm_wi (by omega) (by omega)]
        exact ih (i + 1) (by omega) (by omega) (fun e a b => by
          by_cases z : e = i
          · rw [z]; exact h
          · exact e3 e a (by omega))
      · rename_i h
        rw [r_263_3 (hy := hy)]
        exact z0 _ (fun q => h (q i e2 (by omega)))
  rw [r_263_e (hy := hy)]
  exact L 60 0 (by omega) (by omega) (fun e a b => by omega)
end

