/-! keys; a link's path; a byte put; above -/
section
variable {hi : mm_Id → Int → Int} {dh : Int → Int} {nx ns : Int} {Q : mm_V → mm_H → Prop} {t n t1 n1 : Int}
theorem s103 (ht : mm_isT t) (hn : mm_isN n) (hx : 5275 ≤ nx) {x : Int} (hc : 0 ≤ hi (24, t, n) 11 ∧ hi (24, t, n) 11 ≤ 4) (hs : mm_srt (hi (28, t, n)) (hi (24, t, n) 11))
    (K1 : ∀ p, 0 ≤ p → p < hi (24, t, n) 11 → hi (28, t, n) p = x → Q (zI 1) (mm_z hi dh nx ns)) (K2 : (∀ p, 0 ≤ p → p < hi (24, t, n) 11 → ¬ hi (28, t, n) p = x) → Q (zI 0) (mm_z hi dh nx ns)) :
    mm_Cl 103 [zR (24, t, n), zI x] (mm_z hi dh nx ns) Q := by
  rw [r_103_e (htx0 := ht) (hnx0 := hn) (hx := hx)]
  refine s102 ht hn hx hc (fun p h1 h2 h3 h4 => ?_)
  have h5 : (p < hi (24, t, n) 11 → ¬ hi (28, t, n) p = x) → ∀ q, 0 ≤ q → q < hi (24, t, n) 11 → ¬ hi (28, t, n) q = x := by
    intro h6 q a b e
    by_cases c1 : q < p
    · have := h3 q a c1; omega
    · by_cases c2 : q = p
      · subst c2; exact h6 b e
      · have := hs p q h1 (by omega) b
        have := h4 (by omega)
        omega
  rw [mm_pI, r_103_0_3 (htx0 := ht) (hnx0 := hn) (hx := hx)]
  split
  · rename_i h6
    refine ⟨by omega, ?_⟩
    split
    · rename_i h7
      rw [r_103_2 (hx := hx)]
      exact ⟨Or.inr rfl, K1 p h1 h6 h7⟩
    · rename_i h7
      rw [r_103_1 (hx := hx), r_103_2 (hx := hx)]
      exact ⟨Or.inl rfl, K2 (h5 (fun _ => h7))⟩
  · rename_i h6
    rw [r_103_1 (hx := hx), r_103_2 (hx := hx)]
    exact ⟨Or.inl rfl, K2 (h5 (fun q => absurd q h6))⟩
theorem kk_pl {f : Int → Int} {c p q x : Int} (hs : mm_srt f c) (p0 : 0 ≤ p) (p1 : p < c) (p2 : f p = x) (q0 : 0 ≤ q) (q1 : q ≤ c) (q2 : ∀ i, 0 ≤ i → i < q → f i < x) (q3 : q < c → x ≤ f q) : q = p := by
  by_cases c1 : p < q
  · have := q2 p p0 c1; omega
  · by_cases c2 : q = p
    · exact c2
    · have := hs q p q0 (by omega) p1
      have := q3 (by omega)
      omega
theorem s104 (ht : mm_isT t) (hn : mm_isN n) (hx : 5275 ≤ nx) {x : Int} (hc : 0 ≤ hi (24, t, n) 11 ∧ hi (24, t, n) 11 ≤ 4) (hs : mm_srt (hi (28, t, n)) (hi (24, t, n) 11))
    (K1 : ∀ p, 0 ≤ p → p < hi (24, t, n) 11 → hi (28, t, n) p = x → Q (zL (hi (29, t, n) p)) (mm_z hi dh nx ns)) (K2 : (∀ p, 0 ≤ p → p < hi (24, t, n) 11 → ¬ hi (28, t, n) p = x) → Q (zL 0) (mm_z hi dh nx ns)) :
    mm_Cl 104 [zR (24, t, n), zI x] (mm_z hi dh nx ns) Q := by
  rw [r_104_e (htx0 := ht) (hnx0 := hn) (hx := hx)]
  refine s103 ht hn hx hc hs (fun p h1 h2 h3 => ?_) (fun h => ?_)
  · rw [mm_pI, r_104_0_3 (htx0 := ht) (hnx0 := hn) (hx := hx), if_neg (by decide)]
    refine s102 ht hn hx hc (fun q q1 q2 q3 q4 => ?_)
    have e := kk_pl hs h1 h2 h3 q1 q2 q3 q4
    subst e
    rw [mm_pI, r_104_0_9 (hty1 := ht) (hny1 := hn) (hx := hx), r_104_2 (hx := hx)]
    exact ⟨by omega, K1 q h1 h2 h3⟩
  · rw [mm_pI, r_104_0_3 (htx0 := ht) (hnx0 := hn) (hx := hx), if_pos rfl, r_104_2 (hx := hx)]
    exact K2 h
theorem s105 (ht : mm_isT t) (hn : mm_isN n) (hx : 5275 ≤ nx) {x v : Int} (hc : 0 ≤ hi (24, t, n) 11 ∧ hi (24, t, n) 11 ≤ 4) (hs : mm_srt (hi (28, t, n)) (hi (24, t, n) 11))
    (K1 : ∀ p, 0 ≤ p → p < hi (24, t, n) 11 → hi (28, t, n) p = x → Q zU (mm_z (mm_up (mm_up hi (28, t, n) p x) (29, t, n) p v) dh nx ns))
    (K2 : (∀ p, 0 ≤ p → p < hi (24, t, n) 11 → ¬ hi (28, t, n) p = x) → hi (24, t, n) 11 < 4 → ∀ p, 0 ≤ p → p ≤ hi (24, t, n) 11 → (∀ i, 0 ≤ i → i < p → hi (28, t, n) i < x) → (p < hi (24, t, n) 11 → x ≤ hi (28, t, n) p) →
      Q zU (mm_z (mm_up (mm_up (mm_up (mm_shu hi (28, t, n) (29, t, n) p (hi (24, t, n) 11)) (24, t, n) 11 (hi (24, t, n) 11 + 1)) (28, t, n) p x) (29, t, n) p v) dh nx ns))
    (K3 : (∀ p, 0 ≤ p → p < hi (24, t, n) 11 → ¬ hi (28, t, n) p = x) → ¬ hi (24, t, n) 11 < 4 → Q zU (mm_z hi dh nx ns)) :
    mm_Cl 105 [zR (24, t, n), zI x, zL v] (mm_z hi dh nx ns) Q := by
  rw [r_105_e (htx0 := ht) (hnx0 := hn) (hx := hx)]
  refine s102 ht hn hx hc (fun p h1 h2 h3 h4 => ?_)
  rw [mm_pI, r_105_0_3 (htx0 := ht) (hnx0 := hn) (hx := hx)]
  refine s103 ht hn hx hc hs (fun q q1 q2 q3 => ?_) (fun h => ?_)
  · have e := kk_pl hs q1 q2 q3 h1 h2 h3 h4
    subst e
    rw [mm_pI, r_105_0_7 (htx0 := ht) (hnx0 := hn) (hx := hx), if_neg (by decide), r_105_4 (htx0 := ht) (hnx0 := hn) (hx := hx)]
    exact ⟨by omega, by omega, K1 p h1 q2 q3⟩
  · rw [mm_pI, r_105_0_7 (htx0 := ht) (hnx0 := hn) (hx := hx), if_pos rfl]
    split
    · rename_i h6
      have L : ∀ (k : Nat) (i : Int), i - p = k → i ≤ hi (24, t, n) 11 → mm_Wp 105 (mm_blk 105 2) [zR (24, t, n), zI x, zL v, zU, zI p, zI i] [] (mm_z (mm_shu hi (28, t, n) (29, t, n) i (hi (24, t, n) 11)) dh nx ns) Q := by
        intro k
        induction k with
        | zero =>
          intro i e1 e2
          have e3 : i = p := by omega
          subst e3
          rw [r_105_2 (htx0 := ht) (hnx0 := hn) (hx := hx), if_neg (by omega), mm_shuf (mm_idf (by decide)) (mm_idf (by decide)), mm_wi (by omega) (by omega), r_105_4 (htx0 := ht) (hnx0 := hn) (hx := hx)]
          exact ⟨by omega, by omega, K2 h h6 i h1 h2 h3 h4⟩
        | succ k ih =>
          intro i e1 e2
          rw [r_105_2 (htx0 := ht) (hnx0 := hn) (hx := hx), if_pos (by omega), mm_wi (z := i - 1) (by omega) (by omega), mm_wi (by omega) (by omega), mm_shu1 hi e2 (mm_idf (by decide))]
          exact ⟨by omega, by omega, by omega, by omega, ih (i - 1) (by omega) (by omega)⟩
      have L2 := L (hi (24, t, n) 11 - p).toNat (hi (24, t, n) 11) (by omega) (by omega)
      rw [mm_shu0] at L2
      exact L2
    · rename_i h6
      exact K3 h h6
theorem s106 (ht : mm_isT t) (hn : mm_isN n) (hx : 5275 ≤ nx) {x : Int} (hc : 0 ≤ hi (24, t, n) 11 ∧ hi (24, t, n) 11 ≤ 4) (hs : mm_srt (hi (28, t, n)) (hi (24, t, n) 11))
    (K1 : ∀ p, 0 ≤ p → p < hi (24, t, n) 11 → hi (28, t, n) p = x → Q zU (mm_z (mm_shd (mm_up hi (24, t, n) 11 (hi (24, t, n) 11 - 1)) (28, t, n) (29, t, n) p (hi (24, t, n) 11 - 1)) dh nx ns))
    (K2 : (∀ p, 0 ≤ p → p < hi (24, t, n) 11 → ¬ hi (28, t, n) p = x) → Q zU (mm_z hi dh nx ns)) :
    mm_Cl 106 [zR (24, t, n), zI x] (mm_z hi dh nx ns) Q := by
  rw [r_106_e (htx0 := ht) (hnx0 := hn) (hx := hx)]
  refine s103 ht hn hx hc hs (fun p h1 h2 h3 => ?_) (fun h => ?_)
  · rw [mm_pI, r_106_0_3 (htx0 := ht) (hnx0 := hn) (hx := hx), if_neg (by decide), mm_wi (by omega) (by omega)]
    refine s102 ht hn hx (by rw [mm_ups]; omega) (fun q q1 q2 q3 q4 => ?_)
    rw [mm_ups] at q2 q4
    simp only [mm_upf (show ¬ (28 : Nat) = 24 by decide)] at q3 q4
    have e : q = p := by
      by_cases c1 : p < q
      · have := q3 p h1 c1; omega
      · by_cases c2 : q = p
        · exact c2
        · have := hs q p q1 (by omega) h2
          have := q4 (by omega)
          omega
    subst e
    rw [mm_pI, r_106_1_9 (htx0 := ht) (hnx0 := hn) (hvx1 := mm_wI x) (hx := hx)]
    have L : ∀ (k : Nat) (i : Int), hi (24, t, n) 11 - 1 - i = k → q ≤ i → mm_Wp 106 (mm_blk 106 2) [zR (24, t, n), zI x, zI i] [] (mm_z (mm_shd (mm_up hi (24, t, n) 11 (hi (24, t, n) 11 - 1)) (28, t, n) (29, t, n) q i) dh nx ns) Q := by
      intro k
      induction k with
      | zero =>
        intro i e1 e2
        have e3 : i = hi (24, t, n) 11 - 1 := by omega
        subst e3
        rw [r_106_2 (htx0 := ht) (hnx0 := hn) (hx := hx), mm_shdf (mm_idf (by decide)) (mm_idf (by decide)), mm_ups, if_neg (by omega)]
        exact K1 q h1 h2 h3
      | succ k ih =>
        intro i e1 e2
        rw [r_106_2 (htx0 := ht) (hnx0 := hn) (hx := hx), mm_shdf (mm_idf (by decide)) (mm_idf (by decide)), mm_ups, if_pos (by omega), mm_wi (z := i + 1) (by omega) (by omega), mm_shd1 _ e2 (mm_idf (by decide))]
        exact ⟨by omega, by omega, by omega, by omega, ih (i + 1) (by omega) (by omega)⟩
    have L2 := L (hi (24, t, n) 11 - 1 - q).toNat q (by omega) (by omega)
    rw [mm_shd0] at L2
    exact L2
  · rw [mm_pI, r_106_0_3 (htx0 := ht) (hnx0 := hn) (hx := hx), if_pos rfl]
    exact K2 h
theorem s97 (ht : mm_isT t) (hn : mm_isN n) (hx : 5275 ≤ nx) {b : Int} (hb : b = 0 ∨ b = 1)
    (K : ∀ h2, h2 (24, t, n) 1 = hi (5, 0, 0) 2 → h2 (24, t, n) 14 = b → (∀ e, 0 ≤ e → e < 8 → h2 (30, t, n) e = hi (6, 0, 0) e) → (∀ x j, ¬ (x = (24, t, n) ∧ (j = 1 ∨ j = 14)) → ¬ (x = (30, t, n) ∧ 0 ≤ j ∧ j < 8) → h2 x j = hi x j) → Q zU (mm_z h2 dh nx ns)) :
    mm_Cl 97 [zR (24, t, n), zR (5, 0, 0), zI b] (mm_z hi dh nx ns) Q := by
  rw [r_97_e (htx0 := ht) (hnx0 := hn) (hx := hx)]
  refine ⟨hb, by omega, K _ ?_ ?_ (fun e e1 e2 => ?_) (fun x j h1 h2 => ?_)⟩
  · rw [mm_cpx (mm_idf (by decide)), mm_upj (by decide), mm_ups]
  · rw [mm_cpx (mm_idf (by decide)), mm_ups]
  · rw [mm_cps (by omega) (by omega), mm_upf (by decide), mm_upf (by decide), show 0 + (e - 0) = e by omega]
  · unfold mm_cp
    rw [if_neg (fun q => h2 ⟨q.1, q.2.1, by omega⟩), mm_upne' (fun q => h1 ⟨q.1, Or.inr q.2⟩), mm_upne' (fun q => h1 ⟨q.1, Or.inl q.2⟩)]
theorem s108 (ht : mm_isT t) (hn : mm_isN n) (hx : 5275 ≤ nx) {a b : Int} (ha : 0 ≤ a ∧ a < 2160) (hr : 1 ≤ hi (27, t, n) (a / 60) ∧ hi (27, t, n) (a / 60) < 1701) (K : Q zU (mm_z (mm_up hi (16, 0, 0) (60 * hi (27, t, n) (a / 60) + a % 60) (mm_b b)) dh nx ns)) :
    mm_Cl 108 [zR (24, t, n), zI a, zI b, zR (15, 0, 0)] (mm_z hi dh nx ns) Q := by
  have e1 : Int.tdiv a 60 = a / 60 := Int.tdiv_eq_ediv_of_nonneg ha.1
  have e2 : Int.tmod a 60 = a % 60 := Int.tmod_eq_emod_of_nonneg ha.1
  rw [r_108_e (htx0 := ht) (hnx0 := hn) (hx := hx), if_neg (by omega), if_pos ha.2, e1, e2, mm_wi (by omega) (by omega)]
  refine ⟨by omega, s131 hx hr (by omega) ?_⟩
  rw [mm_pU, r_108_0_17 (hx := hx), r_108_1 (hx := hx)]
  exact K
theorem s157 (ht : mm_isT t) (hx : 5275 ≤ nx) {k : Int} (K1 : (1 ≤ k ∧ k < 37) → hi (24, t, k) 0 ≠ 0 → Q (zR (24, t, k)) (mm_z hi dh nx ns)) (K0 : ¬ ((1 ≤ k ∧ k < 37) ∧ hi (24, t, k) 0 ≠ 0) → Q (zR mm_nul) (mm_z hi dh nx ns)) :
    mm_Cl 157 [zR (22, t, 0), zI k] (mm_z hi dh nx ns) Q := by
  rw [r_157_e (htx0 := ht) (hx := hx)]
  split
  · rw [r_157_1 (hx := hx), r_157_3a (hx := hx)]; exact K0 (by omega)
  · split
    · rw [r_157_1 (hx := hx), r_157_3a (hx := hx)]; exact K0 (by omega)
    · refine ⟨by omega, ?_⟩
      split
      · rename_i h3
        rw [r_157_1 (hx := hx), r_157_3a (hx := hx)]; exact K0 (fun q => q.2 h3)
      · rename_i h3
        refine ⟨by omega, ?_⟩
        rw [r_157_3 (hty0 := ht) (hny0 := ⟨by omega, by omega⟩) (hx := hx)]
        exact K1 (by omega) h3
end
