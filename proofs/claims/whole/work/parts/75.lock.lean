/-! handles change; the calls of both: lock, opn -/
theorem kk_coreD {b : Int} {h g : mm_Id → Int → Int} {dh dh' : Int → Int} (hb : b + 1 ≤ 1000000) (hc : kk_core b h dh) (e : ∀ x j, x.1 ≠ 34 → x.1 ≠ 35 → x.1 ≠ 62 → x.1 ≠ 63 → x.1 ≠ 64 → x.1 ≠ 56 → ¬ (x = (40, 0, 0) ∧ j = 0) → g x j = h x j) (q17 : kk_d17 g dh') (q18 : kk_d18 g) (q19 : kk_d19 g dh') : kk_core (b + 1) g dh' := by
  have eg : ∀ (f : Nat) t n, (f ≠ 34 ∧ f ≠ 35 ∧ f ≠ 62 ∧ f ≠ 63 ∧ f ≠ 64 ∧ f ≠ 56 ∧ f ≠ 40) → g (f, t, n) = h (f, t, n) := fun f t n q => by
    funext j
    exact e _ _ (by show f ≠ 34; omega) (by show f ≠ 35; omega) (by show f ≠ 62; omega) (by show f ≠ 63; omega) (by show f ≠ 64; omega) (by show f ≠ 56; omega) (by rintro ⟨q2, _⟩; simp at q2; omega)
  have e40 : ∀ j, j ≠ 0 → g (40, 0, 0) j = h (40, 0, 0) j := fun j hj => e _ _ (by simp) (by simp) (by simp) (by simp) (by simp) (by simp) (by rintro ⟨_, q2⟩; omega)
  have e1 : ∀ t n, g (1, t, n) = h (1, t, n) := fun t n => eg 1 t n (by decide)
  have e5 : ∀ t n, g (5, t, n) = h (5, t, n) := fun t n => eg 5 t n (by decide)
  have e6 : ∀ t n, g (6, t, n) = h (6, t, n) := fun t n => eg 6 t n (by decide)
  have e14 : ∀ t n, g (14, t, n) = h (14, t, n) := fun t n => eg 14 t n (by decide)
  have e15 : ∀ t n, g (15, t, n) = h (15, t, n) := fun t n => eg 15 t n (by decide)
  have e16 : ∀ t n, g (16, t, n) = h (16, t, n) := fun t n => eg 16 t n (by decide)
  have e17 : ∀ t n, g (17, t, n) = h (17, t, n) := fun t n => eg 17 t n (by decide)
  have e18 : ∀ t n, g (18, t, n) = h (18, t, n) := fun t n => eg 18 t n (by decide)
  have e19 : ∀ t n, g (19, t, n) = h (19, t, n) := fun t n => eg 19 t n (by decide)
  have e22 : ∀ t n, g (22, t, n) = h (22, t, n) := fun t n => eg 22 t n (by decide)
  have e24 : ∀ t n, g (24, t, n) = h (24, t, n) := fun t n => eg 24 t n (by decide)
  have e25 : ∀ t n, g (25, t, n) = h (25, t, n) := fun t n => eg 25 t n (by decide)
  have e26 : ∀ t n, g (26, t, n) = h (26, t, n) := fun t n => eg 26 t n (by decide)
  have e27 : ∀ t n, g (27, t, n) = h (27, t, n) := fun t n => eg 27 t n (by decide)
  have e28 : ∀ t n, g (28, t, n) = h (28, t, n) := fun t n => eg 28 t n (by decide)
  have e29 : ∀ t n, g (29, t, n) = h (29, t, n) := fun t n => eg 29 t n (by decide)
  have e30 : ∀ t n, g (30, t, n) = h (30, t, n) := fun t n => eg 30 t n (by decide)
  have e31 : ∀ t n, g (31, t, n) = h (31, t, n) := fun t n => eg 31 t n (by decide)
  have e32 : ∀ t n, g (32, t, n) = h (32, t, n) := fun t n => eg 32 t n (by decide)
  have e33 : ∀ t n, g (33, t, n) = h (33, t, n) := fun t n => eg 33 t n (by decide)
  have e41 : ∀ t n, g (41, t, n) = h (41, t, n) := fun t n => eg 41 t n (by decide)
  have e42 : ∀ t n, g (42, t, n) = h (42, t, n) := fun t n => eg 42 t n (by decide)
  have e43 : ∀ t n, g (43, t, n) = h (43, t, n) := fun t n => eg 43 t n (by decide)
  have e44 : ∀ t n, g (44, t, n) = h (44, t, n) := fun t n => eg 44 t n (by decide)
  have e45 : ∀ t n, g (45, t, n) = h (45, t, n) := fun t n => eg 45 t n (by decide)
  have e46 : ∀ t n, g (46, t, n) = h (46, t, n) := fun t n => eg 46 t n (by decide)
  have e47 : ∀ t n, g (47, t, n) = h (47, t, n) := fun t n => eg 47 t n (by decide)
  have e48 : ∀ t n, g (48, t, n) = h (48, t, n) := fun t n => eg 48 t n (by decide)
  have e49 : ∀ t n, g (49, t, n) = h (49, t, n) := fun t n => eg 49 t n (by decide)
  have e50 : ∀ t n, g (50, t, n) = h (50, t, n) := fun t n => eg 50 t n (by decide)
  have e51 : ∀ t n, g (51, t, n) = h (51, t, n) := fun t n => eg 51 t n (by decide)
  have e52 : ∀ t n, g (52, t, n) = h (52, t, n) := fun t n => eg 52 t n (by decide)
  have e53 : ∀ t n, g (53, t, n) = h (53, t, n) := fun t n => eg 53 t n (by decide)
  have e54 : ∀ t n, g (54, t, n) = h (54, t, n) := fun t n => eg 54 t n (by decide)
  have e55 : ∀ t n, g (55, t, n) = h (55, t, n) := fun t n => eg 55 t n (by decide)
  have e57 : ∀ t n, g (57, t, n) = h (57, t, n) := fun t n => eg 57 t n (by decide)
  have e58 : ∀ t n, g (58, t, n) = h (58, t, n) := fun t n => eg 58 t n (by decide)
  have e59 : ∀ t n, g (59, t, n) = h (59, t, n) := fun t n => eg 59 t n (by decide)
  have e60 : ∀ t n, g (60, t, n) = h (60, t, n) := fun t n => eg 60 t n (by decide)
  have e61 : ∀ t n, g (61, t, n) = h (61, t, n) := fun t n => eg 61 t n (by decide)
  have e65 : ∀ t n, g (65, t, n) = h (65, t, n) := fun t n => eg 65 t n (by decide)
  have no : kk_no g = kk_no h := by funext s; simp only [kk_no, e31, e33]
  have an : kk_any g = kk_any h := by funext b; simp only [kk_any, kk_bs, e41, e43]
  have bn : kk_bs g = kk_bs h := by funext s b; simp only [kk_bs, e41, e43]
  have ln : kk_lb g = kk_lb h := by funext s b; simp only [kk_lb, bn, e57]
  obtain ⟨⟨⟨t1, t2, t3, t4, t5, t6, t7, t8, t9, t10, t11⟩, ⟨kb1, kb2, kb3, kb4, kb5, kb6, kb7⟩, ⟨d1, d2, d3, d4, d5, d6, d7, d8, d9, d10, d13, d14, d15, d17, d18, d19⟩, kg⟩, p1, p2, p3, p4, p5, p6, p7⟩ := hc
  refine ⟨⟨⟨?_, ?_, ?_, ?_, ?_, ?_, ?_, ?_, ?_, ?_, ?_⟩, ⟨?_, ?_, ?_, ?_, ?_, ?_, ?_⟩, ⟨by omega, ?_, ?_, ?_, ?_, ?_, ?_, ?_, ?_, ?_, ?_, ?_, ?_, q17, q18, q19⟩, ?_⟩, ?_, ?_, ?_, ?_, ?_, ?_, ?_⟩
  · simp only [kk_NR, e1, e5, e6, e14, e15, e16, e17, e18, e19, e22, e24, e25, e26, e27, e28, e29, e30, e31, e32, e33, e41, e42, e43, e44, e45, e46, e47, e48, e49, e50, e51, e52, e53, e54, e55, e57, e58, e59, e60, e61, e65]; exact t1
  · simp only [kk_NW, e1, e5, e6, e14, e15, e16, e17, e18, e19, e22, e24, e25, e26, e27, e28, e29, e30, e31, e32, e33, e41, e42, e43, e44, e45, e46, e47, e48, e49, e50, e51, e52, e53, e54, e55, e57, e58, e59, e60, e61, e65]; exact t2
  · simp only [kk_TW, kk_ec, kk_e1, e1, e5, e6, e14, e15, e16, e17, e18, e19, e22, e24, e25, e26, e27, e28, e29, e30, e31, e32, e33, e41, e42, e43, e44, e45, e46, e47, e48, e49, e50, e51, e52, e53, e54, e55, e57, e58, e59, e60, e61, e65]; exact t3
  · simp only [kk_SR, kk_ctn2, kk_ef, kk_ed, kk_NR, e1, e5, e6, e14, e15, e16, e17, e18, e19, e22, e24, e25, e26, e27, e28, e29, e30, e31, e32, e33, e41, e42, e43, e44, e45, e46, e47, e48, e49, e50, e51, e52, e53, e54, e55, e57, e58, e59, e60, e61, e65]; exact t4
  · simp only [kk_MW, kk_mw, e1, e5, e6, e14, e15, e16, e17, e18, e19, e22, e24, e25, e26, e27, e28, e29, e30, e31, e32, e33, e41, e42, e43, e44, e45, e46, e47, e48, e49, e50, e51, e52, e53, e54, e55, e57, e58, e59, e60, e61, e65]; exact t5
  · simp only [kk_PQ, e1, e5, e6, e14, e15, e16, e17, e18, e19, e22, e24, e25, e26, e27, e28, e29, e30, e31, e32, e33, e41, e42, e43, e44, e45, e46, e47, e48, e49, e50, e51, e52, e53, e54, e55, e57, e58, e59, e60, e61, e65]; exact t6
  · simp only [kk_DS, e1, e5, e6, e14, e15, e16, e17, e18, e19, e22, e24, e25, e26, e27, e28, e29, e30, e31, e32, e33, e41, e42, e43, e44, e45, e46, e47, e48, e49, e50, e51, e52, e53, e54, e55, e57, e58, e59, e60, e61, e65]; exact t7
  · exact kk_Rcong (fun t n p => by rw [e27]) (by rw [e15]) (by rw [e15]) (fun _ => by rw [e17]) (fun _ => by rw [e18]) (fun _ => by rw [e19]) t8
  · simp only [e16]; exact t9
  · simp only [e22]; exact t10
  · simp only [e27]; exact t11
  · rw [an]; simp only [e55]; exact kb1
  · rw [e40 18 (by decide)]; exact kb2
  · rw [ln]; exact kb3
  · rw [bn]; exact kb4
  · rw [bn]; exact kb5
  · rw [bn]; exact kb6
  · rw [no, bn]; simp only [e57, e59]; exact kb7
  · rw [e1, e40 24 (by decide)]; omega
  · rw [e1, e40 25 (by decide)]; omega
  · unfold kk_N at d4 ⊢; rw [no]; simp only [e57]; exact d4
  · rw [no, e1]; exact d5
  · rw [no, e1]; exact d6
  · rw [no]; simp only [e31, e32, e58, e59, e61]; exact d7
  · simp only [e31]; exact d8
  · rw [no]; simp only [e33, e58, e60]; exact d9
  · simp only [e60]; exact d10
  · rw [no]; simp only [e24]; exact d13
  · rw [no]; simp only [e24]; exact d14
  · simp only [kk_cpd, kk_sd, e31, e1, e5, e6, e14, e15, e16, e17, e18, e19, e22, e24, e25, e26, e27, e28, e29, e30, e31, e32, e33, e41, e42, e43, e44, e45, e46, e47, e48, e49, e50, e51, e52, e53, e54, e55, e57, e58, e59, e60, e61, e65]; exact d15
  · unfold kk_KG; rw [e40 29 (by decide), e40 30 (by decide), e40 34 (by decide), e40 1 (by decide), e40 35 (by decide), e40 36 (by decide)]; simp only [e1, e5, e6, e14, e24, e65]; exact kg
  · simp only [kk_NR, e1, e5, e6, e14, e15, e16, e17, e18, e19, e22, e24, e25, e26, e27, e28, e29, e30, e31, e32, e33, e41, e42, e43, e44, e45, e46, e47, e48, e49, e50, e51, e52, e53, e54, e55, e57, e58, e59, e60, e61, e65]; exact p1
  · rw [e1, e40 33 (by decide)]; exact p2
  · intro k f k1 k2 hf
    have hf2 := hf
    unfold kk_q4 at hf2
    rw [eg f 0 0 (by omega)]
    exact p3 k f k1 k2 hf
  · simp only [e61]; exact p4
  · rw [no]; simp only [e24]; exact p5
  · rw [no]; simp only [e24]; exact p6
  · exact fun j n j1 j2 n1 n2 => kk_msc (fun f f1 f2 => eg f 0 0 (by omega)) (p7 j n j1 j2 n1 n2)
section
variable {b : Int} {h : mm_Id → Int → Int} {dh : Int → Int}
theorem kk_h17 (hc : kk_core b h dh) : kk_d17 h dh := hc.1.2.2.1.2.2.2.2.2.2.2.2.2.2.2.2.2.1
theorem kk_h18 (hc : kk_core b h dh) : kk_d18 h := hc.1.2.2.1.2.2.2.2.2.2.2.2.2.2.2.2.2.2.1
theorem kk_h19 (hc : kk_core b h dh) : kk_d19 h dh := hc.1.2.2.1.2.2.2.2.2.2.2.2.2.2.2.2.2.2.2
end
section
variable {hi : mm_Id → Int → Int} {dh : Int → Int} {nx ns : Int} {Q : mm_V → mm_H → Prop}
/-- bytes of a lock are set -/
theorem s93 (hx : 5275 ≤ nx) {i a e k : Int} (hi1 : mm_isS i) (ha : 0 ≤ a) (he : e < 2160) (hk : 0 ≤ k ∧ k ≤ 2) (K : ∀ h2, (∀ j, a ≤ j → j ≤ e → h2 (35, i, 0) j = k) → (∀ x j, ¬ (x = (35, i, 0) ∧ a ≤ j ∧ j ≤ e) → h2 x j = hi x j) → Q zU (mm_z h2 dh nx ns)) : mm_Cl 93 [zR (34, i, 0), zI a, zI e, zI k] (mm_z hi dh nx ns) Q := by
  rw [r_93_e (htx0 := hi1) (hx := hx), show (if 0 < a then a else 0) = a by split <;> omega]
  have Lp : ∀ (d : Nat) (j : Int) (g : mm_Id → Int → Int), e + 1 - j ≤ d → a ≤ j → (∀ q, a ≤ q → q < j → q ≤ e → g (35, i, 0) q = k) → (∀ x q, ¬ (x = (35, i, 0) ∧ a ≤ q ∧ q ≤ e) → g x q = hi x q) → mm_Wp 93 (mm_blk 93 1) [zR (34, i, 0), zI a, zI e, zI k, zI j] [] (mm_z g dh nx ns) Q := by
    intro d
    induction d with
    | zero =>
      intro j g e1 e2 g1 g2
      rw [r_93_1 (htx0 := hi1) (hx := hx), if_pos (by omega), r_93_2 (hx := hx)]
      exact K g (fun q q0 q1 => g1 q q0 (by omega) q1) g2
    | succ d ih =>
      intro j g e1 e2 g1 g2
      rw [r_93_1 (htx0 := hi1) (hx := hx)]
      by_cases z : e < j
      · rw [if_pos z, r_93_2 (hx := hx)]
        exact K g (fun q q0 q1 => g1 q q0 (by omega) q1) g2
      · rw [if_neg z, if_pos (by omega), mm_wi (by omega) (by omega), mm_bi (z := k) (by omega) (by omega), mm_bi (z := k) (by omega) (by omega)]
        refine ⟨by omega, ih (j + 1) _ (by omega) (by omega) (fun q q0 q1 q2 => ?_) (fun x q hq => ?_)⟩
        · by_cases y : q = j
          · rw [y, mm_ups]
          · rw [mm_upj y]; exact g1 q q0 (by omega) q2
        · rw [mm_upne' (fun w => hq ⟨w.1, by omega, by omega⟩)]
          exact g2 x q hq
  exact Lp (e + 1 - a).toNat a hi (by omega) (by omega) (fun q q0 q1 => by omega) (fun _ _ _ => rfl)
theorem s91 (hx : 5275 ≤ nx) {i d n : Int} (hi1 : mm_isS i) (hd : mm_isD d) (K1 : dh i = d → hi (34, i, 0) 2 = n → Q (zI 1) (mm_z hi dh nx ns)) (K0 : ¬ (dh i = d ∧ hi (34, i, 0) 2 = n) → Q (zI 0) (mm_z hi dh nx ns)) : mm_Cl 91 [zR (34, i, 0), zR (31, d, 0), zI n] (mm_z hi dh nx ns) Q := by
  rw [r_91_e (htx0 := hi1) (htx1 := hd) (hx := hx)]
  have no : ¬ (dh i = d ∧ hi (34, i, 0) 2 = n) → mm_Wp 91 (mm_blk 91 1) [zR (34, i, 0), zR (31, d, 0), zI n] [] (mm_z hi dh nx ns) Q := fun w => by
    rw [r_91_1 (hx := hx), r_91_2 (hx := hx)]
    exact ⟨Or.inl rfl, K0 w⟩
  unfold mm_isD at hd
  by_cases c0 : 0 ≤ dh i ∧ dh i < 5
  · rw [if_pos c0, if_pos c0]
    by_cases c1 : dh i = d
    · rw [if_pos c1]
      by_cases c2 : hi (34, i, 0) 2 = n
      · rw [if_pos c2, r_91_2 (hx := hx)]
        exact ⟨Or.inr rfl, K1 c1 c2⟩
      · rw [if_neg c2]
        exact no (fun w => c2 w.2)
    · rw [if_neg c1]
      exact no (fun w => c1 w.1)
  · rw [if_neg c0]
    exact no (fun w => by omega)
/-- whether locks bar, here -/
theorem s92 (hx : 5275 ≤ nx) {i a e k : Int} (hi1 : mm_isS i) (ha : 0 ≤ a ∧ e < 2160) (hk : 0 ≤ k ∧ k ≤ 2) (hl : ∀ j, 0 ≤ j → j < 2160 → 0 ≤ hi (35, i, 0) j ∧ hi (35, i, 0) j ≤ 2) (K1 : kk_bar (hi (35, i, 0)) a e k → Q (zI 1) (mm_z hi dh nx ns)) (K0 : ¬ kk_bar (hi (35, i, 0)) a e k → Q (zI 0) (mm_z hi dh nx ns)) : mm_Cl 92 [zR (34, i, 0), zI a, zI e, zI k] (mm_z hi dh nx ns) Q := by
  rw [r_92_e (htx0 := hi1) (hx := hx), show (if 0 < a then a else 0) = a by split <;> omega]
  have Lp : ∀ (d : Nat) (j : Int), e + 1 - j ≤ d → a ≤ j → (∀ q, a ≤ q → q < j → ¬ (0 < hi (35, i, 0) q ∧ 0 < k ∧ 2 < hi (35, i, 0) q + k)) → mm_Wp 92 (mm_blk 92 1) [zR (34, i, 0), zI a, zI e, zI k, zI j] [] (mm_z hi dh nx ns) Q := by
    intro d
    have fin : ∀ j, (∀ q, a ≤ q → q ≤ e → ¬ (0 < hi (35, i, 0) q ∧ 0 < k ∧ 2 < hi (35, i, 0) q + k)) → mm_Wp 92 (mm_blk 92 4) [zR (34, i, 0), zI a, zI e, zI k, zI j] [] (mm_z hi dh nx ns) Q := fun j w => by
      rw [r_92_4 (hx := hx)]
      refine K0 ?_
      rintro ⟨q, q0, q1, q2⟩
      exact w q q0 q1 q2
    induction d with
    | zero =>
      intro j e1 e2 g1
      rw [r_92_1 (htx0 := hi1) (hx := hx)]
      by_cases z : k = 0
      · rw [if_pos z]; exact fin _ (fun q q0 q1 => by omega)
      · rw [if_neg z, if_pos (by omega)]; exact fin _ (fun q q0 q1 => g1 q q0 (by omega))
    | succ d ih =>
      intro j e1 e2 g1
      rw [r_92_1 (htx0 := hi1) (hx := hx)]
      by_cases z : k = 0
      · rw [if_pos z]; exact fin _ (fun q q0 q1 => by omega)
      · rw [if_neg z]
        by_cases y : e < j
        · rw [if_pos y]; exact fin _ (fun q q0 q1 => g1 q q0 (by omega))
        · rw [if_neg y, if_pos (by omega)]
          have r := hl j (by omega) (by omega)
          have nx1 : ¬ (0 < hi (35, i, 0) j ∧ 0 < k ∧ 2 < hi (35, i, 0) j + k) → mm_Wp 92 (mm_blk 92 3) [zR (34, i, 0), zI a, zI e, zI k, zI j] [] (mm_z hi dh nx ns) Q := fun w => by
            rw [r_92_3 (htx0 := hi1) (hx := hx), mm_wi (by omega) (by omega)]
            refine ih (j + 1) (by omega) (by omega) (fun q q0 q1 => ?_)
            by_cases x : q = j
            · rw [x]; exact w
            · exact g1 q q0 (by omega)
          refine ⟨by omega, ?_⟩
          split
          · rw [r_92_2 (hx := hx)]
            exact K1 ⟨j, e2, by omega, by omega⟩
          · refine ⟨by omega, ?_⟩
            split
            · exact nx1 (by omega)
            · split
              · rw [r_92_2 (hx := hx)]
                exact K1 ⟨j, e2, by omega, by omega⟩
              · exact nx1 (by omega)
  exact Lp (e + 1 - a).toNat a (by omega) (by omega) (fun q q0 q1 => by omega)
end

/-- which other handle bars: the first -/
noncomputable def kk_fb (B : Int → Prop) (f : Nat) (i : Int) : Int := match f with
  | 0 => 0
  | f + 1 => @ite Int (B i) (Classical.propDecidable _) (i + 1) (kk_fb B f (i + 1))
theorem kk_fby {B : Int → Prop} {f : Nat} {i : Int} (h : B i) : kk_fb B (f + 1) i = i + 1 := by unfold kk_fb; exact if_pos h
theorem kk_fbn {B : Int → Prop} {f : Nat} {i : Int} (h : ¬ B i) : kk_fb B (f + 1) i = kk_fb B f (i + 1) := by rw [kk_fb]; exact if_neg h
theorem kk_fbb {B : Int → Prop} : ∀ (f : Nat) (i : Int), 0 ≤ i → 0 ≤ kk_fb B f i ∧ kk_fb B f i ≤ i + f := by
  intro f
  induction f with
  | zero => intro i i0; unfold kk_fb; omega
  | succ f ih =>
    intro i i0
    by_cases z : B i
    · rw [kk_fby z]; omega
    · rw [kk_fbn z]
      have := ih (i + 1) (by omega)
      omega

theorem c_23 {b : Int} {h : mm_Id → Int → Int} {dh : Int → Int} {nx ns : Int} (hy : 5306 ≤ nx) (hc : kk_core b h dh) (hb : b + 1 ≤ 1000000) {t n k l : Int} (ht : -2147483648 ≤ t ∧ t < 2147483648) (hn : -2147483648 ≤ n ∧ n < 2147483648) (hk : -2147483648 ≤ k ∧ k < 2147483648) (hl : -2147483648 ≤ l ∧ l < 2147483648) : kk_call 23 246 [zI t, zI n, zI k, zI l] b h dh nx ns kk_SI := by
  unfold kk_call
  have hx : 5275 ≤ nx := by omega
  have hc0 : kk_core b (mm_up h (40, 0, 0) 0 0) dh := kk_core0 hc
  have fin : ∀ v, kk_SI (zI v) → mm_Cl 246 [zR (40, 0, 0), zI t, zI n, zI k, zI l] (mm_z h dh nx ns) (fun (r2 : mm_V) (h2 : mm_H) => r2 = zI v ∧ ∃ g2, h2 = mm_z g2 dh nx ns ∧ kk_core (b + 1) g2 dh ∧ ∀ x j, kk_scr x j → g2 x j = h x j) →
      (fun (r : mm_V) (h1 : mm_H) => kk_SI r ∧ ∃ g dh1, h1 = mm_z g dh1 nx ns ∧ mm_Cl 246 [zR (40, 0, 0), zI t, zI n, zI k, zI l] (mm_z g dh1 nx ns) (fun r2 h2 => r2 = r ∧ ∃ g2, h2 = mm_z g2 dh1 nx ns ∧ kk_core (b + 1) g2 dh1 ∧ ∀ x j, kk_scr x j → g2 x j = h x j)) (zI v) (mm_z h dh nx ns) :=
    fun v h1 h2 => ⟨h1, h, dh, rfl, h2⟩
  have mfin : ∀ v w : Int, w = v → (fun (r2 : mm_V) (h2 : mm_H) => r2 = zI v ∧ ∃ g2, h2 = mm_z g2 dh nx ns ∧ kk_core (b + 1) g2 dh ∧ ∀ x j, kk_scr x j → g2 x j = h x j) (zI w) (mm_z (mm_up h (40, 0, 0) 0 0) dh nx ns) :=
    fun v w e => ⟨by rw [e], _, rfl, kk_coreS hb hc0, fun x j hs => kk_scr0 hs⟩
  have H17 := kk_h17 hc
  have H18 := kk_h18 hc
  rw [r_23_e (hx := hx)]
  refine s57 hx (fun k1 k2 => ?_) (fun kn => ?_)
  · have hS : mm_isS (t - 1) := ⟨by omega, by omega⟩
    obtain ⟨y1, y2, y3, y4, y5, y6⟩ := (kk_hnd hc k1).1 k2
    have hd := k2
    have opn : ∀ (G : mm_Id → Int → Int), G (63, 0, 0) t = h (63, 0, 0) t → 0 < G (63, 0, 0) t := fun G e => by rw [e]; omega
    have bad : ¬ ((0 ≤ n ∧ n ≤ k ∧ k < 2160) ∧ 0 ≤ l ∧ l ≤ 2) → mm_Wp 23 (mm_blk 23 2) [zR (1, 0, 0), zI t, zI n, zI k, zI l, zR (34, t - 1, 0), zU, zU] [] (mm_z h dh nx ns) (fun (r : mm_V) (h1 : mm_H) => kk_SI r ∧ ∃ g dh1, h1 = mm_z g dh1 nx ns ∧ mm_Cl 246 [zR (40, 0, 0), zI t, zI n, zI k, zI l] (mm_z g dh1 nx ns) (fun r2 h2 => r2 = r ∧ ∃ g2, h2 = mm_z g2 dh1 nx ns ∧ kk_core (b + 1) g2 dh1 ∧ ∀ x j, kk_scr x j → g2 x j = h x j)) := fun w => by
      rw [r_23_2 (hx := hx)]
      refine fin (-2) ⟨_, rfl, by omega, by omega⟩ ?_
      rw [r_246_e (hy := hy)]
      refine m242 hy (fun w1 w2 => ?_) (fun w1 => absurd ⟨k1, opn _ (mm_upf (by decide))⟩ w1)
      have bad2 : mm_Wp 246 (mm_blk 246 2) [zR (40, 0, 0), zI t, zI n, zI k, zI l, zU] [] (mm_z (mm_up h (40, 0, 0) 0 0) dh nx ns) (fun (r2 : mm_V) (h2 : mm_H) => r2 = zI (-2) ∧ ∃ g2, h2 = mm_z g2 dh nx ns ∧ kk_core (b + 1) g2 dh ∧ ∀ x j, kk_scr x j → g2 x j = h x j) := by
        rw [r_246_2 (hy := hy)]
        exact mfin _ _ rfl
      rw [mm_pI, r_246_0_6 (hy := hy), if_neg (by decide)]
      by_cases z1 : n < 0
      · rw [if_pos z1]; exact bad2
      · rw [if_neg z1]
        by_cases z2 : k < n
        · rw [if_pos z2]; exact bad2
        · rw [if_neg z2]
          by_cases z3 : k < 2160
          · rw [if_pos z3]
            refine m174n hy (by omega) ?_
            rw [mm_pI, r_246_1_13 (hy := hy), if_pos rfl]
            exact bad2
          · rw [if_neg z3]; exact bad2
    rw [mm_pR, r_23_0_3a (hty0 := hS) (hx := hx)]
    split
    · exact bad (by omega)
    · split
      · exact bad (by omega)
      · split
        · split
          · exact bad (by omega)
          · split
            · exact bad (by omega)
            · -- the loops of both
              have hl : ∀ i j, 0 ≤ i → i < 8 → mm_isD (dh i) → 0 ≤ j → j < 2160 → 0 ≤ h (35, i, 0) j ∧ h (35, i, 0) j ≤ 2 := fun i j i0 i1 q j0 j1 => by
                rw [((H17 i i0 i1).1 q).2.2.2.2.2 j j0 j1]
                exact H18 _ (by omega) (by omega)
              obtain ⟨B, hB⟩ : ∃ B : Int → Prop, B = fun i => i ≠ t - 1 ∧ (dh i = dh (t - 1) ∧ h (34, i, 0) 2 = h (34, t - 1, 0) 2) ∧ kk_bar (h (35, i, 0)) n k l := ⟨_, rfl⟩
              -- the reference, whatever it is that the cls left
              have ML : ∀ (G : mm_Id → Int → Int) (Q2 : mm_V → mm_H → Prop), (∀ x j, 40 ≤ x.1 → ¬ (x = (40, 0, 0) ∧ j = 0) → G x j = h x j) → (∀ i, 0 ≤ i → i < 8 → B i → (kk_fb B 8 0 = i + 1) → Q2 (zI (i + 1)) (mm_z G dh nx ns)) → (kk_fb B 8 0 = 0 → mm_Wp 246 (mm_blk 246 8) [zR (40, 0, 0), zI t, zI n, zI k, zI l, zI n] [] (mm_z G dh nx ns) Q2) → mm_Wp 246 (mm_blk 246 4) [zR (40, 0, 0), zI t, zI n, zI k, zI l, zI 1] [] (mm_z G dh nx ns) Q2 := fun G Q2 eG KY KN => by
                have e63 : ∀ j, G (63, 0, 0) j = h (63, 0, 0) j := fun j => eG _ _ (by simp) (by simp)
                have e62 : ∀ j, G (62, 0, 0) j = h (62, 0, 0) j := fun j => eG _ _ (by simp) (by simp)
                have e64 : ∀ j, G (64, 0, 0) j = h (64, 0, 0) j := fun j => eG _ _ (by simp) (by simp)
                have Lp : ∀ (d : Nat) (i : Int), 8 - i = d → 0 ≤ i → kk_fb B 8 0 = kk_fb B d i → mm_Wp 246 (mm_blk 246 4) [zR (40, 0, 0), zI t, zI n, zI k, zI l, zI (i + 1)] [] (mm_z G dh nx ns) Q2 := by
                  intro d
                  induction d with
                  | zero =>
                    intro i e1 i0 e2
                    rw [r_246_4 (hy := hy), if_pos (by omega)]
                    exact KN (by rw [e2]; rfl)
                  | succ d ih =>
                    intro i e1 i0 e2
                    have nxt : ¬ B i → mm_Wp 246 (mm_blk 246 6) [zR (40, 0, 0), zI t, zI n, zI k, zI l, zI (i + 1)] [] (mm_z G dh nx ns) Q2 := fun w => by
                      rw [r_246_6 (hy := hy), mm_wi (by omega) (by omega)]
                      exact ih (i + 1) (by omega) (by omega) (by rw [e2, kk_fbn w])
                    rw [r_246_4 (hy := hy), if_neg (by omega)]
                    by_cases z1 : i + 1 = t
                    · rw [if_pos z1]
                      exact nxt (by rw [hB]; intro w; exact w.1 (by omega))
                    · rw [if_neg z1, e63, e63, e62, e62]
                      refine ⟨by omega, by omega, ?_⟩
                      have Hi := H17 i i0 (by omega)
                      by_cases z2 : h (63, 0, 0) (i + 1) = h (63, 0, 0) t
                      · have hD : mm_isD (dh i) := by
                          by_cases y : mm_isD (dh i)
                          · exact y
                          · have := (Hi.2 y).1; omega
                        obtain ⟨w1, w2, w3, w4, w5, w6⟩ := Hi.1 hD
                        rw [if_pos z2]
                        refine ⟨by omega, by omega, ?_⟩
                        by_cases z3 : h (62, 0, 0) (i + 1) = h (62, 0, 0) t
                        · rw [if_pos z3]
                          have eb : kk_bar (fun j => G (64, 0, 0) (2160 * (i + 1) + j)) n k l ↔ kk_bar (h (35, i, 0)) n k l := by
                            unfold kk_bar
                            constructor
                            · rintro ⟨j, j0, j1, q⟩
                              exact ⟨j, j0, j1, by rw [w6 j (by omega) (by omega), ← e64]; exact q⟩
                            · rintro ⟨j, j0, j1, q⟩
                              exact ⟨j, j0, j1, by dsimp only; rw [e64, ← w6 j (by omega) (by omega)]; exact q⟩
                          refine m245 hy (by omega) (by omega) (by omega) (fun j j0 j1 => by rw [e64]; exact H18 _ (by omega) (by omega)) (fun w => ?_) (fun w => ?_)
                          · have BB : B i := by rw [hB]; exact ⟨by omega, ⟨by omega, by omega⟩, eb.1 w⟩
                            rw [mm_pI, r_246_5_6 (hy := hy), if_neg (by decide)]
                            exact KY i i0 (by omega) BB (by rw [e2, kk_fby BB])
                          · rw [mm_pI, r_246_5_6 (hy := hy), if_pos rfl]
                            exact nxt (by rw [hB]; intro q; exact w (eb.2 q.2.2))
                        · rw [if_neg z3]
                          exact nxt (by rw [hB]; intro q; exact z3 (by omega))
                      · rw [if_neg z2]
                        have nb : ¬ B i := by
                          rw [hB]
                          intro q
                          have hD : mm_isD (dh i) := by rw [q.2.1.1]; exact hd
                          have := ((H17 i i0 (by omega)).1 hD).1
                          omega
                        exact nxt nb
                exact Lp 8 0 (by omega) (by omega) rfl
              have pre : ∀ (G : mm_Id → Int → Int) (Q2 : mm_V → mm_H → Prop), (∀ x j, 40 ≤ x.1 → G x j = h x j) → mm_Wp 246 (mm_blk 246 4) [zR (40, 0, 0), zI t, zI n, zI k, zI l, zI 1] [] (mm_z (mm_up G (40, 0, 0) 0 0) dh nx ns) Q2 → mm_Cl 246 [zR (40, 0, 0), zI t, zI n, zI k, zI l] (mm_z G dh nx ns) Q2 := fun G Q2 eG q2 => by
                rw [r_246_e (hy := hy)]
                refine m242 hy (fun w1 w2 => ?_) (fun w1 => absurd ⟨k1, opn _ ((mm_upf (by decide)).trans (eG _ _ (by simp)))⟩ w1)
                rw [mm_pI, r_246_0_6 (hy := hy), if_neg (by decide), if_neg (by omega), if_neg (by omega), if_pos (by omega)]
                refine m174y hy (by omega) ?_
                rw [mm_pI, r_246_1_13 (hy := hy), if_neg (by decide)]
                exact q2
              have LC : ∀ (d : Nat) (i : Int) (v7 : mm_V), 8 - i = d → 0 ≤ i → kk_fb B 8 0 = kk_fb B d i → mm_Wp 23 (mm_blk 23 4) [zR (1, 0, 0), zI t, zI n, zI k, zI l, zR (34, t - 1, 0), zI i, v7] [] (mm_z h dh nx ns) (fun (r : mm_V) (h1 : mm_H) => kk_SI r ∧ ∃ g dh1, h1 = mm_z g dh1 nx ns ∧ mm_Cl 246 [zR (40, 0, 0), zI t, zI n, zI k, zI l] (mm_z g dh1 nx ns) (fun r2 h2 => r2 = r ∧ ∃ g2, h2 = mm_z g2 dh1 nx ns ∧ kk_core (b + 1) g2 dh1 ∧ ∀ x j, kk_scr x j → g2 x j = h x j)) := by
                intro d
                induction d with
                | zero =>
                  intro i v7 e1 i0 e2
                  rw [r_23_4 (htx5 := hS) (hx := hx), if_neg (by omega)]
                  refine s93 hx hS (by omega) (by omega) (by omega) (fun g g1 g2 => ?_)
                  rw [mm_pU, r_23_6_5 (hx := hx)]
                  refine ⟨⟨_, rfl, by omega, by omega⟩, g, dh, rfl, ?_⟩
                  have ek : ∀ x j, 40 ≤ x.1 → g x j = h x j := fun x j q => g2 x j (by rintro ⟨q3, _⟩; rw [q3] at q; simp at q)
                  refine pre g _ ek (ML _ _ (fun x j q q3 => by rw [mm_upne' q3]; exact ek x j q) (fun i _ _ _ w => ?_) (fun _ => ?_))
                  · rw [e2] at w
                    have : kk_fb B 0 i = 0 := rfl
                    have e0 : kk_fb B (Nat.zero) 8 = 0 := rfl
                    exact absurd w (by show ¬ (0 : Int) = _; omega)
                  · -- the reference marks
                    have MM : ∀ (d : Nat) (j : Int) (G : mm_Id → Int → Int), k + 1 - j ≤ d → n ≤ j → (∀ q, n ≤ q → q < j → q ≤ k → G (64, 0, 0) (2160 * t + q) = l) → (∀ x q, ¬ (x = (64, 0, 0) ∧ 2160 * t + n ≤ q ∧ q ≤ 2160 * t + k) → ¬ (x = (40, 0, 0) ∧ q = 0) → G x q = g x q) → mm_Wp 246 (mm_blk 246 8) [zR (40, 0, 0), zI t, zI n, zI k, zI l, zI j] [] (mm_z G dh nx ns) (fun (r2 : mm_V) (h2 : mm_H) => r2 = zI 0 ∧ ∃ g2, h2 = mm_z g2 dh nx ns ∧ kk_core (b + 1) g2 dh ∧ ∀ x j, kk_scr x j → g2 x j = h x j) := by
                      have done : ∀ (j : Int) (G : mm_Id → Int → Int), k < j → (∀ q, n ≤ q → q < j → q ≤ k → G (64, 0, 0) (2160 * t + q) = l) → (∀ x q, ¬ (x = (64, 0, 0) ∧ 2160 * t + n ≤ q ∧ q ≤ 2160 * t + k) → ¬ (x = (40, 0, 0) ∧ q = 0) → G x q = g x q) → mm_Wp 246 (mm_blk 246 8) [zR (40, 0, 0), zI t, zI n, zI k, zI l, zI j] [] (mm_z G dh nx ns) (fun (r2 : mm_V) (h2 : mm_H) => r2 = zI 0 ∧ ∃ g2, h2 = mm_z g2 dh nx ns ∧ kk_core (b + 1) g2 dh ∧ ∀ x j, kk_scr x j → g2 x j = h x j) := fun j G ej g3 g4 => by
                        rw [r_246_8 (hy := hy), if_pos ej]
                        have eGh : ∀ x q, x.1 ≠ 35 → x.1 ≠ 64 → ¬ (x = (40, 0, 0) ∧ q = 0) → G x q = h x q := fun x q a1 a2 a3 => by
                          rw [g4 x q (by rintro ⟨q3, _⟩; rw [q3] at a2; simp at a2) a3, g2 x q (by rintro ⟨q3, _⟩; rw [q3] at a1; simp at a1)]
                        have m64 : ∀ i a, 1 ≤ i → i < 9 → 0 ≤ a → a < 2160 → G (64, 0, 0) (2160 * i + a) = if i = t ∧ n ≤ a ∧ a ≤ k then l else h (64, 0, 0) (2160 * i + a) := fun i a i0 i1 a0 a1 => by
                          by_cases z : i = t ∧ n ≤ a ∧ a ≤ k
                          · rw [if_pos z, z.1]; exact g3 a z.2.1 (by omega) z.2.2
                          · rw [if_neg z, g4 _ _ (by rintro ⟨_, q3⟩; omega) (by simp), g2 _ _ (by simp)]
                        have c35 : ∀ i a, 0 ≤ i → 0 ≤ a → a < 2160 → G (35, i, 0) a = if i = t - 1 ∧ n ≤ a ∧ a ≤ k then l else h (35, i, 0) a := fun i a i0 a0 a1 => by
                          rw [g4 _ _ (by simp) (by simp)]
                          by_cases z : i = t - 1 ∧ n ≤ a ∧ a ≤ k
                          · rw [if_pos z, z.1]; exact g1 a z.2.1 z.2.2
                          · rw [if_neg z, g2 _ _ (by rintro ⟨q3, q4⟩; simp at q3; omega)]
                        refine ⟨rfl, G, rfl, kk_coreD hb hc (fun x q _ a2 _ _ a5 _ a7 => eGh x q a2 a5 a7) (fun i i0 i1 => ?_) (fun a a0 a1 => ?_) (fun i m i0 i1 m0 m1 z z5 => ?_), fun x q hs => ?_⟩
                        · have Hi := H17 i i0 i1
                          rw [eGh (63, 0, 0) _ (by simp) (by simp) (by simp), eGh (62, 0, 0) _ (by simp) (by simp) (by simp), eGh (34, i, 0) _ (by simp) (by simp) (by simp)]
                          refine ⟨fun q => ?_, fun q => ?_⟩
                          · obtain ⟨w1, w2, w3, w4, w5, w6⟩ := Hi.1 q
                            refine ⟨w1, w2, by rw [eGh _ _ (by simp) (by simp) (by simp)]; exact w3, w4, ?_, fun a a0 a1 => ?_⟩
                            · unfold kk_no at w5 ⊢; rw [eGh _ _ (by simp) (by simp) (by simp), eGh _ _ (by simp) (by simp) (by simp)]; exact w5
                            · rw [c35 i a i0 a0 a1, m64 (i + 1) a (by omega) (by omega) a0 a1, w6 a a0 a1]
                              by_cases z : i = t - 1 ∧ n ≤ a ∧ a ≤ k
                              · rw [if_pos z, if_pos (by omega)]
                              · rw [if_neg z, if_neg (by omega)]
                          · obtain ⟨w1, w2⟩ := Hi.2 q
                            refine ⟨w1, fun a a0 a1 => ?_⟩
                            rw [m64 (i + 1) a (by omega) (by omega) a0 a1, if_neg ?_]
                            · exact w2 a a0 a1
                            · rintro ⟨z, _⟩
                              exact q (by rw [show i = t - 1 by omega]; exact hd)
                        · obtain ⟨i, q, e⟩ : ∃ i q, a = 2160 * i + q ∧ (1 ≤ i ∧ i < 9 ∧ 0 ≤ q ∧ q < 2160) := ⟨a / 2160, a % 2160, by omega, by omega⟩
                          rw [e.1, m64 i q e.2.1 e.2.2.1 e.2.2.2.1 e.2.2.2.2]
                          split
                          · omega
                          · exact H18 _ (by omega) (by omega)
                        · rw [eGh _ _ (by simp) (by simp) (by simp)] at z
                          rw [eGh _ _ (by simp) (by simp) (by simp)] at z5
                          obtain ⟨j2, hj, q, q2⟩ := kk_h19 hc i m i0 i1 m0 m1 z z5
                          exact ⟨j2, hj, q, by rw [eGh _ _ (by simp) (by simp) (by simp)]; exact q2⟩
                        · exact eGh x q (by intro q3; unfold kk_scr at hs; rcases hs with q4 | q4 | ⟨q4, _⟩ | q4 <;> first | omega | (rw [q4] at q3; simp at q3)) (by intro q3; unfold kk_scr at hs; rcases hs with q4 | q4 | ⟨q4, _⟩ | q4 <;> first | omega | (rw [q4] at q3; simp at q3)) (by rintro ⟨q3, q5⟩; unfold kk_scr at hs; rcases hs with q4 | q4 | ⟨_, q4⟩ | q4 <;> first | omega | (rw [q3] at q4; simp at q4))
                      intro d
                      induction d with
                      | zero => intro j G e1 e2 g3 g4; exact done j G (by omega) g3 g4
                      | succ d ih =>
                        intro j G e1 e2 g3 g4
                        by_cases z : k < j
                        · exact done j G z g3 g4
                        · rw [r_246_8 (hy := hy), if_neg z, mm_wi (z := 2160 * t) (by omega) (by omega), mm_wi (z := 2160 * t + j) (by omega) (by omega), mm_wi (z := j + 1) (by omega) (by omega), mm_bi (z := l) (by omega) (by omega), mm_bi (z := l) (by omega) (by omega)]
                          refine ⟨by omega, ih (j + 1) _ (by omega) (by omega) (fun q q0 q1 q2 => ?_) (fun x q q3 q4 => ?_)⟩
                          · by_cases y : q = j
                            · rw [y, mm_ups]
                            · rw [mm_upj (by omega)]; exact g3 q q0 (by omega) q2
                          · rw [mm_upne' (fun w => q3 ⟨w.1, by omega, by omega⟩)]
                            exact g4 x q q3 q4
                    exact MM (k + 1 - n).toNat n _ (by omega) (by omega) (fun q q0 q1 => by omega) (fun x q _ q4 => mm_upne' q4)
                | succ d ih =>
                  intro i v7 e1 i0 e2
                  have iS : mm_isS i := ⟨i0, by omega⟩
                  have nxt : ∀ w7, ¬ B i → mm_Wp 23 (mm_blk 23 5) [zR (1, 0, 0), zI t, zI n, zI k, zI l, zR (34, t - 1, 0), zI i, w7] [] (mm_z h dh nx ns) (fun (r : mm_V) (h1 : mm_H) => kk_SI r ∧ ∃ g dh1, h1 = mm_z g dh1 nx ns ∧ mm_Cl 246 [zR (40, 0, 0), zI t, zI n, zI k, zI l] (mm_z g dh1 nx ns) (fun r2 h2 => r2 = r ∧ ∃ g2, h2 = mm_z g2 dh1 nx ns ∧ kk_core (b + 1) g2 dh1 ∧ ∀ x j, kk_scr x j → g2 x j = h x j)) := fun w7 w => by
                    rw [r_23_5 (htx5 := hS) (hx := hx), mm_wi (by omega) (by omega)]
                    exact ih (i + 1) w7 (by omega) (by omega) (by rw [e2, kk_fbn w])
                  rw [r_23_4 (htx5 := hS) (hx := hx), if_pos (by omega)]
                  refine ⟨⟨i0, by omega⟩, ?_⟩
                  by_cases z1 : i = t - 1
                  · rw [if_pos z1]
                    exact nxt _ (by rw [hB]; intro w; exact w.1 z1)
                  · rw [if_neg z1, if_pos (show 0 ≤ dh (t - 1) ∧ dh (t - 1) < 5 from hd)]
                    refine s91 hx iS hd (fun q1 q2 => ?_) (fun q => ?_)
                    · rw [mm_pI, r_23_4_17 (htx5 := hS) (htx7 := iS) (hx := hx), if_neg (by decide)]
                      refine s92 hx iS (by omega) (by omega) (fun j j0 j1 => hl i j i0 (by omega) (by rw [q1]; exact hd) j0 j1) (fun w => ?_) (fun w => ?_)
                      · have BB : B i := by rw [hB]; exact ⟨z1, ⟨q1, q2⟩, w⟩
                        rw [mm_pI, r_23_4_23 (htx5 := hS) (hx := hx), if_neg (by decide), mm_wi (by omega) (by omega)]
                        refine fin _ ⟨_, rfl, by omega, by omega⟩ ?_
                        rw [kk_fby BB] at e2
                        refine pre h _ (fun _ _ _ => rfl) (ML _ _ (fun x j q q3 => mm_upne' q3) (fun i2 _ _ _ w2 => ?_) (fun w2 => ?_))
                        · exact mfin _ _ (by omega)
                        · exact absurd w2 (by omega)
                      · rw [mm_pI, r_23_4_23 (htx5 := hS) (hx := hx), if_pos rfl]
                        exact nxt _ (by rw [hB]; intro q; exact w q.2.2)
                    · rw [mm_pI, r_23_4_17 (htx5 := hS) (htx7 := iS) (hx := hx), if_pos rfl]
                      exact nxt _ (by rw [hB]; intro w; exact q w.2.1)
              exact LC 8 0 _ (by omega) (by omega) rfl
        · exact bad (by omega)
  · rw [mm_pR, r_23_0_3 (hx := hx)]
    refine fin (-1) ⟨_, rfl, by omega, by omega⟩ ?_
    rw [r_246_e (hy := hy)]
    refine m242 hy (fun w1 w2 => ?_) (fun w1 => ?_)
    · have := (kk_hnd hc w1).2 (fun q => kn ⟨w1, q⟩)
      rw [mm_upf (by decide)] at w2
      omega
    · rw [mm_pI, r_246_0_6 (hy := hy), if_pos rfl]
      exact mfin _ _ rfl

