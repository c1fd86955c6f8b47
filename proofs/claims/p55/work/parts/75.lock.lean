/-! handles change; the calls of both: lock, opn -/
theorem kk_coreD {b : Int} {h g : mm_Id → Int → Int} {dh dh' : Int → Int} (hb : b + 1 ≤ 1000000) (hc : kk_core b h dh) (e : ∀ x j, x.1 ≠ 34 → x.1 ≠ 35 → x.1 ≠ 62 → x.1 ≠ 63 → x.1 ≠ 64 → x.1 ≠ 56 → ¬ (x = (40, 0, 0) ∧ j = 0) → g x j = h x j) (q17 : kk_d17 g dh') (q18 : kk_d18 g) (q19 : kk_d19 g dh') : kk_core (b + 1) g dh' := by
  have eg : ∀ (f : Nat) t n, (f ≠ 34 ∧ f ≠ 35 ∧ f ≠ 62 ∧ f ≠ 63 ∧ f ≠ 64 ∧ f ≠ 56 ∧ f ≠ 40) → g (f, t, n) = h (f, t, n) := fun f t n q => by
    funext j
    exact e _ _ (by show f ≠ 34; omega) (by show f ≠ 35; omega) (by show f ≠ 62; omega) (by show f ≠ 63; omega) (by show f ≠ 64; omega) (by show f ≠ 56; omega) (by rintro ⟨q2, _⟩; simp at q2; omega)
  have e40 : ∀ j, j ≠ 0 → g (40, 0, 0) j = h (40, 0, 0) j := fun j hj => e _ _ (by simp) (by simp) (by simp) (by simp) (by simp) (by simp) (by rintro ⟨_, q2⟩; omega)
  have e1 : ∀ t n, g (1, t, n) = h (1, t, n) := fun t n => eg 1 t n (by decide)
  have e5 : ∀ t n, g (5, t, n) = h (5, t, n) := fun t n => eg 5 t n (by decide)
  have e6 : ∀ t n, g (6, t, n) = h (6, t, n) := fun t n => eg 6 t n (by decide)
  have e14 : ∀ t n, g (14, t, n) = h (14, t, n) := fun t n => eg 14 t n (by decide)
  have e15 : ∀ t n, g (15, t, n) = h (15, t, n) := fun t n => eg 15 t n (by decide)
  have e16 : ∀ t n, g (16, t, n) = h (16, t, n) := fun t n => eg 16 t n (by decide)
  have e17 : ∀ t n, g (17, t, n) = h (17, t, n) := fun t n => eg 17 t n (by decide)
  have e18 : ∀ t n, g (18, t, n) = h (18, t, n) := fun t n => eg 18 t n (by decide)
  have e19 : ∀ t n, g (19, t, n) = h (19, t, n) := fun t n => eg 19 t n (by decide)
  have e22 : ∀ t n, g (22, t, n) = h (22, t, n) := fun t n => eg 22 t n (by decide)
  have e24 : ∀ t n, g (24, t, n) = h (24, t, n) := fun t n => eg 24 t n (by decide)
  have e25 : ∀ t n, g (25, t, n) = h (25, t, n) := fun t n => eg 25 t n (by decide)
  have e26 : ∀ t n, g (26, t, n) = h (26, t, n) := fun t n => eg 26 t n (by decide)
  have e27 : ∀ t n, g (27, t, n) = h (27, t, n) := fun t n => eg 27 t n (by decide)
  have e28 : ∀ t n, g (28, t, n) = h (28, t, n) := fun t n => eg 28 t n (by decide)
  have e29 : ∀ t n, g (29, t, n) = h (29, t, n) := fun t n => eg 29 t n (by decide)
  have e30 : ∀ t n, g (30, t, n) = h (30, t, n) := fun t n => eg 30 t n (by decide)
  have e31 : ∀ t n, g (31, t, n) = h (31, t, n) := fun t n => eg 31 t n (by decide)
  have e32 : ∀ t n, g (32, t, n) = h (32, t, n) := fun t n => eg 32 t n (by decide)
  have e33 : ∀ t n, g (33, t, n) = h (33, t, n) := fun t n => eg 33 t n (by decide)
  have e41 : ∀ t n, g (41, t, n) = h (41, t, n) := fun t n => eg 41 t n (by decide)
  have e42 : ∀ t n, g (42, t, n) = h (42, t, n) := fun t n => eg 42 t n (by decide)
  have e43 : ∀ t n, g (43, t, n) = h (43, t, n) := fun t n => eg 43 t n (by decide)
  have e44 : ∀ t n, g (44, t, n) = h (44, t, n) := fun t n => eg 44 t n (by decide)
  have e45 : ∀ t n, g (45, t, n) = h (45, t, n) := fun t n => eg 45 t n (by decide)
  have e46 : ∀ t n, g (46, t, n) = h (46, t, n) := fun t n => eg 46 t n (by decide)
  have e47 : ∀ t n, g (47, t, n) = h (47, t, n) := fun t n => eg 47 t n (by decide)
  have e48 : ∀ t n, g (48, t, n) = h (48, t, n) := fun t n => eg 48 t n (by decide)
  have e49 : ∀ t n, g (49, t, n) = h (49, t, n) := fun t n => eg 49 t n (by decide)
  have e50 : ∀ t n, g (50, t, n) = h (50, t, n) := fun t n => eg 50 t n (by decide)
  have e51 : ∀ t n, g (51, t, n) = h (51, t, n) := fun t n => eg 51 t n (by decide)
  have e52 : ∀ t n, g (52, t, n) = h (52, t, n) := fun t n => eg 52 t n (by decide)
  have e53 : ∀ t n, g (53, t, n) = h (53, t, n) := fun t n => eg 53 t n (by decide)
  have e54 : ∀ t n, g (54, t, n) = h (54, t, n) := fun t n => eg 54 t n (by decide)
  have e55 : ∀ t n, g (55, t, n) = h (55, t, n) := fun t n => eg 55 t n (by decide)
  have e57 : ∀ t n, g (57, t, n) = h (57, t, n) := fun t n => eg 57 t n (by decide)
  have e58 : ∀ t n, g (58, t, n) = h (58, t, n) := fun t n => eg 58 t n (by decide)
  have e59 : ∀ t n, g (59, t, n) = h (59, t, n) := fun t n => eg 59 t n (by decide)
  have e60 : ∀ t n, g (60, t, n) = h (60, t, n) := fun t n => eg 60 t n (by decide)
  have e61 : ∀ t n, g (61, t, n) = h (61, t, n) := fun t n => eg 61 t n (by decide)
  have e65 : ∀ t n, g (65, t, n) = h (65, t, n) := fun t n => eg 65 t n (by decide)
  have no : kk_no g = kk_no h := by funext s; simp only [kk_no, e31, e33]
  have an : kk_any g = kk_any h := by funext b; simp only [kk_any, kk_bs, e41, e43]
  have bn : kk_bs g = kk_bs h := by funext s b; simp only [kk_bs, e41, e43]
  have ln : kk_lb g = kk_lb h := by funext s b; simp only [kk_lb, bn, e57]
  obtain ⟨⟨⟨t1, t2, t3, t4, t5, t6, t7, t8, t9, t10, t11⟩, ⟨kb1, kb2, kb3, kb4, kb5, kb6, kb7⟩, ⟨d1, d2, d3, d4, d5, d6, d7, d8, d9, d10, d13, d14, d15, d17, d18, d19⟩, kg⟩, p1, p2, p3, p4, p5, p6, p7⟩ := hc
  refine ⟨⟨⟨?_, ?_, ?_, ?_, ?_, ?_, ?_, ?_, ?_, ?_, ?_⟩, ⟨?_, ?_, ?_, ?_, ?_, ?_, ?_⟩, ⟨by omega, ?_, ?_, ?_, ?_, ?_, ?_, ?_, ?_, ?_, ?_, ?_, ?_, q17, q18, q19⟩, ?_⟩, ?_, ?_, ?_, ?_, ?_, ?_, ?_⟩
  · simp only [kk_NR, e1, e5, e6, e14, e15, e16, e17, e18, e19, e22, e24, e25, e26, e27, e28, e29, e30, e31, e32, e33, e41, e42, e43, e44, e45, e46, e47, e48, e49, e50, e51, e52, e53, e54, e55, e57, e58, e59, e60, e61, e65]; exact t1
  · simp only [kk_NW, e1, e5, e6, e14, e15, e16, e17, e18, e19, e22, e24, e25, e26, e27, e28, e29, e30, e31, e32, e33, e41, e42, e43, e44, e45, e46, e47, e48, e49, e50, e51, e52, e53, e54, e55, e57, e58, e59, e60, e61, e65]; exact t2
  · simp only [kk_TW, kk_ec, kk_e1, e1, e5, e6, e14, e15, e16, e17, e18, e19, e22, e24, e25, e26, e27, e28, e29, e30, e31, e32, e33, e41, e42, e43, e44, e45, e46, e47, e48, e49, e50, e51, e52, e53, e54, e55, e57, e58, e59, e60, e61, e65]; exact t3
  · simp only [kk_SR, kk_ctn2, kk_ef, kk_ed, kk_NR, e1, e5, e6, e14, e15, e16, e17, e18, e19, e22, e24, e25, e26, e27, e28, e29, e30, e31, e32, e33, e41, e42, e43, e44, e45, e46, e47, e48, e49, e50, e51, e52, e53, e54, e55, e57, e58, e59, e60, e61, e65]; exact t4
  · simp only [kk_MW, kk_mw, e1, e5, e6, e14, e15, e16, e17, e18, e19, e22, e24, e25, e26, e27, e28, e29, e30, e31, e32, e33, e41, e42, e43, e44, e45, e46, e47, e48, e49, e50, e51, e52, e53, e54, e55, e57, e58, e59, e60, e61, e65]; exact t5
  · simp only [kk_PQ, e1, e5, e6, e14, e15, e16, e17, e18, e19, e22, e24, e25, e26, e27, e28, e29, e30, e31, e32, e33, e41, e42, e43, e44, e45, e46, e47, e48, e49, e50, e51, e52, e53, e54, e55, e57, e58, e59, e60, e61, e65]; exact t6
  · simp only [kk_DS, e1, e5, e6, e14, e15, e16, e17, e18, e19, e22, e24, e25, e26, e27, e28, e29, e30, e31, e32, e33, e41, e42, e43, e44, e45, e46, e47, e48, e49, e50, e51, e52, e53, e54, e55, e57, e58, e59, e60, e61, e65]; exact t7
  · exact kk_Rcong (fun t n p => by rw [e27]) (by rw [e15]) (by rw [e15]) (fun _ => by rw [e17]) (fun _ => by rw [e18]) (fun _ => by rw [e19]) t8
  · simp only [e16]; exact t9
  · simp only [e22]; exact t10
  · simp only [e27]; exact t11
  · rw [an]; simp only [e55]; exact kb1
  · rw [e40 18 (by decide)]; exact kb2
  · rw [ln]; exact kb3
  · rw [bn]; exact kb4
  · rw [bn]; exact kb5
  · rw [bn]; exact kb6
  · rw [no, bn]; simp only [e57, e59]; exact kb7
  · rw [e1, e40 24 (by decide)]; omega
  · rw [e1, e40 25 (by decide)]; omega
  · unfold kk_N at d4 ⊢; rw [no]; simp only [e57]; exact d4
  · rw [no, e1]; exact d5
  · rw [no, e1]; exact d6
  · rw [no]; simp only [e31, e32, e58, e59, e61]; exact d7
  · simp only [e31]; exact d8
  · rw [no]; simp only [e33, e58, e60]; exact d9
  · simp only [e60]; exact d10
  · rw [no]; simp only [e24]; exact d13
  · rw [no]; simp only [e24]; exact d14
  · simp only [kk_cpd, kk_sd, e31, e1, e5, e6, e14, e15, e16, e17, e18, e19, e22, e24, e25, e26, e27, e28, e29, e30, e31, e32, e33, e41, e42, e43, e44, e45, e46, e47, e48, e49, e50, e51, e52, e53, e54, e55, e57, e58, e59, e60, e61, e65]; exact d15
  · unfold kk_KG; rw [e40 29 (by decide), e40 30 (by decide), e40 34 (by decide), e40 1 (by decide), e40 35 (by decide), e40 36 (by decide)]; simp only [e1, e5, e6, e14, e24, e65]; exact kg
  · simp only [kk_NR, e1, e5, e6, e14, e15, e16, e17, e18, e19, e22, e24, e25, e26, e27, e28, e29, e30, e31, e32, e33, e41, e42, e43, e44, e45, e46, e47, e48, e49, e50, e51, e52, e53, e54, e55, e57, e58, e59, e60, e61, e65]; exact p1
  · rw [e1, e40 33 (by decide)]; exact p2
  · intro k f k1 k2 hf
    have hf2 := hf
    unfold kk_q4 at hf2
    rw [eg f 0 0 (by omega)]
    exact p3 k f k1 k2 hf
  · simp only [e61]; exact p4
  · rw [no]; simp only [e24]; exact p5
  · rw [no]; simp only [e24]; exact p6
  · exact fun j n j1 j2 n1 n2 => kk_msc (fun f f1 f2 => eg f 0 0 (by omega)) (p7 j n j1 j2 n1 n2)
section
variable {b : Int} {h : mm_Id → Int → Int} {dh : Int → Int}
theorem kk_h17 (hc : kk_core b h dh) : kk_d17 h dh := hc.1.2.2.1.2.2.2.2.2.2.2.2.2.2.2.2.2.1
theorem kk_h18 (hc : kk_core b h dh) : kk_d18 h := hc.1.2.2.1.2.2.2.2.2.2.2.2.2.2.2.2.2.2.1
theorem kk_h19 (hc : kk_core b h dh) : kk_d19 h dh := hc.1.2.2.1.2.2.2.2.2.2.2.2.2.2.2.2.2.2.2
end
section
variable {hi : mm_Id → Int → Int} {dh : Int → Int} {nx ns : Int} {Q : mm_V → mm_H → Prop}
/-- bytes of a lock are set -/
theorem s93 (hx : 5275 ≤ nx) {i a e k : Int} (hi1 : mm_isS i) (ha : 0 ≤ a) (he : e < 2160) (hk : 0 ≤ k ∧ k ≤ 2) (K : ∀ h2, (∀ j, a ≤ j → j ≤ e → h2 (35, i, 0) j = k) → (∀ x j, ¬ (x = (35, i, 0) ∧ a ≤ j ∧ j ≤ e) → h2 x j = hi x j) → Q zU (mm_z h2 dh nx ns)) : mm_Cl 93 [zR (34, i, 0), zI a, zI e, zI k] (mm_z hi dh nx ns) Q := by
  rw [r_93_e (htx0 := hi1) (hx := hx), show (if 0 < a then a else 0) = a by split <;> omega]
  have Lp : ∀ (d : Nat) (j : Int) (g : mm_Id → Int → Int), e + 1 - j ≤ d → a ≤ j → (∀ q, a ≤ q → q < j → q ≤ e → g (35, i, 0) q = k) → (∀ x q, ¬ (x = (35, i, 0) ∧ a ≤ q ∧ q ≤ e) → g x q = hi x q) → mm_Wp 93 (mm_blk 93 1) [zR (34, i, 0), zI a, zI e, zI k, zI j] [] (mm_z g dh nx ns) Q := by
    intro d
    induction d with
    | zero =>
      intro j g e1 e2 g1 g2
      rw [r_93_1 (htx0 := hi1) (hx := hx), if_pos (by omega), r_93_2 (hx := hx)]
      exact K g (fun q q0 q1 => g1 q q0 (by omega) q1) g2
    | succ d ih =>
      intro j g e1 e2 g1 g2
      rw [r_93_1 (htx0 := hi1) (hx := hx)]
      by_cases z : e < j
      · rw [if_pos z, r_93_2 (hx := hx)]
        exact K g (fun q q0 q1 => g1 q q0 (by omega) q1) g2
      · rw [if_neg z, if_pos (by omega), mm_wi (by omega) (by omega), mm_bi (z := k) (by omega) (by omega), mm_bi (z := k) (by omega) (by omega)]
        refine ⟨by omega, ih (j + 1) _ (by omega) (by omega) (fun q q0 q1 q2 => ?_) (fun x q hq => ?_)⟩
        · by_cases y : q = j
          · rw [y, mm_ups]
          · rw [mm_upj y]; exact g1 q q0 (by omega) q2
        · rw [mm_upne' (fun w => hq ⟨w.1, by omega, by omega⟩)]
          exact g2 x q hq
  exact Lp (e + 1 - a).toNat a hi (by omega) (by omega) (fun q q0 q1 => by omega) (fun _ _ _ => rfl)
theorem s91 (hx : 5275 ≤ nx) {i d n : Int} (hi1 : mm_isS i) (hd : mm_isD d) (K1 : dh i = d → hi (34, i, 0) 2 = n → Q (zI 1) (mm_z hi dh nx ns)) (K0 : ¬ (dh i = d ∧ hi (34, i, 0) 2 = n) → Q (zI 0) (mm_z hi dh nx ns)) : mm_Cl 91 [zR (34, i, 0), zR (31, d, 0), zI n] (mm_z hi dh nx ns) Q := by
  rw [r_91_e (htx0 := hi1) (htx1 := hd) (hx := hx)]
  have no : ¬ (dh i = d ∧ hi (34, i, 0) 2 = n) → mm_Wp 91 (mm_blk 91 1) [zR (34, i, 0), zR (31, d, 0), zI n] [] (mm_z hi dh nx ns) Q := fun w => by
    rw [r_91_1 (hx := hx), r_91_2 (hx := hx)]
    exact ⟨Or.inl rfl, K0 w⟩
  unfold mm_isD at hd
  by_cases c0 : 0 ≤ dh i ∧ dh i < 5
  · rw [if_pos c0, if_pos c0]
    by_cases c1 : dh i = d
    · rw [if_pos c1]
      by_cases c2 : hi (34, i, 0) 2 = n
      · rw [if_pos c2, r_91_2 (hx := hx)]
        exact ⟨Or.inr rfl, K1 c1 c2⟩
      · rw [if_neg c2]
        exact no (fun w => c2 w.2)
    · rw [if_neg c1]
      exact no (fun w => c1 w.1)
  · rw [if_neg c0]
    exact no (fun w => by omega)
end

