/-! the calls of both: oddities -/
theorem kk_coreX {b : Int} {h h2 : mm_Id → Int → Int} {dh : Int → Int} (e : ∀ x j, ¬ (kk_gx x j ∨ x.1 = 7 ∨ x.1 = 20 ∨ x.1 = 21 ∨ x = (15, 0, 0) ∧ j = 6) → h2 x j = h x j) (kg2 : kk_KG h2) (hc : kk_core b h dh) : kk_core b h2 dh := by
  have eg : ∀ (f : Nat) t n, (f ≠ 7 ∧ f ≠ 20 ∧ f ≠ 21 ∧ f ≠ 15 ∧ f ≠ 1 ∧ f ≠ 5 ∧ f ≠ 6 ∧ f ≠ 14 ∧ f ≠ 56 ∧ f ≠ 65 ∧ f ≠ 66 ∧ f ≠ 40) → h2 (f, t, n) = h (f, t, n) := fun f t n h1 => by
    funext j
    refine e _ _ ?_
    unfold kk_gx
    rintro ((⟨q, _⟩ | q | q | q | q | q | q | ⟨q, _⟩) | q | q | q | ⟨q, _⟩) <;> simp at q <;> omega
  have e1g : ∀ j, j = 10 ∨ j = 11 ∨ j = 13 → h2 (1, 0, 0) j = h (1, 0, 0) j := fun j hj => e _ _ (by
    unfold kk_gx
    rintro ((⟨_, q⟩ | q | q | q | q | q | q | ⟨q, _⟩) | q | q | q | ⟨q, _⟩) <;> first | omega | simp at q)
  have e40 : ∀ j, j = 18 ∨ j = 24 ∨ j = 25 ∨ j = 33 → h2 (40, 0, 0) j = h (40, 0, 0) j := fun j hj => e _ _ (by
    unfold kk_gx
    rintro ((⟨q, _⟩ | q | q | q | q | q | q | ⟨_, q⟩) | q | q | q | ⟨q, _⟩) <;> first | omega | simp at q)
  have e16 : ∀ t n, h2 (16, t, n) = h (16, t, n) := fun t n => eg 16 t n (by decide)
  have e22 : ∀ t n, h2 (22, t, n) = h (22, t, n) := fun t n => eg 22 t n (by decide)
  have e24 : ∀ t n, h2 (24, t, n) = h (24, t, n) := fun t n => eg 24 t n (by decide)
  have e25 : ∀ t n, h2 (25, t, n) = h (25, t, n) := fun t n => eg 25 t n (by decide)
  have e26 : ∀ t n, h2 (26, t, n) = h (26, t, n) := fun t n => eg 26 t n (by decide)
  have e27 : ∀ t n, h2 (27, t, n) = h (27, t, n) := fun t n => eg 27 t n (by decide)
  have e28 : ∀ t n, h2 (28, t, n) = h (28, t, n) := fun t n => eg 28 t n (by decide)
  have e29 : ∀ t n, h2 (29, t, n) = h (29, t, n) := fun t n => eg 29 t n (by decide)
  have e30 : ∀ t n, h2 (30, t, n) = h (30, t, n) := fun t n => eg 30 t n (by decide)
  have e31 : ∀ t n, h2 (31, t, n) = h (31, t, n) := fun t n => eg 31 t n (by decide)
  have e32 : ∀ t n, h2 (32, t, n) = h (32, t, n) := fun t n => eg 32 t n (by decide)
  have e33 : ∀ t n, h2 (33, t, n) = h (33, t, n) := fun t n => eg 33 t n (by decide)
  have e34 : ∀ t n, h2 (34, t, n) = h (34, t, n) := fun t n => eg 34 t n (by decide)
  have e35 : ∀ t n, h2 (35, t, n) = h (35, t, n) := fun t n => eg 35 t n (by decide)
  have e41 : ∀ t n, h2 (41, t, n) = h (41, t, n) := fun t n => eg 41 t n (by decide)
  have e42 : ∀ t n, h2 (42, t, n) = h (42, t, n) := fun t n => eg 42 t n (by decide)
  have e43 : ∀ t n, h2 (43, t, n) = h (43, t, n) := fun t n => eg 43 t n (by decide)
  have e44 : ∀ t n, h2 (44, t, n) = h (44, t, n) := fun t n => eg 44 t n (by decide)
  have e45 : ∀ t n, h2 (45, t, n) = h (45, t, n) := fun t n => eg 45 t n (by decide)
  have e46 : ∀ t n, h2 (46, t, n) = h (46, t, n) := fun t n => eg 46 t n (by decide)
  have e47 : ∀ t n, h2 (47, t, n) = h (47, t, n) := fun t n => eg 47 t n (by decide)
  have e48 : ∀ t n, h2 (48, t, n) = h (48, t, n) := fun t n => eg 48 t n (by decide)
  have e49 : ∀ t n, h2 (49, t, n) = h (49, t, n) := fun t n => eg 49 t n (by decide)
  have e50 : ∀ t n, h2 (50, t, n) = h (50, t, n) := fun t n => eg 50 t n (by decide)
  have e51 : ∀ t n, h2 (51, t, n) = h (51, t, n) := fun t n => eg 51 t n (by decide)
  have e52 : ∀ t n, h2 (52, t, n) = h (52, t, n) := fun t n => eg 52 t n (by decide)
  have e53 : ∀ t n, h2 (53, t, n) = h (53, t, n) := fun t n => eg 53 t n (by decide)
  have e54 : ∀ t n, h2 (54, t, n) = h (54, t, n) := fun t n => eg 54 t n (by decide)
  have e55 : ∀ t n, h2 (55, t, n) = h (55, t, n) := fun t n => eg 55 t n (by decide)
  have e57 : ∀ t n, h2 (57, t, n) = h (57, t, n) := fun t n => eg 57 t n (by decide)
  have e58 : ∀ t n, h2 (58, t, n) = h (58, t, n) := fun t n => eg 58 t n (by decide)
  have e59 : ∀ t n, h2 (59, t, n) = h (59, t, n) := fun t n => eg 59 t n (by decide)
  have e60 : ∀ t n, h2 (60, t, n) = h (60, t, n) := fun t n => eg 60 t n (by decide)
  have e61 : ∀ t n, h2 (61, t, n) = h (61, t, n) := fun t n => eg 61 t n (by decide)
  have e62 : ∀ t n, h2 (62, t, n) = h (62, t, n) := fun t n => eg 62 t n (by decide)
  have e63 : ∀ t n, h2 (63, t, n) = h (63, t, n) := fun t n => eg 63 t n (by decide)
  have e64 : ∀ t n, h2 (64, t, n) = h (64, t, n) := fun t n => eg 64 t n (by decide)
  have e15g : ∀ j, j = 7 ∨ j = 8 → h2 (15, 0, 0) j = h (15, 0, 0) j := fun j hj => e _ _ (by
    unfold kk_gx
    rintro ((⟨q, _⟩ | q | q | q | q | q | q | ⟨q, _⟩) | q | q | q | ⟨_, q⟩) <;> first | omega | simp at q)
  have e17g := eg 17 0 0 (by decide)
  have e18g := eg 18 0 0 (by decide)
  have e19g := eg 19 0 0 (by decide)
  have a10 := e1g 10 (by decide)
  have a11 := e1g 11 (by decide)
  have a13 := e1g 13 (by decide)
  have n18 := e40 18 (by decide)
  have n24 := e40 24 (by decide)
  have n25 := e40 25 (by decide)
  have n33 := e40 33 (by decide)
  have an : kk_any h2 = kk_any h := by funext b; simp only [kk_any, kk_bs, e41, e43]
  have bn : kk_bs h2 = kk_bs h := by funext s b; simp only [kk_bs, e41, e43]
  have ln : kk_lb h2 = kk_lb h := by funext s b; simp only [kk_lb, bn, e57]
  have no : kk_no h2 = kk_no h := by funext s; simp only [kk_no, e31, e33]
  obtain ⟨⟨⟨t1, t2, t3, t4, t5, t6, t7, t8, t9, t10, t11⟩, kb, ⟨d1, d2, d3, d4, d5, d6, d7, d8, d9, d10, d13, d14, d15, d17, d18, d19⟩, kg⟩, p1, p2, p3, p4, p5, p6, p7⟩ := hc
  refine ⟨⟨⟨?_, ?_, ?_, ?_, ?_, ?_, ?_, ?_, ?_, ?_, ?_⟩, ?_, ⟨d1, ?_, ?_, ?_, ?_, ?_, ?_, ?_, ?_, ?_, ?_, ?_, ?_, ?_, ?_, ?_⟩, ?_⟩, ?_, ?_, ?_, ?_, ?_, ?_, ?_⟩
  · simp only [kk_NR, e16, e22, e24, e25, e26, e27, e28, e29, e30, e31, e32, e33, e34, e35, e41, e42, e43, e44, e45, e46, e47, e48, e49, e50, e51, e52, e53, e54, e55, e57, e58, e59, e60, e61, e62, e63, e64]; exact t1
  · simp only [kk_NW, e16, e22, e24, e25, e26, e27, e28, e29, e30, e31, e32, e33, e34, e35, e41, e42, e43, e44, e45, e46, e47, e48, e49, e50, e51, e52, e53, e54, e55, e57, e58, e59, e60, e61, e62, e63, e64]; exact t2
  · simp only [kk_TW, kk_ec, kk_e1, e16, e22, e24, e25, e26, e27, e28, e29, e30, e31, e32, e33, e34, e35, e41, e42, e43, e44, e45, e46, e47, e48, e49, e50, e51, e52, e53, e54, e55, e57, e58, e59, e60, e61, e62, e63, e64]; exact t3
  · simp only [kk_SR, kk_ctn2, kk_ef, kk_ed, kk_NR, e16, e22, e24, e25, e26, e27, e28, e29, e30, e31, e32, e33, e34, e35, e41, e42, e43, e44, e45, e46, e47, e48, e49, e50, e51, e52, e53, e54, e55, e57, e58, e59, e60, e61, e62, e63, e64]; exact t4
  · simp only [kk_MW, kk_mw, e16, e22, e24, e25, e26, e27, e28, e29, e30, e31, e32, e33, e34, e35, e41, e42, e43, e44, e45, e46, e47, e48, e49, e50, e51, e52, e53, e54, e55, e57, e58, e59, e60, e61, e62, e63, e64]; exact t5
  · simp only [kk_PQ, e16, e22, e24, e25, e26, e27, e28, e29, e30, e31, e32, e33, e34, e35, e41, e42, e43, e44, e45, e46, e47, e48, e49, e50, e51, e52, e53, e54, e55, e57, e58, e59, e60, e61, e62, e63, e64]; exact t6
  · simp only [kk_DS, e16, e22, e24, e25, e26, e27, e28, e29, e30, e31, e32, e33, e34, e35, e41, e42, e43, e44, e45, e46, e47, e48, e49, e50, e51, e52, e53, e54, e55, e57, e58, e59, e60, e61, e62, e63, e64]; exact t7
  · exact kk_Rcong (fun t n p => by rw [e27]) (e15g 7 (by decide)) (e15g 8 (by decide)) (fun _ => by rw [e17g]) (fun _ => by rw [e18g]) (fun _ => by rw [e19g]) t8
  · simp only [e16, e22, e24, e25, e26, e27, e28, e29, e30, e31, e32, e33, e34, e35, e41, e42, e43, e44, e45, e46, e47, e48, e49, e50, e51, e52, e53, e54, e55, e57, e58, e59, e60, e61, e62, e63, e64]; exact t9
  · simp only [e16, e22, e24, e25, e26, e27, e28, e29, e30, e31, e32, e33, e34, e35, e41, e42, e43, e44, e45, e46, e47, e48, e49, e50, e51, e52, e53, e54, e55, e57, e58, e59, e60, e61, e62, e63, e64]; exact t10
  · simp only [e16, e22, e24, e25, e26, e27, e28, e29, e30, e31, e32, e33, e34, e35, e41, e42, e43, e44, e45, e46, e47, e48, e49, e50, e51, e52, e53, e54, e55, e57, e58, e59, e60, e61, e62, e63, e64]; exact t11
  · unfold kk_KB at kb ⊢; rw [an, bn, ln, no, n18, e55, e57, e59]; exact kb
  · rw [a10, n24]; exact d2
  · rw [a11, n25]; exact d3
  · unfold kk_N at d4 ⊢; rw [no, e57]; exact d4
  · rw [no, a10]; exact d5
  · rw [no, a11]; exact d6
  · rw [no]; simp only [e16, e22, e24, e25, e26, e27, e28, e29, e30, e31, e32, e33, e34, e35, e41, e42, e43, e44, e45, e46, e47, e48, e49, e50, e51, e52, e53, e54, e55, e57, e58, e59, e60, e61, e62, e63, e64]; exact d7
  · simp only [e16, e22, e24, e25, e26, e27, e28, e29, e30, e31, e32, e33, e34, e35, e41, e42, e43, e44, e45, e46, e47, e48, e49, e50, e51, e52, e53, e54, e55, e57, e58, e59, e60, e61, e62, e63, e64]; exact d8
  · rw [no]; simp only [e16, e22, e24, e25, e26, e27, e28, e29, e30, e31, e32, e33, e34, e35, e41, e42, e43, e44, e45, e46, e47, e48, e49, e50, e51, e52, e53, e54, e55, e57, e58, e59, e60, e61, e62, e63, e64]; exact d9
  · simp only [e16, e22, e24, e25, e26, e27, e28, e29, e30, e31, e32, e33, e34, e35, e41, e42, e43, e44, e45, e46, e47, e48, e49, e50, e51, e52, e53, e54, e55, e57, e58, e59, e60, e61, e62, e63, e64]; exact d10
  · rw [no]; simp only [e16, e22, e24, e25, e26, e27, e28, e29, e30, e31, e32, e33, e34, e35, e41, e42, e43, e44, e45, e46, e47, e48, e49, e50, e51, e52, e53, e54, e55, e57, e58, e59, e60, e61, e62, e63, e64]; exact d13
  · rw [no]; simp only [e16, e22, e24, e25, e26, e27, e28, e29, e30, e31, e32, e33, e34, e35, e41, e42, e43, e44, e45, e46, e47, e48, e49, e50, e51, e52, e53, e54, e55, e57, e58, e59, e60, e61, e62, e63, e64]; exact d14
  · simp only [kk_cpd, kk_sd, e16, e22, e24, e25, e26, e27, e28, e29, e30, e31, e32, e33, e34, e35, e41, e42, e43, e44, e45, e46, e47, e48, e49, e50, e51, e52, e53, e54, e55, e57, e58, e59, e60, e61, e62, e63, e64]; exact d15
  · rw [no]; simp only [e16, e22, e24, e25, e26, e27, e28, e29, e30, e31, e32, e33, e34, e35, e41, e42, e43, e44, e45, e46, e47, e48, e49, e50, e51, e52, e53, e54, e55, e57, e58, e59, e60, e61, e62, e63, e64]; exact d17
  · simp only [e16, e22, e24, e25, e26, e27, e28, e29, e30, e31, e32, e33, e34, e35, e41, e42, e43, e44, e45, e46, e47, e48, e49, e50, e51, e52, e53, e54, e55, e57, e58, e59, e60, e61, e62, e63, e64]; exact d18
  · simp only [e16, e22, e24, e25, e26, e27, e28, e29, e30, e31, e32, e33, e34, e35, e41, e42, e43, e44, e45, e46, e47, e48, e49, e50, e51, e52, e53, e54, e55, e57, e58, e59, e60, e61, e62, e63, e64]; exact d19
  · exact kg2
  · simp only [kk_NR, e16, e22, e24, e25, e26, e27, e28, e29, e30, e31, e32, e33, e34, e35, e41, e42, e43, e44, e45, e46, e47, e48, e49, e50, e51, e52, e53, e54, e55, e57, e58, e59, e60, e61, e62, e63, e64]; exact p1
  · rw [a13, n33]; exact p2
  · intro k f k1 k2 hf
    have hf2 := hf
    unfold kk_q4 at hf2
    rw [eg f 0 0 (by omega)]
    exact p3 k f k1 k2 hf
  · simp only [e16, e22, e24, e25, e26, e27, e28, e29, e30, e31, e32, e33, e34, e35, e41, e42, e43, e44, e45, e46, e47, e48, e49, e50, e51, e52, e53, e54, e55, e57, e58, e59, e60, e61, e62, e63, e64]; exact p4
  · rw [no]; simp only [e16, e22, e24, e25, e26, e27, e28, e29, e30, e31, e32, e33, e34, e35, e41, e42, e43, e44, e45, e46, e47, e48, e49, e50, e51, e52, e53, e54, e55, e57, e58, e59, e60, e61, e62, e63, e64]; exact p5
  · rw [no]; simp only [e16, e22, e24, e25, e26, e27, e28, e29, e30, e31, e32, e33, e34, e35, e41, e42, e43, e44, e45, e46, e47, e48, e49, e50, e51, e52, e53, e54, e55, e57, e58, e59, e60, e61, e62, e63, e64]; exact p6
  · exact fun j n j1 j2 n1 n2 => kk_msc (fun f f1 f2 => eg f 0 0 (by omega)) (p7 j n j1 j2 n1 n2)

/-- the same, but for the tallies -/
def kk_ta (h g : mm_Id → Int → Int) : Prop := ∀ (x : mm_Id) j, x ≠ (20, 0, 0) → x ≠ (21, 0, 0) → ¬ (x = (15, 0, 0) ∧ j = 6) → g x j = h x j
section
variable {h : mm_Id → Int → Int} {dh : Int → Int} {nx ns : Int} {Q : mm_V → mm_H → Prop}
theorem s134 (hx : 5275 ≤ nx) (K : ∀ g, kk_ta h g → g (15, 0, 0) 6 = 0 → (∀ r, 0 ≤ r → r < 1701 → g (20, 0, 0) r = 0 ∧ g (21, 0, 0) r = 0) → Q zU (mm_z g dh nx ns)) : mm_Cl 134 [zR (15, 0, 0)] (mm_z h dh nx ns) Q := by
  have L : ∀ (k : Nat) (i : Int) (g : mm_Id → Int → Int), 1701 - i = k → 0 ≤ i → kk_ta h g → g (15, 0, 0) 6 = 0 → (∀ r, 0 ≤ r → r < i → g (20, 0, 0) r = 0 ∧ g (21, 0, 0) r = 0) → mm_Wp 134 (mm_blk 134 1) [zR (15, 0, 0), zI i] [] (mm_z g dh nx ns) Q := by
    intro k
    induction k with
    | zero =>
      intro i g e1 e2 e3 e4 e5
      rw [r_134_1 (hx := hx), if_neg (by omega)]
      exact K g e3 e4 (fun r r0 r1 => e5 r r0 (by omega))
    | succ k ih =>
      intro i g e1 e2 e3 e4 e5
      rw [r_134_1 (hx := hx), if_pos (by omega), mm_wi (z := i + 1) (by omega) (by omega)]
      refine ⟨by omega, by omega, ih (i + 1) _ (by omega) (by omega) (fun x j a1 a2 a3 => ?_) (by rw [mm_upf (by decide), mm_upf (by decide)]; exact e4) (fun r r0 r1 => ?_)⟩
      · rw [mm_upx a2, mm_upx a1]; exact e3 x j a1 a2 a3
      · by_cases z : r = i
        · rw [z, mm_upf (show ¬ (20 : Nat) = 21 by decide), mm_ups, mm_ups]; exact ⟨rfl, rfl⟩
        · rw [mm_upj z, mm_upj z, mm_upj z, mm_upj z]; exact e5 r r0 (by omega)
  rw [r_134_e (hx := hx)]
  exact L 1701 0 _ (by omega) (by omega) (fun x j _ _ a3 => mm_upne' a3) mm_ups (fun r r0 r1 => by omega)
theorem sm_suc (f : Int → Int) {i : Int} (hi : 0 ≤ i) : mm_sm f (i + 1).toNat = mm_sm f i.toNat + f i := by
  obtain ⟨k, rfl⟩ := Int.eq_ofNat_of_zero_le hi
  rfl
theorem s172a (hx : 5275 ≤ nx) {t : Int} (ht : mm_isT t) (ha : kk_as t = 0) (e2 : h (22, t, 0) 2 = kk_as t) (hR : kk_R1 h) (hN : ∀ n, 1 ≤ n → n < 37 → h (24, t, n) 9 = kk_nz (h (27, t, n)) ∧ (h (24, t, n) 0 ≠ 1 → ∀ p, 0 ≤ p → p < 36 → h (27, t, n) p = 0)) (h0 : ∀ p, 0 ≤ p → p < 36 → h (27, t, 0) p = 0)
    {g : mm_Id → Int → Int} {X : Int → Int} (ga : kk_ta h g) (g6 : g (15, 0, 0) 6 = 0) (gX : ∀ r, 1 ≤ r → r < 1701 → g (20, 0, 0) r = X r ∧ 0 ≤ X r ∧ X r ≤ 30000)
    (K : ∀ g2, kk_ta h g2 → g2 (15, 0, 0) 6 = 0 → (∀ r, 1 ≤ r → r < 1701 → g2 (20, 0, 0) r = X r + kc_N h t r) → (∀ j, g2 (21, 0, 0) j = g (21, 0, 0) j) → g2 (20, 0, 0) 0 = g (20, 0, 0) 0 → Q zU (mm_z g2 dh nx ns)) : mm_Cl 172 [zR (22, t, 0)] (mm_z g dh nx ns) Q := by
  have Y : ∀ (n r : Int), 0 ≤ n → n ≤ 37 → 0 ≤ mm_sm (fun n => kc_P (h (27, t, n)) r) n.toNat ∧ mm_sm (fun n => kc_P (h (27, t, n)) r) n.toNat ≤ 1332 := fun n r n0 n1 => by
    have a := sm_nn (f := fun n => kc_P (h (27, t, n)) r) n.toNat (fun _ _ _ => kc_Pnn _ _)
    have b := sm_ub (f := fun n => kc_P (h (27, t, n)) r) 36 n.toNat (fun _ _ _ => sm_ub 1 36 (fun i _ _ => by split <;> omega))
    omega
  have L : ∀ (k : Nat) (n : Int) (g1 : mm_Id → Int → Int) (v2 v3 : mm_V), 37 - n = k → 1 ≤ n → kk_ta h g1 → g1 (15, 0, 0) 6 = 0 → (∀ r, 1 ≤ r → r < 1701 → g1 (20, 0, 0) r = X r + mm_sm (fun n => kc_P (h (27, t, n)) r) n.toNat) → (∀ j, g1 (21, 0, 0) j = g (21, 0, 0) j) → g1 (20, 0, 0) 0 = g (20, 0, 0) 0 →
      mm_Wp 172 (mm_blk 172 1) [zR (22, t, 0), zI n, v2, v3] [] (mm_z g1 dh nx ns) Q := by
    intro k
    induction k with
    | zero =>
      intro n g1 v2 v3 a1 a2 a3 a4 a5 a6 a7
      rw [r_172_1 (htx0 := ht) (hx := hx), if_pos (by omega)]
      have en : n = 37 := by omega
      rw [en] at a5
      exact K g1 a3 a4 a5 a6 a7
    | succ k ih =>
      intro n g1 v2 v3 a1 a2 a3 a4 a5 a6 a7
      have Yn := fun r => Y n r (by omega) (by omega)
      have hnN : mm_isN n := ⟨by omega, by omega⟩
      have Nn := hN n a2 (by omega)
      -- after the node's pieces
      have E : ∀ (g3 : mm_Id → Int → Int) (v3 : Int), kk_ta h g3 → g3 (15, 0, 0) 6 = 0 → (∀ r, 1 ≤ r → r < 1701 → g3 (20, 0, 0) r = X r + mm_sm (fun n => kc_P (h (27, t, n)) r) n.toNat + kc_P (h (27, t, n)) r) → (∀ j, g3 (21, 0, 0) j = g (21, 0, 0) j) → g3 (20, 0, 0) 0 = g (20, 0, 0) 0 →
          mm_Wp 172 (mm_blk 172 4) [zR (22, t, 0), zI n, zI (kk_nz (h (27, t, n))), zI v3] [] (mm_z g3 dh nx ns) Q := fun g3 v3 b1 b2 b3 b4 b5 => by
        rw [r_172_4 (htx0 := ht) (hx := hx)]
        refine ⟨by omega, ?_⟩
        rw [if_pos (by rw [b1 _ _ (by simp) (by simp) (by simp)]; exact Nn.1.symm), r_172_6 (htx0 := ht) (hx := hx), b2, mm_wi (z := n + 1) (by omega) (by omega)]
        refine ih (n + 1) _ _ _ (by omega) (by omega) (fun x j q1 q2 q3 => ?_) (by rw [mm_ups]; rfl) (fun r r0 r1 => ?_) (fun j => ?_) ?_
        · rw [mm_upne' q3]; exact b1 x j q1 q2 q3
        · rw [mm_upf (by decide), b3 r r0 r1, sm_suc _ (by omega)]; omega
        · rw [mm_upf (by decide)]; exact b4 j
        · rw [mm_upf (by decide)]; exact b5
      rw [r_172_1 (htx0 := ht) (hx := hx), if_neg (by omega)]
      by_cases k1 : h (24, t, n) 0 = 0
      · rw [r_172_2 (htx0 := ht) (hx := hx), a3 _ _ (by simp) (by simp) (by simp), if_pos k1]
        have z0 := Nn.2 (by omega)
        have e0 := E g1 0 a3 a4 (fun r r0 r1 => by
          rw [a5 r r0 r1]
          have : kc_P (h (27, t, n)) r = 0 := sm_zero _ (fun i i0 i1 => by rw [z0 i (by omega) (by omega), if_neg (by omega)])
          omega) a6 a7
        rw [kk_nz0 z0] at e0
        exact ⟨by omega, e0⟩
      · have L2 : ∀ (l : Nat) (p : Int) (g3 : mm_Id → Int → Int), 36 - p = l → 0 ≤ p → kk_ta h g3 → g3 (15, 0, 0) 6 = 0 → (∀ r, 1 ≤ r → r < 1701 → g3 (20, 0, 0) r = X r + mm_sm (fun n => kc_P (h (27, t, n)) r) n.toNat + mm_sm (fun p => if h (27, t, n) p = r then 1 else 0) p.toNat) → (∀ j, g3 (21, 0, 0) j = g (21, 0, 0) j) → g3 (20, 0, 0) 0 = g (20, 0, 0) 0 →
            mm_Wp 172 (mm_blk 172 2) [zR (22, t, 0), zI n, zI (mm_sm (fun p => if h (27, t, n) p = 0 then 0 else 1) p.toNat), zI p] [] (mm_z g3 dh nx ns) Q := by
          intro l
          induction l with
          | zero =>
            intro p g3 c1 c2 b1 b2 b3 b4 b5
            have ep : p = 36 := by omega
            rw [ep] at b3 ⊢
            rw [r_172_2 (htx0 := ht) (hx := hx), b1 _ _ (by simp) (by simp) (by simp), if_neg k1, if_neg (by decide)]
            exact ⟨by omega, E g3 36 b1 b2 b3 b4 b5⟩
          | succ l ih2 =>
            intro p g3 c1 c2 b1 b2 b3 b4 b5
            have bz : 0 ≤ mm_sm (fun p => if h (27, t, n) p = 0 then 0 else 1) p.toNat ∧ mm_sm (fun p => if h (27, t, n) p = 0 then 0 else 1) p.toNat ≤ 36 := by
              have a := sm_nn (f := fun p => if h (27, t, n) p = 0 then 0 else 1) p.toNat (fun _ _ _ => by split <;> omega)
              have b := sm_ub (f := fun p => if h (27, t, n) p = 0 then 0 else 1) 1 p.toNat (fun _ _ _ => by split <;> omega)
              omega
            have rr := hR t n p ht hnN c2 (by omega)
            rw [r_172_2 (htx0 := ht) (hx := hx), b1 _ _ (by simp) (by simp) (by simp), if_neg k1, if_pos (by omega), b1 (27, t, n) p (by simp) (by simp) (by simp)]
            refine ⟨by omega, by omega, by omega, ?_⟩
            by_cases z : h (27, t, n) p = 0
            · rw [if_pos z, r_172_3 (htx0 := ht) (hx := hx), mm_wi (z := p + 1) (by omega) (by omega)]
              have i2 := ih2 (p + 1) g3 (by omega) (by omega) b1 b2 (fun r r0 r1 => by rw [b3 r r0 r1, sm_suc _ c2, if_neg (by omega)]; omega) b4 b5
              rw [sm_suc _ c2, if_pos z, Int.add_zero] at i2
              exact i2
            · rw [if_neg z, b1 (22, t, 0) 2 (by simp) (by simp) (by simp), e2]
              refine ⟨by omega, by omega, ?_⟩
              have bP : 0 ≤ mm_sm (fun p => if h (27, t, n) p = h (27, t, n) p then (1 : Int) else 0) p.toNat := sm_nn _ (fun _ _ _ => by split <;> omega)
              have bv := b3 (h (27, t, n) p) (by omega) rr.2
              have bP2 : 0 ≤ mm_sm (fun p2 => if h (27, t, n) p2 = h (27, t, n) p then 1 else 0) p.toNat ∧ mm_sm (fun p2 => if h (27, t, n) p2 = h (27, t, n) p then 1 else 0) p.toNat ≤ 36 := by
                have a := sm_nn (f := fun p2 => if h (27, t, n) p2 = h (27, t, n) p then 1 else 0) p.toNat (fun _ _ _ => by split <;> omega)
                have b := sm_ub (f := fun p2 => if h (27, t, n) p2 = h (27, t, n) p then 1 else 0) 1 p.toNat (fun _ _ _ => by split <;> omega)
                omega
              have xv := (gX (h (27, t, n) p) (by omega) rr.2).2
              have yv := Yn (h (27, t, n) p)
              rw [r_135_e (hx := hx), if_neg (by omega), if_pos (by omega), if_pos ha, mm_wi (z := g3 (20, 0, 0) (h (27, t, n) p) + 1) (by omega) (by omega), r_135_4 (hx := hx), mm_pU, r_172_2_29 (htx0 := ht) (hx := hx), r_172_3 (htx0 := ht) (hx := hx), mm_wi (z := p + 1) (by omega) (by omega), mm_wi (by omega) (by omega)]
              have i2 := ih2 (p + 1) (mm_up g3 (20, 0, 0) (h (27, t, n) p) (g3 (20, 0, 0) (h (27, t, n) p) + 1)) (by omega) (by omega) (fun x j q1 q2 q3 => by rw [mm_upx q1]; exact b1 x j q1 q2 q3) (by rw [mm_upf (by decide)]; exact b2) (fun r r0 r1 => by
                rw [sm_suc _ c2]
                by_cases w : r = h (27, t, n) p
                · rw [w, mm_ups, bv, if_pos rfl]; omega
                · rw [mm_upj w, b3 r r0 r1, if_neg (fun w2 => w w2.symm)]; omega) (fun j => by rw [mm_upf (by decide)]; exact b4 j) (by rw [mm_upj (by omega)]; exact b5)
              rw [sm_suc _ c2, if_neg z] at i2
              exact ⟨by omega, by omega, i2⟩
        exact L2 36 0 g1 (by omega) (by omega) a3 a4 (fun r r0 r1 => by rw [a5 r r0 r1]; exact (Int.add_zero _).symm) a6 a7
  rw [r_172_e (htx0 := ht) (hx := hx)]
  refine L 36 1 g _ _ (by omega) (by omega) ga g6 (fun r r0 r1 => ?_) (fun _ => rfl) rfl
  have : mm_sm (fun n => kc_P (h (27, t, n)) r) (1 : Int).toNat = 0 := by
    show 0 + kc_P (h (27, t, 0)) r = 0
    have : kc_P (h (27, t, 0)) r = 0 := sm_zero _ (fun i i0 i1 => by rw [h0 i (by omega) (by omega), if_neg (by omega)])
    omega
  rw [this, (gX r r0 r1).1]; omega
theorem s172b (hx : 5275 ≤ nx) {t : Int} (ht : mm_isT t) (ha : ¬ kk_as t = 0) (e2 : h (22, t, 0) 2 = kk_as t) (hR : kk_R1 h) (hN : ∀ n, 1 ≤ n → n < 37 → h (24, t, n) 9 = kk_nz (h (27, t, n)) ∧ (h (24, t, n) 0 ≠ 1 → ∀ p, 0 ≤ p → p < 36 → h (27, t, n) p = 0)) (h0 : ∀ p, 0 ≤ p → p < 36 → h (27, t, 0) p = 0)
    {g : mm_Id → Int → Int} {X : Int → Int} (ga : kk_ta h g) (g6 : g (15, 0, 0) 6 = 0) (gX : ∀ r, 1 ≤ r → r < 1701 → g (21, 0, 0) r = X r ∧ 0 ≤ X r ∧ X r ≤ 30000)
    (K : ∀ g2, kk_ta h g2 → g2 (15, 0, 0) 6 = 0 → (∀ r, 1 ≤ r → r < 1701 → g2 (21, 0, 0) r = X r + kc_N h t r) → (∀ j, g2 (20, 0, 0) j = g (20, 0, 0) j) → g2 (21, 0, 0) 0 = g (21, 0, 0) 0 → Q zU (mm_z g2 dh nx ns)) : mm_Cl 172 [zR (22, t, 0)] (mm_z g dh nx ns) Q := by
  have Y : ∀ (n r : Int), 0 ≤ n → n ≤ 37 → 0 ≤ mm_sm (fun n => kc_P (h (27, t, n)) r) n.toNat ∧ mm_sm (fun n => kc_P (h (27, t, n)) r) n.toNat ≤ 1332 := fun n r n0 n1 => by
    have a := sm_nn (f := fun n => kc_P (h (27, t, n)) r) n.toNat (fun _ _ _ => kc_Pnn _ _)
    have b := sm_ub (f := fun n => kc_P (h (27, t, n)) r) 36 n.toNat (fun _ _ _ => sm_ub 1 36 (fun i _ _ => by split <;> omega))
    omega
  have L : ∀ (k : Nat) (n : Int) (g1 : mm_Id → Int → Int) (v2 v3 : mm_V), 37 - n = k → 1 ≤ n → kk_ta h g1 → g1 (15, 0, 0) 6 = 0 → (∀ r, 1 ≤ r → r < 1701 → g1 (21, 0, 0) r = X r + mm_sm (fun n => kc_P (h (27, t, n)) r) n.toNat) → (∀ j, g1 (20, 0, 0) j = g (20, 0, 0) j) → g1 (21, 0, 0) 0 = g (21, 0, 0) 0 →
      mm_Wp 172 (mm_blk 172 1) [zR (22, t, 0), zI n, v2, v3] [] (mm_z g1 dh nx ns) Q := by
    intro k
    induction k with
    | zero =>
      intro n g1 v2 v3 a1 a2 a3 a4 a5 a6 a7
      rw [r_172_1 (htx0 := ht) (hx := hx), if_pos (by omega)]
      have en : n = 37 := by omega
      rw [en] at a5
      exact K g1 a3 a4 a5 a6 a7
    | succ k ih =>
      intro n g1 v2 v3 a1 a2 a3 a4 a5 a6 a7
      have Yn := fun r => Y n r (by omega) (by omega)
      have hnN : mm_isN n := ⟨by omega, by omega⟩
      have Nn := hN n a2 (by omega)
      -- after the node's pieces
      have E : ∀ (g3 : mm_Id → Int → Int) (v3 : Int), kk_ta h g3 → g3 (15, 0, 0) 6 = 0 → (∀ r, 1 ≤ r → r < 1701 → g3 (21, 0, 0) r = X r + mm_sm (fun n => kc_P (h (27, t, n)) r) n.toNat + kc_P (h (27, t, n)) r) → (∀ j, g3 (20, 0, 0) j = g (20, 0, 0) j) → g3 (21, 0, 0) 0 = g (21, 0, 0) 0 →
          mm_Wp 172 (mm_blk 172 4) [zR (22, t, 0), zI n, zI (kk_nz (h (27, t, n))), zI v3] [] (mm_z g3 dh nx ns) Q := fun g3 v3 b1 b2 b3 b4 b5 => by
        rw [r_172_4 (htx0 := ht) (hx := hx)]
        refine ⟨by omega, ?_⟩
        rw [if_pos (by rw [b1 _ _ (by simp) (by simp) (by simp)]; exact Nn.1.symm), r_172_6 (htx0 := ht) (hx := hx), b2, mm_wi (z := n + 1) (by omega) (by omega)]
        refine ih (n + 1) _ _ _ (by omega) (by omega) (fun x j q1 q2 q3 => ?_) (by rw [mm_ups]; rfl) (fun r r0 r1 => ?_) (fun j => ?_) ?_
        · rw [mm_upne' q3]; exact b1 x j q1 q2 q3
        · rw [mm_upf (by decide), b3 r r0 r1, sm_suc _ (by omega)]; omega
        · rw [mm_upf (by decide)]; exact b4 j
        · rw [mm_upf (by decide)]; exact b5
      rw [r_172_1 (htx0 := ht) (hx := hx), if_neg (by omega)]
      by_cases k1 : h (24, t, n) 0 = 0
      · rw [r_172_2 (htx0 := ht) (hx := hx), a3 _ _ (by simp) (by simp) (by simp), if_pos k1]
        have z0 := Nn.2 (by omega)
        have e0 := E g1 0 a3 a4 (fun r r0 r1 => by
          rw [a5 r r0 r1]
          have : kc_P (h (27, t, n)) r = 0 := sm_zero _ (fun i i0 i1 => by rw [z0 i (by omega) (by omega), if_neg (by omega)])
          omega) a6 a7
        rw [kk_nz0 z0] at e0
        exact ⟨by omega, e0⟩
      · have L2 : ∀ (l : Nat) (p : Int) (g3 : mm_Id → Int → Int), 36 - p = l → 0 ≤ p → kk_ta h g3 → g3 (15, 0, 0) 6 = 0 → (∀ r, 1 ≤ r → r < 1701 → g3 (21, 0, 0) r = X r + mm_sm (fun n => kc_P (h (27, t, n)) r) n.toNat + mm_sm (fun p => if h (27, t, n) p = r then 1 else 0) p.toNat) → (∀ j, g3 (20, 0, 0) j = g (20, 0, 0) j) → g3 (21, 0, 0) 0 = g (21, 0, 0) 0 →
            mm_Wp 172 (mm_blk 172 2) [zR (22, t, 0), zI n, zI (mm_sm (fun p => if h (27, t, n) p = 0 then 0 else 1) p.toNat), zI p] [] (mm_z g3 dh nx ns) Q := by
          intro l
          induction l with
          | zero =>
            intro p g3 c1 c2 b1 b2 b3 b4 b5
            have ep : p = 36 := by omega
            rw [ep] at b3 ⊢
            rw [r_172_2 (htx0 := ht) (hx := hx), b1 _ _ (by simp) (by simp) (by simp), if_neg k1, if_neg (by decide)]
            exact ⟨by omega, E g3 36 b1 b2 b3 b4 b5⟩
          | succ l ih2 =>
            intro p g3 c1 c2 b1 b2 b3 b4 b5
            have bz : 0 ≤ mm_sm (fun p => if h (27, t, n) p = 0 then 0 else 1) p.toNat ∧ mm_sm (fun p => if h (27, t, n) p = 0 then 0 else 1) p.toNat ≤ 36 := by
              have a := sm_nn (f := fun p => if h (27, t, n) p = 0 then 0 else 1) p.toNat (fun _ _ _ => by split <;> omega)
              have b := sm_ub (f := fun p => if h (27, t, n) p = 0 then 0 else 1) 1 p.toNat (fun _ _ _ => by split <;> omega)
              omega
            have rr := hR t n p ht hnN c2 (by omega)
            rw [r_172_2 (htx0 := ht) (hx := hx), b1 _ _ (by simp) (by simp) (by simp), if_neg k1, if_pos (by omega), b1 (27, t, n) p (by simp) (by simp) (by simp)]
            refine ⟨by omega, by omega, by omega, ?_⟩
            by_cases z : h (27, t, n) p = 0
            · rw [if_pos z, r_172_3 (htx0 := ht) (hx := hx), mm_wi (z := p + 1) (by omega) (by omega)]
              have i2 := ih2 (p + 1) g3 (by omega) (by omega) b1 b2 (fun r r0 r1 => by rw [b3 r r0 r1, sm_suc _ c2, if_neg (by omega)]; omega) b4 b5
              rw [sm_suc _ c2, if_pos z, Int.add_zero] at i2
              exact i2
            · rw [if_neg z, b1 (22, t, 0) 2 (by simp) (by simp) (by simp), e2]
              refine ⟨by omega, by omega, ?_⟩
              have bP : 0 ≤ mm_sm (fun p => if h (27, t, n) p = h (27, t, n) p then (1 : Int) else 0) p.toNat := sm_nn _ (fun _ _ _ => by split <;> omega)
              have bv := b3 (h (27, t, n) p) (by omega) rr.2
              have bP2 : 0 ≤ mm_sm (fun p2 => if h (27, t, n) p2 = h (27, t, n) p then 1 else 0) p.toNat ∧ mm_sm (fun p2 => if h (27, t, n) p2 = h (27, t, n) p then 1 else 0) p.toNat ≤ 36 := by
                have a := sm_nn (f := fun p2 => if h (27, t, n) p2 = h (27, t, n) p then 1 else 0) p.toNat (fun _ _ _ => by split <;> omega)
                have b := sm_ub (f := fun p2 => if h (27, t, n) p2 = h (27, t, n) p then 1 else 0) 1 p.toNat (fun _ _ _ => by split <;> omega)
                omega
              have xv := (gX (h (27, t, n) p) (by omega) rr.2).2
              have yv := Yn (h (27, t, n) p)
              rw [r_135_e (hx := hx), if_neg (by omega), if_pos (by omega), if_neg ha, mm_wi (z := g3 (21, 0, 0) (h (27, t, n) p) + 1) (by omega) (by omega), r_135_4 (hx := hx), mm_pU, r_172_2_29 (htx0 := ht) (hx := hx), r_172_3 (htx0 := ht) (hx := hx), mm_wi (z := p + 1) (by omega) (by omega), mm_wi (by omega) (by omega)]
              have i2 := ih2 (p + 1) (mm_up g3 (21, 0, 0) (h (27, t, n) p) (g3 (21, 0, 0) (h (27, t, n) p) + 1)) (by omega) (by omega) (fun x j q1 q2 q3 => by rw [mm_upx q2]; exact b1 x j q1 q2 q3) (by rw [mm_upf (by decide)]; exact b2) (fun r r0 r1 => by
                rw [sm_suc _ c2]
                by_cases w : r = h (27, t, n) p
                · rw [w, mm_ups, bv, if_pos rfl]; omega
                · rw [mm_upj w, b3 r r0 r1, if_neg (fun w2 => w w2.symm)]; omega) (fun j => by rw [mm_upf (by decide)]; exact b4 j) (by rw [mm_upj (by omega)]; exact b5)
              rw [sm_suc _ c2, if_neg z] at i2
              exact ⟨by omega, by omega, i2⟩
        exact L2 36 0 g1 (by omega) (by omega) a3 a4 (fun r r0 r1 => by rw [a5 r r0 r1]; exact (Int.add_zero _).symm) a6 a7
  rw [r_172_e (htx0 := ht) (hx := hx)]
  refine L 36 1 g _ _ (by omega) (by omega) ga g6 (fun r r0 r1 => ?_) (fun _ => rfl) rfl
  have : mm_sm (fun n => kc_P (h (27, t, n)) r) (1 : Int).toNat = 0 := by
    show 0 + kc_P (h (27, t, 0)) r = 0
    have : kc_P (h (27, t, 0)) r = 0 := sm_zero _ (fun i i0 i1 => by rw [h0 i (by omega) (by omega), if_neg (by omega)])
    omega
  rw [this, (gX r r0 r1).1]; omega
end

