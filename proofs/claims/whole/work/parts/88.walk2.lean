/-! the calls of both: walk -/
/-- the same, but for what is ahead -/
def kk_wa (h g : mm_Id → Int → Int) : Prop := ∀ (x : mm_Id) j, x ≠ (7, 0, 0) → ¬ (x = (5, 0, 0) ∧ j = 3) → g x j = h x j
def kk_wb (h g : mm_Id → Int → Int) : Prop := ∀ (x : mm_Id) j, x ≠ (7, 0, 0) → x ≠ (5, 0, 0) → g x j = h x j
theorem kk_core7 {b : Int} {h h2 : mm_Id → Int → Int} {dh : Int → Int} (e : ∀ x j, ¬ (kk_gx x j ∨ x.1 = 7) → h2 x j = h x j) (kg2 : kk_KG h2) (hc : kk_core b h dh) : kk_core b h2 dh := by
  have eg : ∀ (f : Nat) t n, (f ≠ 7 ∧ f ≠ 1 ∧ f ≠ 5 ∧ f ≠ 6 ∧ f ≠ 14 ∧ f ≠ 56 ∧ f ≠ 65 ∧ f ≠ 66 ∧ f ≠ 40) → h2 (f, t, n) = h (f, t, n) := fun f t n h1 => by
    funext j
    refine e _ _ ?_
    unfold kk_gx
    rintro ((⟨q, _⟩ | q | q | q | q | q | q | ⟨q, _⟩) | q) <;> simp at q <;> omega
  have e1g : ∀ j, j = 10 ∨ j = 11 ∨ j = 13 → h2 (1, 0, 0) j = h (1, 0, 0) j := fun j hj => e _ _ (by
    unfold kk_gx
    rintro ((⟨_, q⟩ | q | q | q | q | q | q | ⟨q, _⟩) | q) <;> first | omega | simp at q)
  have e40 : ∀ j, j = 18 ∨ j = 24 ∨ j = 25 ∨ j = 33 → h2 (40, 0, 0) j = h (40, 0, 0) j := fun j hj => e _ _ (by
    unfold kk_gx
    rintro ((⟨q, _⟩ | q | q | q | q | q | q | ⟨_, q⟩) | q) <;> first | omega | simp at q)
  have e16 : ∀ t n, h2 (16, t, n) = h (16, t, n) := fun t n => eg 16 t n (by decide)
  have e22 : ∀ t n, h2 (22, t, n) = h (22, t, n) := fun t n => eg 22 t n (by decide)
  have e24 : ∀ t n, h2 (24, t, n) = h (24, t, n) := fun t n => eg 24 t n (by decide)
  have e25 : ∀ t n, h2 (25, t, n) = h (25, t, n) := fun t n => eg 25 t n (by decide)
  have e26 : ∀ t n, h2 (26, t, n) = h (26, t, n) := fun t n => eg 26 t n (by decide)
  have e27 : ∀ t n, h2 (27, t, n) = h (27, t, n) := fun t n => eg 27 t n (by decide)
  have e28 : ∀ t n, h2 (28, t, n) = h (28, t, n) := fun t n => eg 28 t n (by decide)
  have e29 : ∀ t n, h2 (29, t, n) = h (29, t, n) := fun t n => eg 29 t n (by decide)
  have e30 : ∀ t n, h2 (30, t, n) = h (30, t, n) := fun t n => eg 30 t n (by decide)
  have e31 : ∀ t n, h2 (31, t, n) = h (31, t, n) := fun t n => eg 31 t n (by decide)
  have e32 : ∀ t n, h2 (32, t, n) = h (32, t, n) := fun t n => eg 32 t n (by decide)
  have e33 : ∀ t n, h2 (33, t, n) = h (33, t, n) := fun t n => eg 33 t n (by decide)
  have e34 : ∀ t n, h2 (34, t, n) = h (34, t, n) := fun t n => eg 34 t n (by decide)
  have e35 : ∀ t n, h2 (35, t, n) = h (35, t, n) := fun t n => eg 35 t n (by decide)
  have e41 : ∀ t n, h2 (41, t, n) = h (41, t, n) := fun t n => eg 41 t n (by decide)
  have e42 : ∀ t n, h2 (42, t, n) = h (42, t, n) := fun t n => eg 42 t n (by decide)
  have e43 : ∀ t n, h2 (43, t, n) = h (43, t, n) := fun t n => eg 43 t n (by decide)
  have e44 : ∀ t n, h2 (44, t, n) = h (44, t, n) := fun t n => eg 44 t n (by decide)
  have e45 : ∀ t n, h2 (45, t, n) = h (45, t, n) := fun t n => eg 45 t n (by decide)
  have e46 : ∀ t n, h2 (46, t, n) = h (46, t, n) := fun t n => eg 46 t n (by decide)
  have e47 : ∀ t n, h2 (47, t, n) = h (47, t, n) := fun t n => eg 47 t n (by decide)
  have e48 : ∀ t n, h2 (48, t, n) = h (48, t, n) := fun t n => eg 48 t n (by decide)
  have e49 : ∀ t n, h2 (49, t, n) = h (49, t, n) := fun t n => eg 49 t n (by decide)
  have e50 : ∀ t n, h2 (50, t, n) = h (50, t, n) := fun t n => eg 50 t n (by decide)
  have e51 : ∀ t n, h2 (51, t, n) = h (51, t, n) := fun t n => eg 51 t n (by decide)
  have e52 : ∀ t n, h2 (52, t, n) = h (52, t, n) := fun t n => eg 52 t n (by decide)
  have e53 : ∀ t n, h2 (53, t, n) = h (53, t, n) := fun t n => eg 53 t n (by decide)
  have e54 : ∀ t n, h2 (54, t, n) = h (54, t, n) := fun t n => eg 54 t n (by decide)
  have e55 : ∀ t n, h2 (55, t, n) = h (55, t, n) := fun t n => eg 55 t n (by decide)
  have e57 : ∀ t n, h2 (57, t, n) = h (57, t, n) := fun t n => eg 57 t n (by decide)
  have e58 : ∀ t n, h2 (58, t, n) = h (58, t, n) := fun t n => eg 58 t n (by decide)
  have e59 : ∀ t n, h2 (59, t, n) = h (59, t, n) := fun t n => eg 59 t n (by decide)
  have e60 : ∀ t n, h2 (60, t, n) = h (60, t, n) := fun t n => eg 60 t n (by decide)
  have e61 : ∀ t n, h2 (61, t, n) = h (61, t, n) := fun t n => eg 61 t n (by decide)
  have e62 : ∀ t n, h2 (62, t, n) = h (62, t, n) := fun t n => eg 62 t n (by decide)
  have e63 : ∀ t n, h2 (63, t, n) = h (63, t, n) := fun t n => eg 63 t n (by decide)
  have e64 : ∀ t n, h2 (64, t, n) = h (64, t, n) := fun t n => eg 64 t n (by decide)
  have e15g := eg 15 0 0 (by decide)
  have e17g := eg 17 0 0 (by decide)
  have e18g := eg 18 0 0 (by decide)
  have e19g := eg 19 0 0 (by decide)
  have a10 := e1g 10 (by decide)
  have a11 := e1g 11 (by decide)
  have a13 := e1g 13 (by decide)
  have n18 := e40 18 (by decide)
  have n24 := e40 24 (by decide)
  have n25 := e40 25 (by decide)
  have n33 := e40 33 (by decide)
  have an : kk_any h2 = kk_any h := by funext b; simp only [kk_any, kk_bs, e41, e43]
  have bn : kk_bs h2 = kk_bs h := by funext s b; simp only [kk_bs, e41, e43]
  have ln : kk_lb h2 = kk_lb h := by funext s b; simp only [kk_lb, bn, e57]
  have no : kk_no h2 = kk_no h := by funext s; simp only [kk_no, e31, e33]
  obtain ⟨⟨⟨t1, t2, t3, t4, t5, t6, t7, t8, t9, t10, t11⟩, kb, ⟨d1, d2, d3, d4, d5, d6, d7, d8, d9, d10, d13, d14, d15, d17, d18, d19⟩, kg⟩, p1, p2, p3, p4, p5, p6, p7⟩ := hc
  refine ⟨⟨⟨?_, ?_, ?_, ?_, ?_, ?_, ?_, ?_, ?_, ?_, ?_⟩, ?_, ⟨d1, ?_, ?_, ?_, ?_, ?_, ?_, ?_, ?_, ?_, ?_, ?_, ?_, ?_, ?_, ?_⟩, ?_⟩, ?_, ?_, ?_, ?_, ?_, ?_, ?_⟩
  · simp only [kk_NR, e16, e22, e24, e25, e26, e27, e28, e29, e30, e31, e32, e33, e34, e35, e41, e42, e43, e44, e45, e46, e47, e48, e49, e50, e51, e52, e53, e54, e55, e57, e58, e59, e60, e61, e62, e63, e64]; exact t1
  · simp only [kk_NW, e16, e22, e24, e25, e26, e27, e28, e29, e30, e31, e32, e33, e34, e35, e41, e42, e43, e44, e45, e46, e47, e48, e49, e50, e51, e52, e53, e54, e55, e57, e58, e59, e60, e61, e62, e63, e64]; exact t2
  · simp only [kk_TW, kk_ec, kk_e1, e16, e22, e24, e25, e26, e27, e28, e29, e30, e31, e32, e33, e34, e35, e41, e42, e43, e44, e45, e46, e47, e48, e49, e50, e51, e52, e53, e54, e55, e57, e58, e59, e60, e61, e62, e63, e64]; exact t3
  · simp only [kk_SR, kk_ctn2, kk_ef, kk_ed, kk_NR, e16, e22, e24, e25, e26, e27, e28, e29, e30, e31, e32, e33, e34, e35, e41, e42, e43, e44, e45, e46, e47, e48, e49, e50, e51, e52, e53, e54, e55, e57, e58, e59, e60, e61, e62, e63, e64]; exact t4
  · simp only [kk_MW, kk_mw, e16, e22, e24, e25, e26, e27, e28, e29, e30, e31, e32, e33, e34, e35, e41, e42, e43, e44, e45, e46, e47, e48, e49, e50, e51, e52, e53, e54, e55, e57, e58, e59, e60, e61, e62, e63, e64]; exact t5
  · simp only [kk_PQ, e16, e22, e24, e25, e26, e27, e28, e29, e30, e31, e32, e33, e34, e35, e41, e42, e43, e44, e45, e46, e47, e48, e49, e50, e51, e52, e53, e54, e55, e57, e58, e59, e60, e61, e62, e63, e64]; exact t6
  · simp only [kk_DS, e16, e22, e24, e25, e26, e27, e28, e29, e30, e31, e32, e33, e34, e35, e41, e42, e43, e44, e45, e46, e47, e48, e49, e50, e51, e52, e53, e54, e55, e57, e58, e59, e60, e61, e62, e63, e64]; exact t7
  · exact kk_Rcong (fun t n p => by rw [e27]) (by rw [e15g]) (by rw [e15g]) (fun _ => by rw [e17g]) (fun _ => by rw [e18g]) (fun _ => by rw [e19g]) t8
  · simp only [e16, e22, e24, e25, e26, e27, e28, e29, e30, e31, e32, e33, e34, e35, e41, e42, e43, e44, e45, e46, e47, e48, e49, e50, e51, e52, e53, e54, e55, e57, e58, e59, e60, e61, e62, e63, e64]; exact t9
  · simp only [e16, e22, e24, e25, e26, e27, e28, e29, e30, e31, e32, e33, e34, e35, e41, e42, e43, e44, e45, e46, e47, e48, e49, e50, e51, e52, e53, e54, e55, e57, e58, e59, e60, e61, e62, e63, e64]; exact t10
  · simp only [e16, e22, e24, e25, e26, e27, e28, e29, e30, e31, e32, e33, e34, e35, e41, e42, e43, e44, e45, e46, e47, e48, e49, e50, e51, e52, e53, e54, e55, e57, e58, e59, e60, e61, e62, e63, e64]; exact t11
  · unfold kk_KB at kb ⊢; rw [an, bn, ln, no, n18, e55, e57, e59]; exact kb
  · rw [a10, n24]; exact d2
  · rw [a11, n25]; exact d3
  · unfold kk_N at d4 ⊢; rw [no, e57]; exact d4
  · rw [no, a10]; exact d5
  · rw [no, a11]; exact d6
  · rw [no]; simp only [e16, e22, e24, e25, e26, e27, e28, e29, e30, e31, e32, e33, e34, e35, e41, e42, e43, e44, e45, e46, e47, e48, e49, e50, e51, e52, e53, e54, e55, e57, e58, e59, e60, e61, e62, e63, e64]; exact d7
  · simp only [e16, e22, e24, e25, e26, e27, e28, e29, e30, e31, e32, e33, e34, e35, e41, e42, e43, e44, e45, e46, e47, e48, e49, e50, e51, e52, e53, e54, e55, e57, e58, e59, e60, e61, e62, e63, e64]; exact d8
  · rw [no]; simp only [e16, e22, e24, e25, e26, e27, e28, e29, e30, e31, e32, e33, e34, e35, e41, e42, e43, e44, e45, e46, e47, e48, e49, e50, e51, e52, e53, e54, e55, e57, e58, e59, e60, e61, e62, e63, e64]; exact d9
  · simp only [e16, e22, e24, e25, e26, e27, e28, e29, e30, e31, e32, e33, e34, e35, e41, e42, e43, e44, e45, e46, e47, e48, e49, e50, e51, e52, e53, e54, e55, e57, e58, e59, e60, e61, e62, e63, e64]; exact d10
  · rw [no]; simp only [e16, e22, e24, e25, e26, e27, e28, e29, e30, e31, e32, e33, e34, e35, e41, e42, e43, e44, e45, e46, e47, e48, e49, e50, e51, e52, e53, e54, e55, e57, e58, e59, e60, e61, e62, e63, e64]; exact d13
  · rw [no]; simp only [e16, e22, e24, e25, e26, e27, e28, e29, e30, e31, e32, e33, e34, e35, e41, e42, e43, e44, e45, e46, e47, e48, e49, e50, e51, e52, e53, e54, e55, e57, e58, e59, e60, e61, e62, e63, e64]; exact d14
  · simp only [kk_cpd, kk_sd, e16, e22, e24, e25, e26, e27, e28, e29, e30, e31, e32, e33, e34, e35, e41, e42, e43, e44, e45, e46, e47, e48, e49, e50, e51, e52, e53, e54, e55, e57, e58, e59, e60, e61, e62, e63, e64]; exact d15
  · rw [no]; simp only [e16, e22, e24, e25, e26, e27, e28, e29, e30, e31, e32, e33, e34, e35, e41, e42, e43, e44, e45, e46, e47, e48, e49, e50, e51, e52, e53, e54, e55, e57, e58, e59, e60, e61, e62, e63, e64]; exact d17
  · simp only [e16, e22, e24, e25, e26, e27, e28, e29, e30, e31, e32, e33, e34, e35, e41, e42, e43, e44, e45, e46, e47, e48, e49, e50, e51, e52, e53, e54, e55, e57, e58, e59, e60, e61, e62, e63, e64]; exact d18
  · simp only [e16, e22, e24, e25, e26, e27, e28, e29, e30, e31, e32, e33, e34, e35, e41, e42, e43, e44, e45, e46, e47, e48, e49, e50, e51, e52, e53, e54, e55, e57, e58, e59, e60, e61, e62, e63, e64]; exact d19
  · exact kg2
  · simp only [kk_NR, e16, e22, e24, e25, e26, e27, e28, e29, e30, e31, e32, e33, e34, e35, e41, e42, e43, e44, e45, e46, e47, e48, e49, e50, e51, e52, e53, e54, e55, e57, e58, e59, e60, e61, e62, e63, e64]; exact p1
  · rw [a13, n33]; exact p2
  · intro k f k1 k2 hf
    have hf2 := hf
    unfold kk_q4 at hf2
    rw [eg f 0 0 (by omega)]
    exact p3 k f k1 k2 hf
  · simp only [e16, e22, e24, e25, e26, e27, e28, e29, e30, e31, e32, e33, e34, e35, e41, e42, e43, e44, e45, e46, e47, e48, e49, e50, e51, e52, e53, e54, e55, e57, e58, e59, e60, e61, e62, e63, e64]; exact p4
  · rw [no]; simp only [e16, e22, e24, e25, e26, e27, e28, e29, e30, e31, e32, e33, e34, e35, e41, e42, e43, e44, e45, e46, e47, e48, e49, e50, e51, e52, e53, e54, e55, e57, e58, e59, e60, e61, e62, e63, e64]; exact p5
  · rw [no]; simp only [e16, e22, e24, e25, e26, e27, e28, e29, e30, e31, e32, e33, e34, e35, e41, e42, e43, e44, e45, e46, e47, e48, e49, e50, e51, e52, e53, e54, e55, e57, e58, e59, e60, e61, e62, e63, e64]; exact p6
  · exact fun j n j1 j2 n1 n2 => kk_msc (fun f f1 f2 => eg f 0 0 (by omega)) (p7 j n j1 j2 n1 n2)
theorem kk_walk {b : Int} {h : mm_Id → Int → Int} {dh : Int → Int} {nx ns : Int} (hy : 5306 ≤ nx) (hc : kk_core b h dh) {s : Int} (hs : 0 ≤ s ∧ s < 13) (v : Int) : ∀ (f : Nat) (u hp c : Int) (st : Int → Int), (1 ≤ u ∧ u < 37) → h (24, s, u) 0 ≠ 0 → (0 ≤ hp ∧ hp ≤ 8) → 0 ≤ c → c + 8 * (8 - hp) ≤ f → c + 8 * (8 - hp) ≤ 72 →
    ∃ r : Int, (-10 ≤ r ∧ r < 37) ∧ (∀ (hA g : mm_Id → Int → Int) (i : Int) (Q : mm_V → mm_H → Prop) (v2 v7 v8 v9 v10 : mm_V), (∀ x j, x ≠ (5, 0, 0) → hA x j = h x j) → i + f ≤ 100 → 0 ≤ i → kk_wa hA g → g (5, 0, 0) 3 = c → (∀ j, 0 ≤ j → j < c → g (7, 0, 0) j = st j) → (∀ g2, kk_wa hA g2 → Q (zI r) (mm_z g2 dh nx ns)) → mm_Wp 68 (mm_blk 68 1) [zR (1, 0, 0), zR (22, s, 0), v2, zI v, zI u, zI hp, zI i, v7, v8, v9, v10] [] (mm_z g dh nx ns) Q) ∧
    (∀ (hB g : mm_Id → Int → Int) (Q : mm_V → mm_H → Prop) (v1 v2 v9 v10 v11 v12 : mm_V), (∀ x j, 40 ≤ x.1 → x ≠ (66, 0, 0) → ¬ (x = (40, 0, 0) ∧ j = 0) → hB x j = h x j) → (∀ x j, x ≠ (66, 0, 0) → g x j = hB x j) → (∀ j, 0 ≤ j → j < c → g (66, 0, 0) j = st j) → (∀ g2, (∀ x j, x ≠ (66, 0, 0) → ¬ (x = (40, 0, 0) ∧ j = 30) → g2 x j = hB x j) → g2 (40, 0, 0) 30 = 0 → Q (zI r) (mm_z g2 dh nx ns)) → mm_Wp 216 (mm_blk 216 5) [zR (40, 0, 0), v1, v2, zI v, zI s, zI c, zI u, zI hp, zI 0, v9, v10, v11, v12] [] (mm_z g dh nx ns) Q) := by
  have hx : 5275 ≤ nx := by omega
  have hsT := mm_T13 hs
  have fin2 : ∀ {Q : mm_V → mm_H → Prop} {r : Int} {hB g : mm_Id → Int → Int}, (∀ g2, (∀ x j, x ≠ (66, 0, 0) → ¬ (x = (40, 0, 0) ∧ j = 30) → g2 x j = hB x j) → g2 (40, 0, 0) 30 = 0 → Q (zI r) (mm_z g2 dh nx ns)) → (∀ x j, x ≠ (66, 0, 0) → g x j = hB x j) → Q (zI r) (mm_z (mm_up g (40, 0, 0) 30 0) dh nx ns) := fun K hg =>
    K _ (fun x j a1 a2 => by rw [mm_upne' a2]; exact hg x j a1) mm_ups
  have E : ∀ (Q : mm_V → mm_H → Prop) (g : mm_Id → Int → Int) (e x3 x4 x5 x6 x7 : Int) (v1 v2 v9 v10 v11 v12 : mm_V), e ≠ 0 → Q (zI e) (mm_z (mm_up g (40, 0, 0) 30 0) dh nx ns) → mm_Wp 216 (mm_blk 216 5) [zR (40, 0, 0), v1, v2, zI x3, zI x4, zI x5, zI x6, zI x7, zI e, v9, v10, v11, v12] [] (mm_z g dh nx ns) Q := fun Q g e x3 x4 x5 x6 x7 v1 v2 v9 v10 v11 v12 he q => by
    rw [r_216_5 (hy := hy)]
    by_cases z : 0 < x5
    · rw [if_pos z, if_neg he, r_216_26 (hy := hy), if_neg he, r_216_28 (hy := hy)]; exact q
    · rw [if_neg z, r_216_26 (hy := hy), if_neg he, r_216_28 (hy := hy)]; exact q

  intro f
  induction f with
  | zero =>
    intro u hp c st hu ku hhp c0 cf c72
    have cz : c = 0 := by omega
    subst cz
    refine ⟨u, ⟨by omega, hu.2⟩, ?_, ?_⟩
    · intro hA g i Q v2 v7 v8 v9 v10 hA0 hi100 i0 ga0 e3 e7 K
      have ga : kk_wb h g := fun x j a1 a2 => (ga0 x j a1 (fun w => a2 w.1)).trans (hA0 x j a2)
      rw [r_68_1 (htx1 := hsT) (hx := hx), e3, if_neg (show ¬ (0 : Int) < 0 by omega)]
      by_cases z : i < 100
      · rw [if_pos z, r_68_15 (hx := hx)]; exact K g ga0
      · rw [if_neg z, r_68_15 (hx := hx)]; exact K g ga0
    · intro hB g Q v1 v2 v9 v10 v11 v12 hB0 hg hs6 K
      rw [r_216_5 (hy := hy), if_neg (by omega), r_216_26 (hy := hy), if_pos rfl, r_216_28 (hy := hy)]
      exact fin2 K hg
  | succ f ih =>
    intro u hp c st hu ku hhp c0 cf c72
    have huN : mm_isN u := ⟨by omega, hu.2⟩
    by_cases cz : c = 0
    · subst cz
      refine ⟨u, ⟨by omega, hu.2⟩, ?_, ?_⟩
      · intro hA g i Q v2 v7 v8 v9 v10 hA0 hi100 i0 ga0 e3 e7 K
        have ga : kk_wb h g := fun x j a1 a2 => (ga0 x j a1 (fun w => a2 w.1)).trans (hA0 x j a2)
        rw [r_68_1 (htx1 := hsT) (hx := hx), e3, if_neg (show ¬ (0 : Int) < 0 by omega)]
        by_cases z : i < 100
        · rw [if_pos z, r_68_15 (hx := hx)]; exact K g ga0
        · rw [if_neg z, r_68_15 (hx := hx)]; exact K g ga0
      · intro hB g Q v1 v2 v9 v10 v11 v12 hB0 hg hs6 K
        rw [r_216_5 (hy := hy), if_neg (by omega), r_216_26 (hy := hy), if_pos rfl, r_216_28 (hy := hy)]
        exact fin2 K hg
    have NWu := kk_NWC hc hsT hu
    by_cases k2 : ¬ h (24, s, u) 0 = 2
    · refine ⟨-3, by omega, ?_, ?_⟩
      · intro hA g i Q v2 v7 v8 v9 v10 hA0 hi100 i0 ga0 e3 e7 K
        have ga : kk_wb h g := fun x j a1 a2 => (ga0 x j a1 (fun w => a2 w.1)).trans (hA0 x j a2)
        have g24 : ∀ n j, g (24, s, n) j = h (24, s, n) j := fun n j => ga _ _ (by simp) (by simp)
        rw [r_68_1 (htx1 := hsT) (hx := hx), if_pos (by omega), if_pos (by omega)]
        refine s56 hsT hx (fun _ _ => ?_) (fun q => absurd ⟨hu, by rw [g24]; exact ku⟩ q)
        rw [mm_pR, r_68_1_11a (htx1 := hsT) (hty0 := hsT) (hny0 := huN) (hx := hx), g24]
        rw [if_neg k2, r_68_2 (hx := hx)]
        exact K g ga0
      · intro hB g Q v1 v2 v9 v10 v11 v12 hB0 hg hs6 K
        have m40 : ∀ x j, 40 ≤ x.1 → x ≠ (66, 0, 0) → ¬ (x = (40, 0, 0) ∧ j = 0) → g x j = h x j := fun x j a1 a2 a3 => (hg x j a2).trans (hB0 x j a1 a2 a3)
        rw [r_216_5 (hy := hy), if_pos (by omega), if_pos rfl, mm_wi (z := c + -1) (by omega) (by omega), show c + -1 = c - 1 from rfl, hs6 (c - 1) (by omega) (by omega)]
        refine ⟨by omega, ?_⟩
        have f41 := fun n (hn : 1 ≤ n ∧ n < 37) => (m40 (41, 0, 0) (36 * s + n - 1) (by simp) (by simp) (by simp)).trans (kk_nf hc (by omega) hn).1
        refine m211n hy (by omega) hu (f41 u hu) k2 ?_
        rw [mm_pI, r_216_5_16 (hy := hy), if_pos rfl, r_216_15 (hy := hy), if_neg (by decide)]
        exact E _ _ _ _ _ _ _ _ _ _ _ _ _ _ (by decide) (fin2 K hg)
    have k2 : h (24, s, u) 0 = 2 := Decidable.byContradiction k2
    by_cases km : ¬ kk_may (h (1, 0, 0) 12) (h (24, s, u) 2) (h (24, s, u) 3) 1
    · refine ⟨-5, by omega, ?_, ?_⟩
      · intro hA g i Q v2 v7 v8 v9 v10 hA0 hi100 i0 ga0 e3 e7 K
        have ga : kk_wb h g := fun x j a1 a2 => (ga0 x j a1 (fun w => a2 w.1)).trans (hA0 x j a2)
        have g24 : ∀ n j, g (24, s, n) j = h (24, s, n) j := fun n j => ga _ _ (by simp) (by simp)
        rw [r_68_1 (htx1 := hsT) (hx := hx), if_pos (by omega), if_pos (by omega)]
        refine s56 hsT hx (fun _ _ => ?_) (fun q => absurd ⟨hu, by rw [g24]; exact ku⟩ q)
        rw [mm_pR, r_68_1_11a (htx1 := hsT) (hty0 := hsT) (hny0 := huN) (hx := hx), g24]
        rw [if_pos k2]
        refine s60 hsT huN hx (fun w => absurd (by rw [ga (1, 0, 0) _ (by simp) (by simp), g24, g24] at w; exact w) km) (fun _ => ?_)
        rw [mm_pI, r_68_3_4 (htx1 := hsT) (htx7 := hsT) (hnx7 := huN) (hx := hx), if_pos rfl]
        exact K g ga0
      · intro hB g Q v1 v2 v9 v10 v11 v12 hB0 hg hs6 K
        have m40 : ∀ x j, 40 ≤ x.1 → x ≠ (66, 0, 0) → ¬ (x = (40, 0, 0) ∧ j = 0) → g x j = h x j := fun x j a1 a2 a3 => (hg x j a2).trans (hB0 x j a1 a2 a3)
        rw [r_216_5 (hy := hy), if_pos (by omega), if_pos rfl, mm_wi (z := c + -1) (by omega) (by omega), show c + -1 = c - 1 from rfl, hs6 (c - 1) (by omega) (by omega)]
        refine ⟨by omega, ?_⟩
        have f41 := fun n (hn : 1 ≤ n ∧ n < 37) => (m40 (41, 0, 0) (36 * s + n - 1) (by simp) (by simp) (by simp)).trans (kk_nf hc (by omega) hn).1
        refine m211y hy (by omega) hu (f41 u hu) k2 ?_
        rw [mm_pI, r_216_5_16 (hy := hy), if_neg (by decide)]
        have kf := (kk_nf hc (by omega) hu).2.2.2 ku
        refine m203n hy (by omega) hu (m40 (40, 0, 0) 29 (by simp) (by simp) (by simp)) ((m40 (47, 0, 0) _ (by simp) (by simp) (by simp)).trans kf.2.1) ((m40 (48, 0, 0) _ (by simp) (by simp) (by simp)).trans kf.2.2) (fun w => km (by rw [← (kk_cal hc).1] at w; exact w)) ?_
        rw [mm_pI, r_216_6_5 (hy := hy), if_pos rfl, r_216_15 (hy := hy), if_neg (by decide)]
        exact E _ _ _ _ _ _ _ _ _ _ _ _ _ _ (by decide) (fin2 K hg)
    have km : kk_may (h (1, 0, 0) 12) (h (24, s, u) 2) (h (24, s, u) 3) 1 := Classical.byContradiction km

    obtain ⟨x, hxx⟩ : ∃ x, x = st (c - 1) := ⟨_, rfl⟩
    by_cases ab : x ≠ 0 ∧ ∀ p, 0 ≤ p → p < h (24, s, u) 6 → ¬ h (25, s, u) p = x
    · refine ⟨-1, by omega, ?_, ?_⟩
      · intro hA g i Q v2 v7 v8 v9 v10 hA0 hi100 i0 ga0 e3 e7 K
        have ga : kk_wb h g := fun x j a1 a2 => (ga0 x j a1 (fun w => a2 w.1)).trans (hA0 x j a2)
        have g24 : ∀ n j, g (24, s, n) j = h (24, s, n) j := fun n j => ga _ _ (by simp) (by simp)
        rw [r_68_1 (htx1 := hsT) (hx := hx), if_pos (by omega), if_pos (by omega)]
        refine s56 hsT hx (fun _ _ => ?_) (fun q => absurd ⟨hu, by rw [g24]; exact ku⟩ q)
        rw [mm_pR, r_68_1_11a (htx1 := hsT) (hty0 := hsT) (hny0 := huN) (hx := hx), g24]
        rw [if_pos k2]
        refine s60 hsT huN hx (fun _ => ?_) (fun w => absurd (by rw [ga (1, 0, 0) _ (by simp) (by simp), g24, g24]; exact km) w)
        rw [mm_pI, r_68_3_4 (htx1 := hsT) (htx7 := hsT) (hnx7 := huN) (hx := hx), if_neg (by decide), r_123_e (hx := hx), if_neg (by omega), mm_ups, mm_upf (by decide), e3, mm_wi (z := c - 1) (by omega) (by omega)]
        refine ⟨by omega, ?_⟩
        rw [mm_pI, e7 (c - 1) (by omega) (by omega)]
        obtain ⟨gp, hgp⟩ : ∃ gp, gp = mm_up g (5, 0, 0) 3 (c - 1) := ⟨_, rfl⟩
        rw [← hgp]
        have ga20 : kk_wa hA gp := fun x j a1 a2 => by rw [hgp, mm_upne' a2]; exact ga0 x j a1 a2
        have ga2 : kk_wb h gp := fun x j a1 a2 => (ga20 x j a1 (fun w => a2 w.1)).trans (hA0 x j a2)
        have ep3 : gp (5, 0, 0) 3 = c - 1 := by rw [hgp, mm_ups]
        have ep7 : ∀ j, 0 ≤ j → j < c - 1 → gp (7, 0, 0) j = st j := fun j j0 j1 => by rw [hgp, mm_upf (by decide)]; exact e7 j j0 (by omega)
        have gp24 : ∀ n j, gp (24, s, n) j = h (24, s, n) j := fun n j => ga2 _ _ (by simp) (by simp)
        rw [← hxx, r_68_4_3 (htx1 := hsT) (htx7 := hsT) (hnx7 := huN) (hx := hx), if_neg ab.1]
        refine s99 hsT huN hx (by rw [gp24]; exact NWu.2.1) (by rw [gp24]; exact fun i j i0 i1 i2 => by rw [ga2 (25, s, u) i (by simp) (by simp), ga2 (25, s, u) j (by simp) (by simp)]; exact NWu.2.2.2.2.2.2.2.2.2.2.2.1 i j i0 i1 i2) (fun p p0 p1 p2 => absurd (by rw [ga2 _ _ (by simp) (by simp)] at p2; exact p2) (ab.2 p p0 (by rw [gp24] at p1; exact p1))) (fun _ => ?_)
        rw [mm_pI, r_68_6_3 (htx1 := hsT) (hx := hx), r_68_7 (htx1 := hsT) (hvx8 := rfl) (hx := hx)]
        refine s56 hsT hx (fun q _ => by omega) (fun _ => ?_)
        rw [mm_pR, r_68_7_5 (htx1 := hsT) (hx := hx)]
        exact K gp ga20
      · intro hB g Q v1 v2 v9 v10 v11 v12 hB0 hg hs6 K
        have m40 : ∀ x j, 40 ≤ x.1 → x ≠ (66, 0, 0) → ¬ (x = (40, 0, 0) ∧ j = 0) → g x j = h x j := fun x j a1 a2 a3 => (hg x j a2).trans (hB0 x j a1 a2 a3)
        rw [r_216_5 (hy := hy), if_pos (by omega), if_pos rfl, mm_wi (z := c + -1) (by omega) (by omega), show c + -1 = c - 1 from rfl, hs6 (c - 1) (by omega) (by omega)]
        refine ⟨by omega, ?_⟩
        have f41 := fun n (hn : 1 ≤ n ∧ n < 37) => (m40 (41, 0, 0) (36 * s + n - 1) (by simp) (by simp) (by simp)).trans (kk_nf hc (by omega) hn).1
        refine m211y hy (by omega) hu (f41 u hu) k2 ?_
        rw [mm_pI, r_216_5_16 (hy := hy), if_neg (by decide)]
        have kf := (kk_nf hc (by omega) hu).2.2.2 ku
        refine m203y hy (by omega) hu (m40 (40, 0, 0) 29 (by simp) (by simp) (by simp)) ((m40 (47, 0, 0) _ (by simp) (by simp) (by simp)).trans kf.2.1) ((m40 (48, 0, 0) _ (by simp) (by simp) (by simp)).trans kf.2.2) (by rw [← (kk_cal hc).1]; exact km) ?_
        rw [mm_pI]
        rw [← hxx, r_216_6_5 (hy := hy), if_neg (by decide), if_neg ab.1]
        have NRu := kk_NRC hc (t := s) (n := u) (by omega) hu
        refine m184n hy (by omega) hu ((m40 (44, 0, 0) _ (by simp) (by simp) (by simp)).trans (kk_nf hc (by omega) hu).2.1) NWu.2.1 (fun e e0 e1 => by rw [m40 (45, 0, 0) _ (by simp) (by simp) (by simp), ← (NRu.2.2.2.2.1 e e0 e1).1]; exact ab.2 e e0 e1) ?_
        rw [mm_pI, r_216_10_5 (hvx10 := rfl) (hy := hy), if_pos (by decide), r_216_12 (hy := hy), if_pos (by decide), r_216_14 (hvx9 := rfl) (hy := hy), r_216_15 (hy := hy), if_neg (by decide)]
        exact E _ _ _ _ _ _ _ _ _ _ _ _ _ _ (by decide) (fin2 K hg)

    have T := kk_TWC hc hsT
    obtain ⟨m, hm, kmm, hC, hM⟩ : ∃ m, (1 ≤ m ∧ m < 37) ∧ h (24, s, m) 0 ≠ 0 ∧ (∀ (gp : mm_Id → Int → Int) (Q : mm_V → mm_H → Prop) (i : Int) (v2 v8 v9 v10 : mm_V), kk_wb h gp → mm_Wp 68 (mm_blk 68 7) [zR (1, 0, 0), zR (22, s, 0), v2, zI v, zI u, zI hp, zI i, zR (24, s, u), zI x, v9, v10] [zI m] (mm_z gp dh nx ns) Q → mm_Wp 68 (bk_68_4.drop 3) [zR (1, 0, 0), zR (22, s, 0), v2, zI v, zI u, zI hp, zI i, zR (24, s, u), v8, v9, v10] [zI x] (mm_z gp dh nx ns) Q) ∧ (∀ (g : mm_Id → Int → Int) (Q : mm_V → mm_H → Prop) (v1 v2 v11 v12 : mm_V), (∀ (x : mm_Id) j, 40 ≤ x.1 → x ≠ (66, 0, 0) → ¬ (x = (40, 0, 0) ∧ j = 0) → g x j = h x j) → (∀ v11, mm_Wp 216 (mm_blk 216 15) [zR (40, 0, 0), v1, v2, zI v, zI s, zI (c - 1), zI u, zI hp, zI 0, zI x, zI m, v11, v12] [] (mm_z g dh nx ns) Q) → mm_Wp 216 (bk_216_6.drop 5) [zR (40, 0, 0), v1, v2, zI v, zI s, zI (c - 1), zI u, zI hp, zI 0, zI x, zI 0, v11, v12] [zI 1] (mm_z g dh nx ns) Q) := by
      by_cases xz : x = 0
      · by_cases u1 : u = 1
        · refine ⟨1, by omega, by rw [← u1]; exact ku, fun gp Q i v2 v8 v9 v10 ga2 q => ?_, fun g Q v1 v2 v11 v12 m40 q => ?_⟩
          · rw [r_68_4_3 (htx1 := hsT) (htx7 := hsT) (hnx7 := huN) (hx := hx), if_pos xz, if_pos u1]
            exact q
          · rw [r_216_6_5 (hy := hy), if_neg (by decide), if_pos xz, if_pos u1, r_216_9 (hvx9 := rfl) (hy := hy)]
            exact q _
        · have ec := T.2.1 u (by omega) hu.2 (Or.inl k2)
          obtain ⟨d, e, hd, he, q2⟩ := kk_ecx (show 0 < kk_ec h s u by omega)
          have e4 := T.2.2.2.2.2.1 u d e (by omega) hu.2 (Or.inl k2) hd.1 hd.2 he.1 he.2 q2
          have kd : h (24, s, d) 0 ≠ 0 := fun z => by
            have := (kk_NWC hc hsT hd).2.2.1 (by omega)
            omega
          refine ⟨d, hd, kd, fun gp Q i v2 v8 v9 v10 ga2 q => ?_, fun g Q v1 v2 v11 v12 m40 q => ?_⟩
          · rw [r_68_4_3 (htx1 := hsT) (htx7 := hsT) (hnx7 := huN) (hx := hx), if_pos xz, if_neg u1, ga2 (24, s, u) 4 (by simp) (by simp), e4]
            exact q
          · rw [r_216_6_5 (hy := hy), if_neg (by decide), if_pos xz, if_neg u1]
            have c44 := fun d (hd : 1 ≤ d ∧ d < 37) => (m40 (44, 0, 0) (36 * s + d - 1) (by simp) (by simp) (by simp)).trans (kk_nf hc (by omega) hd).2.1
            have c46 := fun d (hd : 1 ≤ d ∧ d < 37) e (e0 : 0 ≤ e) (e1 : e < h (24, s, d) 6) => (m40 (46, 0, 0) (24 * (36 * s + d - 1) + e) (by simp) (by simp) (by simp)).trans ((kk_NRC hc (t := s) (n := d) (by omega) hd).2.2.2.2.1 e e0 e1).2.symm
            refine m189 hy (by omega) (fun d d0 d1 => by rw [c44 d ⟨d0, d1⟩]; exact (kk_NWC hc hsT (n := d) ⟨d0, d1⟩).2.1) (fun d2 e2 d0 d1 e0 e1 q5 => ?_) (fun q5 => ?_)
            · rw [c44 d2 ⟨d0, d1⟩] at e1
              rw [c46 d2 ⟨d0, d1⟩ e2 e0 e1] at q5
              have := T.2.2.2.2.2.1 u d2 e2 (by omega) hu.2 (Or.inl k2) d0 d1 e0 e1 q5
              rw [show d2 = d by omega, mm_pI, r_216_8_4 (hy := hy), r_216_9 (hvx9 := rfl) (hy := hy)]
              exact q _
            · exact absurd ((c46 d hd e he.1 he.2).trans q2) (q5 d e hd.1 hd.2 he.1 (by rw [c44 d hd]; exact he.2))
      · have ex : ∃ p, (0 ≤ p ∧ p < h (24, s, u) 6) ∧ h (25, s, u) p = x := Classical.byContradiction (fun w => ab ⟨xz, fun p p0 p1 p2 => w ⟨p, ⟨p0, p1⟩, p2⟩⟩)
        obtain ⟨p, hp2, ex⟩ := ex
        have srt := NWu.2.2.2.2.2.2.2.2.2.2.2.1
        have mr := (NWu.2.2.2.2.2.2.2.2.2.2.2.2.2.1 p hp2.1 hp2.2).2
        refine ⟨h (26, s, u) p, mr.1, mr.2, fun gp Q i v2 v8 v9 v10 ga2 q => ?_, fun g Q v1 v2 v11 v12 m40 q => ?_⟩
        · have gp24 : ∀ n j, gp (24, s, n) j = h (24, s, n) j := fun n j => ga2 _ _ (by simp) (by simp)
          rw [r_68_4_3 (htx1 := hsT) (htx7 := hsT) (hnx7 := huN) (hx := hx), if_neg xz]
          refine s99 hsT huN hx (by rw [gp24]; exact NWu.2.1) (by rw [gp24]; exact fun i j i0 i1 i2 => by rw [ga2 (25, s, u) i (by simp) (by simp), ga2 (25, s, u) j (by simp) (by simp)]; exact srt i j i0 i1 i2) (fun p3 p0 p1 p2 => ?_) (fun w => absurd ((ga2 _ _ (by simp) (by simp)).trans ex) (w p hp2.1 (by rw [gp24]; exact hp2.2)))
          rw [ga2 _ _ (by simp) (by simp)] at p2
          rw [gp24] at p1
          rw [kk_inj srt p0 p1 hp2.1 hp2.2 (by rw [p2, ex]), ga2 (26, s, u) p (by simp) (by simp), mm_pI, r_68_6_3 (htx1 := hsT) (hx := hx)]
          exact q
        · have NRu := kk_NRC hc (t := s) (n := u) (by omega) hu
          have nm : ∀ e, 0 ≤ e → e < h (24, s, u) 6 → g (45, 0, 0) (24 * (36 * s + u - 1) + e) = h (25, s, u) e := fun e e0 e1 => (m40 (45, 0, 0) _ (by simp) (by simp) (by simp)).trans (NRu.2.2.2.2.1 e e0 e1).1.symm
          rw [r_216_6_5 (hy := hy), if_neg (by decide), if_neg xz]
          refine m184y hy (by omega) hu ((m40 (44, 0, 0) _ (by simp) (by simp) (by simp)).trans (kk_nf hc (by omega) hu).2.1) NWu.2.1 ⟨p, hp2, by rw [nm p hp2.1 hp2.2]; exact ex⟩ (fun e e0 e1 e2 => ?_) (p := p)
          have ep : e = p := kk_inj srt e0 e1 hp2.1 hp2.2 (by rw [← nm e e0 e1, e2, ex])
          rw [ep, mm_pI, r_216_10_5 (hvx10 := rfl) (hy := hy), if_neg (by omega), r_216_12 (hy := hy), if_neg (by omega)]
          refine m185 hy (by omega) hu (by have := NWu.2.1; omega) ?_
          rw [m40 (46, 0, 0) _ (by simp) (by simp) (by simp), ← (NRu.2.2.2.2.1 p hp2.1 hp2.2).2, mm_pI, r_216_13_5 (hy := hy), r_216_14 (hvx9 := rfl) (hy := hy)]
          exact q _

    by_cases F : ¬ (h (24, s, m) 0 = 3 ∧ (¬ c - 1 = 0 ∨ ¬ v = 0))
    · obtain ⟨r, hr, iC, iM⟩ := ih m hp (c - 1) st hm kmm hhp (by omega) (by omega) (by omega)
      refine ⟨r, hr, ?_, ?_⟩
      · intro hA g i Q v2 v7 v8 v9 v10 hA0 hi100 i0 ga0 e3 e7 K
        have ga : kk_wb h g := fun x j a1 a2 => (ga0 x j a1 (fun w => a2 w.1)).trans (hA0 x j a2)
        have g24 : ∀ n j, g (24, s, n) j = h (24, s, n) j := fun n j => ga _ _ (by simp) (by simp)
        rw [r_68_1 (htx1 := hsT) (hx := hx), if_pos (by omega), if_pos (by omega)]
        refine s56 hsT hx (fun _ _ => ?_) (fun q => absurd ⟨hu, by rw [g24]; exact ku⟩ q)
        rw [mm_pR, r_68_1_11a (htx1 := hsT) (hty0 := hsT) (hny0 := huN) (hx := hx), g24]
        rw [if_pos k2]
        refine s60 hsT huN hx (fun _ => ?_) (fun w => absurd (by rw [ga (1, 0, 0) _ (by simp) (by simp), g24, g24]; exact km) w)
        rw [mm_pI, r_68_3_4 (htx1 := hsT) (htx7 := hsT) (hnx7 := huN) (hx := hx), if_neg (by decide), r_123_e (hx := hx), if_neg (by omega), mm_ups, mm_upf (by decide), e3, mm_wi (z := c - 1) (by omega) (by omega)]
        refine ⟨by omega, ?_⟩
        rw [mm_pI, e7 (c - 1) (by omega) (by omega)]
        obtain ⟨gp, hgp⟩ : ∃ gp, gp = mm_up g (5, 0, 0) 3 (c - 1) := ⟨_, rfl⟩
        rw [← hgp]
        have ga20 : kk_wa hA gp := fun x j a1 a2 => by rw [hgp, mm_upne' a2]; exact ga0 x j a1 a2
        have ga2 : kk_wb h gp := fun x j a1 a2 => (ga20 x j a1 (fun w => a2 w.1)).trans (hA0 x j a2)
        have ep3 : gp (5, 0, 0) 3 = c - 1 := by rw [hgp, mm_ups]
        have ep7 : ∀ j, 0 ≤ j → j < c - 1 → gp (7, 0, 0) j = st j := fun j j0 j1 => by rw [hgp, mm_upf (by decide)]; exact e7 j j0 (by omega)
        have gp24 : ∀ n j, gp (24, s, n) j = h (24, s, n) j := fun n j => ga2 _ _ (by simp) (by simp)
        rw [← hxx]
        refine hC gp _ i _ _ _ _ ga2 ?_
        have hmN : mm_isN m := ⟨by omega, hm.2⟩
        rw [r_68_7 (htx1 := hsT) (hvx8 := rfl) (hx := hx)]
        refine s56 hsT hx (fun _ _ => ?_) (fun q => absurd ⟨hm, by rw [gp24]; exact kmm⟩ q)
        rw [mm_pR, r_68_7_5a (htx1 := hsT) (hty0 := hsT) (hny0 := hmN) (hx := hx), gp24, ep3]
        rw [kk_i3n F, r_68_9 (htx1 := hsT) (hx := hx), r_68_14 (htx1 := hsT) (hx := hx), mm_wi (z := i + 1) (by omega) (by omega)]
        exact iC hA gp (i + 1) Q _ _ _ _ _ hA0 (by omega) (by omega) ga20 ep3 ep7 K
      · intro hB g Q v1 v2 v9 v10 v11 v12 hB0 hg hs6 K
        have m40 : ∀ x j, 40 ≤ x.1 → x ≠ (66, 0, 0) → ¬ (x = (40, 0, 0) ∧ j = 0) → g x j = h x j := fun x j a1 a2 a3 => (hg x j a2).trans (hB0 x j a1 a2 a3)
        rw [r_216_5 (hy := hy), if_pos (by omega), if_pos rfl, mm_wi (z := c + -1) (by omega) (by omega), show c + -1 = c - 1 from rfl, hs6 (c - 1) (by omega) (by omega)]
        refine ⟨by omega, ?_⟩
        have f41 := fun n (hn : 1 ≤ n ∧ n < 37) => (m40 (41, 0, 0) (36 * s + n - 1) (by simp) (by simp) (by simp)).trans (kk_nf hc (by omega) hn).1
        refine m211y hy (by omega) hu (f41 u hu) k2 ?_
        rw [mm_pI, r_216_5_16 (hy := hy), if_neg (by decide)]
        have kf := (kk_nf hc (by omega) hu).2.2.2 ku
        refine m203y hy (by omega) hu (m40 (40, 0, 0) 29 (by simp) (by simp) (by simp)) ((m40 (47, 0, 0) _ (by simp) (by simp) (by simp)).trans kf.2.1) ((m40 (48, 0, 0) _ (by simp) (by simp) (by simp)).trans kf.2.2) (by rw [← (kk_cal hc).1]; exact km) ?_
        rw [mm_pI]
        rw [← hxx]
        refine hM g _ _ _ _ _ m40 (fun v11 => ?_)
        rw [r_216_15 (hy := hy), if_pos rfl]
        refine m175 hy (by omega) hm ?_
        rw [mm_pI, r_216_16_3 (hy := hy), f41 m hm]
        refine ⟨by omega, ?_⟩
        rw [kk_i3n F, r_216_17 (hy := hy)]
        exact iM hB g Q _ _ _ _ _ _ hB0 hg (fun j j0 j1 => hs6 j j0 (by omega)) K
    have F : h (24, s, m) 0 = 3 ∧ (¬ c - 1 = 0 ∨ ¬ v = 0) := Classical.byContradiction F
    by_cases h8 : hp = 8
    · refine ⟨-6, by omega, ?_, ?_⟩
      · intro hA g i Q v2 v7 v8 v9 v10 hA0 hi100 i0 ga0 e3 e7 K
        have ga : kk_wb h g := fun x j a1 a2 => (ga0 x j a1 (fun w => a2 w.1)).trans (hA0 x j a2)
        have g24 : ∀ n j, g (24, s, n) j = h (24, s, n) j := fun n j => ga _ _ (by simp) (by simp)
        rw [r_68_1 (htx1 := hsT) (hx := hx), if_pos (by omega), if_pos (by omega)]
        refine s56 hsT hx (fun _ _ => ?_) (fun q => absurd ⟨hu, by rw [g24]; exact ku⟩ q)
        rw [mm_pR, r_68_1_11a (htx1 := hsT) (hty0 := hsT) (hny0 := huN) (hx := hx), g24]
        rw [if_pos k2]
        refine s60 hsT huN hx (fun _ => ?_) (fun w => absurd (by rw [ga (1, 0, 0) _ (by simp) (by simp), g24, g24]; exact km) w)
        rw [mm_pI, r_68_3_4 (htx1 := hsT) (htx7 := hsT) (hnx7 := huN) (hx := hx), if_neg (by decide), r_123_e (hx := hx), if_neg (by omega), mm_ups, mm_upf (by decide), e3, mm_wi (z := c - 1) (by omega) (by omega)]
        refine ⟨by omega, ?_⟩
        rw [mm_pI, e7 (c - 1) (by omega) (by omega)]
        obtain ⟨gp, hgp⟩ : ∃ gp, gp = mm_up g (5, 0, 0) 3 (c - 1) := ⟨_, rfl⟩
        rw [← hgp]
        have ga20 : kk_wa hA gp := fun x j a1 a2 => by rw [hgp, mm_upne' a2]; exact ga0 x j a1 a2
        have ga2 : kk_wb h gp := fun x j a1 a2 => (ga20 x j a1 (fun w => a2 w.1)).trans (hA0 x j a2)
        have ep3 : gp (5, 0, 0) 3 = c - 1 := by rw [hgp, mm_ups]
        have ep7 : ∀ j, 0 ≤ j → j < c - 1 → gp (7, 0, 0) j = st j := fun j j0 j1 => by rw [hgp, mm_upf (by decide)]; exact e7 j j0 (by omega)
        have gp24 : ∀ n j, gp (24, s, n) j = h (24, s, n) j := fun n j => ga2 _ _ (by simp) (by simp)
        rw [← hxx]
        refine hC gp _ i _ _ _ _ ga2 ?_
        have hmN : mm_isN m := ⟨by omega, hm.2⟩
        rw [r_68_7 (htx1 := hsT) (hvx8 := rfl) (hx := hx)]
        refine s56 hsT hx (fun _ _ => ?_) (fun q => absurd ⟨hm, by rw [gp24]; exact kmm⟩ q)
        rw [mm_pR, r_68_7_5a (htx1 := hsT) (hty0 := hsT) (hny0 := hmN) (hx := hx), gp24, ep3]
        rw [kk_i3 F, r_68_10 (htx1 := hsT) (htx10 := hsT) (hnx10 := hmN) (hx := hx), if_pos h8]
        exact K gp ga20
      · intro hB g Q v1 v2 v9 v10 v11 v12 hB0 hg hs6 K
        have m40 : ∀ x j, 40 ≤ x.1 → x ≠ (66, 0, 0) → ¬ (x = (40, 0, 0) ∧ j = 0) → g x j = h x j := fun x j a1 a2 a3 => (hg x j a2).trans (hB0 x j a1 a2 a3)
        rw [r_216_5 (hy := hy), if_pos (by omega), if_pos rfl, mm_wi (z := c + -1) (by omega) (by omega), show c + -1 = c - 1 from rfl, hs6 (c - 1) (by omega) (by omega)]
        refine ⟨by omega, ?_⟩
        have f41 := fun n (hn : 1 ≤ n ∧ n < 37) => (m40 (41, 0, 0) (36 * s + n - 1) (by simp) (by simp) (by simp)).trans (kk_nf hc (by omega) hn).1
        refine m211y hy (by omega) hu (f41 u hu) k2 ?_
        rw [mm_pI, r_216_5_16 (hy := hy), if_neg (by decide)]
        have kf := (kk_nf hc (by omega) hu).2.2.2 ku
        refine m203y hy (by omega) hu (m40 (40, 0, 0) 29 (by simp) (by simp) (by simp)) ((m40 (47, 0, 0) _ (by simp) (by simp) (by simp)).trans kf.2.1) ((m40 (48, 0, 0) _ (by simp) (by simp) (by simp)).trans kf.2.2) (by rw [← (kk_cal hc).1]; exact km) ?_
        rw [mm_pI]
        rw [← hxx]
        refine hM g _ _ _ _ _ m40 (fun v11 => ?_)
        rw [r_216_15 (hy := hy), if_pos rfl]
        refine m175 hy (by omega) hm ?_
        rw [mm_pI, r_216_16_3 (hy := hy), f41 m hm]
        refine ⟨by omega, ?_⟩
        rw [kk_i3 F, r_216_18 (hy := hy), mm_wi (z := hp + 1) (by omega) (by omega), if_pos (by omega), r_216_20 (hy := hy), if_neg (by decide)]
        exact E _ _ _ _ _ _ _ _ _ _ _ _ _ _ (by decide) (fin2 K hg)
    have NWm := kk_NWC hc hsT hm
    have NRm := kk_NRC hc (t := s) (n := m) (by omega) hm
    have k3 := F.1
    have ln := NWm.2.2.2.2.2.2.2.2.2.2.1.2.2 k3
    have f := (kk_nf hc (by omega) hm).2.2.2 kmm
    obtain ⟨len, hl⟩ : ∃ len, len = h (24, s, m) 1 := ⟨_, rfl⟩
    rw [← hl] at ln
    obtain ⟨u2, hu2⟩ : ∃ u2 : Int, u2 = (if h (24, s, m) 14 = 0 then u else 1) := ⟨_, rfl⟩
    have hu2r : (1 ≤ u2 ∧ u2 < 37) ∧ h (24, s, u2) 0 ≠ 0 := by
      rw [hu2]
      by_cases z : h (24, s, m) 14 = 0
      · rw [if_pos z]; exact ⟨hu, ku⟩
      · rw [if_neg z]
        have := T.2.2.2.2.2.2.1 m hm.1 hm.2 kmm
        exact ⟨by omega, by omega⟩
    obtain ⟨r, hr, iC, iM⟩ := ih u2 (hp + 1) (c - 1 + len) (fun j => if j < c - 1 then st j else h (30, s, m) (len - 1 - (j - (c - 1)))) hu2r.1 hu2r.2 (by omega) (by omega) (by omega) (by omega)
    refine ⟨r, hr, ?_, ?_⟩
    · intro hA g i Q v2 v7 v8 v9 v10 hA0 hi100 i0 ga0 e3 e7 K
      have ga : kk_wb h g := fun x j a1 a2 => (ga0 x j a1 (fun w => a2 w.1)).trans (hA0 x j a2)
      have g24 : ∀ n j, g (24, s, n) j = h (24, s, n) j := fun n j => ga _ _ (by simp) (by simp)
      rw [r_68_1 (htx1 := hsT) (hx := hx), if_pos (by omega), if_pos (by omega)]
      refine s56 hsT hx (fun _ _ => ?_) (fun q => absurd ⟨hu, by rw [g24]; exact ku⟩ q)
      rw [mm_pR, r_68_1_11a (htx1 := hsT) (hty0 := hsT) (hny0 := huN) (hx := hx), g24]
      rw [if_pos k2]
      refine s60 hsT huN hx (fun _ => ?_) (fun w => absurd (by rw [ga (1, 0, 0) _ (by simp) (by simp), g24, g24]; exact km) w)
      rw [mm_pI, r_68_3_4 (htx1 := hsT) (htx7 := hsT) (hnx7 := huN) (hx := hx), if_neg (by decide), r_123_e (hx := hx), if_neg (by omega), mm_ups, mm_upf (by decide), e3, mm_wi (z := c - 1) (by omega) (by omega)]
      refine ⟨by omega, ?_⟩
      rw [mm_pI, e7 (c - 1) (by omega) (by omega)]
      obtain ⟨gp, hgp⟩ : ∃ gp, gp = mm_up g (5, 0, 0) 3 (c - 1) := ⟨_, rfl⟩
      rw [← hgp]
      have ga20 : kk_wa hA gp := fun x j a1 a2 => by rw [hgp, mm_upne' a2]; exact ga0 x j a1 a2
      have ga2 : kk_wb h gp := fun x j a1 a2 => (ga20 x j a1 (fun w => a2 w.1)).trans (hA0 x j a2)
      have ep3 : gp (5, 0, 0) 3 = c - 1 := by rw [hgp, mm_ups]
      have ep7 : ∀ j, 0 ≤ j → j < c - 1 → gp (7, 0, 0) j = st j := fun j j0 j1 => by rw [hgp, mm_upf (by decide)]; exact e7 j j0 (by omega)
      have gp24 : ∀ n j, gp (24, s, n) j = h (24, s, n) j := fun n j => ga2 _ _ (by simp) (by simp)
      rw [← hxx]
      refine hC gp _ i _ _ _ _ ga2 ?_
      have hmN : mm_isN m := ⟨by omega, hm.2⟩
      rw [r_68_7 (htx1 := hsT) (hvx8 := rfl) (hx := hx)]
      refine s56 hsT hx (fun _ _ => ?_) (fun q => absurd ⟨hm, by rw [gp24]; exact kmm⟩ q)
      rw [mm_pR, r_68_7_5a (htx1 := hsT) (hty0 := hsT) (hny0 := hmN) (hx := hx), gp24, ep3]
      rw [kk_i3 F, r_68_10 (htx1 := hsT) (htx10 := hsT) (hnx10 := hmN) (hx := hx), if_neg h8, r_122_e (htx1 := hsT) (hnx1 := hmN) (hx := hx), gp24, ← hl, mm_wi (z := hp + 1) (by omega) (by omega)]
      refine s124n hx hsT hmN ep3 (by omega) (by omega) (by omega) (fun h2 a1 a2 a3 a4 => ?_)
      have ga30 : kk_wa hA h2 := fun x j q1 q2 => (a4 x j q1 q2).trans (ga20 x j q1 q2)
      have ga3 : kk_wb h h2 := fun x j a1 a2 => (ga30 x j a1 (fun w => a2 w.1)).trans (hA0 x j a2)
      rw [mm_pU, r_122_0_6 (hx := hx), mm_pU, r_68_11_5 (htx1 := hsT) (htx10 := hsT) (hnx10 := hmN) (hx := hx), ga3 (24, s, m) 14 (by simp) (by simp)]
      have st2 : ∀ j, 0 ≤ j → j < c - 1 + len → h2 (7, 0, 0) j = (if j < c - 1 then st j else h (30, s, m) (len - 1 - (j - (c - 1)))) := fun j j0 j1 => by
        by_cases z : j < c - 1
        · rw [if_pos z, a2 j j0 z]; exact ep7 j j0 z
        · rw [if_neg z, show j = c - 1 + (j - (c - 1)) by omega, a3 (j - (c - 1)) (by omega) (by omega), ga2 _ _ (by simp) (by simp)]
          congr 1; omega
      have iC2 := fun v2 v7 v8 v9 v10 => iC hA h2 (i + 1) Q v2 v7 v8 v9 v10 hA0 (by omega) (by omega) ga30 a1 st2 K
      rw [hu2] at iC2
      by_cases z : h (24, s, m) 14 = 0
      · rw [if_pos z, r_68_13 (htx1 := hsT) (hx := hx), r_68_14 (htx1 := hsT) (hx := hx), mm_wi (z := i + 1) (by omega) (by omega)]
        rw [if_pos z] at iC2
        exact iC2 _ _ _ _ _
      · rw [if_neg z, r_68_13 (htx1 := hsT) (hx := hx), r_68_14 (htx1 := hsT) (hx := hx), mm_wi (z := i + 1) (by omega) (by omega)]
        rw [if_neg z] at iC2
        exact iC2 _ _ _ _ _
    · intro hB g Q v1 v2 v9 v10 v11 v12 hB0 hg hs6 K
      have m40 : ∀ x j, 40 ≤ x.1 → x ≠ (66, 0, 0) → ¬ (x = (40, 0, 0) ∧ j = 0) → g x j = h x j := fun x j a1 a2 a3 => (hg x j a2).trans (hB0 x j a1 a2 a3)
      rw [r_216_5 (hy := hy), if_pos (by omega), if_pos rfl, mm_wi (z := c + -1) (by omega) (by omega), show c + -1 = c - 1 from rfl, hs6 (c - 1) (by omega) (by omega)]
      refine ⟨by omega, ?_⟩
      have f41 := fun n (hn : 1 ≤ n ∧ n < 37) => (m40 (41, 0, 0) (36 * s + n - 1) (by simp) (by simp) (by simp)).trans (kk_nf hc (by omega) hn).1
      refine m211y hy (by omega) hu (f41 u hu) k2 ?_
      rw [mm_pI, r_216_5_16 (hy := hy), if_neg (by decide)]
      have kf := (kk_nf hc (by omega) hu).2.2.2 ku
      refine m203y hy (by omega) hu (m40 (40, 0, 0) 29 (by simp) (by simp) (by simp)) ((m40 (47, 0, 0) _ (by simp) (by simp) (by simp)).trans kf.2.1) ((m40 (48, 0, 0) _ (by simp) (by simp) (by simp)).trans kf.2.2) (by rw [← (kk_cal hc).1]; exact km) ?_
      rw [mm_pI]
      rw [← hxx]
      refine hM g _ _ _ _ _ m40 (fun v11 => ?_)
      rw [r_216_15 (hy := hy), if_pos rfl]
      refine m175 hy (by omega) hm ?_
      rw [mm_pI, r_216_16_3 (hy := hy), f41 m hm]
      refine ⟨by omega, ?_⟩
      have kM : 0 ≤ 36 * s + m - 1 ∧ 36 * s + m - 1 < 1044 := by omega
      rw [kk_i3 F, r_216_18 (hy := hy), mm_wi (z := hp + 1) (by omega) (by omega), if_neg (by omega), r_216_20 (hy := hy), if_pos rfl, m40 (42, 0, 0) _ (by simp) (by simp) (by simp), f.1, ← hl, mm_wi (z := len - 1) (by omega) (by omega)]
      refine ⟨kM, m216l hy kM (by omega) (by omega) (by omega) (fun h2 a1 a2 a3 v12 => ?_)⟩
      rw [m40 (53, 0, 0) _ (by simp) (by simp) (by simp), ← (NRm.2.2.2.1 kmm).2.2.2, ← hu2]
      refine iM hB h2 Q _ _ _ _ _ _ hB0 (fun x j q => (a3 x j q).trans (hg x j q)) (fun j j0 j1 => ?_) K
      by_cases z : j < c - 1
      · rw [if_pos z, a1 j j0 z]; exact hs6 j j0 (by omega)
      · rw [if_neg z, show h2 (66, 0, 0) j = h2 (66, 0, 0) (c - 1 + (j - (c - 1))) by congr 1; omega, a2 (j - (c - 1)) (by omega) (by omega), m40 (52, 0, 0) _ (by simp) (by simp) (by simp), ← NRm.2.2.2.2.2.2.1 k3 _ (by omega) (by omega)]

theorem c_4 {b : Int} {h : mm_Id → Int → Int} {dh : Int → Int} {nx ns : Int} (hy : 5306 ≤ nx) (hc : kk_core b h dh) (hb : b + 1 ≤ 1000000) {t n k : Int} (ht : -2147483648 ≤ t ∧ t < 2147483648) (hn : -2147483648 ≤ n ∧ n < 2147483648) (hk : -2147483648 ≤ k ∧ k < 2147483648) : kk_call 4 216 [zI t, zI n, zI k] b h dh nx ns kk_SI := by
  unfold kk_call
  have hx : 5275 ≤ nx := by omega
  have hc0 : kk_core b (mm_up h (40, 0, 0) 0 0) dh := kk_core0 hc
  have fin : ∀ v, kk_SI (zI v) → mm_Cl 216 [zR (40, 0, 0), zI t, zI n, zI k] (mm_z h dh nx ns) (fun (r2 : mm_V) (h2 : mm_H) => r2 = zI v ∧ ∃ g2, h2 = mm_z g2 dh nx ns ∧ kk_core (b + 1) g2 dh ∧ ∀ x j, kk_scr x j → g2 x j = h x j) →
      (fun (r : mm_V) (h1 : mm_H) => kk_SI r ∧ ∃ g dh1, h1 = mm_z g dh1 nx ns ∧ mm_Cl 216 [zR (40, 0, 0), zI t, zI n, zI k] (mm_z g dh1 nx ns) (fun r2 h2 => r2 = r ∧ ∃ g2, h2 = mm_z g2 dh1 nx ns ∧ kk_core (b + 1) g2 dh1 ∧ ∀ x j, kk_scr x j → g2 x j = h x j)) (zI v) (mm_z h dh nx ns) :=
    fun v h1 h2 => ⟨h1, h, dh, rfl, h2⟩
  have mfin : ∀ v w : Int, w = v → (fun (r2 : mm_V) (h2 : mm_H) => r2 = zI v ∧ ∃ g2, h2 = mm_z g2 dh nx ns ∧ kk_core (b + 1) g2 dh ∧ ∀ x j, kk_scr x j → g2 x j = h x j) (zI w) (mm_z (mm_up h (40, 0, 0) 0 0) dh nx ns) :=
    fun v w e => ⟨by rw [e], _, rfl, kk_coreS hb hc0, fun x j hs => kk_scr0 hs⟩
  have pth := kk_pth hc
  rw [r_4_e (hx := hx)]
  refine s55 hx (kk_nmC hc) ht.1 ht.2 (fun s hs => ?_) (fun hs => ?_)
  · have hsT := mm_T13 hs.1
    have hs13 := hs.1
    rw [mm_pR, r_4_0_3a (hty0 := hsT) (hx := hx)]
    refine s56 hsT hx (fun h1n h2n => ?_) (fun hn0 => ?_)
    · have hnN : mm_isN n := ⟨by omega, h1n.2⟩
      have NWn := kk_NWC hc hsT h1n
      have h3n : 0 < h (24, s, n) 0 := by
        have := NWn.1.1
        omega
      rw [mm_pR, r_4_0_8b (htx4 := hsT) (hty0 := hsT) (hny0 := hnN) (hx := hx)]
      obtain ⟨len, hl⟩ : ∃ len, len = h (5, 0, 0) 2 := ⟨_, rfl⟩
      by_cases z : len = 0
      · rw [if_pos (by omega)]
        refine fin (-2) ⟨_, rfl, by omega, by omega⟩ ?_
        have ek : ∀ (x : mm_Id) (j : Int), 40 ≤ x.1 → h x j = h x j := fun _ _ _ => rfl
        have lk := kk_lkr h
        have f29 : mm_up h (40, 0, 0) 0 0 (40, 0, 0) 29 = h (1, 0, 0) 12 := (mm_upj (by decide)).trans ((ek _ _ (by simp)).trans (kk_cal hc).1.symm)
        have f41n : mm_up h (40, 0, 0) 0 0 (41, 0, 0) (36 * s + n - 1) = h (24, s, n) 0 := by rw [mm_upf (by decide)]; exact (ek _ _ (by simp)).trans (kk_nf hc (by omega) h1n).1
        have f44n : mm_up h (40, 0, 0) 0 0 (44, 0, 0) (36 * s + n - 1) = h (24, s, n) 6 := by rw [mm_upf (by decide)]; exact (ek _ _ (by simp)).trans (kk_nf hc (by omega) h1n).2.1
        have f49n : mm_up h (40, 0, 0) 0 0 (49, 0, 0) (36 * s + n - 1) = h (24, s, n) 11 := by rw [mm_upf (by decide)]; exact (ek _ _ (by simp)).trans (kk_nf hc (by omega) h1n).2.2.1
        have f42n : mm_up h (40, 0, 0) 0 0 (42, 0, 0) (36 * s + n - 1) = h (24, s, n) 1 := by rw [mm_upf (by decide)]; exact (ek _ _ (by simp)).trans ((kk_nf hc (by omega) h1n).2.2.2 h2n).1
        have f47n : mm_up h (40, 0, 0) 0 0 (47, 0, 0) (36 * s + n - 1) = h (24, s, n) 2 := by rw [mm_upf (by decide)]; exact (ek _ _ (by simp)).trans ((kk_nf hc (by omega) h1n).2.2.2 h2n).2.1
        have f48n : mm_up h (40, 0, 0) 0 0 (48, 0, 0) (36 * s + n - 1) = h (24, s, n) 3 := by rw [mm_upf (by decide)]; exact (ek _ _ (by simp)).trans ((kk_nf hc (by omega) h1n).2.2.2 h2n).2.2
        rw [r_216_e (hy := hy)]
        refine m181y hy hc (kk_lku (by decide) lk) ht hs ?_
        rw [mm_pI, r_216_0_6 (hy := hy)]
        refine m210y hy (by omega) h1n (by rw [f41n]; exact h3n) ?_
        rw [mm_pI, r_216_0_11 (hy := hy), if_neg (by decide)]
        rw [show mm_up h (40, 0, 0) 0 0 (40, 0, 0) 30 = 0 by rw [mm_upj (by decide)]; omega, if_pos rfl]
        exact mfin _ _ rfl
      · rw [if_neg (by omega), r_121_e (hx := hx), mm_upj (by decide), ← hl]
        obtain ⟨g0, hg0⟩ : ∃ g0, g0 = mm_up h (5, 0, 0) 3 0 := ⟨_, rfl⟩
        rw [← hg0]
        refine s124 hx (c := 0) (by rw [hg0, mm_ups]) (by omega) (by omega) (by omega) (fun h2 a1 a2 a3 a4 => ?_)
        rw [mm_pU, r_121_0_9 (hx := hx), mm_pU, r_4_2_3 (htx4 := hsT) (hx := hx), r_119_e (hx := hx), mm_pU, r_4_2_6 (htx4 := hsT) (hx := hx)]
        obtain ⟨r, hr, iC, iM⟩ := kk_walk (ns := ns) hy hc hs13 k 72 n 0 len (fun j => h (6, 0, 0) (len - 1 - j)) h1n h2n (by omega) (by omega) (by omega) (by omega)
        rw [r_68_e (htx1 := hsT) (hx := hx)]
        refine iC (mm_up h (5, 0, 0) 2 0) (mm_up h2 (5, 0, 0) 2 0) 0 _ _ _ _ _ _ (fun x j q => mm_upx q) (by omega) (by omega) (fun x j q1 q2 => ?_) (by rw [mm_upj (by decide)]; omega) (fun j j0 j1 => ?_) (fun g2 w => ?_)
        · by_cases q3 : x = (5, 0, 0) ∧ j = 2
          · rw [q3.1, q3.2, mm_ups, mm_ups]
          · rw [mm_upne' q3, mm_upne' q3, a4 x j q1 q2, hg0, mm_upne' q2]
        · have q := a3 j j0 j1
          rw [mm_upf (by decide), show j = 0 + j by omega, q, hg0, mm_upf (by decide)]
          simp
        · have W : ∀ (x : mm_Id) j, x ≠ (7, 0, 0) → x ≠ (5, 0, 0) → g2 x j = h x j := fun x j q1 q2 => by rw [w x j q1 (fun q => q2 q.1), mm_upx q2]
          rw [mm_pI, r_4_2_11 (hx := hx)]
          refine ⟨⟨_, rfl, by omega, by omega⟩, g2, dh, rfl, ?_⟩
          have ek : ∀ x j, 40 ≤ x.1 → g2 x j = h x j := fun x j q => W x j (by rintro rfl; simp at q) (by rintro rfl; simp at q)
          have lk : kk_lk h g2 := ⟨fun s2 _ _ => by unfold kk_no; rw [W _ _ (by simp) (by simp), W _ _ (by simp) (by simp)], fun k k0 k9 => ek _ _ (by simp)⟩
          have f29 : mm_up g2 (40, 0, 0) 0 0 (40, 0, 0) 29 = h (1, 0, 0) 12 := (mm_upj (by decide)).trans ((ek _ _ (by simp)).trans (kk_cal hc).1.symm)
          have f41n : mm_up g2 (40, 0, 0) 0 0 (41, 0, 0) (36 * s + n - 1) = h (24, s, n) 0 := by rw [mm_upf (by decide)]; exact (ek _ _ (by simp)).trans (kk_nf hc (by omega) h1n).1
          have f44n : mm_up g2 (40, 0, 0) 0 0 (44, 0, 0) (36 * s + n - 1) = h (24, s, n) 6 := by rw [mm_upf (by decide)]; exact (ek _ _ (by simp)).trans (kk_nf hc (by omega) h1n).2.1
          have f49n : mm_up g2 (40, 0, 0) 0 0 (49, 0, 0) (36 * s + n - 1) = h (24, s, n) 11 := by rw [mm_upf (by decide)]; exact (ek _ _ (by simp)).trans (kk_nf hc (by omega) h1n).2.2.1
          have f42n : mm_up g2 (40, 0, 0) 0 0 (42, 0, 0) (36 * s + n - 1) = h (24, s, n) 1 := by rw [mm_upf (by decide)]; exact (ek _ _ (by simp)).trans ((kk_nf hc (by omega) h1n).2.2.2 h2n).1
          have f47n : mm_up g2 (40, 0, 0) 0 0 (47, 0, 0) (36 * s + n - 1) = h (24, s, n) 2 := by rw [mm_upf (by decide)]; exact (ek _ _ (by simp)).trans ((kk_nf hc (by omega) h1n).2.2.2 h2n).2.1
          have f48n : mm_up g2 (40, 0, 0) 0 0 (48, 0, 0) (36 * s + n - 1) = h (24, s, n) 3 := by rw [mm_upf (by decide)]; exact (ek _ _ (by simp)).trans ((kk_nf hc (by omega) h1n).2.2.2 h2n).2.2
          rw [r_216_e (hy := hy)]
          refine m181y hy hc (kk_lku (by decide) lk) ht hs ?_
          rw [mm_pI, r_216_0_6 (hy := hy)]
          refine m210y hy (by omega) h1n (by rw [f41n]; exact h3n) ?_
          rw [mm_pI, r_216_0_11 (hy := hy), if_neg (by decide)]
          have e30 : mm_up g2 (40, 0, 0) 0 0 (40, 0, 0) 30 = len := by rw [mm_upj (by decide), ek _ _ (by simp)]; omega
          rw [e30, if_neg z, mm_wi (z := len - 1) (by omega) (by omega)]
          refine m216p hy (by omega) (fun h3 b1 b2 => ?_)
          refine iM (mm_up g2 (40, 0, 0) 0 0) h3 _ _ _ _ _ _ _ (fun x j q1 q2 q3 => by rw [mm_upne' q3]; exact ek x j q1) b2 (fun j j0 j1 => ?_) (fun g4 d1 d2 => ⟨rfl, g4, rfl, ?_⟩)
          · rw [b1 j j0 j1, mm_upf (by decide), ek _ _ (by simp)]
            exact (pth.2 _ (by omega) (by omega)).1.symm
          · have F : ∀ (x : mm_Id) j, x ≠ (7, 0, 0) → x ≠ (5, 0, 0) → x ≠ (66, 0, 0) → ¬ (x = (40, 0, 0) ∧ (j = 0 ∨ j = 30)) → g4 x j = h x j := fun x j q1 q2 q3 q4 => by
              rw [d1 x j q3 (fun q => q4 ⟨q.1, Or.inr q.2⟩), mm_upne' (fun q => q4 ⟨q.1, Or.inl q.2⟩)]
              exact W x j q1 q2
            have e5 : g4 (5, 0, 0) 2 = 0 := by
              rw [d1 _ _ (by simp) (by simp), mm_upf (by decide), w _ _ (by simp) (by simp), mm_ups]
            refine ⟨kk_coreS hb (kk_core7 (fun x j q => ?_) ?_ hc), fun x j q => ?_⟩
            · have q1 := kk_gxN (fun q2 => q (Or.inl q2))
              have q7 : x.1 ≠ 7 := fun q2 => q (Or.inr q2)
              exact F x j (fun q2 => q7 (by rw [q2])) (fun q2 => q1.2.1 (by rw [q2])) (fun q2 => q1.2.2.2.2.2.2.1 (by rw [q2])) (fun q2 => q1.2.2.2.2.2.2.2 ⟨q2.1, by omega⟩)
            · obtain ⟨g1, g2', g3, g4', g5, g6, g7, g8⟩ := hc.1.2.2.2
              unfold kk_KG
              have f14 : ∀ j, g4 (14, 0, 0) j = h (14, 0, 0) j := fun j => F _ _ (by simp) (by simp) (by simp) (by simp)
              have f1 : ∀ j, g4 (1, 0, 0) j = h (1, 0, 0) j := fun j => F _ _ (by simp) (by simp) (by simp) (by simp)
              refine ⟨?_, ⟨by rw [e5, d2], by rw [e5]; omega, by rw [e5]; omega⟩, fun i i0 i1 => by rw [e5] at i1; omega, ?_, ?_, ?_, ?_, ?_⟩
              · rw [f1, F (40, 0, 0) 29 (by simp) (by simp) (by simp) (by simp)]; exact g1
              · rw [f1, F (40, 0, 0) 34 (by simp) (by simp) (by simp) (by simp)]; exact g4'
              · rw [f14, F (40, 0, 0) 1 (by simp) (by simp) (by simp) (by simp)]; exact g5
              · rw [f14, F (40, 0, 0) 35 (by simp) (by simp) (by simp) (by simp)]; exact g6
              · rw [f14, F (40, 0, 0) 36 (by simp) (by simp) (by simp) (by simp)]; exact g7
              · rw [f1]; exact ⟨fun q n2 n0 n1 => by rw [F _ _ (by simp) (by simp) (by simp) (by simp), F _ _ (by simp) (by simp) (by simp) (by simp)]; exact g8.1 q n2 n0 n1, fun q => by rw [F _ _ (by simp) (by simp) (by simp) (by simp)]; exact g8.2 q⟩
            · have q1 := kk_scrN q
              exact F x j (fun q2 => by rw [q2] at q; simp [kk_scr] at q) (fun q2 => q1.2.1 (by rw [q2])) (fun q2 => q1.2.2.2.2.2.2.1 (by rw [q2])) (fun q2 => q1.2.2.2.2.2.2.2 ⟨q2.1, by omega⟩)
    · rw [mm_pR, r_4_0_8a (htx4 := hsT) (hx := hx)]
      refine fin (-1) ⟨_, rfl, by omega, by omega⟩ ?_
      have ek : ∀ (x : mm_Id) (j : Int), 40 ≤ x.1 → h x j = h x j := fun _ _ _ => rfl
      have lk := kk_lkr h
      rw [r_216_e (hy := hy)]
      refine m181y hy hc (kk_lku (by decide) lk) ht hs ?_
      rw [mm_pI, r_216_0_6 (hy := hy)]
      refine m210z hy (by omega) (fun w => hn0 ((kk_isn hc (by omega)).2 ⟨w.1, by rw [mm_upf (by decide)] at w; exact w.2⟩)) ?_
      rw [mm_pI, r_216_0_11 (hy := hy), if_pos rfl]
      exact mfin _ _ rfl
  · rw [mm_pR, r_4_0_3 (hx := hx)]
    refine s56n hx ?_
    rw [mm_pR, r_4_0_8 (hx := hx)]
    refine fin (-1) ⟨_, rfl, by omega, by omega⟩ ?_
    have ek : ∀ (x : mm_Id) (j : Int), 40 ≤ x.1 → h x j = h x j := fun _ _ _ => rfl
    have lk := kk_lkr h
    rw [r_216_e (hy := hy)]
    refine m181n hy hc (kk_lku (by decide) lk) ht hs ?_
    rw [mm_pI, r_216_0_6 (hy := hy)]
    refine m210n hy ?_
    rw [mm_pI, r_216_0_11 (hy := hy), if_pos rfl]
    exact mfin _ _ rfl

