/-! what holds where only numbers of datasets and snapshots change; acts -/
/-- cells that say of datasets and snapshots what may change by itself -/
def kk_wd (x : mm_Id) (j : Int) : Prop := x = (1, 0, 0) ∧ (j = 9 ∨ j = 12 ∨ j = 13) ∨ x.1 = 5 ∨ x.1 = 6 ∨ x.1 = 14 ∨ x.1 = 56 ∨ x.1 = 65 ∨ x.1 = 66 ∨ x = (40, 0, 0) ∧ (j = 0 ∨ j = 29 ∨ j = 30 ∨ j = 33 ∨ j = 34 ∨ j = 35 ∨ j = 36) ∨ x.1 = 31 ∧ j = 5 ∨ x.1 = 32 ∨ x.1 = 33 ∧ j = 3 ∨ x.1 = 59 ∨ x.1 = 60 ∨ x.1 = 61
def kk_d7 (h : mm_Id → Int → Int) : Prop := ∀ i, 0 ≤ i → i < 5 → 0 < kk_no h i → (h (31, i, 0) 4 = h (58, 0, 0) i ∧ 0 ≤ h (58, 0, 0) i ∧ h (58, 0, 0) i ≤ 2000000) ∧ (h (31, i, 0) 5 = h (59, 0, 0) i ∧ 0 ≤ h (59, 0, 0) i ∧ h (59, 0, 0) i ≤ 400) ∧ ∀ u, 0 ≤ u → u < 8 → h (32, i, 0) u = h (61, 0, 0) (8 * i + u) ∧ 0 ≤ h (32, i, 0) u ∧ h (32, i, 0) u ≤ 400
def kk_d9 (h : mm_Id → Int → Int) : Prop := ∀ j, 0 ≤ j → j < 8 → (0 < kk_no h (5 + j) → h (33, j, 0) 2 = h (58, 0, 0) (5 + j) ∧ h (33, j, 0) 3 = h (60, 0, 0) (5 + j) ∧ 1 ≤ h (33, j, 0) 2 ∧ h (33, j, 0) 2 ≤ 2000000) ∧ (kk_no h (5 + j) = 0 → h (33, j, 0) 2 = 0)
def kk_d10 (h : mm_Id → Int → Int) : Prop := ∀ k, 0 ≤ k → k < 26 → h (60, 0, 0) k = 0 ∨ h (60, 0, 0) k = 1
def kk_b7 (h : mm_Id → Int → Int) : Prop := ∀ i, 0 ≤ i → i < 5 → (0 < kk_no h i → kk_cnt (kk_bs h i) ≤ h (59, 0, 0) i) ∧ (0 < h (57, 0, 0) (13 + i) → kk_cnt (kk_bs h (13 + i)) ≤ h (59, 0, 0) (13 + i))
theorem kk_WD {b : Int} {h h2 : mm_Id → Int → Int} {dh : Int → Int} (e : ∀ x j, ¬ kk_wd x j → h2 x j = h x j) (kg2 : kk_KG h2) (q7 : kk_d7 h2) (q9 : kk_d9 h2) (q10 : kk_d10 h2) (qb : kk_b7 h2) (hc : kk_W b h dh) : kk_W b h2 dh := by
  have eg : ∀ (f : Nat) t n, (f ≠ 1 ∧ f ≠ 5 ∧ f ≠ 6 ∧ f ≠ 14 ∧ f ≠ 56 ∧ f ≠ 65 ∧ f ≠ 66 ∧ f ≠ 40 ∧ f ≠ 31 ∧ f ≠ 32 ∧ f ≠ 33 ∧ f ≠ 59 ∧ f ≠ 60 ∧ f ≠ 61) → h2 (f, t, n) = h (f, t, n) := fun f t n h1 => by
    funext j
    refine e _ _ ?_
    unfold kk_wd
    rintro (⟨q, _⟩ | q | q | q | q | q | q | ⟨q, _⟩ | ⟨q, _⟩ | q | ⟨q, _⟩ | q | q | q) <;> simp at q <;> omega
  have e1g : ∀ j, j = 10 ∨ j = 11 → h2 (1, 0, 0) j = h (1, 0, 0) j := fun j hj => e _ _ (by
    unfold kk_wd
    rintro (⟨_, q⟩ | q | q | q | q | q | q | ⟨q, _⟩ | ⟨q, _⟩ | q | ⟨q, _⟩ | q | q | q) <;> first | omega | simp at q)
  have e40 : ∀ j, j = 18 ∨ j = 24 ∨ j = 25 → h2 (40, 0, 0) j = h (40, 0, 0) j := fun j hj => e _ _ (by
    unfold kk_wd
    rintro (⟨q, _⟩ | q | q | q | q | q | q | ⟨_, q⟩ | ⟨q, _⟩ | q | ⟨q, _⟩ | q | q | q) <;> first | omega | simp at q)
  have e31 : ∀ i j, j ≠ 5 → h2 (31, i, 0) j = h (31, i, 0) j := fun i j hj => e _ _ (by
    unfold kk_wd
    rintro (⟨q, _⟩ | q | q | q | q | q | q | ⟨q, _⟩ | ⟨_, q⟩ | q | ⟨q, _⟩ | q | q | q) <;> first | omega | simp at q)
  have e33 : ∀ i j, j ≠ 3 → h2 (33, i, 0) j = h (33, i, 0) j := fun i j hj => e _ _ (by
    unfold kk_wd
    rintro (⟨q, _⟩ | q | q | q | q | q | q | ⟨q, _⟩ | ⟨q, _⟩ | q | ⟨_, q⟩ | q | q | q) <;> first | omega | simp at q)
  have e16 : ∀ t n, h2 (16, t, n) = h (16, t, n) := fun t n => eg 16 t n (by decide)
  have e22 : ∀ t n, h2 (22, t, n) = h (22, t, n) := fun t n => eg 22 t n (by decide)
  have e24 : ∀ t n, h2 (24, t, n) = h (24, t, n) := fun t n => eg 24 t n (by decide)
  have e25 : ∀ t n, h2 (25, t, n) = h (25, t, n) := fun t n => eg 25 t n (by decide)
  have e26 : ∀ t n, h2 (26, t, n) = h (26, t, n) := fun t n => eg 26 t n (by decide)
  have e27 : ∀ t n, h2 (27, t, n) = h (27, t, n) := fun t n => eg 27 t n (by decide)
  have e28 : ∀ t n, h2 (28, t, n) = h (28, t, n) := fun t n => eg 28 t n (by decide)
  have e29 : ∀ t n, h2 (29, t, n) = h (29, t, n) := fun t n => eg 29 t n (by decide)
  have e30 : ∀ t n, h2 (30, t, n) = h (30, t, n) := fun t n => eg 30 t n (by decide)
  have e34 : ∀ t n, h2 (34, t, n) = h (34, t, n) := fun t n => eg 34 t n (by decide)
  have e35 : ∀ t n, h2 (35, t, n) = h (35, t, n) := fun t n => eg 35 t n (by decide)
  have e41 : ∀ t n, h2 (41, t, n) = h (41, t, n) := fun t n => eg 41 t n (by decide)
  have e42 : ∀ t n, h2 (42, t, n) = h (42, t, n) := fun t n => eg 42 t n (by decide)
  have e43 : ∀ t n, h2 (43, t, n) = h (43, t, n) := fun t n => eg 43 t n (by decide)
  have e44 : ∀ t n, h2 (44, t, n) = h (44, t, n) := fun t n => eg 44 t n (by decide)
  have e45 : ∀ t n, h2 (45, t, n) = h (45, t, n) := fun t n => eg 45 t n (by decide)
  have e46 : ∀ t n, h2 (46, t, n) = h (46, t, n) := fun t n => eg 46 t n (by decide)
  have e47 : ∀ t n, h2 (47, t, n) = h (47, t, n) := fun t n => eg 47 t n (by decide)
  have e48 : ∀ t n, h2 (48, t, n) = h (48, t, n) := fun t n => eg 48 t n (by decide)
  have e49 : ∀ t n, h2 (49, t, n) = h (49, t, n) := fun t n => eg 49 t n (by decide)
  have e50 : ∀ t n, h2 (50, t, n) = h (50, t, n) := fun t n => eg 50 t n (by decide)
  have e51 : ∀ t n, h2 (51, t, n) = h (51, t, n) := fun t n => eg 51 t n (by decide)
  have e52 : ∀ t n, h2 (52, t, n) = h (52, t, n) := fun t n => eg 52 t n (by decide)
  have e53 : ∀ t n, h2 (53, t, n) = h (53, t, n) := fun t n => eg 53 t n (by decide)
  have e54 : ∀ t n, h2 (54, t, n) = h (54, t, n) := fun t n => eg 54 t n (by decide)
  have e55 : ∀ t n, h2 (55, t, n) = h (55, t, n) := fun t n => eg 55 t n (by decide)
  have e57 : ∀ t n, h2 (57, t, n) = h (57, t, n) := fun t n => eg 57 t n (by decide)
  have e58 : ∀ t n, h2 (58, t, n) = h (58, t, n) := fun t n => eg 58 t n (by decide)
  have e62 : ∀ t n, h2 (62, t, n) = h (62, t, n) := fun t n => eg 62 t n (by decide)
  have e63 : ∀ t n, h2 (63, t, n) = h (63, t, n) := fun t n => eg 63 t n (by decide)
  have e64 : ∀ t n, h2 (64, t, n) = h (64, t, n) := fun t n => eg 64 t n (by decide)
  have e15g := eg 15 0 0 (by decide)
  have e17g := eg 17 0 0 (by decide)
  have e18g := eg 18 0 0 (by decide)
  have e19g := eg 19 0 0 (by decide)
  have no : kk_no h2 = kk_no h := by funext s; simp only [kk_no, e31 _ 3 (by decide), e33 _ 1 (by decide)]
  have an : kk_any h2 = kk_any h := by funext b; simp only [kk_any, kk_bs, e41, e43]
  have bn : kk_bs h2 = kk_bs h := by funext s b; simp only [kk_bs, e41, e43]
  have ln : kk_lb h2 = kk_lb h := by funext s b; simp only [kk_lb, bn, e57]
  obtain ⟨⟨t1, t2, t3, t4, t5, t6, t7, t8, t9, t10, t11⟩, ⟨kb1, kb2, kb3, kb4, kb5, kb6, kb7⟩, ⟨d1, d2, d3, d4, d5, d6, d7, d8, d9, d10, d13, d14, d15, d17, d18, d19⟩, kg⟩ := hc
  refine ⟨⟨?_, ?_, ?_, ?_, ?_, ?_, ?_, ?_, ?_, ?_, ?_⟩, ⟨?_, ?_, ?_, ?_, ?_, ?_, qb⟩, ⟨d1, ?_, ?_, ?_, ?_, ?_, q7, ?_, q9, q10, ?_, ?_, ?_, ?_, ?_, ?_⟩, kg2⟩
  · simp only [kk_NR, e16, e22, e24, e25, e26, e27, e28, e29, e30, e34, e35, e41, e42, e43, e44, e45, e46, e47, e48, e49, e50, e51, e52, e53, e54, e55, e57, e58, e62, e63, e64]; exact t1
  · simp only [kk_NW, e16, e22, e24, e25, e26, e27, e28, e29, e30, e34, e35, e41, e42, e43, e44, e45, e46, e47, e48, e49, e50, e51, e52, e53, e54, e55, e57, e58, e62, e63, e64]; exact t2
  · simp only [kk_TW, kk_ec, kk_e1, e16, e22, e24, e25, e26, e27, e28, e29, e30, e34, e35, e41, e42, e43, e44, e45, e46, e47, e48, e49, e50, e51, e52, e53, e54, e55, e57, e58, e62, e63, e64]; exact t3
  · simp only [kk_SR, kk_ctn2, kk_ef, kk_ed, kk_NR, e16, e22, e24, e25, e26, e27, e28, e29, e30, e34, e35, e41, e42, e43, e44, e45, e46, e47, e48, e49, e50, e51, e52, e53, e54, e55, e57, e58, e62, e63, e64]; exact t4
  · simp only [kk_MW, kk_mw, e16, e22, e24, e25, e26, e27, e28, e29, e30, e34, e35, e41, e42, e43, e44, e45, e46, e47, e48, e49, e50, e51, e52, e53, e54, e55, e57, e58, e62, e63, e64]; exact t5
  · simp only [kk_PQ, e16, e22, e24, e25, e26, e27, e28, e29, e30, e34, e35, e41, e42, e43, e44, e45, e46, e47, e48, e49, e50, e51, e52, e53, e54, e55, e57, e58, e62, e63, e64]; exact t6
  · simp only [kk_DS, e16, e22, e24, e25, e26, e27, e28, e29, e30, e34, e35, e41, e42, e43, e44, e45, e46, e47, e48, e49, e50, e51, e52, e53, e54, e55, e57, e58, e62, e63, e64]; exact t7
  · exact kk_Rcong (fun t n p => by rw [e27]) (by rw [e15g]) (by rw [e15g]) (fun _ => by rw [e17g]) (fun _ => by rw [e18g]) (fun _ => by rw [e19g]) t8
  · simp only [e16]; exact t9
  · simp only [e22]; exact t10
  · simp only [e27]; exact t11
  · rw [an, e55]; exact kb1
  · rw [e40 18 (by decide)]; exact kb2
  · rw [ln]; exact kb3
  · rw [bn]; exact kb4
  · rw [bn]; exact kb5
  · rw [bn]; exact kb6
  · rw [e1g 10 (by decide), e40 24 (by decide)]; exact d2
  · rw [e1g 11 (by decide), e40 25 (by decide)]; exact d3
  · unfold kk_N at d4 ⊢; rw [no, e57]; exact d4
  · rw [no, e1g 10 (by decide)]; exact d5
  · rw [no, e1g 11 (by decide)]; exact d6
  · simp only [e31 _ 6 (by decide)]; exact d8
  · rw [no]; simp only [e24]; exact d13
  · rw [no]; simp only [e24]; exact d14
  · simp only [kk_cpd, kk_sd, e31 _ 6 (by decide), e16, e22, e24, e25, e26, e27, e28, e29, e30, e34, e35, e41, e42, e43, e44, e45, e46, e47, e48, e49, e50, e51, e52, e53, e54, e55, e57, e58, e62, e63, e64]; exact d15
  · rw [no]; simp only [e16, e22, e24, e25, e26, e27, e28, e29, e30, e34, e35, e41, e42, e43, e44, e45, e46, e47, e48, e49, e50, e51, e52, e53, e54, e55, e57, e58, e62, e63, e64]; exact d17
  · simp only [e64]; exact d18
  · simp only [e24, e34]; exact d19
/-- where not even these change -/
theorem kk_WG {b : Int} {h h2 : mm_Id → Int → Int} {dh : Int → Int} (e : ∀ x j, ¬ kk_gx x j → ¬ (x = (1, 0, 0) ∧ j = 13) → ¬ (x = (40, 0, 0) ∧ j = 33) → h2 x j = h x j) (kg2 : kk_KG h2) (hc : kk_W b h dh) : kk_W b h2 dh := by
  have eg : ∀ (f : Nat) t n, (f ≠ 1 ∧ f ≠ 5 ∧ f ≠ 6 ∧ f ≠ 14 ∧ f ≠ 56 ∧ f ≠ 65 ∧ f ≠ 66 ∧ f ≠ 40) → h2 (f, t, n) = h (f, t, n) := fun f t n h1 => by
    funext j
    refine e _ _ ?_ ?_ ?_
    · unfold kk_gx
      rintro (⟨q, _⟩ | q | q | q | q | q | q | ⟨q, _⟩) <;> simp at q <;> omega
    · rintro ⟨q, _⟩; simp at q; omega
    · rintro ⟨q, _⟩; simp at q; omega
  have e31 : ∀ t n, h2 (31, t, n) = h (31, t, n) := fun t n => eg 31 t n (by decide)
  have e32 : ∀ t n, h2 (32, t, n) = h (32, t, n) := fun t n => eg 32 t n (by decide)
  have e33 : ∀ t n, h2 (33, t, n) = h (33, t, n) := fun t n => eg 33 t n (by decide)
  have e57 : ∀ t n, h2 (57, t, n) = h (57, t, n) := fun t n => eg 57 t n (by decide)
  have e58 : ∀ t n, h2 (58, t, n) = h (58, t, n) := fun t n => eg 58 t n (by decide)
  have e59 : ∀ t n, h2 (59, t, n) = h (59, t, n) := fun t n => eg 59 t n (by decide)
  have e60 : ∀ t n, h2 (60, t, n) = h (60, t, n) := fun t n => eg 60 t n (by decide)
  have e61 : ∀ t n, h2 (61, t, n) = h (61, t, n) := fun t n => eg 61 t n (by decide)
  have e41 : ∀ t n, h2 (41, t, n) = h (41, t, n) := fun t n => eg 41 t n (by decide)
  have e43 : ∀ t n, h2 (43, t, n) = h (43, t, n) := fun t n => eg 43 t n (by decide)
  have no : kk_no h2 = kk_no h := by funext s; simp only [kk_no, e31, e33]
  have bn : kk_bs h2 = kk_bs h := by funext s b; simp only [kk_bs, e41, e43]
  have hD := hc.2.2.1
  refine kk_WD (fun x j hx => e x j (fun q => hx ?_) (fun q => hx ?_) (fun q => hx ?_)) kg2 ?_ ?_ ?_ ?_ hc
  · unfold kk_gx at q; unfold kk_wd; rcases q with ⟨q, q2⟩ | q | q | q | q | q | q | ⟨q, q2⟩
    · exact Or.inl ⟨q, by omega⟩
    · simp [q]
    · simp [q]
    · simp [q]
    · simp [q]
    · simp [q]
    · simp [q]
    · exact Or.inr (Or.inr (Or.inr (Or.inr (Or.inr (Or.inr (Or.inr (Or.inl ⟨q, by omega⟩)))))))
  · exact Or.inl ⟨q.1, by omega⟩
  · exact Or.inr (Or.inr (Or.inr (Or.inr (Or.inr (Or.inr (Or.inr (Or.inl ⟨q.1, by omega⟩)))))))
  · unfold kk_d7; rw [no]; simp only [e31, e32, e58, e59, e61]; exact hD.2.2.2.2.2.2.1
  · unfold kk_d9; rw [no]; simp only [e33, e58, e60]; exact hD.2.2.2.2.2.2.2.2.1
  · unfold kk_d10; simp only [e60]; exact hD.2.2.2.2.2.2.2.2.2.1
  · unfold kk_b7; rw [no, bn]; simp only [e57, e59]; exact hc.2.1.2.2.2.2.2.2
/-- what is put down stays -/
theorem kk_KPc {h g : mm_Id → Int → Int} (hT : ∀ t n, 13 ≤ t → t < 18 → 1 ≤ n → n < 37 → kk_NW h t n) (hM : ∀ s n, 0 ≤ s → s < 29 → 1 ≤ n → n < 37 → kk_MW h (36 * s + n - 1)) (ac : g (1, 0, 0) 13 = g (40, 0, 0) 33 ∧ 0 ≤ g (1, 0, 0) 13 ∧ g (1, 0, 0) 13 < 100) (no : ∀ s, 0 ≤ s → s < 13 → kk_no g s = kk_no h s)
    (eq : ∀ (f : Nat) k, kk_q4 f ∨ f = 61 → g (f, 0, 0) k = h (f, 0, 0) k) (et : ∀ (f : Nat) t n j, 24 ≤ f → f ≤ 30 → 13 ≤ t → t < 18 → 1 ≤ n → g (f, t, n) j = h (f, t, n) j) (es : ∀ s x j, 5 ≤ s → s < 26 → kk_sx s x j → g x j = h x j)
    (e16 : ∀ t n p i, 13 ≤ t → t < 18 → 1 ≤ n → n < 37 → 0 ≤ p → p < 36 → h (27, t, n) p ≠ 0 → 0 ≤ i → i < 60 → g (16, 0, 0) (60 * h (27, t, n) p + i) = h (16, 0, 0) (60 * h (27, t, n) p + i))
    (e54 : ∀ t n p i, 13 ≤ t → t < 18 → 1 ≤ n → n < 37 → 0 ≤ p → p < 36 → h (27, t, n) p ≠ 0 → 0 ≤ i → i < 60 → g (54, 0, 0) (60 * h (43, 0, 0) (36 * (36 * t + n - 1) + p) + i) = h (54, 0, 0) (60 * h (43, 0, 0) (36 * (36 * t + n - 1) + p) + i)) (K : kk_KP h) : kk_KP g := by
  obtain ⟨p1, p2, p3, p4, p5, p6, p7⟩ := K
  have ms : ∀ s n, 5 ≤ s → s < 26 → 1 ≤ n → n < 37 → kk_ms g (36 * s + n - 1) h (36 * s + n - 1) := fun s n s0 s1 n0 n1 => by
    have w := (hM s n (by omega) (by omega) n0 n1).1
    exact kk_msr w.2.1.2 w.2.2.2 (fun x j hx => es s x j s0 s1 ⟨n, n0, n1, hx⟩)
  have mr : ∀ s n, 5 ≤ s → s < 26 → 1 ≤ n → n < 37 → kk_ms h (36 * s + n - 1) g (36 * s + n - 1) := fun s n s0 s1 n0 n1 => by
    have w := (kk_MWcp (ms s n s0 s1 n0 n1) (hM s n (by omega) (by omega) n0 n1)).1
    exact kk_msr w.2.1.2 w.2.2.2 (fun x j hx => (es s x j s0 s1 ⟨n, n0, n1, hx⟩).symm)
  refine ⟨fun t n t0 t1 n0 n1 => ?_, ac, fun k f k0 k1 hf => ?_, fun k u k0 k1 u0 u1 => ?_, fun s s0 s1 z n n0 n1 => ?_, fun s s0 s1 z => ?_, fun j n j0 j1 n0 n1 => ?_⟩
  · exact kk_NRcp (kk_cpdr (fun f j f0 f1 => et f t n j f0 f1 t0 t1 n0)) (ms t n (by omega) (by omega) n0 n1) (hT t n t0 t1 n0 n1) (e16 t n · · t0 t1 n0 n1) (e54 t n · · t0 t1 n0 n1) (p1 t n t0 t1 n0 n1)
  · rw [eq f _ (Or.inl hf), eq f _ (Or.inl hf)]; exact p3 k f k0 k1 hf
  · rw [eq 61 _ (Or.inr rfl), eq 61 _ (Or.inr rfl)]; exact p4 k u k0 k1 u0 u1
  · rw [no s s0 (by omega)] at z
    rw [et 24 _ n 0 (by omega) (by omega) (by omega) (by omega) n0]
    exact p5 s s0 s1 z n n0 n1
  · rw [no s s0 (by omega)] at z
    rw [et 24 _ 1 0 (by omega) (by omega) (by omega) (by omega) (by omega)]
    exact p6 s s0 s1 z
  · exact kk_mst (kk_mst (ms (18 + j) n (by omega) (by omega) n0 n1) (p7 j n j0 j1 n0 n1)) (mr (5 + j) n (by omega) (by omega) n0 n1)
theorem kk_pdCc {a a' g g' : mm_Id → Int → Int} (ha : ∀ x j, x.1 < 40 → a' x j = a x j) (hg : ∀ x j, x.1 < 40 → g' x j = g x j) (c : kk_pdC a g) : kk_pdC a' g' := by
  obtain ⟨c1, c2, c3, c4, c5⟩ := c
  have A : ∀ (f : Nat) t n j, f < 40 → a' (f, t, n) j = a (f, t, n) j := fun f t n j hf => ha _ _ hf
  have G : ∀ (f : Nat) t n j, f < 40 → g' (f, t, n) j = g (f, t, n) j := fun f t n j hf => hg _ _ hf
  refine ⟨kk_Rcong (fun t n p => G 27 t n p (by decide)) (G 15 0 0 7 (by decide)) (G 15 0 0 8 (by decide)) (fun r => G 17 0 0 r (by decide)) (fun r => G 18 0 0 r (by decide)) (fun r => G 19 0 0 r (by decide)) c1, fun i n i0 i1 z n0 n1 => ?_, fun i i0 i1 => ?_, ?_, fun x j h1 h2 h3 h4 h5 => ?_⟩
  · rw [A 31 i 0 6 (by decide)] at z
    exact kk_cpdt (kk_cpdr (fun f j f0 f1 => G f _ n j (by omega))) (kk_cpdt (c2 i n i0 i1 z n0 n1) (kk_cpdr (fun f j f0 f1 => (A f _ n j (by omega)).symm)))
  · rw [G 31 i 0 6 (by decide)]; exact c3 i i0 i1
  · rw [G 1 0 0 13 (by decide)]; exact c4
  · rw [hg x j h1, ha x j h1]
    refine c5 x j h1 h2 (fun q => h3 ?_) h4 h5
    obtain ⟨i, q1, q2, q3⟩ := q
    exact ⟨i, q1, by rw [A 31 i 0 6 (by decide)]; exact q2, q3⟩
theorem kk_pdMc {a a' g : mm_Id → Int → Int} (hM : ∀ k n, 0 ≤ k → k < 13 → 1 ≤ n → n < 37 → kk_mw a (36 * k + n - 1)) (ha : ∀ x j, 40 ≤ x.1 → a' x j = a x j) (c : kk_pdM a g) : kk_pdM a' g := by
  obtain ⟨c1, c2, c3, c4, c5⟩ := c
  have A : ∀ (f : Nat) t n j, 40 ≤ f → a' (f, t, n) j = a (f, t, n) j := fun f t n j hf => ha _ _ hf
  refine ⟨c1, fun k f k0 k1 hf => ?_, fun k u k0 k1 u0 u1 => ?_, fun k n k0 k1 n0 n1 => ?_, fun x j h1 h2 h3 => ?_⟩
  · have hf2 := hf
    unfold kk_q4 at hf2
    rw [A f 0 0 k (by omega)]; exact c2 k f k0 k1 hf
  · rw [A 61 0 0 _ (by omega)]; exact c3 k u k0 k1 u0 u1
  · have w := hM k n k0 k1 n0 n1
    refine kk_mst (c4 k n k0 k1 n0 n1) (kk_msr ?_ ?_ (fun x j hx => (ha x j (by have := kk_mxr hx; omega)).symm))
    · rw [A 44 0 0 _ (by omega)]; exact w.2.1.2
    · rw [A 49 0 0 _ (by omega)]; exact w.2.2.2
  · rw [ha x j h1]; exact c5 x j h1 h2 h3
/-- put down by both -/
theorem kk_downC {b : Int} {hc g gm g2 : mm_Id → Int → Int} {dh : Int → Int} (hW : kk_W b (kk_mix hc gm) dh) (c : kk_pdC hc g) (m : kk_pdM gm g2) (hg : ∀ x j, x.1 < 40 → g2 x j = g x j) : kk_core b g2 dh := by
  refine kk_downL hW (kk_pdCc (fun x j hx => kk_mixC hx) hg c) (kk_pdMc (fun k n k0 k1 n0 n1 => ?_) (fun x j hx => kk_mixM hx) m)
  have w := (hW.1.2.2.2.2.1 k n k0 (by omega) n0 n1).1
  unfold kk_mw at w ⊢
  rw [kk_mixM (by decide), kk_mixM (by decide), kk_mixM (by decide)] at w
  exact w
/-- an act, here and there -/
def kk_acC (t : Int) (a g : mm_Id → Int → Int) : Prop := (a (1, 0, 0) 13 + 1 < 100 ∧ g = mm_up (mm_up a (31, t, 0) 6 1) (1, 0, 0) 13 (a (1, 0, 0) 13 + 1)) ∨ (¬ a (1, 0, 0) 13 + 1 < 100 ∧ kk_pdC (mm_up (mm_up a (31, t, 0) 6 1) (1, 0, 0) 13 (a (1, 0, 0) 13 + 1)) g)
def kk_acM (a g : mm_Id → Int → Int) : Prop := (¬ a (40, 0, 0) 33 + 1 = 100 ∧ g = mm_up a (40, 0, 0) 33 (a (40, 0, 0) 33 + 1)) ∨ (a (40, 0, 0) 33 + 1 = 100 ∧ kk_pdM (mm_up a (40, 0, 0) 33 (a (40, 0, 0) 33 + 1)) g)
/-- the flag of a dataset that has changed, and what is put down of it, are nothing to the rest -/
theorem kk_actL {b t : Int} {hc g gm g2 Z : mm_Id → Int → Int} {dh : Int → Int} (hZ : Z = mm_up (kk_mix hc gm) (31, t, 0) 6 1) (hW : kk_W b Z dh) (hP : kk_KP Z) (c : kk_acC t hc g) (m : kk_acM gm g2) (hg : ∀ x j, x.1 < 40 → g2 x j = g x j) : kk_core b g2 dh := by
  have ha := hP.2.1
  have z1 : Z (1, 0, 0) 13 = hc (1, 0, 0) 13 := by rw [hZ, mm_upf (by decide), kk_mixC (by decide)]
  have z2 : Z (40, 0, 0) 33 = gm (40, 0, 0) 33 := by rw [hZ, mm_upf (by decide), kk_mixM (by decide)]
  rw [z1, z2] at ha
  have KG : ∀ u v, kk_KG (mm_up (mm_up Z (1, 0, 0) 13 u) (40, 0, 0) 33 v) := fun u v => by
    have kg := hW.2.2.2
    unfold kk_KG at kg ⊢
    simp only [mm_upf (show ¬ (5 : Nat) = 1 by decide), mm_upf (show ¬ (6 : Nat) = 1 by decide), mm_upf (show ¬ (14 : Nat) = 1 by decide), mm_upf (show ¬ (24 : Nat) = 1 by decide), mm_upf (show ¬ (40 : Nat) = 1 by decide), mm_upf (show ¬ (65 : Nat) = 1 by decide),
      mm_upf (show ¬ (1 : Nat) = 40 by decide), mm_upf (show ¬ (5 : Nat) = 40 by decide), mm_upf (show ¬ (6 : Nat) = 40 by decide), mm_upf (show ¬ (14 : Nat) = 40 by decide), mm_upf (show ¬ (24 : Nat) = 40 by decide), mm_upf (show ¬ (65 : Nat) = 40 by decide),
      mm_upj (show ¬ (12 : Int) = 13 by decide), mm_upj (show ¬ (9 : Int) = 13 by decide), mm_upj (show ¬ (29 : Int) = 33 by decide), mm_upj (show ¬ (30 : Int) = 33 by decide), mm_upj (show ¬ (34 : Int) = 33 by decide), mm_upj (show ¬ (1 : Int) = 33 by decide), mm_upj (show ¬ (35 : Int) = 33 by decide), mm_upj (show ¬ (36 : Int) = 33 by decide)]
    exact kg
  have W2 : ∀ u v, kk_W b (mm_up (mm_up Z (1, 0, 0) 13 u) (40, 0, 0) 33 v) dh := fun u v =>
    kk_WG (fun x j _ h2 h3 => by rw [mm_upne' h3, mm_upne' h2]) (KG u v) hW
  have mixE : ∀ u v, kk_mix (mm_up (mm_up hc (31, t, 0) 6 1) (1, 0, 0) 13 u) (mm_up gm (40, 0, 0) 33 v) = mm_up (mm_up Z (1, 0, 0) 13 u) (40, 0, 0) 33 v := fun u v => by
    subst hZ
    funext x j
    by_cases hx : x.1 < 40
    · rw [kk_mixC hx, mm_upne' (x := (40, 0, 0)) (by rintro ⟨q, _⟩; rw [q] at hx; simp at hx)]
      unfold mm_up
      rw [kk_mixC hx]
    · rw [kk_mixM (by omega)]
      have n1 : ¬ (x = (1, 0, 0) ∧ j = 13) := by rintro ⟨q, _⟩; rw [q] at hx; simp at hx
      have n2 : ¬ (x = (31, t, 0) ∧ j = 6) := by rintro ⟨q, _⟩; rw [q] at hx; simp at hx
      by_cases z : x = (40, 0, 0) ∧ j = 33
      · rw [z.1, z.2, mm_ups, mm_ups]
      · rw [mm_upne' z, mm_upne' z, mm_upne' n1, mm_upne' n2, kk_mixM (by omega)]
  rcases c with ⟨c1, c2⟩ | ⟨c1, c2⟩
  · rcases m with ⟨m1, m2⟩ | ⟨m1, m2⟩
    · have e : g2 = mm_up (mm_up Z (1, 0, 0) 13 (hc (1, 0, 0) 13 + 1)) (40, 0, 0) 33 (gm (40, 0, 0) 33 + 1) := by
        rw [← mixE]
        funext x j
        by_cases hx : x.1 < 40
        · rw [hg x j hx, kk_mixC hx, c2]
        · rw [kk_mixM (by omega), m2]
      rw [e]
      refine ⟨W2 _ _, ?_⟩
      have f : ∀ (f : Nat) t2 n2 j, f ≠ 1 → f ≠ 40 → mm_up (mm_up Z (1, 0, 0) 13 (hc (1, 0, 0) 13 + 1)) (40, 0, 0) 33 (gm (40, 0, 0) 33 + 1) (f, t2, n2) j = Z (f, t2, n2) j := fun f t2 n2 j a1 a2 => by
        rw [mm_upf a2, mm_upf a1]
      refine kk_KPc (h := Z) (fun t n t0 t1 n0 n1 => hW.1.2.1 t n (by unfold mm_isT; omega) n0 n1) (fun s n s0 s1 n0 n1 => hW.1.2.2.2.2.1 s n s0 s1 n0 n1) ?_ (fun s _ _ => ?_) (fun f1 k hf => ?_) (fun f1 t2 n2 j f0 f1' _ _ _ => f f1 t2 n2 j (by omega) (by omega)) (fun s x j s0 s1 hx => ?_) (fun _ _ _ _ _ _ _ _ _ _ _ _ _ => f 16 0 0 _ (by decide) (by decide)) (fun _ _ _ _ _ _ _ _ _ _ _ _ _ => f 54 0 0 _ (by decide) (by decide)) hP
      · rw [mm_upf (by decide), mm_ups, mm_ups]
        omega
      · unfold kk_no
        rw [f 31 _ _ _ (by decide) (by decide), f 33 _ _ _ (by decide) (by decide)]
      · refine f f1 0 0 k ?_ ?_
        · unfold kk_q4 at hf; omega
        · unfold kk_q4 at hf; omega
      · have r := kk_sxr hx
        rw [mm_upne' (by rintro ⟨q, _⟩; rw [q] at r; simp at r), mm_upne' (by rintro ⟨q, _⟩; rw [q] at r; simp at r)]
    · exact absurd m1 (by omega)
  · rcases m with ⟨m1, m2⟩ | ⟨m1, m2⟩
    · exact absurd m1 (by omega)
    · refine kk_downC (hc := mm_up (mm_up hc (31, t, 0) 6 1) (1, 0, 0) 13 (hc (1, 0, 0) 13 + 1)) (gm := mm_up gm (40, 0, 0) 33 (gm (40, 0, 0) 33 + 1)) ?_ c2 m2 hg
      rw [mixE]
      exact W2 _ _
section
variable {hi : mm_Id → Int → Int} {dh : Int → Int} {nx ns : Int} {Q : mm_V → mm_H → Prop}
theorem s64p (hx : 5275 ≤ nx) (hR : kk_R hi) (hw : ∀ t n, 0 ≤ t → t < 18 → 1 ≤ n → n < 37 → kk_nw hi t n) (ha : ∀ t, 13 ≤ t → t < 18 → hi (22, t, 0) 2 = 1)
    (K : ∀ h2, kk_pdC hi h2 → (∀ x j, 40 ≤ x.1 → h2 x j = hi x j) → (∀ x j, 8 ≤ x.1 → x.1 ≤ 13 → h2 x j = hi x j) → Q (zI (hi (1, 0, 0) 13)) (mm_z h2 dh nx ns)) : mm_Cl 64 [zR (1, 0, 0)] (mm_z hi dh nx ns) Q := by
  refine s64 hx hR hw ha (fun h2 k1 k2 k3 k4 k5 => K h2 ⟨k1, k2, k3, k4, fun x j _ a b c d => k5 x j a b c d⟩ (fun x j hx2 => k5 x j ?_ ?_ ?_ ?_) (fun x j q1 q2 => k5 x j ?_ ?_ ?_ ?_))
  · rintro (⟨q, _⟩ | q | q | q) <;> rw [q] at hx2 <;> simp at hx2
  · rintro ⟨i, _, _, q⟩; unfold kk_tr at q; omega
  · rintro ⟨i, _, q, _⟩; rw [q] at hx2; simp at hx2
  · rintro ⟨q, _⟩; rw [q] at hx2; simp at hx2
  · rintro (⟨q, _⟩ | q | q | q) <;> rw [q] at q2 <;> simp at q2
  · rintro ⟨i, _, _, q⟩; unfold kk_tr at q; omega
  · rintro ⟨i, _, q, _⟩; rw [q] at q2; simp at q2
  · rintro ⟨q, _⟩; rw [q] at q1; simp at q1
theorem s63 (hx : 5275 ≤ nx) {t : Int} (ht : mm_isD t) (hR : kk_R hi) (hw : ∀ t n, 0 ≤ t → t < 18 → 1 ≤ n → n < 37 → kk_nw hi t n) (ha : ∀ t, 13 ≤ t → t < 18 → hi (22, t, 0) 2 = 1) (h13 : 0 ≤ hi (1, 0, 0) 13 ∧ hi (1, 0, 0) 13 < 100)
    (K : ∀ h2, kk_acC t hi h2 → (∀ x j, 40 ≤ x.1 → h2 x j = hi x j) → (∀ x j, 8 ≤ x.1 → x.1 ≤ 13 → h2 x j = hi x j) → Q zU (mm_z h2 dh nx ns)) : mm_Cl 63 [zR (1, 0, 0), zR (31, t, 0)] (mm_z hi dh nx ns) Q := by
  have e : ∀ v x j, x.1 ≠ 1 → x.1 ≠ 31 → mm_up (mm_up hi (31, t, 0) 6 1) (1, 0, 0) 13 v x j = hi x j := fun v x j a1 a2 => by
    rw [mm_upne' (by rintro ⟨q, _⟩; exact a1 (by rw [q])), mm_upne' (by rintro ⟨q, _⟩; exact a2 (by rw [q]))]
  rw [r_63_e (htx1 := ht) (hx := hx), mm_ups, mm_upf (by decide), mm_wi (by omega) (by omega)]
  split
  · rename_i c
    rw [r_63_1 (hx := hx)]
    exact K _ (Or.inl ⟨c, rfl⟩) (fun x j q => e _ x j (by omega) (by omega)) (fun x j q1 q2 => e _ x j (by omega) (by omega))
  · rename_i c
    refine s64p hx (kk_Rcong (fun t n p => e _ _ _ (by simp) (by simp)) (e _ _ _ (by simp) (by simp)) (e _ _ _ (by simp) (by simp)) (fun r => e _ _ _ (by simp) (by simp)) (fun r => e _ _ _ (by simp) (by simp)) (fun r => e _ _ _ (by simp) (by simp)) hR) (fun t n t0 t1 n0 n1 => ?_) (fun t t0 t1 => ?_) (fun h2 k1 k2 k3 => ?_)
    · have q := hw t n t0 t1 n0 n1
      unfold kk_nw at q ⊢
      rw [e _ _ _ (by simp) (by simp), e _ _ _ (by simp) (by simp), e _ _ _ (by simp) (by simp), kk_nzc (g := hi (27, t, n)) (fun p _ _ => e _ _ _ (by simp) (by simp))]
      exact q
    · rw [e _ _ _ (by simp) (by simp)]; exact ha t t0 t1
    · rw [mm_pI, r_63_0_15 (hx := hx), r_63_1 (hx := hx)]
      exact K h2 (Or.inr ⟨c, k1⟩) (fun x j q => by rw [k2 x j q, e _ x j (by omega) (by omega)]) (fun x j q1 q2 => by rw [k3 x j q1 q2, e _ x j (by omega) (by omega)])
theorem m208p (hy : 10581 ≤ nx) (hh : ∀ k, 0 ≤ k → k < 13 → hi (60, 0, 0) k = 0 ∨ hi (60, 0, 0) k = 1) (hw : ∀ k n, 0 ≤ k → k < 13 → 1 ≤ n → n < 37 → kk_mw hi (36 * k + n - 1))
    (K : ∀ h2, kk_pdM hi h2 → (∀ x j, x.1 < 40 → h2 x j = hi x j) → (∀ x j, kk_scr x j → h2 x j = hi x j) → Q zU (mm_z h2 dh nx ns)) : mm_Cl 208 [zR (40, 0, 0)] (mm_z hi dh nx ns) Q := by
  refine m208 hy hh hw (fun h2 k1 k2 k3 k4 k5 => K h2 ⟨k1, k2, k3, k4, fun x j _ a b => k5 x j a b⟩ (fun x j hx2 => k5 x j (kk_dxN (by omega)) ?_) (fun x j hs => k5 x j (kk_dxN ?_) ?_))
  · rintro ⟨q, _⟩; rw [q] at hx2; simp at hx2
  · rcases hs with q | q | ⟨q, _⟩ | q
    · omega
    · omega
    · rw [q]; simp
    · omega
  · rintro ⟨q, q2⟩
    rcases hs with q3 | q3 | ⟨_, q3⟩ | q3
    · rw [q] at q3; simp at q3
    · rw [q] at q3; simp at q3
    · omega
    · rw [q] at q3; simp at q3
theorem m209 (hy : 10581 ≤ nx) (hh : ∀ k, 0 ≤ k → k < 13 → hi (60, 0, 0) k = 0 ∨ hi (60, 0, 0) k = 1) (hw : ∀ k n, 0 ≤ k → k < 13 → 1 ≤ n → n < 37 → kk_mw hi (36 * k + n - 1)) (h33 : 0 ≤ hi (40, 0, 0) 33 ∧ hi (40, 0, 0) 33 < 100)
    (K : ∀ h2, kk_acM hi h2 → (∀ x j, x.1 < 40 → h2 x j = hi x j) → (∀ x j, kk_scr x j → h2 x j = hi x j) → Q zU (mm_z h2 dh nx ns)) : mm_Cl 209 [zR (40, 0, 0)] (mm_z hi dh nx ns) Q := by
  have sc : ∀ v x j, kk_scr x j → mm_up hi (40, 0, 0) 33 v x j = hi x j := fun v x j hs => mm_upne' (by
    rintro ⟨q, q2⟩
    rcases hs with q3 | q3 | ⟨_, q3⟩ | q3
    · rw [q] at q3; simp at q3
    · rw [q] at q3; simp at q3
    · omega
    · rw [q] at q3; simp at q3)
  have cl : ∀ v x j, x.1 < 40 → mm_up hi (40, 0, 0) 33 v x j = hi x j := fun v x j hx => mm_upne' (by rintro ⟨q, _⟩; rw [q] at hx; simp at hx)
  rw [r_209_e (hy := hy), mm_ups, mm_wi (by omega) (by omega)]
  split
  · rename_i c
    refine m208p hy (fun k k0 k1 => ?_) (fun k n k0 k1 n0 n1 => ?_) (fun h2 k1 k2 k3 => ?_)
    · rw [mm_upf (by decide)]; exact hh k k0 k1
    · unfold kk_mw
      rw [mm_upf (by decide), mm_upf (by decide), mm_upf (by decide)]
      exact hw k n k0 k1 n0 n1
    · rw [mm_pU, r_209_0_12 (hy := hy), r_209_1 (hy := hy)]
      exact K h2 (Or.inr ⟨c, k1⟩) (fun x j q => by rw [k2 x j q, cl _ x j q]) (fun x j q => by rw [k3 x j q, sc _ x j q])
  · rename_i c
    rw [r_209_1 (hy := hy)]
    exact K _ (Or.inl ⟨c, rfl⟩) (fun x j q => cl _ x j q) (fun x j q => sc _ x j q)
end

