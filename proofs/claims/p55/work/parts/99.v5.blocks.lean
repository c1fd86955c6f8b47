/-! only bytes of blocks that no piece has, and what is told of blocks, have changed -/
theorem kk_coreN {b : Int} {h h2 : mm_Id → Int → Int} {dh : Int → Int} (hc : kk_core b h dh) (e : ∀ (x : mm_Id) j, x.1 ≠ 54 → x.1 ≠ 55 → x.1 ≠ 56 → ¬ (x = (40, 0, 0) ∧ (j = 0 ∨ j = 18)) → h2 x j = h x j) (n54 : ∀ c k, kk_any h c → 1 ≤ c → c ≤ 3000 → 0 ≤ k → k < 60 → h2 (54, 0, 0) (60 * c + k) = h (54, 0, 0) (60 * c + k)) (b1 : ∀ c, 1 ≤ c → c ≤ 3000 → kk_any h c → h2 (55, 0, 0) c ≠ 0) (b2 : 0 ≤ h2 (40, 0, 0) 18 ∧ h2 (40, 0, 0) 18 ≤ 3000) : kk_core b h2 dh := by
  have eg : ∀ (f : Nat) t n, (f ≠ 54 ∧ f ≠ 55 ∧ f ≠ 56 ∧ f ≠ 40) → h2 (f, t, n) = h (f, t, n) := fun f t n h1 => by
    funext j
    exact e _ _ h1.1 h1.2.1 h1.2.2.1 (by rintro ⟨q, _⟩; simp at q; omega)
  have e40 : ∀ j, j ≠ 0 → j ≠ 18 → h2 (40, 0, 0) j = h (40, 0, 0) j := fun j j0 j1 => e _ _ (by decide) (by decide) (by decide) (by rintro ⟨_, q⟩; omega)
  have hc2 := hc
  have e16 : ∀ t n, h2 (16, t, n) = h (16, t, n) := fun t n => eg 16 t n (by decide)
  have e22 : ∀ t n, h2 (22, t, n) = h (22, t, n) := fun t n => eg 22 t n (by decide)
  have e24 : ∀ t n, h2 (24, t, n) = h (24, t, n) := fun t n => eg 24 t n (by decide)
  have e25 : ∀ t n, h2 (25, t, n) = h (25, t, n) := fun t n => eg 25 t n (by decide)
  have e26 : ∀ t n, h2 (26, t, n) = h (26, t, n) := fun t n => eg 26 t n (by decide)
  have e27 : ∀ t n, h2 (27, t, n) = h (27, t, n) := fun t n => eg 27 t n (by decide)
  have e28 : ∀ t n, h2 (28, t, n) = h (28, t, n) := fun t n => eg 28 t n (by decide)
  have e29 : ∀ t n, h2 (29, t, n) = h (29, t, n) := fun t n => eg 29 t n (by decide)
  have e30 : ∀ t n, h2 (30, t, n) = h (30, t, n) := fun t n => eg 30 t n (by decide)
  have e31 : ∀ t n, h2 (31, t, n) = h (31, t, n) := fun t n => eg 31 t n (by decide)
  have e32 : ∀ t n, h2 (32, t, n) = h (32, t, n) := fun t n => eg 32 t n (by decide)
  have e33 : ∀ t n, h2 (33, t, n) = h (33, t, n) := fun t n => eg 33 t n (by decide)
  have e34 : ∀ t n, h2 (34, t, n) = h (34, t, n) := fun t n => eg 34 t n (by decide)
  have e35 : ∀ t n, h2 (35, t, n) = h (35, t, n) := fun t n => eg 35 t n (by decide)
  have e41 : ∀ t n, h2 (41, t, n) = h (41, t, n) := fun t n => eg 41 t n (by decide)
  have e42 : ∀ t n, h2 (42, t, n) = h (42, t, n) := fun t n => eg 42 t n (by decide)
  have e43 : ∀ t n, h2 (43, t, n) = h (43, t, n) := fun t n => eg 43 t n (by decide)
  have e44 : ∀ t n, h2 (44, t, n) = h (44, t, n) := fun t n => eg 44 t n (by decide)
  have e45 : ∀ t n, h2 (45, t, n) = h (45, t, n) := fun t n => eg 45 t n (by decide)
  have e46 : ∀ t n, h2 (46, t, n) = h (46, t, n) := fun t n => eg 46 t n (by decide)
  have e47 : ∀ t n, h2 (47, t, n) = h (47, t, n) := fun t n => eg 47 t n (by decide)
  have e48 : ∀ t n, h2 (48, t, n) = h (48, t, n) := fun t n => eg 48 t n (by decide)
  have e49 : ∀ t n, h2 (49, t, n) = h (49, t, n) := fun t n => eg 49 t n (by decide)
  have e50 : ∀ t n, h2 (50, t, n) = h (50, t, n) := fun t n => eg 50 t n (by decide)
  have e51 : ∀ t n, h2 (51, t, n) = h (51, t, n) := fun t n => eg 51 t n (by decide)
  have e52 : ∀ t n, h2 (52, t, n) = h (52, t, n) := fun t n => eg 52 t n (by decide)
  have e53 : ∀ t n, h2 (53, t, n) = h (53, t, n) := fun t n => eg 53 t n (by decide)
  have e57 : ∀ t n, h2 (57, t, n) = h (57, t, n) := fun t n => eg 57 t n (by decide)
  have e58 : ∀ t n, h2 (58, t, n) = h (58, t, n) := fun t n => eg 58 t n (by decide)
  have e59 : ∀ t n, h2 (59, t, n) = h (59, t, n) := fun t n => eg 59 t n (by decide)
  have e60 : ∀ t n, h2 (60, t, n) = h (60, t, n) := fun t n => eg 60 t n (by decide)
  have e61 : ∀ t n, h2 (61, t, n) = h (61, t, n) := fun t n => eg 61 t n (by decide)
  have e62 : ∀ t n, h2 (62, t, n) = h (62, t, n) := fun t n => eg 62 t n (by decide)
  have e63 : ∀ t n, h2 (63, t, n) = h (63, t, n) := fun t n => eg 63 t n (by decide)
  have e64 : ∀ t n, h2 (64, t, n) = h (64, t, n) := fun t n => eg 64 t n (by decide)
  have e15g := eg 15 0 0 (by decide)
  have e17g := eg 17 0 0 (by decide)
  have e18g := eg 18 0 0 (by decide)
  have e19g := eg 19 0 0 (by decide)
  have e1g := eg 1 0 0 (by decide)
  have n24 := e40 24 (by decide) (by decide)
  have n25 := e40 25 (by decide) (by decide)
  have n33 := e40 33 (by decide) (by decide)
  have an : kk_any h2 = kk_any h := by funext b; simp only [kk_any, kk_bs, e41, e43]
  have bn : kk_bs h2 = kk_bs h := by funext s b; simp only [kk_bs, e41, e43]
  have ln : kk_lb h2 = kk_lb h := by funext s b; simp only [kk_lb, bn, e57]
  have no : kk_no h2 = kk_no h := by funext s; simp only [kk_no, e31, e33]
  have NRg : ∀ t n, mm_isT t → 1 ≤ n → n < 37 → kk_NR h t n → kk_NR h2 t n := fun t n hT n0 n1 N => by
    obtain ⟨r1, r2, r3, r4, r5, r6, r7, r8⟩ := N
    simp only [kk_NR, e16, e22, e24, e25, e26, e27, e28, e29, e30, e31, e32, e33, e34, e35, e41, e42, e43, e44, e45, e46, e47, e48, e49, e50, e51, e52, e53, e57, e58, e59, e60, e61, e62, e63, e64]
    refine ⟨r1, r2, r3, r4, r5, r6, r7, fun p p0 p1 => ⟨(r8 p p0 p1).1, fun z i i0 i1 => ?_⟩⟩
    have w := kk_rcT hc2 hT ⟨n0, n1⟩ ⟨p0, p1⟩ z
    have t28 : 0 ≤ t ∧ t < 28 := by unfold mm_isT at hT; omega
    have br := kk_brC hc2 (s := t) ⟨t28.1, by omega⟩ n p n0 n1 p0 p1
    rw [n54 _ i ⟨t, by omega, n, p, ⟨n0, n1⟩, ⟨p0, p1⟩, w.1, rfl⟩ (by omega) br.2 i0 i1]
    exact (r8 p p0 p1).2 z i i0 i1
  have ctn : ∀ t n, kk_ctn2 h2 t n ↔ kk_ctn2 h t n := fun t n => by simp only [kk_ctn2, kk_ef, kk_ed, e16, e22, e24, e25, e26, e27, e28, e29, e30, e31, e32, e33, e34, e35, e41, e42, e43, e44, e45, e46, e47, e48, e49, e50, e51, e52, e53, e57, e58, e59, e60, e61, e62, e63, e64]
  obtain ⟨⟨⟨t1, t2, t3, t4, t5, t6, t7, t8, t9, t10, t11⟩, kb, ⟨d1, d2, d3, d4, d5, d6, d7, d8, d9, d10, d13, d14, d15, d17, d18, d19⟩, kg⟩, p1, p2, p3, p4, p5, p6, p7⟩ := hc
  refine ⟨⟨⟨?_, ?_, ?_, ?_, ?_, ?_, ?_, ?_, ?_, ?_, ?_⟩, ?_, ⟨d1, ?_, ?_, ?_, ?_, ?_, ?_, ?_, ?_, ?_, ?_, ?_, ?_, ?_, ?_, ?_⟩, ?_⟩, ?_, ?_, ?_, ?_, ?_, ?_, ?_⟩
  · exact fun t n t0 t1' n0 n1 => NRg t n (mm_T13 ⟨t0, t1'⟩) n0 n1 (t1 t n t0 t1' n0 n1)
  · simp only [kk_NW, e16, e22, e24, e25, e26, e27, e28, e29, e30, e31, e32, e33, e34, e35, e41, e42, e43, e44, e45, e46, e47, e48, e49, e50, e51, e52, e53, e57, e58, e59, e60, e61, e62, e63, e64]; exact t2
  · simp only [kk_TW, kk_ec, kk_e1, e16, e22, e24, e25, e26, e27, e28, e29, e30, e31, e32, e33, e34, e35, e41, e42, e43, e44, e45, e46, e47, e48, e49, e50, e51, e52, e53, e57, e58, e59, e60, e61, e62, e63, e64]; exact t3
  · intro t ht n n0 n1
    rw [ctn, e24]
    exact ⟨fun q => NRg t n (by unfold mm_isT; omega) n0 n1 ((t4 t ht n n0 n1).1 q), (t4 t ht n n0 n1).2⟩
  · simp only [kk_MW, kk_mw, e16, e22, e24, e25, e26, e27, e28, e29, e30, e31, e32, e33, e34, e35, e41, e42, e43, e44, e45, e46, e47, e48, e49, e50, e51, e52, e53, e57, e58, e59, e60, e61, e62, e63, e64]; exact t5
  · simp only [kk_PQ, e16, e22, e24, e25, e26, e27, e28, e29, e30, e31, e32, e33, e34, e35, e41, e42, e43, e44, e45, e46, e47, e48, e49, e50, e51, e52, e53, e57, e58, e59, e60, e61, e62, e63, e64]; exact t6
  · simp only [kk_DS, e16, e22, e24, e25, e26, e27, e28, e29, e30, e31, e32, e33, e34, e35, e41, e42, e43, e44, e45, e46, e47, e48, e49, e50, e51, e52, e53, e57, e58, e59, e60, e61, e62, e63, e64]; exact t7
  · exact kk_Rcong (fun t n p => by rw [e27]) (by rw [e15g]) (by rw [e15g]) (fun _ => by rw [e17g]) (fun _ => by rw [e18g]) (fun _ => by rw [e19g]) t8
  · simp only [e16, e22, e24, e25, e26, e27, e28, e29, e30, e31, e32, e33, e34, e35, e41, e42, e43, e44, e45, e46, e47, e48, e49, e50, e51, e52, e53, e57, e58, e59, e60, e61, e62, e63, e64]; exact t9
  · simp only [e16, e22, e24, e25, e26, e27, e28, e29, e30, e31, e32, e33, e34, e35, e41, e42, e43, e44, e45, e46, e47, e48, e49, e50, e51, e52, e53, e57, e58, e59, e60, e61, e62, e63, e64]; exact t10
  · simp only [e16, e22, e24, e25, e26, e27, e28, e29, e30, e31, e32, e33, e34, e35, e41, e42, e43, e44, e45, e46, e47, e48, e49, e50, e51, e52, e53, e57, e58, e59, e60, e61, e62, e63, e64]; exact t11
  · obtain ⟨_, _, kb⟩ := kb
    unfold kk_KB
    rw [an, bn, ln, no, e57, e59]
    exact ⟨b1, b2, kb⟩
  · rw [e1g, n24]; exact d2
  · rw [e1g, n25]; exact d3
  · unfold kk_N at d4 ⊢; rw [no, e57]; exact d4
  · rw [no, e1g]; exact d5
  · rw [no, e1g]; exact d6
  · rw [no]; simp only [e16, e22, e24, e25, e26, e27, e28, e29, e30, e31, e32, e33, e34, e35, e41, e42, e43, e44, e45, e46, e47, e48, e49, e50, e51, e52, e53, e57, e58, e59, e60, e61, e62, e63, e64]; exact d7
  · simp only [e16, e22, e24, e25, e26, e27, e28, e29, e30, e31, e32, e33, e34, e35, e41, e42, e43, e44, e45, e46, e47, e48, e49, e50, e51, e52, e53, e57, e58, e59, e60, e61, e62, e63, e64]; exact d8
  · rw [no]; simp only [e16, e22, e24, e25, e26, e27, e28, e29, e30, e31, e32, e33, e34, e35, e41, e42, e43, e44, e45, e46, e47, e48, e49, e50, e51, e52, e53, e57, e58, e59, e60, e61, e62, e63, e64]; exact d9
  · simp only [e16, e22, e24, e25, e26, e27, e28, e29, e30, e31, e32, e33, e34, e35, e41, e42, e43, e44, e45, e46, e47, e48, e49, e50, e51, e52, e53, e57, e58, e59, e60, e61, e62, e63, e64]; exact d10
  · rw [no]; simp only [e16, e22, e24, e25, e26, e27, e28, e29, e30, e31, e32, e33, e34, e35, e41, e42, e43, e44, e45, e46, e47, e48, e49, e50, e51, e52, e53, e57, e58, e59, e60, e61, e62, e63, e64]; exact d13
  · rw [no]; simp only [e16, e22, e24, e25, e26, e27, e28, e29, e30, e31, e32, e33, e34, e35, e41, e42, e43, e44, e45, e46, e47, e48, e49, e50, e51, e52, e53, e57, e58, e59, e60, e61, e62, e63, e64]; exact d14
  · simp only [kk_cpd, kk_sd, e16, e22, e24, e25, e26, e27, e28, e29, e30, e31, e32, e33, e34, e35, e41, e42, e43, e44, e45, e46, e47, e48, e49, e50, e51, e52, e53, e57, e58, e59, e60, e61, e62, e63, e64]; exact d15
  · rw [no]; simp only [e16, e22, e24, e25, e26, e27, e28, e29, e30, e31, e32, e33, e34, e35, e41, e42, e43, e44, e45, e46, e47, e48, e49, e50, e51, e52, e53, e57, e58, e59, e60, e61, e62, e63, e64]; exact d17
  · simp only [e16, e22, e24, e25, e26, e27, e28, e29, e30, e31, e32, e33, e34, e35, e41, e42, e43, e44, e45, e46, e47, e48, e49, e50, e51, e52, e53, e57, e58, e59, e60, e61, e62, e63, e64]; exact d18
  · simp only [e16, e22, e24, e25, e26, e27, e28, e29, e30, e31, e32, e33, e34, e35, e41, e42, e43, e44, e45, e46, e47, e48, e49, e50, e51, e52, e53, e57, e58, e59, e60, e61, e62, e63, e64]; exact d19
  · refine kk_KGe (fun x j hx => ?_) kg
    rcases hx with ⟨q, q2⟩ | q | q | q | q | ⟨q, q2⟩ | q
    · rw [q]; exact e _ _ (by simp) (by simp) (by simp) (by simp)
    · exact e _ _ (by omega) (by omega) (by omega) (by rintro ⟨v, _⟩; rw [v] at q; simp at q)
    · exact e _ _ (by omega) (by omega) (by omega) (by rintro ⟨v, _⟩; rw [v] at q; simp at q)
    · exact e _ _ (by omega) (by omega) (by omega) (by rintro ⟨v, _⟩; rw [v] at q; simp at q)
    · exact e _ _ (by omega) (by omega) (by omega) (by rintro ⟨v, _⟩; rw [v] at q; simp at q)
    · rw [q]; exact e40 j (by omega) (by omega)
    · exact e _ _ (by omega) (by omega) (by omega) (by rintro ⟨v, _⟩; rw [v] at q; simp at q)
  · exact fun t n t0 t1' n0 n1 => NRg t n (mm_T18 ⟨by omega, t1'⟩) n0 n1 (p1 t n t0 t1' n0 n1)
  · rw [e1g, n33]; exact p2
  · intro k f k1 k2 hf
    have hf2 := hf
    unfold kk_q4 at hf2
    rw [eg f 0 0 (by omega)]
    exact p3 k f k1 k2 hf
  · simp only [e16, e22, e24, e25, e26, e27, e28, e29, e30, e31, e32, e33, e34, e35, e41, e42, e43, e44, e45, e46, e47, e48, e49, e50, e51, e52, e53, e57, e58, e59, e60, e61, e62, e63, e64]; exact p4
  · rw [no]; simp only [e16, e22, e24, e25, e26, e27, e28, e29, e30, e31, e32, e33, e34, e35, e41, e42, e43, e44, e45, e46, e47, e48, e49, e50, e51, e52, e53, e57, e58, e59, e60, e61, e62, e63, e64]; exact p5
  · rw [no]; simp only [e16, e22, e24, e25, e26, e27, e28, e29, e30, e31, e32, e33, e34, e35, e41, e42, e43, e44, e45, e46, e47, e48, e49, e50, e51, e52, e53, e57, e58, e59, e60, e61, e62, e63, e64]; exact p6
  · exact fun j n j1 j2 n1 n2 => kk_msc (fun f f1 f2 => eg f 0 0 (by omega)) (p7 j n j1 j2 n1 n2)

