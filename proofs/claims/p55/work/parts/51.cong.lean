/-! what holds does not hang on what was thrown, nor on what is seen -/
theorem kk_msc {h h2 : mm_Id → Int → Int} {a b : Int} (e : ∀ (f : Nat), 41 ≤ f → f ≤ 53 → h2 (f, 0, 0) = h (f, 0, 0)) (hm : kk_ms h b h a) : kk_ms h2 b h2 a := by
  obtain ⟨a1, a2, a3, a4, a5⟩ := hm
  refine ⟨fun f hf => ?_, ?_, ?_, ?_, ?_⟩
  · have hf2 := hf
    unfold kk_mf at hf2
    rw [e f (by omega) (by omega)]; exact a1 f hf
  · rw [e 43 (by omega) (by omega)]; exact a2
  · rw [e 44 (by omega) (by omega), e 45 (by omega) (by omega), e 46 (by omega) (by omega)]; exact a3
  · rw [e 49 (by omega) (by omega), e 50 (by omega) (by omega), e 51 (by omega) (by omega)]; exact a4
  · rw [e 52 (by omega) (by omega)]; exact a5
/-- cells that only the rest speaks of -/
def kk_gx (x : mm_Id) (j : Int) : Prop := x = (1, 0, 0) ∧ (j = 9 ∨ j = 12) ∨ x.1 = 5 ∨ x.1 = 6 ∨ x.1 = 14 ∨ x.1 = 56 ∨ x.1 = 65 ∨ x.1 = 66 ∨ x = (40, 0, 0) ∧ (j = 0 ∨ j = 29 ∨ j = 30 ∨ j = 34 ∨ j = 35 ∨ j = 36)
theorem kk_coreG {b : Int} {h h2 : mm_Id → Int → Int} {dh : Int → Int} (e : ∀ x j, ¬ kk_gx x j → h2 x j = h x j) (kg2 : kk_KG h2) (hc : kk_core b h dh) : kk_core b h2 dh := by
  have eg : ∀ (f : Nat) t n, (f ≠ 1 ∧ f ≠ 5 ∧ f ≠ 6 ∧ f ≠ 14 ∧ f ≠ 56 ∧ f ≠ 65 ∧ f ≠ 66 ∧ f ≠ 40) → h2 (f, t, n) = h (f, t, n) := fun f t n h1 => by
    funext j
    refine e _ _ ?_
    unfold kk_gx
    rintro (⟨q, _⟩ | q | q | q | q | q | q | ⟨q, _⟩) <;> simp at q <;> omega
  have e1g : ∀ j, j = 10 ∨ j = 11 ∨ j = 13 → h2 (1, 0, 0) j = h (1, 0, 0) j := fun j hj => e _ _ (by
    unfold kk_gx
    rintro (⟨_, q⟩ | q | q | q | q | q | q | ⟨q, _⟩) <;> first | omega | simp at q)
  have e40 : ∀ j, j = 18 ∨ j = 24 ∨ j = 25 ∨ j = 33 → h2 (40, 0, 0) j = h (40, 0, 0) j := fun j hj => e _ _ (by
    unfold kk_gx
    rintro (⟨q, _⟩ | q | q | q | q | q | q | ⟨_, q⟩) <;> first | omega | simp at q)
  have e16 : ∀ t n, h2 (16, t, n) = h (16, t, n) := fun t n => eg 16 t n (by decide)
  have e22 : ∀ t n, h2 (22, t, n) = h (22, t, n) := fun t n => eg 22 t n (by decide)
  have e24 : ∀ t n, h2 (24, t, n) = h (24, t, n) := fun t n => eg 24 t n (by decide)
  have e25 : ∀ t n, h2 (25, t, n) = h (25, t, n) := fun t n => eg 25 t n (by decide)
  have e26 : ∀ t n, h2 (26, t, n) = h (26, t, n) := fun t n => eg 26 t n (by decide)
  have e27 : ∀ t n, h2 (27, t, n) = h (27, t, n) := fun t n => eg 27 t n (by decide)
  have e28 : ∀ t n, h2 (28, t, n) = h (28, t, n) := fun t n => eg 28 t n (by decide)
  have e29 : ∀ t n, h2 (29, t, n) = h (29, t, n) := fun t n => eg 29 t n (by decide)
  have e30 : ∀ t n, h2 (30, t, n) = h (30, t, n) := fun t n => eg 30 t n (by decide)
  have e31 : ∀ t n, h2 (31, t, n) = h (31, t, n) := fun t n => eg 31 t n (by decide)
  have e32 : ∀ t n, h2 (32, t, n) = h (32, t, n) := fun t n => eg 32 t n (by decide)
  have e33 : ∀ t n, h2 (33, t, n) = h (33, t, n) := fun t n => eg 33 t n (by decide)
  have e34 : ∀ t n, h2 (34, t, n) = h (34, t, n) := fun t n => eg 34 t n (by decide)
  have e35 : ∀ t n, h2 (35, t, n) = h (35, t, n) := fun t n => eg 35 t n (by decide)
  have e41 : ∀ t n, h2 (41, t, n) = h (41, t, n) := fun t n => eg 41 t n (by decide)
  have e42 : ∀ t n, h2 (42, t, n) = h (42, t, n) := fun t n => eg 42 t n (by decide)
  have e43 : ∀ t n, h2 (43, t, n) = h (43, t, n) := fun t n => eg 43 t n (by decide)
  have e44 : ∀ t n, h2 (44, t, n) = h (44, t, n) := fun t n => eg 44 t n (by decide)
  have e45 : ∀ t n, h2 (45, t, n) = h (45, t, n) := fun t n => eg 45 t n (by decide)
  have e46 : ∀ t n, h2 (46, t, n) = h (46, t, n) := fun t n => eg 46 t n (by decide)
  have e47 : ∀ t n, h2 (47, t, n) = h (47, t, n) := fun t n => eg 47 t n (by decide)
  have e48 : ∀ t n, h2 (48, t, n) = h (48, t, n) := fun t n => eg 48 t n (by decide)
  have e49 : ∀ t n, h2 (49, t, n) = h (49, t, n) := fun t n => eg 49 t n (by decide)
  have e50 : ∀ t n, h2 (50, t, n) = h (50, t, n) := fun t n => eg 50 t n (by decide)
  have e51 : ∀ t n, h2 (51, t, n) = h (51, t, n) := fun t n => eg 51 t n (by decide)
  have e52 : ∀ t n, h2 (52, t, n) = h (52, t, n) := fun t n => eg 52 t n (by decide)
  have e53 : ∀ t n, h2 (53, t, n) = h (53, t, n) := fun t n => eg 53 t n (by decide)
  have e54 : ∀ t n, h2 (54, t, n) = h (54, t, n) := fun t n => eg 54 t n (by decide)
  have e55 : ∀ t n, h2 (55, t, n) = h (55, t, n) := fun t n => eg 55 t n (by decide)
  have e57 : ∀ t n, h2 (57, t, n) = h (57, t, n) := fun t n => eg 57 t n (by decide)
  have e58 : ∀ t n, h2 (58, t, n) = h (58, t, n) := fun t n => eg 58 t n (by decide)
  have e59 : ∀ t n, h2 (59, t, n) = h (59, t, n) := fun t n => eg 59 t n (by decide)
  have e60 : ∀ t n, h2 (60, t, n) = h (60, t, n) := fun t n => eg 60 t n (by decide)
  have e61 : ∀ t n, h2 (61, t, n) = h (61, t, n) := fun t n => eg 61 t n (by decide)
  have e62 : ∀ t n, h2 (62, t, n) = h (62, t, n) := fun t n => eg 62 t n (by decide)
  have e63 : ∀ t n, h2 (63, t, n) = h (63, t, n) := fun t n => eg 63 t n (by decide)
  have e64 : ∀ t n, h2 (64, t, n) = h (64, t, n) := fun t n => eg 64 t n (by decide)
  have e15g := eg 15 0 0 (by decide)
  have e17g := eg 17 0 0 (by decide)
  have e18g := eg 18 0 0 (by decide)
  have e19g := eg 19 0 0 (by decide)
  have a10 := e1g 10 (by decide)
  have a11 := e1g 11 (by decide)
  have a13 := e1g 13 (by decide)
  have n18 := e40 18 (by decide)
  have n24 := e40 24 (by decide)
  have n25 := e40 25 (by decide)
  have n33 := e40 33 (by decide)
  have an : kk_any h2 = kk_any h := by funext b; simp only [kk_any, kk_bs, e41, e43]
  have bn : kk_bs h2 = kk_bs h := by funext s b; simp only [kk_bs, e41, e43]
  have ln : kk_lb h2 = kk_lb h := by funext s b; simp only [kk_lb, bn, e57]
  have no : kk_no h2 = kk_no h := by funext s; simp only [kk_no, e31, e33]
  obtain ⟨⟨⟨t1, t2, t3, t4, t5, t6, t7, t8, t9, t10, t11⟩, kb, ⟨d1, d2, d3, d4, d5, d6, d7, d8, d9, d10, d13, d14, d15, d17, d18, d19⟩, kg⟩, p1, p2, p3, p4, p5, p6, p7⟩ := hc
  refine ⟨⟨⟨?_, ?_, ?_, ?_, ?_, ?_, ?_, ?_, ?_, ?_, ?_⟩, ?_, ⟨d1, ?_, ?_, ?_, ?_, ?_, ?_, ?_, ?_, ?_, ?_, ?_, ?_, ?_, ?_, ?_⟩, ?_⟩, ?_, ?_, ?_, ?_, ?_, ?_, ?_⟩
  · simp only [kk_NR, e16, e22, e24, e25, e26, e27, e28, e29, e30, e31, e32, e33, e34, e35, e41, e42, e43, e44, e45, e46, e47, e48, e49, e50, e51, e52, e53, e54, e55, e57, e58, e59, e60, e61, e62, e63, e64]; exact t1
  · simp only [kk_NW, e16, e22, e24, e25, e26, e27, e28, e29, e30, e31, e32, e33, e34, e35, e41, e42, e43, e44, e45, e46, e47, e48, e49, e50, e51, e52, e53, e54, e55, e57, e58, e59, e60, e61, e62, e63, e64]; exact t2
  · simp only [kk_TW, kk_ec, kk_e1, e16, e22, e24, e25, e26, e27, e28, e29, e30, e31, e32, e33, e34, e35, e41, e42, e43, e44, e45, e46, e47, e48, e49, e50, e51, e52, e53, e54, e55, e57, e58, e59, e60, e61, e62, e63, e64]; exact t3
  · simp only [kk_SR, kk_ctn2, kk_ef, kk_ed, kk_NR, e16, e22, e24, e25, e26, e27, e28, e29, e30, e31, e32, e33, e34, e35, e41, e42, e43, e44, e45, e46, e47, e48, e49, e50, e51, e52, e53, e54, e55, e57, e58, e59, e60, e61, e62, e63, e64]; exact t4
  · simp only [kk_MW, kk_mw, e16, e22, e24, e25, e26, e27, e28, e29, e30, e31, e32, e33, e34, e35, e41, e42, e43, e44, e45, e46, e47, e48, e49, e50, e51, e52, e53, e54, e55, e57, e58, e59, e60, e61, e62, e63, e64]; exact t5
  · simp only [kk_PQ, e16, e22, e24, e25, e26, e27, e28, e29, e30, e31, e32, e33, e34, e35, e41, e42, e43, e44, e45, e46, e47, e48, e49, e50, e51, e52, e53, e54, e55, e57, e58, e59, e60, e61, e62, e63, e64]; exact t6
  · simp only [kk_DS, e16, e22, e24, e25, e26, e27, e28, e29, e30, e31, e32, e33, e34, e35, e41, e42, e43, e44, e45, e46, e47, e48, e49, e50, e51, e52, e53, e54, e55, e57, e58, e59, e60, e61, e62, e63, e64]; exact t7
  · exact kk_Rcong (fun t n p => by rw [e27]) (by rw [e15g]) (by rw [e15g]) (fun _ => by rw [e17g]) (fun _ => by rw [e18g]) (fun _ => by rw [e19g]) t8
  · simp only [e16, e22, e24, e25, e26, e27, e28, e29, e30, e31, e32, e33, e34, e35, e41, e42, e43, e44, e45, e46, e47, e48, e49, e50, e51, e52, e53, e54, e55, e57, e58, e59, e60, e61, e62, e63, e64]; exact t9
  · simp only [e16, e22, e24, e25, e26, e27, e28, e29, e30, e31, e32, e33, e34, e35, e41, e42, e43, e44, e45, e46, e47, e48, e49, e50, e51, e52, e53, e54, e55, e57, e58, e59, e60, e61, e62, e63, e64]; exact t10
  · simp only [e16, e22, e24, e25, e26, e27, e28, e29, e30, e31, e32, e33, e34, e35, e41, e42, e43, e44, e45, e46, e47, e48, e49, e50, e51, e52, e53, e54, e55, e57, e58, e59, e60, e61, e62, e63, e64]; exact t11
  · unfold kk_KB at kb ⊢; rw [an, bn, ln, no, n18, e55, e57, e59]; exact kb
  · rw [a10, n24]; exact d2
  · rw [a11, n25]; exact d3
  · unfold kk_N at d4 ⊢; rw [no, e57]; exact d4
  · rw [no, a10]; exact d5
  · rw [no, a11]; exact d6
  · rw [no]; simp only [e16, e22, e24, e25, e26, e27, e28, e29, e30, e31, e32, e33, e34, e35, e41, e42, e43, e44, e45, e46, e47, e48, e49, e50, e51, e52, e53, e54, e55, e57, e58, e59, e60, e61, e62, e63, e64]; exact d7
  · simp only [e16, e22, e24, e25, e26, e27, e28, e29, e30, e31, e32, e33, e34, e35, e41, e42, e43, e44, e45, e46, e47, e48, e49, e50, e51, e52, e53, e54, e55, e57, e58, e59, e60, e61, e62, e63, e64]; exact d8
  · rw [no]; simp only [e16, e22, e24, e25, e26, e27, e28, e29, e30, e31, e32, e33, e34, e35, e41, e42, e43, e44, e45, e46, e47, e48, e49, e50, e51, e52, e53, e54, e55, e57, e58, e59, e60, e61, e62, e63, e64]; exact d9
  · simp only [e16, e22, e24, e25, e26, e27, e28, e29, e30, e31, e32, e33, e34, e35, e41, e42, e43, e44, e45, e46, e47, e48, e49, e50, e51, e52, e53, e54, e55, e57, e58, e59, e60, e61, e62, e63, e64]; exact d10
  · rw [no]; simp only [e16, e22, e24, e25, e26, e27, e28, e29, e30, e31, e32, e33, e34, e35, e41, e42, e43, e44, e45, e46, e47, e48, e49, e50, e51, e52, e53, e54, e55, e57, e58, e59, e60, e61, e62, e63, e64]; exact d13
  · rw [no]; simp only [e16, e22, e24, e25, e26, e27, e28, e29, e30, e31, e32, e33, e34, e35, e41, e42, e43, e44, e45, e46, e47, e48, e49, e50, e51, e52, e53, e54, e55, e57, e58, e59, e60, e61, e62, e63, e64]; exact d14
  · simp only [kk_cpd, kk_sd, e16, e22, e24, e25, e26, e27, e28, e29, e30, e31, e32, e33, e34, e35, e41, e42, e43, e44, e45, e46, e47, e48, e49, e50, e51, e52, e53, e54, e55, e57, e58, e59, e60, e61, e62, e63, e64]; exact d15
  · rw [no]; simp only [e16, e22, e24, e25, e26, e27, e28, e29, e30, e31, e32, e33, e34, e35, e41, e42, e43, e44, e45, e46, e47, e48, e49, e50, e51, e52, e53, e54, e55, e57, e58, e59, e60, e61, e62, e63, e64]; exact d17
  · simp only [e16, e22, e24, e25, e26, e27, e28, e29, e30, e31, e32, e33, e34, e35, e41, e42, e43, e44, e45, e46, e47, e48, e49, e50, e51, e52, e53, e54, e55, e57, e58, e59, e60, e61, e62, e63, e64]; exact d18
  · simp only [e16, e22, e24, e25, e26, e27, e28, e29, e30, e31, e32, e33, e34, e35, e41, e42, e43, e44, e45, e46, e47, e48, e49, e50, e51, e52, e53, e54, e55, e57, e58, e59, e60, e61, e62, e63, e64]; exact d19
  · exact kg2
  · simp only [kk_NR, e16, e22, e24, e25, e26, e27, e28, e29, e30, e31, e32, e33, e34, e35, e41, e42, e43, e44, e45, e46, e47, e48, e49, e50, e51, e52, e53, e54, e55, e57, e58, e59, e60, e61, e62, e63, e64]; exact p1
  · rw [a13, n33]; exact p2
  · intro k f k1 k2 hf
    have hf2 := hf
    unfold kk_q4 at hf2
    rw [eg f 0 0 (by omega)]
    exact p3 k f k1 k2 hf
  · simp only [e16, e22, e24, e25, e26, e27, e28, e29, e30, e31, e32, e33, e34, e35, e41, e42, e43, e44, e45, e46, e47, e48, e49, e50, e51, e52, e53, e54, e55, e57, e58, e59, e60, e61, e62, e63, e64]; exact p4
  · rw [no]; simp only [e16, e22, e24, e25, e26, e27, e28, e29, e30, e31, e32, e33, e34, e35, e41, e42, e43, e44, e45, e46, e47, e48, e49, e50, e51, e52, e53, e54, e55, e57, e58, e59, e60, e61, e62, e63, e64]; exact p5
  · rw [no]; simp only [e16, e22, e24, e25, e26, e27, e28, e29, e30, e31, e32, e33, e34, e35, e41, e42, e43, e44, e45, e46, e47, e48, e49, e50, e51, e52, e53, e54, e55, e57, e58, e59, e60, e61, e62, e63, e64]; exact p6
  · exact fun j n j1 j2 n1 n2 => kk_msc (fun f f1 f2 => eg f 0 0 (by omega)) (p7 j n j1 j2 n1 n2)
theorem kk_KGC {h h2 : mm_Id → Int → Int} (e : ∀ x j, ¬ (x = (40, 0, 0) ∧ j = 0) → x ≠ (56, 0, 0) → h2 x j = h x j) (kg : kk_KG h) : kk_KG h2 := by
  have e1 : ∀ j, h2 (1, 0, 0) j = h (1, 0, 0) j := fun j => e _ _ (by simp) (by simp)
  have e5 : ∀ j, h2 (5, 0, 0) j = h (5, 0, 0) j := fun j => e _ _ (by simp) (by simp)
  have e6 : ∀ j, h2 (6, 0, 0) j = h (6, 0, 0) j := fun j => e _ _ (by simp) (by simp)
  have e14 : ∀ j, h2 (14, 0, 0) j = h (14, 0, 0) j := fun j => e _ _ (by simp) (by simp)
  have e65 : ∀ j, h2 (65, 0, 0) j = h (65, 0, 0) j := fun j => e _ _ (by simp) (by simp)
  have e24 : ∀ t n j, h2 (24, t, n) j = h (24, t, n) j := fun t n j => e _ _ (by simp) (by simp)
  have e40 : ∀ j, j ≠ 0 → h2 (40, 0, 0) j = h (40, 0, 0) j := fun j hj => e _ _ (fun q => hj q.2) (by simp)
  simp only [kk_KG, e1, e5, e6, e14, e24, e65, e40 1 (by decide), e40 29 (by decide), e40 30 (by decide), e40 34 (by decide), e40 35 (by decide), e40 36 (by decide)]
  exact kg
theorem kk_coreC {b : Int} {h h2 : mm_Id → Int → Int} {dh : Int → Int} (e : ∀ x j, ¬ (x = (40, 0, 0) ∧ j = 0) → x ≠ (56, 0, 0) → h2 x j = h x j) (hc : kk_core b h dh) : kk_core b h2 dh := by
  refine kk_coreG (fun x j hx => e x j (fun q => hx ?_) (fun q => hx ?_)) (kk_KGC e hc.1.2.2.2) hc
  · unfold kk_gx; exact Or.inr (Or.inr (Or.inr (Or.inr (Or.inr (Or.inr (Or.inr ⟨q.1, Or.inl q.2⟩))))))
  · unfold kk_gx; exact Or.inr (Or.inr (Or.inr (Or.inr (Or.inl (by rw [q])))))
theorem kk_coreS {b : Int} {h : mm_Id → Int → Int} {dh : Int → Int} (hb : b + 1 ≤ 1000000) (hc : kk_core b h dh) : kk_core (b + 1) h dh := by
  obtain ⟨⟨kt, kb, ⟨d1, d2, d3, d⟩, kg⟩, kp⟩ := hc
  exact ⟨⟨kt, kb, ⟨by omega, by omega, by omega, d⟩, kg⟩, kp⟩
theorem kk_nmW {b : Int} {h : mm_Id → Int → Int} {dh : Int → Int} (hc : kk_W b h dh) : kk_nm h := by
  obtain ⟨kt, kb, ⟨d1, d2, d3, d4, d5, d6, d⟩, kg⟩ := hc
  intro s s1 s2
  by_cases c : s < 5
  · have := d5 s s1 c; omega
  · have := d6 s (by omega) s2; omega
theorem kk_nmC {b : Int} {h : mm_Id → Int → Int} {dh : Int → Int} (hc : kk_core b h dh) : kk_nm h := kk_nmW hc.1
theorem kk_NC {b : Int} {h : mm_Id → Int → Int} {dh : Int → Int} (hc : kk_core b h dh) : kk_N h := hc.1.2.2.1.2.2.2.1
theorem kk_NRC {b : Int} {h : mm_Id → Int → Int} {dh : Int → Int} (hc : kk_core b h dh) {t n : Int} (ht : 0 ≤ t ∧ t < 18) (hn : 1 ≤ n ∧ n < 37) : kk_NR h t n := by
  by_cases c : t < 13
  · exact hc.1.1.1 t n ht.1 c hn.1 hn.2
  · exact hc.2.1 t n (by omega) ht.2 hn.1 hn.2
theorem kk_NWC {b : Int} {h : mm_Id → Int → Int} {dh : Int → Int} (hc : kk_core b h dh) {t n : Int} (ht : mm_isT t) (hn : 1 ≤ n ∧ n < 37) : kk_NW h t n := hc.1.1.2.1 t n ht hn.1 hn.2
theorem kk_TWC {b : Int} {h : mm_Id → Int → Int} {dh : Int → Int} (hc : kk_core b h dh) {t : Int} (ht : mm_isT t) : kk_TW h t := hc.1.1.2.2.1 t ht
theorem kk_MWC {b : Int} {h : mm_Id → Int → Int} {dh : Int → Int} (hc : kk_core b h dh) {s n : Int} (hs : 0 ≤ s ∧ s < 29) (hn : 1 ≤ n ∧ n < 37) : kk_MW h (36 * s + n - 1) := hc.1.1.2.2.2.2.1 s n hs.1 hs.2 hn.1 hn.2
theorem kk_brC {b : Int} {h : mm_Id → Int → Int} {dh : Int → Int} (hc : kk_core b h dh) {s : Int} (hs : 0 ≤ s ∧ s < 29) : kk_br h s := fun n p n1 n2 p1 p2 => ((kk_MWC hc hs ⟨n1, n2⟩).2.2.2 p p1 p2).1
theorem kk_cal {b : Int} {h : mm_Id → Int → Int} {dh : Int → Int} (hc : kk_core b h dh) : h (1, 0, 0) 12 = h (40, 0, 0) 29 ∧ 0 ≤ h (1, 0, 0) 12 ∧ h (1, 0, 0) 12 < 8 := hc.1.2.2.2.1
theorem mm_T13 {s : Int} (h : 0 ≤ s ∧ s < 13) : mm_isT s := Or.inl ⟨h.1, by omega⟩
theorem mm_T18 {s : Int} (h : 0 ≤ s ∧ s < 18) : mm_isT s := Or.inl h
/-- a node here is a node there -/
theorem kk_isn {b : Int} {h : mm_Id → Int → Int} {dh : Int → Int} (hc : kk_core b h dh) {s n : Int} (hs : 0 ≤ s ∧ s < 13) : ((1 ≤ n ∧ n < 37) ∧ h (24, s, n) 0 ≠ 0) ↔ ((1 ≤ n ∧ n < 37) ∧ 0 < h (41, 0, 0) (36 * s + n - 1)) := by
  constructor
  · rintro ⟨h1, h2⟩
    have q := (kk_NRC hc (t := s) (n := n) (by omega) h1).1
    have q2 := (kk_NWC hc (mm_T13 hs) h1).1
    exact ⟨h1, by omega⟩
  · rintro ⟨h1, h2⟩
    have q := (kk_NRC hc (t := s) (n := n) (by omega) h1).1
    exact ⟨h1, by omega⟩

