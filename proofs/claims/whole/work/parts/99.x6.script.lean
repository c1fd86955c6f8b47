/-! scripts: nothing but scripts' cells; end, out, line -/
theorem kk_coreR {b : Int} {h h2 : mm_Id → Int → Int} {dh : Int → Int} (e : ∀ x j, ¬ kk_scr x j → ¬ (x = (40, 0, 0) ∧ j = 0) → h2 x j = h x j) (hc : kk_core b h dh) : kk_core b h2 dh := by
  have eg : ∀ (f : Nat) t n, ((f < 8 ∨ 13 < f) ∧ (f < 67 ∨ 70 < f) ∧ f < 90 ∧ f ≠ 40) → h2 (f, t, n) = h (f, t, n) := fun f t n h1 => by
    funext j
    refine e _ _ (fun q => ?_) (by rintro ⟨q, _⟩; simp at q; omega)
    unfold kk_scr at q
    rcases q with q | q | ⟨q, _⟩ | q <;> simp at q <;> omega
  have e40 : ∀ j, ¬ (j = 0 ∨ 37 ≤ j ∧ j ≤ 46) → h2 (40, 0, 0) j = h (40, 0, 0) j := fun j hj => e _ _ (fun q => by
    unfold kk_scr at q
    rcases q with q | q | ⟨_, q⟩ | q <;> first | omega | (simp at q; done) | (simp at q)) (fun q => hj (Or.inl q.2))
  have kg2 : kk_KG h2 := by
    refine kk_KGe (fun x j hx => ?_) hc.1.2.2.2
    obtain ⟨f, a, c⟩ := x
    rcases hx with ⟨q, q2⟩ | q | q | q | q | ⟨q, q2⟩ | ⟨q, q2⟩
    · rw [q, eg 1 0 0 (by omega)]
    · simp at q; rw [eg f a c (by omega)]
    · simp at q; rw [eg f a c (by omega)]
    · simp at q; rw [eg f a c (by omega)]
    · simp at q; rw [eg f a c (by omega)]
    · rw [q]; exact e40 j (by omega)
    · simp at q; rw [eg f a c (by omega)]
  have e1g := fun j => congrFun (eg 1 0 0 (by decide)) j
  have e16 : ∀ t n, h2 (16, t, n) = h (16, t, n) := fun t n => eg 16 t n (by decide)
  have e22 : ∀ t n, h2 (22, t, n) = h (22, t, n) := fun t n => eg 22 t n (by decide)
  have e24 : ∀ t n, h2 (24, t, n) = h (24, t, n) := fun t n => eg 24 t n (by decide)
  have e25 : ∀ t n, h2 (25, t, n) = h (25, t, n) := fun t n => eg 25 t n (by decide)
  have e26 : ∀ t n, h2 (26, t, n) = h (26, t, n) := fun t n => eg 26 t n (by decide)
  have e27 : ∀ t n, h2 (27, t, n) = h (27, t, n) := fun t n => eg 27 t n (by decide)
  have e28 : ∀ t n, h2 (28, t, n) = h (28, t, n) := fun t n => eg 28 t n (by decide)
  have e29 : ∀ t n, h2 (29, t, n) = h (29, t, n) := fun t n => eg 29 t n (by decide)
  have e30 : ∀ t n, h2 (30, t, n) = h (30, t, n) := fun t n => eg 30 t n (by decide)
  have e31 : ∀ t n, h2 (31, t, n) = h (31, t, n) := fun t n => eg 31 t n (by decide)
  have e32 : ∀ t n, h2 (32, t, n) = h (32, t, n) := fun t n => eg 32 t n (by decide)
  have e33 : ∀ t n, h2 (33, t, n) = h (33, t, n) := fun t n => eg 33 t n (by decide)
  have e34 : ∀ t n, h2 (34, t, n) = h (34, t, n) := fun t n => eg 34 t n (by decide)
  have e35 : ∀ t n, h2 (35, t, n) = h (35, t, n) := fun t n => eg 35 t n (by decide)
  have e41 : ∀ t n, h2 (41, t, n) = h (41, t, n) := fun t n => eg 41 t n (by decide)
  have e42 : ∀ t n, h2 (42, t, n) = h (42, t, n) := fun t n => eg 42 t n (by decide)
  have e43 : ∀ t n, h2 (43, t, n) = h (43, t, n) := fun t n => eg 43 t n (by decide)
  have e44 : ∀ t n, h2 (44, t, n) = h (44, t, n) := fun t n => eg 44 t n (by decide)
  have e45 : ∀ t n, h2 (45, t, n) = h (45, t, n) := fun t n => eg 45 t n (by decide)
  have e46 : ∀ t n, h2 (46, t, n) = h (46, t, n) := fun t n => eg 46 t n (by decide)
  have e47 : ∀ t n, h2 (47, t, n) = h (47, t, n) := fun t n => eg 47 t n (by decide)
  have e48 : ∀ t n, h2 (48, t, n) = h (48, t, n) := fun t n => eg 48 t n (by decide)
  have e49 : ∀ t n, h2 (49, t, n) = h (49, t, n) := fun t n => eg 49 t n (by decide)
  have e50 : ∀ t n, h2 (50, t, n) = h (50, t, n) := fun t n => eg 50 t n (by decide)
  have e51 : ∀ t n, h2 (51, t, n) = h (51, t, n) := fun t n => eg 51 t n (by decide)
  have e52 : ∀ t n, h2 (52, t, n) = h (52, t, n) := fun t n => eg 52 t n (by decide)
  have e53 : ∀ t n, h2 (53, t, n) = h (53, t, n) := fun t n => eg 53 t n (by decide)
  have e54 : ∀ t n, h2 (54, t, n) = h (54, t, n) := fun t n => eg 54 t n (by decide)
  have e55 : ∀ t n, h2 (55, t, n) = h (55, t, n) := fun t n => eg 55 t n (by decide)
  have e57 : ∀ t n, h2 (57, t, n) = h (57, t, n) := fun t n => eg 57 t n (by decide)
  have e58 : ∀ t n, h2 (58, t, n) = h (58, t, n) := fun t n => eg 58 t n (by decide)
  have e59 : ∀ t n, h2 (59, t, n) = h (59, t, n) := fun t n => eg 59 t n (by decide)
  have e60 : ∀ t n, h2 (60, t, n) = h (60, t, n) := fun t n => eg 60 t n (by decide)
  have e61 : ∀ t n, h2 (61, t, n) = h (61, t, n) := fun t n => eg 61 t n (by decide)
  have e62 : ∀ t n, h2 (62, t, n) = h (62, t, n) := fun t n => eg 62 t n (by decide)
  have e63 : ∀ t n, h2 (63, t, n) = h (63, t, n) := fun t n => eg 63 t n (by decide)
  have e64 : ∀ t n, h2 (64, t, n) = h (64, t, n) := fun t n => eg 64 t n (by decide)
  have e15g := eg 15 0 0 (by decide)
  have e17g := eg 17 0 0 (by decide)
  have e18g := eg 18 0 0 (by decide)
  have e19g := eg 19 0 0 (by decide)
  have a10 := e1g 10
  have a11 := e1g 11
  have a13 := e1g 13
  have n18 := e40 18 (by decide)
  have n24 := e40 24 (by decide)
  have n25 := e40 25 (by decide)
  have n33 := e40 33 (by decide)
  have an : kk_any h2 = kk_any h := by funext b; simp only [kk_any, kk_bs, e41, e43]
  have bn : kk_bs h2 = kk_bs h := by funext s b; simp only [kk_bs, e41, e43]
  have ln : kk_lb h2 = kk_lb h := by funext s b; simp only [kk_lb, bn, e57]
  have no : kk_no h2 = kk_no h := by funext s; simp only [kk_no, e31, e33]
  obtain ⟨⟨⟨t1, t2, t3, t4, t5, t6, t7, t8, t9, t10, t11⟩, kb, ⟨d1, d2, d3, d4, d5, d6, d7, d8, d9, d10, d13, d14, d15, d17, d18, d19⟩, kg⟩, p1, p2, p3, p4, p5, p6, p7⟩ := hc
  refine ⟨⟨⟨?_, ?_, ?_, ?_, ?_, ?_, ?_, ?_, ?_, ?_, ?_⟩, ?_, ⟨d1, ?_, ?_, ?_, ?_, ?_, ?_, ?_, ?_, ?_, ?_, ?_, ?_, ?_, ?_, ?_⟩, ?_⟩, ?_, ?_, ?_, ?_, ?_, ?_, ?_⟩
  · simp only [kk_NR, e16, e22, e24, e25, e26, e27, e28, e29, e30, e31, e32, e33, e34, e35, e41, e42, e43, e44, e45, e46, e47, e48, e49, e50, e51, e52, e53, e54, e55, e57, e58, e59, e60, e61, e62, e63, e64]; exact t1
  · simp only [kk_NW, e16, e22, e24, e25, e26, e27, e28, e29, e30, e31, e32, e33, e34, e35, e41, e42, e43, e44, e45, e46, e47, e48, e49, e50, e51, e52, e53, e54, e55, e57, e58, e59, e60, e61, e62, e63, e64]; exact t2
  · simp only [kk_TW, kk_ec, kk_e1, e16, e22, e24, e25, e26, e27, e28, e29, e30, e31, e32, e33, e34, e35, e41, e42, e43, e44, e45, e46, e47, e48, e49, e50, e51, e52, e53, e54, e55, e57, e58, e59, e60, e61, e62, e63, e64]; exact t3
  · simp only [kk_SR, kk_ctn2, kk_ef, kk_ed, kk_NR, e16, e22, e24, e25, e26, e27, e28, e29, e30, e31, e32, e33, e34, e35, e41, e42, e43, e44, e45, e46, e47, e48, e49, e50, e51, e52, e53, e54, e55, e57, e58, e59, e60, e61, e62, e63, e64]; exact t4
  · simp only [kk_MW, kk_mw, e16, e22, e24, e25, e26, e27, e28, e29, e30, e31, e32, e33, e34, e35, e41, e42, e43, e44, e45, e46, e47, e48, e49, e50, e51, e52, e53, e54, e55, e57, e58, e59, e60, e61, e62, e63, e64]; exact t5
  · simp only [kk_PQ, e16, e22, e24, e25, e26, e27, e28, e29, e30, e31, e32, e33, e34, e35, e41, e42, e43, e44, e45, e46, e47, e48, e49, e50, e51, e52, e53, e54, e55, e57, e58, e59, e60, e61, e62, e63, e64]; exact t6
  · simp only [kk_DS, e16, e22, e24, e25, e26, e27, e28, e29, e30, e31, e32, e33, e34, e35, e41, e42, e43, e44, e45, e46, e47, e48, e49, e50, e51, e52, e53, e54, e55, e57, e58, e59, e60, e61, e62, e63, e64]; exact t7
  · exact kk_Rcong (fun t n p => by rw [e27]) (by rw [e15g]) (by rw [e15g]) (fun _ => by rw [e17g]) (fun _ => by rw [e18g]) (fun _ => by rw [e19g]) t8
  · simp only [e16, e22, e24, e25, e26, e27, e28, e29, e30, e31, e32, e33, e34, e35, e41, e42, e43, e44, e45, e46, e47, e48, e49, e50, e51, e52, e53, e54, e55, e57, e58, e59, e60, e61, e62, e63, e64]; exact t9
  · simp only [e16, e22, e24, e25, e26, e27, e28, e29, e30, e31, e32, e33, e34, e35, e41, e42, e43, e44, e45, e46, e47, e48, e49, e50, e51, e52, e53, e54, e55, e57, e58, e59, e60, e61, e62, e63, e64]; exact t10
  · simp only [e16, e22, e24, e25, e26, e27, e28, e29, e30, e31, e32, e33, e34, e35, e41, e42, e43, e44, e45, e46, e47, e48, e49, e50, e51, e52, e53, e54, e55, e57, e58, e59, e60, e61, e62, e63, e64]; exact t11
  · unfold kk_KB at kb ⊢; rw [an, bn, ln, no, n18, e55, e57, e59]; exact kb
  · rw [a10, n24]; exact d2
  · rw [a11, n25]; exact d3
  · unfold kk_N at d4 ⊢; rw [no, e57]; exact d4
  · rw [no, a10]; exact d5
  · rw [no, a11]; exact d6
  · rw [no]; simp only [e16, e22, e24, e25, e26, e27, e28, e29, e30, e31, e32, e33, e34, e35, e41, e42, e43, e44, e45, e46, e47, e48, e49, e50, e51, e52, e53, e54, e55, e57, e58, e59, e60, e61, e62, e63, e64]; exact d7
  · simp only [e16, e22, e24, e25, e26, e27, e28, e29, e30, e31, e32, e33, e34, e35, e41, e42, e43, e44, e45, e46, e47, e48, e49, e50, e51, e52, e53, e54, e55, e57, e58, e59, e60, e61, e62, e63, e64]; exact d8
  · rw [no]; simp only [e16, e22, e24, e25, e26, e27, e28, e29, e30, e31, e32, e33, e34, e35, e41, e42, e43, e44, e45, e46, e47, e48, e49, e50, e51, e52, e53, e54, e55, e57, e58, e59, e60, e61, e62, e63, e64]; exact d9
  · simp only [e16, e22, e24, e25, e26, e27, e28, e29, e30, e31, e32, e33, e34, e35, e41, e42, e43, e44, e45, e46, e47, e48, e49, e50, e51, e52, e53, e54, e55, e57, e58, e59, e60, e61, e62, e63, e64]; exact d10
  · rw [no]; simp only [e16, e22, e24, e25, e26, e27, e28, e29, e30, e31, e32, e33, e34, e35, e41, e42, e43, e44, e45, e46, e47, e48, e49, e50, e51, e52, e53, e54, e55, e57, e58, e59, e60, e61, e62, e63, e64]; exact d13
  · rw [no]; simp only [e16, e22, e24, e25, e26, e27, e28, e29, e30, e31, e32, e33, e34, e35, e41, e42, e43, e44, e45, e46, e47, e48, e49, e50, e51, e52, e53, e54, e55, e57, e58, e59, e60, e61, e62, e63, e64]; exact d14
  · simp only [kk_cpd, kk_sd, e16, e22, e24, e25, e26, e27, e28, e29, e30, e31, e32, e33, e34, e35, e41, e42, e43, e44, e45, e46, e47, e48, e49, e50, e51, e52, e53, e54, e55, e57, e58, e59, e60, e61, e62, e63, e64]; exact d15
  · rw [no]; simp only [e16, e22, e24, e25, e26, e27, e28, e29, e30, e31, e32, e33, e34, e35, e41, e42, e43, e44, e45, e46, e47, e48, e49, e50, e51, e52, e53, e54, e55, e57, e58, e59, e60, e61, e62, e63, e64]; exact d17
  · simp only [e16, e22, e24, e25, e26, e27, e28, e29, e30, e31, e32, e33, e34, e35, e41, e42, e43, e44, e45, e46, e47, e48, e49, e50, e51, e52, e53, e54, e55, e57, e58, e59, e60, e61, e62, e63, e64]; exact d18
  · simp only [e16, e22, e24, e25, e26, e27, e28, e29, e30, e31, e32, e33, e34, e35, e41, e42, e43, e44, e45, e46, e47, e48, e49, e50, e51, e52, e53, e54, e55, e57, e58, e59, e60, e61, e62, e63, e64]; exact d19
  · exact kg2
  · simp only [kk_NR, e16, e22, e24, e25, e26, e27, e28, e29, e30, e31, e32, e33, e34, e35, e41, e42, e43, e44, e45, e46, e47, e48, e49, e50, e51, e52, e53, e54, e55, e57, e58, e59, e60, e61, e62, e63, e64]; exact p1
  · rw [a13, n33]; exact p2
  · intro k f k1 k2 hf
    have hf2 := hf
    unfold kk_q4 at hf2
    rw [eg f 0 0 (by omega)]
    exact p3 k f k1 k2 hf
  · simp only [e16, e22, e24, e25, e26, e27, e28, e29, e30, e31, e32, e33, e34, e35, e41, e42, e43, e44, e45, e46, e47, e48, e49, e50, e51, e52, e53, e54, e55, e57, e58, e59, e60, e61, e62, e63, e64]; exact p4
  · rw [no]; simp only [e16, e22, e24, e25, e26, e27, e28, e29, e30, e31, e32, e33, e34, e35, e41, e42, e43, e44, e45, e46, e47, e48, e49, e50, e51, e52, e53, e54, e55, e57, e58, e59, e60, e61, e62, e63, e64]; exact p5
  · rw [no]; simp only [e16, e22, e24, e25, e26, e27, e28, e29, e30, e31, e32, e33, e34, e35, e41, e42, e43, e44, e45, e46, e47, e48, e49, e50, e51, e52, e53, e54, e55, e57, e58, e59, e60, e61, e62, e63, e64]; exact p6
  · exact fun j n j1 j2 n1 n2 => kk_msc (fun f f1 f2 => eg f 0 0 (by omega)) (p7 j n j1 j2 n1 n2)
/-- what holds of scripts between the calls -/
def kk_sI (h : mm_Id → Int → Int) : Prop := (h (8, 0, 0) 1 = h (40, 0, 0) 37 ∧ 0 ≤ h (8, 0, 0) 1 ∧ h (8, 0, 0) 1 ≤ 8000) ∧ (∀ i, 0 ≤ i → i < h (8, 0, 0) 1 → h (9, 0, 0) i = h (67, 0, 0) i ∧ -128 ≤ h (9, 0, 0) i ∧ h (9, 0, 0) i < 128) ∧
  (h (8, 0, 0) 3 = h (40, 0, 0) 39 ∧ 0 ≤ h (8, 0, 0) 3 ∧ h (8, 0, 0) 3 ≤ 33600) ∧ (∀ i, 0 ≤ i → i < h (8, 0, 0) 3 → h (10, 0, 0) i = h (68, 0, 0) i ∧ -128 ≤ h (10, 0, 0) i ∧ h (10, 0, 0) i < 128) ∧ (h (8, 0, 0) 9 = h (40, 0, 0) 43 ∧ -2147483648 ≤ h (8, 0, 0) 9 ∧ h (8, 0, 0) 9 < 2147483648)
theorem kk_sIe {h g : mm_Id → Int → Int} (e : ∀ x j, kk_scr x j → g x j = h x j) (q : kk_sI h) : kk_sI g := by
  have e8 : ∀ j, g (8, 0, 0) j = h (8, 0, 0) j := fun j => e _ _ (by simp [kk_scr])
  have e9 : ∀ j, g (9, 0, 0) j = h (9, 0, 0) j := fun j => e _ _ (by simp [kk_scr])
  have e10 : ∀ j, g (10, 0, 0) j = h (10, 0, 0) j := fun j => e _ _ (by simp [kk_scr])
  have e67 : ∀ j, g (67, 0, 0) j = h (67, 0, 0) j := fun j => e _ _ (by simp [kk_scr])
  have e68 : ∀ j, g (68, 0, 0) j = h (68, 0, 0) j := fun j => e _ _ (by simp [kk_scr])
  have e40 : ∀ j, 37 ≤ j → j ≤ 46 → g (40, 0, 0) j = h (40, 0, 0) j := fun j j0 j1 => e _ _ (by simp [kk_scr]; omega)
  unfold kk_sI at q ⊢
  rw [e40 37 (by omega) (by omega), e40 39 (by omega) (by omega), e40 43 (by omega) (by omega)]
  simp only [e8, e9, e10, e67, e68]
  exact q
theorem kk_sI0 {h : mm_Id → Int → Int} {v : Int} (q : kk_sI h) : kk_sI (mm_up h (40, 0, 0) 0 v) := kk_sIe (fun x j s => kk_scr0 s) q
/-- a call of scripts: the same answer, and it holds again -/
def kk_callS (k k2 : Nat) (a : List mm_V) (b m : Int) (h : mm_Id → Int → Int) (dh : Int → Int) (nx ns : Int) : Prop :=
  mm_Cl k (zR (1, 0, 0) :: a) (mm_z h dh nx ns) (fun r h1 => kk_SI r ∧ ∃ g dh1, h1 = mm_z g dh1 nx ns ∧ mm_Cl k2 (zR (40, 0, 0) :: a) (mm_z g dh1 nx ns) (fun r2 h2 => r2 = r ∧ ∃ g2, h2 = mm_z g2 dh1 nx ns ∧ kk_core (b + m) g2 dh1 ∧ kk_sI g2))
section
variable {b : Int} {h : mm_Id → Int → Int} {dh : Int → Int} {nx ns : Int}
theorem c_51 (hy : 5306 ≤ nx) (hc : kk_core b h dh) (hs : kk_sI h) (hb : b + 1 ≤ 1000000) : kk_callS 51 295 [] b 1 h dh nx ns := by
  have hx : 5275 ≤ nx := by omega
  unfold kk_callS
  rw [r_51_e (hx := hx)]
  refine ⟨⟨_, rfl, hs.2.2.2.2.2⟩, h, dh, rfl, ?_⟩
  rw [r_295_e (hy := hy), mm_upj (by decide)]
  exact ⟨by rw [hs.2.2.2.2.1], _, rfl, kk_coreS hb (kk_core0 hc), kk_sI0 hs⟩
theorem c_50 (hy : 5306 ≤ nx) (hc : kk_core b h dh) (hs : kk_sI h) (hb : b + 1 ≤ 1000000) {t : Int} (ht : -2147483648 ≤ t ∧ t < 2147483648) : kk_callS 50 294 [zI t] b 1 h dh nx ns := by
  have hx : 5275 ≤ nx := by omega
  have s3 := hs.2.2.1
  have s4 := hs.2.2.2.1
  have fin : kk_core (b + 1) (mm_up h (40, 0, 0) 0 0) dh ∧ kk_sI (mm_up h (40, 0, 0) 0 0) := ⟨kk_coreS hb (kk_core0 hc), kk_sI0 hs⟩
  unfold kk_callS
  rw [r_50_e (hx := hx)]
  have bad : ¬ (0 ≤ t ∧ t ≤ h (8, 0, 0) 3 - 1) → mm_Wp 50 (mm_blk 50 1) [zR (1, 0, 0), zI t] [] (mm_z h dh nx ns) (fun r h1 => kk_SI r ∧ ∃ g dh1, h1 = mm_z g dh1 nx ns ∧ mm_Cl 294 [zR (40, 0, 0), zI t] (mm_z g dh1 nx ns) (fun r2 h2 => r2 = r ∧ ∃ g2, h2 = mm_z g2 dh1 nx ns ∧ kk_core (b + 1) g2 dh1 ∧ kk_sI g2)) := fun w => by
    rw [r_50_1 (hx := hx), r_50_3 (hx := hx)]
    refine ⟨⟨_, rfl, by omega, by omega⟩, h, dh, rfl, ?_⟩
    rw [r_294_e (hy := hy), mm_upj (by decide), ← s3.1, mm_wi (z := h (8, 0, 0) 3 - 1) (by omega) (by omega)]
    refine m174n hy w ?_
    rw [mm_pI, r_294_0_12 (hy := hy), if_pos rfl, r_294_2 (hy := hy)]
    exact ⟨rfl, _, rfl, fin.1, fin.2⟩
  by_cases c1 : t < 0
  · rw [if_pos c1]; exact bad (by omega)
  · rw [if_neg c1]
    by_cases c2 : t < h (8, 0, 0) 3
    · have z := s4 t (by omega) c2
      rw [if_pos c2, r_50_3 (hx := hx)]
      refine ⟨by omega, ⟨_, rfl, by omega, by omega⟩, h, dh, rfl, ?_⟩
      rw [r_294_e (hy := hy), mm_upj (by decide), ← s3.1, mm_wi (z := h (8, 0, 0) 3 - 1) (by omega) (by omega)]
      refine m174y hy (by omega) ?_
      rw [mm_pI, r_294_0_12 (hy := hy), if_neg (by decide), r_294_2 (hy := hy), mm_upf (by decide)]
      exact ⟨by omega, by rw [z.1], _, rfl, fin.1, fin.2⟩
    · rw [if_neg c2]; exact bad (by omega)
theorem c_48 (hy : 5306 ≤ nx) (hc : kk_core b h dh) (hs : kk_sI h) (hb : b + 1 ≤ 1000000) {t : Int} (ht : -2147483648 ≤ t ∧ t < 2147483648) : kk_callS 48 277 [zI t] b 1 h dh nx ns := by
  have hx : 5275 ≤ nx := by omega
  have s1 := hs.1
  unfold kk_callS
  rw [r_48_e (hx := hx)]
  have bad : ¬ (0 ≤ t ∧ t ≤ h (8, 0, 0) 1) → mm_Wp 48 (mm_blk 48 1) [zR (1, 0, 0), zI t, zI (h (8, 0, 0) 1)] [] (mm_z h dh nx ns) (fun r h1 => kk_SI r ∧ ∃ g dh1, h1 = mm_z g dh1 nx ns ∧ mm_Cl 277 [zR (40, 0, 0), zI t] (mm_z g dh1 nx ns) (fun r2 h2 => r2 = r ∧ ∃ g2, h2 = mm_z g2 dh1 nx ns ∧ kk_core (b + 1) g2 dh1 ∧ kk_sI g2)) := fun w => by
    rw [r_48_1 (hx := hx)]
    refine ⟨⟨_, rfl, by omega, by omega⟩, h, dh, rfl, ?_⟩
    rw [r_277_e (hy := hy), mm_upj (by decide), ← s1.1]
    refine m174n hy w ?_
    rw [mm_pI, r_277_0_10 (hy := hy), if_pos rfl]
    exact ⟨rfl, _, rfl, kk_coreS hb (kk_core0 hc), kk_sI0 hs⟩
  by_cases c1 : t < 0
  · rw [if_pos c1]; exact bad (by omega)
  · rw [if_neg c1]
    by_cases c2 : h (8, 0, 0) 1 < t
    · rw [if_pos c2]; exact bad (by omega)
    · rw [if_neg c2]
      refine ⟨⟨_, rfl, by omega, by omega⟩, _, dh, rfl, ?_⟩
      rw [r_277_e (hy := hy), mm_upj (by decide), mm_upf (by decide), ← s1.1]
      refine m174y hy (by omega) ?_
      rw [mm_pI, r_277_0_10 (hy := hy), if_neg (by decide), mm_upj (by decide), mm_upf (by decide), ← s1.1]
      refine ⟨rfl, _, rfl, kk_coreS hb (kk_coreR (fun x j q1 q2 => ?_) hc), ?_⟩
      · rw [mm_upne' (by rintro ⟨v, v2⟩; exact q1 (by rw [v, v2]; simp [kk_scr])), mm_upne' q2, mm_upne' (by rintro ⟨v, v2⟩; exact q1 (by rw [v, v2]; simp [kk_scr]))]
      · obtain ⟨a1, a2, a3, a4, a5⟩ := hs
        simp only [kk_sI, mm_up, Prod.mk.injEq]
        simp
        exact ⟨⟨by omega, by omega⟩, fun i i0 i1 => a2 i i0 (by omega), a3, a4, a5⟩
end
