/-! what holds where one tree of a dataset has changed -/
/-- cells that may change with a tree -/
def kk_tx (t : Int) (x : mm_Id) (j : Int) : Prop := (24 ≤ x.1 ∧ x.1 ≤ 30 ∧ x.2.1 = t ∧ 1 ≤ x.2.2 ∧ x.2.2 < 37) ∨ kk_sx t x j ∨ kk_sx 28 x j ∨ (x = (31, t, 0) ∧ j = 6) ∨ kk_ct x j ∨ (x = (15, 0, 0) ∧ j = 8) ∨ x.1 = 16 ∨ x.1 = 54 ∨ x.1 = 55 ∨ (x = (40, 0, 0) ∧ j = 18) ∨ kk_gx x j ∨ (x = (1, 0, 0) ∧ j = 13) ∨ (x = (40, 0, 0) ∧ j = 33) ∨ x.1 = 34 ∨ x.1 = 35 ∨ x.1 = 62 ∨ x.1 = 63 ∨ x.1 = 64
def kk_d17 (h : mm_Id → Int → Int) (dh : Int → Int) : Prop := ∀ i, 0 ≤ i → i < 8 → (mm_isD (dh i) → h (63, 0, 0) (i + 1) = h (34, i, 0) 2 ∧ (1 ≤ h (34, i, 0) 2 ∧ h (34, i, 0) 2 < 37) ∧ h (24, dh i, h (34, i, 0) 2) 0 = 1 ∧ h (62, 0, 0) (i + 1) = dh i ∧ 0 < kk_no h (dh i) ∧ ∀ a, 0 ≤ a → a < 2160 → h (35, i, 0) a = h (64, 0, 0) (2160 * (i + 1) + a)) ∧ (¬ mm_isD (dh i) → h (63, 0, 0) (i + 1) = 0 ∧ ∀ a, 0 ≤ a → a < 2160 → h (64, 0, 0) (2160 * (i + 1) + a) = 0)
def kk_d18 (h : mm_Id → Int → Int) : Prop := ∀ a, 2160 ≤ a → a < 19440 → 0 ≤ h (64, 0, 0) a ∧ h (64, 0, 0) a ≤ 2
def kk_d19 (h : mm_Id → Int → Int) (dh : Int → Int) : Prop := ∀ i n, 0 ≤ i → i < 5 → 1 ≤ n → n < 37 → h (24, i, n) 0 = 1 → h (24, i, n) 5 = 0 → ∃ j, (0 ≤ j ∧ j < 8) ∧ dh j = i ∧ h (34, j, 0) 2 = n
theorem kk_gxr {x : mm_Id} {j : Int} (q : kk_gx x j) : x.1 = 1 ∧ (j = 9 ∨ j = 12) ∨ x.1 = 5 ∨ x.1 = 6 ∨ x.1 = 14 ∨ x.1 = 56 ∨ x.1 = 65 ∨ x.1 = 66 ∨ x.1 = 40 ∧ (j = 0 ∨ j = 29 ∨ j = 30 ∨ j = 34 ∨ j = 35 ∨ j = 36) := by
  rcases q with ⟨q, q2⟩ | q | q | q | q | q | q | ⟨q, q2⟩
  · exact Or.inl ⟨by rw [q], q2⟩
  · exact Or.inr (Or.inl q)
  · exact Or.inr (Or.inr (Or.inl q))
  · exact Or.inr (Or.inr (Or.inr (Or.inl q)))
  · exact Or.inr (Or.inr (Or.inr (Or.inr (Or.inl q))))
  · exact Or.inr (Or.inr (Or.inr (Or.inr (Or.inr (Or.inl q)))))
  · exact Or.inr (Or.inr (Or.inr (Or.inr (Or.inr (Or.inr (Or.inl q))))))
  · exact Or.inr (Or.inr (Or.inr (Or.inr (Or.inr (Or.inr (Or.inr ⟨by rw [q], q2⟩))))))
/-- the cells of a tree's region, by their families -/
theorem kk_txr {t : Int} {x : mm_Id} {j : Int} (q : kk_tx t x j) : (24 ≤ x.1 ∧ x.1 ≤ 30 ∧ x.2.1 = t ∧ 1 ≤ x.2.2) ∨ (41 ≤ x.1 ∧ x.1 ≤ 53 ∧ (kk_sx t x j ∨ kk_sx 28 x j)) ∨ (x.1 = 31 ∧ x.2.1 = t ∧ j = 6) ∨ (x.1 = 15 ∨ x.1 = 17 ∨ x.1 = 18 ∨ x.1 = 19 ∨ x.1 = 16 ∨ x.1 = 54 ∨ x.1 = 55) ∨ (x.1 = 1 ∧ (j = 9 ∨ j = 12 ∨ j = 13)) ∨ (x.1 = 40 ∧ (j = 0 ∨ j = 18 ∨ j = 29 ∨ j = 30 ∨ j = 33 ∨ j = 34 ∨ j = 35 ∨ j = 36)) ∨ (x.1 = 5 ∨ x.1 = 6 ∨ x.1 = 14 ∨ x.1 = 56 ∨ x.1 = 65 ∨ x.1 = 66 ∨ x.1 = 34 ∨ x.1 = 35 ∨ x.1 = 62 ∨ x.1 = 63 ∨ x.1 = 64) := by
  rcases q with q | q | q | ⟨q, q2⟩ | q | ⟨q, q2⟩ | q | q | q | ⟨q, q2⟩ | q | ⟨q, q2⟩ | ⟨q, q2⟩ | q | q | q | q | q
  · exact Or.inl ⟨q.1, q.2.1, q.2.2.1, q.2.2.2.1⟩
  · have r := kk_sxr q
    exact Or.inr (Or.inl ⟨r.1, r.2, Or.inl q⟩)
  · have r := kk_sxr q
    exact Or.inr (Or.inl ⟨r.1, r.2, Or.inr q⟩)
  · subst q; exact Or.inr (Or.inr (Or.inl ⟨rfl, rfl, q2⟩))
  · exact Or.inr (Or.inr (Or.inr (Or.inl (by rcases q with ⟨q, _⟩ | q | q | q <;> rw [q] <;> simp))))
  · exact Or.inr (Or.inr (Or.inr (Or.inl (by rw [q]; simp))))
  · exact Or.inr (Or.inr (Or.inr (Or.inl (by omega))))
  · exact Or.inr (Or.inr (Or.inr (Or.inl (by omega))))
  · exact Or.inr (Or.inr (Or.inr (Or.inl (by omega))))
  · exact Or.inr (Or.inr (Or.inr (Or.inr (Or.inr (Or.inl ⟨by rw [q], by omega⟩)))))
  · have w := kk_gxr q
    rcases w with w | w | w | w | w | w | w | w
    · exact Or.inr (Or.inr (Or.inr (Or.inr (Or.inl ⟨w.1, by omega⟩))))
    · exact Or.inr (Or.inr (Or.inr (Or.inr (Or.inr (Or.inr (by omega))))))
    · exact Or.inr (Or.inr (Or.inr (Or.inr (Or.inr (Or.inr (by omega))))))
    · exact Or.inr (Or.inr (Or.inr (Or.inr (Or.inr (Or.inr (by omega))))))
    · exact Or.inr (Or.inr (Or.inr (Or.inr (Or.inr (Or.inr (by omega))))))
    · exact Or.inr (Or.inr (Or.inr (Or.inr (Or.inr (Or.inr (by omega))))))
    · exact Or.inr (Or.inr (Or.inr (Or.inr (Or.inr (Or.inr (by omega))))))
    · exact Or.inr (Or.inr (Or.inr (Or.inr (Or.inr (Or.inl ⟨w.1, by omega⟩)))))
  · exact Or.inr (Or.inr (Or.inr (Or.inr (Or.inl ⟨by rw [q], by omega⟩))))
  · exact Or.inr (Or.inr (Or.inr (Or.inr (Or.inr (Or.inl ⟨by rw [q], by omega⟩)))))
  · exact Or.inr (Or.inr (Or.inr (Or.inr (Or.inr (Or.inr (by omega))))))
  · exact Or.inr (Or.inr (Or.inr (Or.inr (Or.inr (Or.inr (by omega))))))
  · exact Or.inr (Or.inr (Or.inr (Or.inr (Or.inr (Or.inr (by omega))))))
  · exact Or.inr (Or.inr (Or.inr (Or.inr (Or.inr (Or.inr (by omega))))))
  · exact Or.inr (Or.inr (Or.inr (Or.inr (Or.inr (Or.inr (by omega))))))
theorem kk_WT0 {b t : Int} {h g : mm_Id → Int → Int} {dh dh' : Int → Int} (hW : kk_W b h dh) (ht : 0 ≤ t ∧ t < 5) (hno : 0 < kk_no h t) (fr : ∀ x j, ¬ kk_tx t x j → g x j = h x j)
    (e16 : ∀ t2 n p i, mm_isT t2 → t2 ≠ t → 1 ≤ n → n < 37 → 0 ≤ p → p < 36 → 0 ≤ i → i < 60 → g (16, 0, 0) (60 * h (27, t2, n) p + i) = h (16, 0, 0) (60 * h (27, t2, n) p + i))
    (e54 : ∀ t2 n p i, mm_isT t2 → t2 ≠ t → 1 ≤ n → n < 37 → 0 ≤ p → p < 36 → h (27, t2, n) p ≠ 0 → 0 ≤ i → i < 60 → g (54, 0, 0) (60 * h (43, 0, 0) (36 * (36 * t2 + n - 1) + p) + i) = h (54, 0, 0) (60 * h (43, 0, 0) (36 * (36 * t2 + n - 1) + p) + i))
    (NR : ∀ n, 1 ≤ n → n < 37 → kk_NR g t n) (NW : ∀ n, 1 ≤ n → n < 37 → kk_NW g t n) (TW : kk_TW g t) (MW : ∀ s n, s = t ∨ s = 28 → 1 ≤ n → n < 37 → kk_MW g (36 * s + n - 1)) (PQ : kk_PQ g) (DS : kk_DS g) (R : kk_R g)
    (t9 : (∀ e, 0 ≤ e → e < 60 → g (16, 0, 0) e = 0) ∧ ∀ j, 0 ≤ j → j < 102060 → -128 ≤ g (16, 0, 0) j ∧ g (16, 0, 0) j < 128)
    (b1 : ∀ c, 1 ≤ c → c ≤ 3000 → kk_any g c → g (55, 0, 0) c ≠ 0) (b2 : 0 ≤ g (40, 0, 0) 18 ∧ g (40, 0, 0) 18 ≤ 3000) (b3 : kk_cnt (kk_lb g (-1)) ≤ 400) (b6 : kk_cnt (kk_bs g 28) ≤ 400) (b7 : kk_cnt (kk_bs g t) ≤ h (59, 0, 0) t)
    (root : g (24, t, 1) 0 = 2) (flag : g (31, t, 0) 6 = 1) (kg : kk_KG g) (d17' : kk_d17 g dh') (d18' : kk_d18 g) (d19' : kk_d19 g dh') : kk_W b g dh' := by
  obtain ⟨⟨k1, k2, k3, k4, k5, k6, k7, k8, k9, k10, k11⟩, ⟨kb1, kb2, kb3, kb4, kb5, kb6, kb7⟩, ⟨d1, d2, d3, d4, d5, d6, d7, d8, d9, d10, d13, d14, d15, d17, d18, d19⟩, kg'⟩ := hW
  have et : ∀ (f : Nat) t2 n j, 24 ≤ f → f ≤ 30 → t2 ≠ t ∨ n = 0 → g (f, t2, n) j = h (f, t2, n) j := fun f t2 n j f0 f1 q => fr _ _ (fun w => by
    have := kk_txr w
    simp at this
    omega)
  have eg : ∀ (f : Nat) t2 n j, (f = 22 ∨ f = 32 ∨ f = 33 ∨ 57 ≤ f ∧ f ≤ 61) → g (f, t2, n) j = h (f, t2, n) j := fun f t2 n j hf => fr _ _ (fun w => by
    have := kk_txr w
    simp at this
    omega)
  have e1 : ∀ j, j = 10 ∨ j = 11 → g (1, 0, 0) j = h (1, 0, 0) j := fun j hj => fr _ _ (fun w => by
    have := kk_txr w
    simp at this
    omega)
  have e40 : ∀ j, j = 24 ∨ j = 25 → g (40, 0, 0) j = h (40, 0, 0) j := fun j hj => fr _ _ (fun w => by
    have := kk_txr w
    simp at this
    omega)
  have e31 : ∀ i j, j ≠ 6 ∨ i ≠ t → g (31, i, 0) j = h (31, i, 0) j := fun i j hj => fr _ _ (fun w => by
    have := kk_txr w
    simp at this
    omega)
  have es : ∀ s x j, s ≠ t → s ≠ 28 → kk_sx s x j → g x j = h x j := fun s x j h1 h2 hx => fr _ _ (fun w => by
    have r := kk_sxr hx
    have w2 := kk_txr w
    have n1 := kk_sxd h1 hx
    have n2 := kk_sxd h2 hx
    rcases w2 with w2 | ⟨_, _, w2⟩ | w2 | w2 | w2 | w2 | w2
    · omega
    · rcases w2 with w2 | w2
      · exact n1 w2
      · exact n2 w2
    all_goals omega)
  have ms : ∀ s n, 0 ≤ s → s < 28 → s ≠ t → 1 ≤ n → n < 37 → kk_ms g (36 * s + n - 1) h (36 * s + n - 1) := fun s n s0 s1 st n0 n1 => by
    have w := (k5 s n s0 (by omega) n0 n1).1
    exact kk_msr w.2.1.2 w.2.2.2 (fun x j hx => es s x j st (by omega) ⟨n, n0, n1, hx⟩)
  have cp : ∀ t2 n, t2 ≠ t → kk_cpd g t2 n h t2 n := fun t2 n q => kk_cpdr (fun f j f0 f1 => et f t2 n j f0 f1 (Or.inl q))
  have bs : ∀ s c, 0 ≤ s → s < 28 → s ≠ t → (kk_bs g s c ↔ kk_bs h s c) := fun s c s0 s1 st => kk_bscp (fun n n0 n1 => ms s n s0 s1 st n0 n1)
  have no : kk_no g = kk_no h := by funext s; unfold kk_no; rw [e31 s 3 (by omega), eg 33 _ _ 1 (by omega)]
  refine ⟨⟨fun u n a1 a2 n0 n1 => ?_, fun u n a n0 n1 => ?_, fun u a => ?_, fun u a => ?_, fun s n s0 s1 n0 n1 => ?_, PQ, DS, R, t9, fun u a => ?_, fun u p a p0 p1 => ?_⟩, ⟨b1, b2, b3, ?_, ?_, b6, fun i i0 i1 => ?_⟩, ⟨d1, ?_, ?_, ?_, ?_, ?_, fun i i0 i1 z => ?_, fun i i0 i1 => ?_, fun j j0 j1 => ?_, fun k k0 k1 => ?_, fun s s0 s1 z n n0 n1 => ?_, fun s s0 s1 z => ?_, fun i n i0 i1 z n0 n1 => ?_, d17', d18', d19'⟩, kg⟩
  · by_cases q : u = t
    · subst q; exact NR n n0 n1
    · have hT := mm_T13 ⟨a1, a2⟩
      exact kk_NRcp (cp u n q) (ms u n a1 (by omega) q n0 n1) (k2 u n hT n0 n1) (fun p i p0 p1 _ i0 i1 => e16 u n p i hT q n0 n1 p0 p1 i0 i1) (fun p i p0 p1 z i0 i1 => e54 u n p i hT q n0 n1 p0 p1 z i0 i1) (k1 u n a1 a2 n0 n1)
  · by_cases q : u = t
    · subst q; exact NW n n0 n1
    · exact kk_NWcp (fun m _ _ => cp u m q) ⟨n0, n1⟩ (fun p i p0 p1 i0 i1 => e16 u n p i a q n0 n1 p0 p1 i0 i1) (k2 u n a n0 n1)
  · by_cases q : u = t
    · subst q; exact TW
    · exact kk_TWcp (fun m _ _ => cp u m q) (fun m m0 m1 => k2 u m a m0 m1) (k3 u a)
  · have aT : mm_isT u := by unfold mm_isT; omega
    have q : u ≠ t := by omega
    exact kk_SRcp (fun m _ _ => cp u m q) (fun m m0 m1 => ms u m (by omega) (by omega) q m0 m1) (fun m m0 m1 => k2 u m aT m0 m1) (fun n p i n0 n1 p0 p1 _ i0 i1 => e16 u n p i aT q n0 n1 p0 p1 i0 i1) (fun n p i n0 n1 p0 p1 z i0 i1 => e54 u n p i aT q n0 n1 p0 p1 z i0 i1) (k4 u a)
  · by_cases q : s = t ∨ s = 28
    · exact MW s n q n0 n1
    · exact kk_MWcp (ms s n s0 (by omega) (by omega) n0 n1) (k5 s n s0 s1 n0 n1)
  · rw [eg 22 _ _ _ (by omega)]; exact k10 u a
  · rw [et 27 u 0 p (by omega) (by omega) (Or.inr rfl)]; exact k11 u p a p0 p1
  · refine Int.le_trans (kk_cntle (fun c _ _ q => ?_)) kb4
    obtain ⟨s, hs, q⟩ := q
    exact ⟨s, hs, (bs s c (by omega) (by omega) (by omega)).1 q⟩
  · refine Int.le_trans (kk_cntle (fun c _ _ q => ?_)) kb5
    rw [bs 26 c (by omega) (by omega) (by omega), bs 27 c (by omega) (by omega) (by omega)] at q
    exact q
  · rw [no, eg 57 _ _ _ (by omega), eg 59 _ _ _ (by omega), eg 59 _ _ _ (by omega), kk_cntc (P := kk_bs g (13 + i)) (fun c _ _ => bs (13 + i) c (by omega) (by omega) (by omega))]
    refine ⟨fun z => ?_, (kb7 i i0 i1).2⟩
    by_cases q : i = t
    · rw [q]; exact b7
    · rw [kk_cntc (P := kk_bs g i) (fun c _ _ => bs i c (by omega) (by omega) q)]
      exact (kb7 i i0 i1).1 z
  · rw [e1 10 (by omega), e40 24 (by omega)]; exact d2
  · rw [e1 11 (by omega), e40 25 (by omega)]; exact d3
  · intro s s0 s1
    rw [no, eg 57 _ _ _ (by omega)]; exact d4 s s0 s1
  · rw [no, e1 10 (by omega)]; exact d5
  · rw [no, e1 11 (by omega)]; exact d6
  · rw [no] at z
    obtain ⟨w1, w2, w3⟩ := d7 i i0 i1 z
    rw [e31 i 4 (by omega), e31 i 5 (by omega), eg 58 _ _ _ (by omega), eg 59 _ _ _ (by omega)]
    refine ⟨w1, w2, fun u u0 u1 => ?_⟩
    rw [eg 32 _ _ _ (by omega), eg 61 _ _ _ (by omega)]
    exact w3 u u0 u1
  · by_cases q : i = t
    · rw [q]; exact Or.inr flag
    · rw [e31 i 6 (Or.inr q)]; exact d8 i i0 i1
  · rw [no, eg 33 _ _ _ (by omega), eg 33 _ _ _ (by omega), eg 58 _ _ _ (by omega), eg 60 _ _ _ (by omega)]
    exact d9 j j0 j1
  · rw [eg 60 _ _ _ (by omega)]; exact d10 k k0 k1
  · rw [no] at z
    rw [et 24 s n 0 (by omega) (by omega) (Or.inl (fun q => by rw [q] at z; omega))]
    exact d13 s s0 s1 z n n0 n1
  · rw [no] at z
    by_cases q : s = t
    · rw [q]; exact root
    · rw [et 24 s 1 0 (by omega) (by omega) (Or.inl q)]; exact d14 s s0 s1 z
  · by_cases q : i = t
    · rw [q, flag] at z; exact absurd z (by decide)
    · rw [e31 i 6 (Or.inr q)] at z
      refine kk_cpdt (cp (13 + i) n (by omega)) (kk_cpdt (d15 i n i0 i1 z n0 n1) (kk_cpdr (fun f j f0 f1 => (et f i n j f0 f1 (Or.inl q)).symm)))
/-- where pieces are let go at most -/
theorem kk_WTs {b t : Int} {h g : mm_Id → Int → Int} {dh dh' : Int → Int} (hW : kk_W b h dh) (ht : 0 ≤ t ∧ t < 5) (hno : 0 < kk_no h t) (fr : ∀ x j, ¬ kk_tx t x j → g x j = h x j) (s28 : ∀ x j, kk_sx 28 x j → g x j = h x j)
    (e16 : ∀ j, g (16, 0, 0) j = h (16, 0, 0) j) (e54 : ∀ j, g (54, 0, 0) j = h (54, 0, 0) j) (e55 : ∀ j, g (55, 0, 0) j = h (55, 0, 0) j) (e18 : g (40, 0, 0) 18 = h (40, 0, 0) 18)
    (NR : ∀ n, 1 ≤ n → n < 37 → kk_NR g t n) (NW : ∀ n, 1 ≤ n → n < 37 → kk_NW g t n) (TW : kk_TW g t) (m53 : ∀ n, 1 ≤ n → n < 37 → g (53, 0, 0) (36 * t + n - 1) = 0 ∨ g (53, 0, 0) (36 * t + n - 1) = 1)
    (pc : ∀ n p, (1 ≤ n ∧ n < 37) → (0 ≤ p ∧ p < 36) → (g (27, t, n) p = h (27, t, n) p ∨ g (27, t, n) p = 0) ∧ (g (43, 0, 0) (36 * (36 * t + n - 1) + p) = h (43, 0, 0) (36 * (36 * t + n - 1) + p) ∨ g (43, 0, 0) (36 * (36 * t + n - 1) + p) = 0)) (R : kk_R g)
    (root : g (24, t, 1) 0 = 2) (flag : g (31, t, 0) 6 = 1) (kg : kk_KG g) (d17' : kk_d17 g dh') (d18' : kk_d18 g) (d19' : kk_d19 g dh') : kk_W b g dh' := by
  have hK := hW.1
  have hB := hW.2.1
  have et : ∀ (f : Nat) t2 n j, 24 ≤ f → f ≤ 30 → t2 ≠ t ∨ n = 0 → g (f, t2, n) j = h (f, t2, n) j := fun f t2 n j f0 f1 q => fr _ _ (fun w => by
    have := kk_txr w
    simp at this
    omega)
  have es : ∀ s x j, s ≠ t → kk_sx s x j → g x j = h x j := fun s x j h1 hx => by
    by_cases h2 : s = 28
    · subst h2; exact s28 x j hx
    · exact fr _ _ (fun w => by
        have r := kk_sxr hx
        have w2 := kk_txr w
        have n1 := kk_sxd h1 hx
        have n2 := kk_sxd h2 hx
        rcases w2 with w2 | ⟨_, _, w2⟩ | w2 | w2 | w2 | w2 | w2
        · omega
        · rcases w2 with w2 | w2
          · exact n1 w2
          · exact n2 w2
        all_goals omega)
  have e43 : ∀ s n p, s ≠ t → 1 ≤ n → n < 37 → 0 ≤ p → p < 36 → g (43, 0, 0) (36 * (36 * s + n - 1) + p) = h (43, 0, 0) (36 * (36 * s + n - 1) + p) := fun s n p st n0 n1 p0 p1 => es s _ _ st ⟨n, n0, n1, kk_m43 ⟨p0, p1⟩⟩
  have e41 : ∀ s n, s ≠ t → 1 ≤ n → n < 37 → g (41, 0, 0) (36 * s + n - 1) = h (41, 0, 0) (36 * s + n - 1) := fun s n st n0 n1 => es s _ _ st ⟨n, n0, n1, Or.inl ⟨kk_f41, rfl⟩⟩
  -- pieces of either side that are there were there
  have pq : ∀ t2 n p, mm_isT t2 → (1 ≤ n ∧ n < 37) → (0 ≤ p ∧ p < 36) → g (27, t2, n) p ≠ 0 → g (27, t2, n) p = h (27, t2, n) p := fun t2 n p _ hn hp z => by
    by_cases q : t2 = t
    · subst q
      have := (pc n p hn hp).1
      omega
    · exact et 27 t2 n p (by omega) (by omega) (Or.inl q)
  have mq : ∀ s n p, (1 ≤ n ∧ n < 37) → (0 ≤ p ∧ p < 36) → g (43, 0, 0) (36 * (36 * s + n - 1) + p) ≠ 0 → g (43, 0, 0) (36 * (36 * s + n - 1) + p) = h (43, 0, 0) (36 * (36 * s + n - 1) + p) := fun s n p hn hp z => by
    by_cases q : s = t
    · subst q
      have := (pc n p hn hp).2
      omega
    · exact e43 s n p q hn.1 hn.2 hp.1 hp.2
  have bs : ∀ s c, 0 ≤ s → s < 29 → 1 ≤ c → kk_bs g s c → kk_bs h s c := fun s c s0 s1 c0 q => by
    obtain ⟨n, p, hn, hp, k, e⟩ := q
    have e2 := mq s n p hn hp (by omega)
    refine ⟨n, p, hn, hp, ?_, by omega⟩
    have w := (hK.2.2.2.2.1 s n s0 s1 hn.1 hn.2).2.2.2 p hp.1 hp.2
    by_cases z : h (41, 0, 0) (36 * s + n - 1) = 1
    · exact z
    · have := w.2 z; omega
  -- what is a block here is one there, by the trees' own rows
  have nz : ∀ t2 n p, mm_isT t2 → (1 ≤ n ∧ n < 37) → (0 ≤ p ∧ p < 36) → g (27, t2, n) p ≠ 0 → g (43, 0, 0) (36 * (36 * t2 + n - 1) + p) = h (43, 0, 0) (36 * (36 * t2 + n - 1) + p) := fun t2 n p hT hn hp z => by
    by_cases q : t2 = t
    · subst q
      have w := (NR n hn.1 hn.2).2.2.2.2.2.2.2 p hp.1 hp.2
      exact mq t2 n p hn hp (fun y => z (w.1.2 y))
    · exact e43 t2 n p q hn.1 hn.2 hp.1 hp.2
  refine kk_WT0 hW ht hno fr (fun _ _ _ _ _ _ _ _ _ _ _ _ => e16 _) (fun _ _ _ _ _ _ _ _ _ _ _ _ _ => e54 _) NR NW TW (fun s n q n0 n1 => ?_) (fun t2 n p t3 n3 p3 a1 a2 a3 a4 a5 a6 z z3 => ?_) (fun t2 n p n3 p3 a1 a2 a3 a5 a6 z y => ?_) R ?_ (fun c c0 c1 q => ?_) (by rw [e18]; exact hB.2.1) ?_ ?_ ?_ root flag kg d17' d18' d19'
  · rcases q with q | q
    · subst q
      have w := NR n n0 n1
      have w2 := NW n n0 n1
      have ow := hK.2.2.2.2.1 s n ht.1 (by omega) n0 n1
      refine ⟨⟨m53 n n0 n1, by rw [← w.2.1]; exact w2.2.1, by rw [← w.2.2.1]; exact w2.2.2.2.1⟩, by rw [← w.1]; exact w2.1, by rw [← w.1, ← w.2.1]; exact w2.2.2.1, fun p p0 p1 => ?_⟩
      have y := (pc n p ⟨n0, n1⟩ ⟨p0, p1⟩).2
      have ow2 := (ow.2.2.2 p p0 p1).1
      refine ⟨by omega, fun z => ?_⟩
      rw [← w.1] at z
      exact ((w.2.2.2.2.2.2.2 p p0 p1).1).1 (w2.2.2.2.2.2.2.2.1 z p p0 p1)
    · subst q
      have w := (hK.2.2.2.2.1 28 n (by omega) (by omega) n0 n1).1
      exact kk_MWcp (kk_msr w.2.1.2 w.2.2.2 (fun x j hx => s28 x j ⟨n, n0, n1, hx⟩)) (hK.2.2.2.2.1 28 n (by omega) (by omega) n0 n1)
  · have p1 := pq t2 n p a1 a2 a3 z
    have p2 := pq t3 n3 p3 a4 a5 a6 z3
    have m1 := nz t2 n p a1 a2 a3 z
    have m2 := nz t3 n3 p3 a4 a5 a6 z3
    rw [p1, p2, m1, m2]
    exact hK.2.2.2.2.2.1 t2 n p t3 n3 p3 a1 a2 a3 a4 a5 a6 (by omega) (by omega)
  · have p1 := pq t2 n p a1 a2 a3 z
    have p2 := pq t2 n3 p3 a1 a5 a6 (by omega)
    exact hK.2.2.2.2.2.2.1 t2 n p n3 p3 a1 a2 a3 a5 a6 (by omega) (by omega)
  · exact ⟨fun e e0 e1 => by rw [e16]; exact hK.2.2.2.2.2.2.2.2.1.1 e e0 e1, fun j j0 j1 => by rw [e16]; exact hK.2.2.2.2.2.2.2.2.1.2 j j0 j1⟩
  · rw [e55]
    obtain ⟨s, hs, q⟩ := q
    exact hB.1 c c0 c1 ⟨s, hs, bs s c hs.1 hs.2 c0 q⟩
  · refine Int.le_trans (kk_cntle (fun c c0 _ q => ?_)) hB.2.2.1
    obtain ⟨k, hk, h57, hne, q⟩ := q
    refine ⟨k, hk, ?_, hne, bs k c hk.1 (by omega) c0 q⟩
    rw [← fr (57, 0, 0) k (fun w => by have := kk_txr w; simp at this)]
    exact h57
  · exact Int.le_trans (kk_cntle (fun c c0 _ q => bs 28 c (by omega) (by omega) c0 q)) hB.2.2.2.2.2.1
  · exact Int.le_trans (kk_cntle (fun c c0 _ q => bs t c ht.1 (by omega) c0 q)) ((hB.2.2.2.2.2.2 t ht.1 ht.2).1 hno)

