/-! back, there: as far as the taking up -/
section
variable {h : mm_Id → Int → Int} {dh dh0 : Int → Int} {nx ns b : Int} {Q : mm_V → mm_H → Prop}
theorem m194u (hy : 10581 ≤ nx) (hc : kk_core b h dh0) {G : mm_Id → Int → Int} {i : Int} (hD : mm_isD i) (hr : ∀ d, 1 ≤ d → d < 37 → 0 ≤ G (44, 0, 0) (36 * i + d - 1) ∧ G (44, 0, 0) (36 * i + d - 1) ≤ 24) (hf : ∀ d, 1 ≤ d → d < 37 → G (41, 0, 0) (36 * i + d - 1) = 1 → G (44, 0, 0) (36 * i + d - 1) = 0) (nsw : ∀ n, 1 ≤ n → n < 37 → ¬ (G (41, 0, 0) (36 * i + n - 1) = 1 ∧ kk_ef G i n = 0)) (eG : ∀ (f : Nat) k, f = 62 ∨ f = 63 ∨ f = 64 → G (f, 0, 0) k = h (f, 0, 0) k)
    (K : ∀ G2, (∀ (x : mm_Id) k, x.1 ≠ 63 → x.1 ≠ 64 → G2 x k = G x k) →
      (∀ p, 0 ≤ p → p < 8 → dh0 p = i → G2 (63, 0, 0) (p + 1) = 0 ∧ ∀ a, 0 ≤ a → a < 2160 → G2 (64, 0, 0) (2160 * (p + 1) + a) = 0) → (∀ p, 0 ≤ p → p < 8 → ¬ dh0 p = i → G2 (63, 0, 0) (p + 1) = h (63, 0, 0) (p + 1) ∧ ∀ a, 0 ≤ a → a < 2160 → G2 (64, 0, 0) (2160 * (p + 1) + a) = h (64, 0, 0) (2160 * (p + 1) + a)) → Q zU (mm_z G2 dh nx ns)) :
    mm_Cl 194 [zR (40, 0, 0), zI i] (mm_z G dh nx ns) Q := by
  have hDi := hD
  unfold mm_isD at hDi
  have O : ∀ p, 0 ≤ p → p < 8 → ((0 < G (63, 0, 0) (p + 1) ∧ G (62, 0, 0) (p + 1) = i) ↔ dh0 p = i) := fun p p0 p1 => by
    rw [eG 63 _ (by omega), eG 62 _ (by omega), kk_hop (kk_h17 hc) p0 p1]
    exact ⟨fun q => q.2, fun q => ⟨by rw [q]; exact hD, q⟩⟩
  refine m194 hy (by omega) hr hf (fun G2 e1 e2 e3 => ?_)
  refine K G2 (fun x k q1 q2 => e3 x k ?_ ?_) (fun p p0 p1 q => ?_) (fun p p0 p1 q => ?_)
  · rintro ⟨p, _, _, _, ⟨v, _⟩ | ⟨v, _⟩⟩
    · rw [v] at q1; exact q1 rfl
    · rw [v] at q2; exact q2 rfl
  · rintro ⟨n, n0, n1, w, v⟩
    exact nsw n n0 n1 w
  · exact e1 (p + 1) (by omega) (by omega) ((O p p0 p1).2 q)
  · have nq : ∀ (f : Nat) j, f = 63 ∧ j = p + 1 ∨ f = 64 ∧ 2160 * (p + 1) ≤ j ∧ j < 2160 * (p + 1) + 2160 → G2 (f, 0, 0) j = h (f, 0, 0) j := fun f j w => by
      rw [e3 _ _ ?_ ?_]
      · exact eG f j (by omega)
      · rintro ⟨m, m0, m1, w2, v⟩
        have y := (O (m - 1) (by omega) (by omega)).1 (by rw [show m - 1 + 1 = m by omega]; exact w2)
        have z : m - 1 = p := by
          simp at v
          omega
        rw [z] at y
        exact q y
      · rintro ⟨m, m0, m1, w2, v⟩
        exact nsw m m0 m1 w2
    exact ⟨nq 63 _ (by omega), fun a a0 a1 => nq 64 _ (by omega)⟩
theorem m252p (hy : 10581 ≤ nx) (hc : kk_core b h dh0) {G : mm_Id → Int → Int} {d s U : Int} {v1 v2 v5 v6 : mm_V} (hv5 : mm_wt v5 = 1) (hd : 0 ≤ d ∧ d < 5) (hs : 5 ≤ s ∧ s < 13) (hno : 0 < kk_no h s) (mG : ∀ (x : mm_Id) k, 40 ≤ x.1 → ¬ (x = (40, 0, 0) ∧ k = 0) → G x k = h x k)
    (hU : U = kk_cnt (fun c => ∃ n p, (1 ≤ n ∧ n < 37) ∧ (0 ≤ p ∧ p < 36) ∧ (¬ (h (24, s, n) 0 = 1 ∧ h (24, s, n) 5 = 0) ∧ h (27, s, n) p ≠ 0) ∧ h (43, 0, 0) (36 * (36 * s + n - 1) + p) = c))
    (K0 : h (59, 0, 0) d < U → ∀ g2, (∀ n, 1 ≤ n → n < 37 → kk_ms g2 (36 * d + n - 1) h (36 * d + n - 1)) → (∀ n, 1 ≤ n → n < 37 → kk_ms g2 (36 * 28 + n - 1) h (36 * d + n - 1)) → (∀ (x : mm_Id) j, ¬ kk_sx d x j → ¬ kk_sx 28 x j → x.1 ≠ 56 → g2 x j = G x j) → Q (zI (-4)) (mm_z g2 dh nx ns))
    (K1 : ¬ h (59, 0, 0) d < U → ∀ gm0 gm, (∀ n, 1 ≤ n → n < 37 → kk_ms gm0 (36 * d + n - 1) h (36 * s + n - 1)) → (∀ n, 1 ≤ n → n < 37 → kk_ms gm0 (36 * 28 + n - 1) h (36 * d + n - 1)) → (∀ a x k, a ≠ d → a ≠ 28 → kk_sx a x k → gm0 x k = h x k) → (∀ n, 1 ≤ n → n < 37 → (h (24, s, n) 0 = 1 ∧ h (24, s, n) 5 = 0) → kk_mz gm (36 * d + n - 1)) →
      (∀ a n x k, ¬ (a = d ∧ h (24, s, n) 0 = 1 ∧ h (24, s, n) 5 = 0) → 1 ≤ n → n < 37 → kk_mx (36 * a + n - 1) x k → gm x k = gm0 x k) → (∀ k, gm (53, 0, 0) k = gm0 (53, 0, 0) k) → (∀ (x : mm_Id) k, x.1 < 41 ∨ 53 < x.1 → x.1 ≠ 56 → gm x k = G x k) → (∀ (x : mm_Id) k, x.1 < 41 ∨ 53 < x.1 → gm0 x k = G x k) → (∀ n, kk_ef gm d n = kk_ef gm0 d n) → kk_cnt (kk_bs gm d) ≤ h (59, 0, 0) d →
      mm_Cl 194 [zR (40, 0, 0), zI d] (mm_z gm dh nx ns) (fun r h3 => mm_Wp 252 (bk_252_14.drop 3) [zR (40, 0, 0), v1, v2, zI d, zI s, v5, zI 37] (mm_push r []) h3 Q)) :
    mm_Cl 179 [zR (40, 0, 0), zI d, zI 28] (mm_z G dh nx ns) (fun r h3 => mm_Wp 252 (bk_252_10.drop 4) [zR (40, 0, 0), v1, v2, zI d, zI s, v5, v6] (mm_push r []) h3 Q) := by
  have gsx : ∀ (x : mm_Id) k, 41 ≤ x.1 → x.1 ≤ 53 → G x k = h x k := fun x k q q2 => mG x k (by omega) (by rintro ⟨v, _⟩; rw [v] at q; simp at q)
  have msG := kk_msa hc gsx
  refine m179 hy (by omega) (by omega) (by omega) (fun n n0 n1 => kk_mwm (msG d n (by omega) (by omega) n0 n1) (kk_mwC hc (by omega) ⟨n0, n1⟩)) (fun g1 a1 a2 => ?_)
  have ms1 : ∀ a n, 0 ≤ a → a < 28 → 1 ≤ n → n < 37 → kk_ms g1 (36 * a + n - 1) h (36 * a + n - 1) := fun a n a0 a1' n0 n1 => by
    have w := kk_mwC hc (s := a) (n := n) ⟨a0, by omega⟩ ⟨n0, n1⟩
    exact kk_msr w.2.1.2 w.2.2.2 (fun x k hx2 => by rw [a2 x k (kk_sxd (s := a) (by omega) ⟨n, n0, n1, hx2⟩)]; have r := kk_mxr hx2; exact gsx x k r.1 r.2)
  rw [mm_pU, r_252_10_4 (hy := hy)]
  refine m179 hy (by omega) (by omega) (by omega) (fun n n0 n1 => kk_mwm (ms1 s n (by omega) (by omega) n0 n1) (kk_mwC hc (by omega) ⟨n0, n1⟩)) (fun g2 b1 b2 => ?_)
  have mt : ∀ n, 1 ≤ n → n < 37 → kk_ms g2 (36 * d + n - 1) h (36 * s + n - 1) := fun n n0 n1 => kk_mst (b1 n n0 n1) (ms1 s n (by omega) (by omega) n0 n1)
  have m28 : ∀ n, 1 ≤ n → n < 37 → kk_ms g2 (36 * 28 + n - 1) h (36 * d + n - 1) := fun n n0 n1 => by
    have w1 := a1 n n0 n1
    have w := kk_mwC hc (s := d) (n := n) ⟨by omega, by omega⟩ ⟨n0, n1⟩
    have m := kk_mst w1 (msG d n (by omega) (by omega) n0 n1)
    refine kk_mst (kk_msr ?_ ?_ (fun x k hx2 => b2 x k (kk_sxd (s := 28) (by omega) ⟨n, n0, n1, hx2⟩))) m
    · rw [m.1 44 kk_f44]; exact w.2.1.2
    · rw [m.1 49 kk_f49]; exact w.2.2.2
  have mo : ∀ a x k, a ≠ d → a ≠ 28 → kk_sx a x k → g2 x k = h x k := fun a x k q q2 hx2 => by
    rw [b2 x k (kk_sxd q hx2), a2 x k (kk_sxd q2 hx2)]
    have r := kk_sxr hx2
    exact gsx x k r.1 r.2
  have go : ∀ (x : mm_Id) k, ¬ kk_sx d x k → ¬ kk_sx 28 x k → g2 x k = G x k := fun x k q q2 => by rw [b2 x k q, a2 x k q2]
  have U1 : ∀ n, 1 ≤ n → n < 37 → ((g2 (41, 0, 0) (36 * d + n - 1) = 1 ∧ kk_ef g2 d n = 0) ↔ (h (24, s, n) 0 = 1 ∧ h (24, s, n) 5 = 0)) := fun n n0 n1 => kk_unu hc ⟨by omega, by omega⟩ ⟨n0, n1⟩ mt
  rw [mm_pU, r_252_10_8 (hvx5 := hv5) (hy := hy)]
  refine m252c hy (by omega) (fun n n0 n1 => ?_) (fun n n0 n1 => ?_) (fun g3 c1 c2 c3 => ?_)
  · rw [(mt n n0 n1).1 44 kk_f44]; exact (kk_mwC hc (s := s) (by omega) ⟨n0, n1⟩).2.1
  · rw [(mt n n0 n1).1 44 kk_f44, (mt n n0 n1).1 41 kk_f41]
    intro w
    exact (kk_MWC hc (s := s) (by omega) ⟨n0, n1⟩).2.2.1 (by omega)
  have z3 : ∀ n, 1 ≤ n → n < 37 → (h (24, s, n) 0 = 1 ∧ h (24, s, n) 5 = 0) → kk_mz g3 (36 * d + n - 1) := fun n n0 n1 q => c1 n n0 n1 ((U1 n n0 n1).2 q)
  have f3 : ∀ (x : mm_Id) k, ¬ (∃ n, 1 ≤ n ∧ n < 37 ∧ (h (24, s, n) 0 = 1 ∧ h (24, s, n) 5 = 0) ∧ kk_cx (36 * d + n - 1) x k) → g3 x k = g2 x k := fun x k q => c2 x k (by
    rintro ⟨n, n0, n1, w, v⟩
    exact q ⟨n, n0, n1, (U1 n n0 n1).1 w, v⟩)
  have e3 : ∀ a n x k, ¬ (a = d ∧ h (24, s, n) 0 = 1 ∧ h (24, s, n) 5 = 0) → 1 ≤ n → n < 37 → kk_mx (36 * a + n - 1) x k → g3 x k = g2 x k := fun a n x k q n0 n1 hx2 => f3 x k (by
    rintro ⟨m, m0, m1, w, v⟩
    by_cases z : 36 * a + n - 1 = 36 * d + m - 1
    · have z1 : a = d := by omega
      have z2 : n = m := by omega
      rw [z2] at q
      exact q ⟨z1, w⟩
    · exact kk_mxd z hx2 (kk_cxm v))
  have e53 : ∀ k, g3 (53, 0, 0) k = g2 (53, 0, 0) k := fun k => f3 _ k (by
    rintro ⟨m, m0, m1, w, v⟩
    unfold kk_cx at v
    simp at v)
  have o3 : ∀ (x : mm_Id) k, x.1 < 41 ∨ 53 < x.1 → g3 x k = G x k := fun x k q => by
    rw [f3 x k (by
      rintro ⟨m, m0, m1, w, v⟩
      have r := kk_mxr (kk_cxm v)
      omega), go x k (kk_sx6 q) (kk_sx6 q)]
  have mz0 : ∀ n p, 1 ≤ n → n < 37 → 0 ≤ p → p < 36 → (h (24, s, n) 0 = 1 ∧ h (24, s, n) 5 = 0) → g3 (43, 0, 0) (36 * (36 * d + n - 1) + p) = 0 := fun n p n0 n1 p0 p1 q => (z3 n n0 n1 q).2 p p0 p1
  have p3 : ∀ n p, 1 ≤ n → n < 37 → 0 ≤ p → p < 36 → ¬ (h (24, s, n) 0 = 1 ∧ h (24, s, n) 5 = 0) → g3 (43, 0, 0) (36 * (36 * d + n - 1) + p) = h (43, 0, 0) (36 * (36 * s + n - 1) + p) := fun n p n0 n1 p0 p1 q => by
    rw [e3 d n _ _ (fun w => q w.2) n0 n1 (kk_m43 ⟨p0, p1⟩), (mt n n0 n1).2.1 p p0 p1]
  have br : ∀ a, 0 ≤ a → a < 29 → kk_br g3 a := fun a a0 a1' n p n0 n1 p0 p1 => by
    have R : ∀ a2, 0 ≤ a2 → a2 < 29 → 0 ≤ h (43, 0, 0) (36 * (36 * a2 + n - 1) + p) ∧ h (43, 0, 0) (36 * (36 * a2 + n - 1) + p) ≤ 3000 := fun a2 x0 x1 => ((kk_MWC hc (s := a2) ⟨x0, x1⟩ ⟨n0, n1⟩).2.2.2 p p0 p1).1
    by_cases q : a = d
    · rw [q]
      by_cases w : h (24, s, n) 0 = 1 ∧ h (24, s, n) 5 = 0
      · rw [mz0 n p n0 n1 p0 p1 w]; omega
      · rw [p3 n p n0 n1 p0 p1 w]; exact R s (by omega) (by omega)
    · rw [e3 a n _ _ (fun w => q w.1) n0 n1 (kk_m43 ⟨p0, p1⟩)]
      by_cases q2 : a = 28
      · rw [q2, (m28 n n0 n1).2.1 p p0 p1]; exact R d (by omega) (by omega)
      · rw [mo a _ _ q q2 ⟨n, n0, n1, kk_m43 ⟨p0, p1⟩⟩]; exact R a a0 a1'
  have bd : ∀ c, 1 ≤ c → (kk_bs g3 d c ↔ ∃ n p, (1 ≤ n ∧ n < 37) ∧ (0 ≤ p ∧ p < 36) ∧ (¬ (h (24, s, n) 0 = 1 ∧ h (24, s, n) 5 = 0) ∧ h (27, s, n) p ≠ 0) ∧ h (43, 0, 0) (36 * (36 * s + n - 1) + p) = c) := fun c c1 => by
    constructor
    · rintro ⟨n, p, hn, hp, k, e⟩
      have q : ¬ (h (24, s, n) 0 = 1 ∧ h (24, s, n) 5 = 0) := fun w => by
        have := (z3 n hn.1 hn.2 w).1.1
        omega
      rw [p3 n p hn.1 hn.2 hp.1 hp.2 q] at e
      refine ⟨n, p, hn, hp, ⟨q, fun w => ?_⟩, e⟩
      have := ((hc.1.1.1 s n (by omega) (by omega) hn.1 hn.2).2.2.2.2.2.2.2 p hp.1 hp.2).1.1 w
      omega
    · rintro ⟨n, p, hn, hp, ⟨q, w⟩, e⟩
      refine ⟨n, p, hn, hp, ?_, by rw [p3 n p hn.1 hn.2 hp.1 hp.2 q]; exact e⟩
      rw [e3 d n _ _ (fun w => q w.2) hn.1 hn.2 (Or.inl ⟨kk_f41, rfl⟩), (mt n hn.1 hn.2).1 41 kk_f41]
      exact (kk_pcf hc.1 ⟨by omega, by omega⟩ hn hp w).2.1
  have cU : kk_cnt (kk_bs g3 d) = U := by rw [hU]; exact kk_cntc (fun c c1 _ => bd c c1)
  have bo : ∀ a c, 0 ≤ a → a < 13 → a ≠ d → kk_bs g3 a c → kk_bs h a c := fun a c a0 a1' q w => by
    obtain ⟨n, p, hn, hp, k, e⟩ := w
    rw [e3 a n _ _ (fun w => q w.1) hn.1 hn.2 (Or.inl ⟨kk_f41, rfl⟩), mo a _ _ q (by omega) ⟨n, hn.1, hn.2, Or.inl ⟨kk_f41, rfl⟩⟩] at k
    rw [e3 a n _ _ (fun w => q w.1) hn.1 hn.2 (kk_m43 hp), mo a _ _ q (by omega) ⟨n, hn.1, hn.2, kk_m43 hp⟩] at e
    exact ⟨n, p, hn, hp, k, e⟩
  have lb : kk_cnt (kk_lb g3 (-1)) ≤ 400 := by
    refine Int.le_trans (kk_cntle (fun c c1 _ q => ?_)) hc.1.2.1.2.2.1
    obtain ⟨k, hk, h57, hne, q⟩ := q
    by_cases z : k = d
    · rw [z] at q
      obtain ⟨n, p, hn, hp, ⟨w1, w2⟩, e⟩ := (bd c c1).1 q
      refine kk_bsl hc (s := s) ⟨by omega, by omega⟩ hno ⟨n, p, hn, hp, ?_, e⟩
      exact (kk_pcf hc.1 ⟨by omega, by omega⟩ hn hp w2).2.1
    · rw [o3 _ _ (by decide), mG _ _ (by decide) (by simp)] at h57
      exact ⟨k, hk, h57, hne, bo k c hk.1 hk.2 z q⟩
  have e59 : g3 (59, 0, 0) d = h (59, 0, 0) d := by rw [o3 _ _ (by decide), mG _ _ (by decide) (by simp)]
  rw [r_252_11 (hy := hy), if_pos (by omega)]
  refine m201 hy (by omega) (fun a a0 a1' => br a a0 a1') (fun g4 d1 d2 d3 => ?_) (fun g4 d1 d2 => ?_)
  · have o4 : ∀ (x : mm_Id) k, x.1 ≠ 56 → g4 x k = g3 x k := fun x k q => d1 x k (by rintro ⟨v, _⟩; rw [v] at q; exact q rfl)
    rw [mm_pI, r_252_13_3 (hy := hy), if_neg (by decide)]
    rw [cU, e59] at d3
    refine K1 (by omega) g2 g4 mt m28 mo (fun n n0 n1 q => ?_) (fun a n x k q n0 n1 hx2 => ?_) (fun k => by rw [o4 _ _ (by decide)]; exact e53 k) (fun x k q q2 => by rw [o4 x k q2]; exact o3 x k q) (fun x k q => go x k (kk_sx6 q) (kk_sx6 q)) (fun n => ?_) ?_
    · have m := z3 n n0 n1 q
      unfold kk_mz
      rw [o4 _ _ (by decide), o4 _ _ (by decide), o4 _ _ (by decide), o4 _ _ (by decide)]
      exact ⟨m.1, fun p p0 p1 => by rw [o4 _ _ (by decide)]; exact m.2 p p0 p1⟩
    · have r := kk_mxr hx2
      rw [o4 x k (by omega)]
      exact e3 a n x k q n0 n1 hx2
    · rw [← c3]
      exact kk_efc (fun d _ _ => o4 _ _ (by decide)) (fun j => o4 _ _ (by decide))
    · rw [kk_bse (fun x j q => o4 x j (by omega)), cU]; exact d3
  · have o4 : ∀ (x : mm_Id) k, x.1 ≠ 56 → g4 x k = g3 x k := fun x k q => d1 x k (by rintro ⟨v, _⟩; rw [v] at q; exact q rfl)
    rw [cU, e59] at d2
    have lt : h (59, 0, 0) d < U := by
      by_cases z : h (59, 0, 0) d < U
      · exact z
      · exact absurd ⟨lb, by omega⟩ d2
    rw [mm_pI, r_252_13_3 (hy := hy), if_pos rfl]
    have m28' : ∀ n, 1 ≤ n → n < 37 → kk_ms g4 (36 * 28 + n - 1) h (36 * d + n - 1) := fun n n0 n1 => by
      have w := kk_mwC hc (s := d) (n := n) ⟨by omega, by omega⟩ ⟨n0, n1⟩
      have m := m28 n n0 n1
      refine kk_mst (kk_msr ?_ ?_ (fun x k hx2 => ?_)) m
      · rw [m.1 44 kk_f44]; exact w.2.1.2
      · rw [m.1 49 kk_f49]; exact w.2.2.2
      · have r := kk_mxr hx2
        rw [o4 x k (by omega), e3 28 n x k (by omega) n0 n1 hx2]
    refine m179 hy (by omega) (by omega) (by omega) (fun n n0 n1 => kk_mwm (m28' n n0 n1) (kk_mwC hc (by omega) ⟨n0, n1⟩)) (fun g5 f1 f2 => ?_)
    rw [mm_pU, r_252_13_8 (hy := hy)]
    refine K0 lt g5 (fun n n0 n1 => kk_mst (f1 n n0 n1) (m28' n n0 n1)) (fun n n0 n1 => ?_) (fun x k q1 q2 q3 => ?_)
    · have w := kk_mwC hc (s := d) (n := n) ⟨by omega, by omega⟩ ⟨n0, n1⟩
      have m := m28' n n0 n1
      refine kk_mst (kk_msr ?_ ?_ (fun x k hx2 => f2 x k (kk_sxd (s := 28) (by omega) ⟨n, n0, n1, hx2⟩))) m
      · rw [m.1 44 kk_f44]; exact w.2.1.2
      · rw [m.1 49 kk_f49]; exact w.2.2.2
    · rw [f2 x k q1, o4 x k q3, f3 x k (by
        rintro ⟨m, m0, m1, w, v⟩
        exact q1 ⟨m, m0, m1, kk_cxm v⟩), go x k q1 q2]
end

