/-! trees that are copies: what holds of the one holds of the other -/
theorem kk_F0 : kk_F 0 := by simp [kk_F]
theorem kk_F1 : kk_F 1 := by simp [kk_F]
theorem kk_F2 : kk_F 2 := by simp [kk_F]
theorem kk_F3 : kk_F 3 := by simp [kk_F]
theorem kk_F4 : kk_F 4 := by simp [kk_F]
theorem kk_F5 : kk_F 5 := by simp [kk_F]
theorem kk_F6 : kk_F 6 := by simp [kk_F]
theorem kk_F11 : kk_F 11 := by simp [kk_F]
theorem kk_F14 : kk_F 14 := by simp [kk_F]
theorem kk_f41 : kk_mf 41 := by simp [kk_mf]
theorem kk_f42 : kk_mf 42 := by simp [kk_mf]
theorem kk_f44 : kk_mf 44 := by simp [kk_mf]
theorem kk_f47 : kk_mf 47 := by simp [kk_mf]
theorem kk_f48 : kk_mf 48 := by simp [kk_mf]
theorem kk_f49 : kk_mf 49 := by simp [kk_mf]
theorem kk_f53 : kk_mf 53 := by simp [kk_mf]
theorem kk_cpdr {g h : mm_Id → Int → Int} {t n : Int} (e : ∀ (f : Nat) j, 24 ≤ f → f ≤ 30 → g (f, t, n) j = h (f, t, n) j) : kk_cpd g t n h t n := by
  refine ⟨⟨fun f _ => e 24 f (by omega) (by omega), fun _ j _ _ => ⟨e 25 j (by omega) (by omega), e 26 j (by omega) (by omega)⟩, fun _ j _ _ => e 30 j (by omega) (by omega), fun j _ _ => ⟨e 28 j (by omega) (by omega), e 29 j (by omega) (by omega)⟩⟩, e 24 9 (by omega) (by omega), fun p _ _ => e 27 p (by omega) (by omega)⟩
theorem kk_cpdt {g h k : mm_Id → Int → Int} {t n t1 n1 t2 n2 : Int} (a : kk_cpd g t n h t1 n1) (b : kk_cpd h t1 n1 k t2 n2) : kk_cpd g t n k t2 n2 := by
  obtain ⟨⟨a1, a2, a3, a4⟩, a9, ap⟩ := a
  obtain ⟨⟨b1, b2, b3, b4⟩, b9, bp⟩ := b
  refine ⟨⟨fun f hf => (a1 f hf).trans (b1 f hf), fun k2 e e0 e1 => ?_, fun k2 e e0 e1 => ?_, fun e e0 e1 => ?_⟩, a9.trans b9, fun p p0 p1 => (ap p p0 p1).trans (bp p p0 p1)⟩
  · have x := a2 (by rw [b1 0 kk_F0]; exact k2) e e0 e1
    have y := b2 k2 e e0 e1
    exact ⟨x.1.trans y.1, x.2.trans y.2⟩
  · exact (a3 (by rw [b1 0 kk_F0]; exact k2) e e0 e1).trans (b3 k2 e e0 e1)
  · have x := a4 e e0 (by rw [b1 11 kk_F11]; exact e1)
    have y := b4 e e0 e1
    exact ⟨x.1.trans y.1, x.2.trans y.2⟩
theorem kk_msr {g h : mm_Id → Int → Int} {k : Int} (hc : h (44, 0, 0) k ≤ 24) (hk : h (49, 0, 0) k ≤ 4) (e : ∀ x j, kk_mx k x j → g x j = h x j) : kk_ms g k h k := by
  refine ⟨fun f hf => e _ _ (Or.inl ⟨hf, rfl⟩), fun p p0 p1 => e _ _ (kk_m43 ⟨p0, p1⟩), fun i i0 i1 => ⟨e _ _ (kk_m45 (Or.inl rfl) ⟨i0, by omega⟩), e _ _ (kk_m45 (Or.inr rfl) ⟨i0, by omega⟩)⟩, fun i i0 i1 => ⟨e _ _ (kk_m50 (Or.inl rfl) ⟨i0, by omega⟩), e _ _ (kk_m50 (Or.inr rfl) ⟨i0, by omega⟩)⟩, fun i i0 i1 => e _ _ (kk_m52 ⟨i0, i1⟩)⟩
theorem kk_mst {g h k : mm_Id → Int → Int} {a b c : Int} (x : kk_ms g a h b) (y : kk_ms h b k c) : kk_ms g a k c := by
  obtain ⟨x1, x2, x3, x4, x5⟩ := x
  obtain ⟨y1, y2, y3, y4, y5⟩ := y
  refine ⟨fun f hf => (x1 f hf).trans (y1 f hf), fun p p0 p1 => (x2 p p0 p1).trans (y2 p p0 p1), fun e e0 e1 => ?_, fun e e0 e1 => ?_, fun e e0 e1 => (x5 e e0 e1).trans (y5 e e0 e1)⟩
  · have u := x3 e e0 (by rw [y1 44 kk_f44]; exact e1)
    have v := y3 e e0 e1
    exact ⟨u.1.trans v.1, u.2.trans v.2⟩
  · have u := x4 e e0 (by rw [y1 49 kk_f49]; exact e1)
    have v := y4 e e0 e1
    exact ⟨u.1.trans v.1, u.2.trans v.2⟩
theorem kk_NRcp {h g : mm_Id → Int → Int} {t n t1 n1 : Int} (cp : kk_cpd g t n h t1 n1) (ms : kk_ms g (36 * t + n - 1) h (36 * t1 + n1 - 1)) (W : kk_NW h t1 n1)
    (e16 : ∀ p i, 0 ≤ p → p < 36 → h (27, t1, n1) p ≠ 0 → 0 ≤ i → i < 60 → g (16, 0, 0) (60 * h (27, t1, n1) p + i) = h (16, 0, 0) (60 * h (27, t1, n1) p + i))
    (e54 : ∀ p i, 0 ≤ p → p < 36 → h (27, t1, n1) p ≠ 0 → 0 ≤ i → i < 60 → g (54, 0, 0) (60 * h (43, 0, 0) (36 * (36 * t1 + n1 - 1) + p) + i) = h (54, 0, 0) (60 * h (43, 0, 0) (36 * (36 * t1 + n1 - 1) + p) + i))
    (N : kk_NR h t1 n1) : kk_NR g t n := by
  obtain ⟨⟨c1, c2, c3, c4⟩, c9, cP⟩ := cp
  obtain ⟨m1, m2, m3, m4, m5⟩ := ms
  obtain ⟨a0, a6, a11, af, ae, ak, ast, ap⟩ := N
  obtain ⟨w0, w6, w26, w11, w011, w14, w9, wp, w2, w3, w1, wr⟩ := W
  have f0 := c1 0 kk_F0
  have f6 := c1 6 kk_F6
  have f11 := c1 11 kk_F11
  have f1 := c1 1 kk_F1
  have g41 := m1 41 kk_f41
  have g44 := m1 44 kk_f44
  have g49 := m1 49 kk_f49
  have g42 := m1 42 kk_f42
  refine ⟨by rw [f0, g41, a0], by rw [f6, g44, a6], by rw [f11, g49, a11], fun k => ?_, fun e e0 e1 => ?_, fun e e0 e1 => ?_, fun k e e0 e1 => ?_, fun p p0 p1 => ?_⟩
  · have q := af (by rw [← f0]; exact k)
    rw [f1, c1 2 kk_F2, c1 3 kk_F3, c1 14 kk_F14, g42, m1 47 kk_f47, m1 48 kk_f48, m1 53 kk_f53]
    exact q
  · rw [f6] at e1
    have k2 : h (24, t1, n1) 0 = 2 := by
      by_cases z : h (24, t1, n1) 0 = 2
      · exact z
      · have := w26 z; omega
    have x := c2 k2 e e0 (by omega)
    have y := m3 e e0 (by omega)
    have z := ae e e0 e1
    rw [x.1, x.2, y.1, y.2]
    exact z
  · rw [f11] at e1
    have x := c4 e e0 e1
    have y := m4 e e0 (by omega)
    have z := ak e e0 e1
    rw [x.1, x.2, y.1, y.2]
    exact z
  · rw [f0] at k
    rw [f1] at e1
    have := w1.2.2 k
    rw [c3 k e e0 (by omega), m5 e e0 (by omega)]
    exact ast k e e0 e1
  · have z := ap p p0 p1
    rw [cP p p0 p1, m2 p p0 p1]
    refine ⟨z.1, fun q i i0 i1 => ?_⟩
    rw [e16 p i p0 p1 q i0 i1, e54 p i p0 p1 q i0 i1]
    exact z.2 q i i0 i1
theorem kk_NWcp {h g : mm_Id → Int → Int} {t t1 n : Int} (cp : ∀ n, 1 ≤ n → n < 37 → kk_cpd g t n h t1 n) (hn : 1 ≤ n ∧ n < 37)
    (e16 : ∀ p i, 0 ≤ p → p < 36 → 0 ≤ i → i < 60 → g (16, 0, 0) (60 * h (27, t1, n) p + i) = h (16, 0, 0) (60 * h (27, t1, n) p + i)) (W : kk_NW h t1 n) : kk_NW g t n := by
  obtain ⟨⟨c1, c2, c3, c4⟩, c9, cP⟩ := cp n hn.1 hn.2
  obtain ⟨w0, w6, w26, w11, w011, w14, w9, wp, w2, w3, w1, ws, wk, we, wv, wst, wz⟩ := W
  have f0 := c1 0 kk_F0
  have f1 := c1 1 kk_F1
  have f2 := c1 2 kk_F2
  have f3 := c1 3 kk_F3
  have f6 := c1 6 kk_F6
  have f11 := c1 11 kk_F11
  have f14 := c1 14 kk_F14
  have k2 : ∀ e, 0 ≤ e → e < h (24, t1, n) 6 → g (25, t, n) e = h (25, t1, n) e ∧ g (26, t, n) e = h (26, t1, n) e := fun e e0 e1 => by
    refine c2 ?_ e e0 (by omega)
    by_cases z : h (24, t1, n) 0 = 2
    · exact z
    · have := w26 z; omega
  refine ⟨by rw [f0]; exact w0, by rw [f6]; exact w6, by rw [f0, f6]; exact w26, by rw [f11]; exact w11, by rw [f0, f11]; exact w011, by rw [f14]; exact w14, ?_, ?_, by rw [f2]; exact w2, by rw [f3]; exact w3, by rw [f0, f1]; exact w1, ?_, ?_, ?_, ?_, ?_, ?_⟩
  · rw [c9, w9]; exact (kk_nzc (fun p p0 p1 => cP p p0 p1)).symm
  · rw [f0]; exact fun k p p0 p1 => by rw [cP p p0 p1]; exact wp k p p0 p1
  · rw [f6]
    intro i j i0 ij jc
    rw [(k2 i i0 (by omega)).1, (k2 j (by omega) jc).1]
    exact ws i j i0 ij jc
  · rw [f11]
    intro i j i0 ij jc
    rw [(c4 i i0 (by omega)).1, (c4 j (by omega) jc).1]
    exact wk i j i0 ij jc
  · rw [f6]
    intro e e0 e1
    have z := we e e0 e1
    rw [(k2 e e0 e1).1, (k2 e e0 e1).2, (cp _ z.2.1.1 z.2.1.2).1.1 0 kk_F0]
    exact z
  · rw [f11]
    intro e e0 e1
    rw [(c4 e e0 e1).1, (c4 e e0 e1).2]
    exact wv e e0 e1
  · rw [f0, f1]
    intro k e e0 e1
    have := w1.2.2 k
    rw [c3 k e e0 (by omega)]
    exact wst k e e0 e1
  · rw [f0, f1]
    intro k i i0 i1
    have := w1.1 k
    rw [cP (i / 60) (by omega) (by omega), e16 (i / 60) (i % 60) (by omega) (by omega) (by omega) (by omega)]
    exact wz k i i0 i1
theorem kk_eccp {h g : mm_Id → Int → Int} {t t1 : Int} (cp : ∀ n, 1 ≤ n → n < 37 → kk_cpd g t n h t1 n) (W : ∀ n, 1 ≤ n → n < 37 → kk_NW h t1 n) (m : Int) : kk_ec g t m = kk_ec h t1 m := by
  refine kk_Sc _ (fun d d0 d1 => ?_)
  have c := (cp d d0 (by omega)).1
  have w := W d d0 (by omega)
  unfold kk_e1
  rw [c.1 6 kk_F6]
  refine sm_cgI _ (fun e e0 e1 => ?_)
  have hk : h (24, t1, d) 0 = 2 := by
    by_cases z : h (24, t1, d) 0 = 2
    · exact z
    · have := w.2.2.1 z; omega
  have := w.2.1
  rw [(c.2.1 hk e e0 (by omega)).2]
theorem kk_TWcp {h g : mm_Id → Int → Int} {t t1 : Int} (cp : ∀ n, 1 ≤ n → n < 37 → kk_cpd g t n h t1 n) (W : ∀ n, 1 ≤ n → n < 37 → kk_NW h t1 n) (T : kk_TW h t1) : kk_TW g t := by
  obtain ⟨a1, a2, a3, a4, a5, a6, a7, r, a8⟩ := T
  have ec := kk_eccp cp W
  have f : ∀ n f, 1 ≤ n → n < 37 → kk_F f → g (24, t, n) f = h (24, t1, n) f := fun n f n0 n1 hf => (cp n n0 n1).1.1 f hf
  refine ⟨fun n n0 n1 k => ?_, fun n n0 n1 k => ?_, fun n n0 n1 k => ?_, ?_, fun n n0 n1 k => ?_, fun n d e n0 n1 k d0 d1 e0 e1 q => ?_, fun n n0 n1 k => ?_, r, fun n n0 n1 k => ?_⟩
  · rw [f n 0 n0 n1 kk_F0] at k
    rw [f n 5 n0 n1 kk_F5, ec]
    exact a1 n n0 n1 k
  · rw [f n 0 (by omega) n1 kk_F0] at k
    rw [ec]
    exact a2 n n0 n1 k
  · rw [f n 0 (by omega) n1 kk_F0] at k
    rw [ec]
    exact a3 n n0 n1 k
  · rw [ec]; exact a4
  · rw [f n 0 n0 n1 kk_F0] at k
    rw [f n 4 n0 n1 kk_F4]
    exact a5 n n0 n1 k
  · rw [f n 0 (by omega) n1 kk_F0] at k
    rw [f d 6 d0 d1 kk_F6] at e1
    rw [f n 4 (by omega) n1 kk_F4]
    have w := W d d0 d1
    have hk : h (24, t1, d) 0 = 2 := by
      by_cases z : h (24, t1, d) 0 = 2
      · exact z
      · have := w.2.2.1 z; omega
    have := w.2.1
    rw [((cp d d0 d1).1.2.1 hk e e0 (by omega)).2] at q
    exact a6 n d e n0 n1 k d0 d1 e0 e1 q
  · rw [f n 0 n0 n1 kk_F0] at k
    rw [f 1 0 (by omega) (by omega) kk_F0]
    exact a7 n n0 n1 k
  · rw [f n 0 (by omega) n1 kk_F0] at k
    rw [f n 4 (by omega) n1 kk_F4]
    exact a8 n n0 n1 k
theorem kk_MWcp {h g : mm_Id → Int → Int} {k k1 : Int} (ms : kk_ms g k h k1) (W : kk_MW h k1) : kk_MW g k := by
  obtain ⟨m1, m2, m3, m4, m5⟩ := ms
  obtain ⟨w, w41, w44, wp⟩ := W
  unfold kk_MW kk_mw
  rw [m1 53 kk_f53, m1 44 kk_f44, m1 49 kk_f49, m1 41 kk_f41]
  exact ⟨w, w41, w44, fun p p0 p1 => by rw [m2 p p0 p1]; exact wp p p0 p1⟩
theorem kk_efcp {h g : mm_Id → Int → Int} {s s1 : Int} (ms : ∀ n, 1 ≤ n → n < 37 → kk_ms g (36 * s + n - 1) h (36 * s1 + n - 1)) (m : Int) : kk_ef g s m = kk_ef h s1 m := by
  refine kk_Sc _ (fun d d0 d1 => ?_)
  have q := ms d d0 (by omega)
  unfold kk_ed
  rw [q.1 44 kk_f44]
  refine sm_cgI _ (fun e e0 e1 => ?_)
  rw [(q.2.2.1 e e0 (by omega)).2]
theorem kk_bscp {h g : mm_Id → Int → Int} {s s1 b : Int} (ms : ∀ n, 1 ≤ n → n < 37 → kk_ms g (36 * s + n - 1) h (36 * s1 + n - 1)) : kk_bs g s b ↔ kk_bs h s1 b := by
  constructor
  · rintro ⟨n, p, hn, hp, k, q⟩
    have m := ms n hn.1 hn.2
    exact ⟨n, p, hn, hp, by rw [← m.1 41 kk_f41]; exact k, by rw [← m.2.1 p hp.1 hp.2]; exact q⟩
  · rintro ⟨n, p, hn, hp, k, q⟩
    have m := ms n hn.1 hn.2
    exact ⟨n, p, hn, hp, by rw [m.1 41 kk_f41]; exact k, by rw [m.2.1 p hp.1 hp.2]; exact q⟩
theorem kk_SRcp {h g : mm_Id → Int → Int} {t : Int} (cp : ∀ n, 1 ≤ n → n < 37 → kk_cpd g t n h t n) (ms : ∀ n, 1 ≤ n → n < 37 → kk_ms g (36 * t + n - 1) h (36 * t + n - 1)) (W : ∀ n, 1 ≤ n → n < 37 → kk_NW h t n)
    (e16 : ∀ n p i, 1 ≤ n → n < 37 → 0 ≤ p → p < 36 → h (27, t, n) p ≠ 0 → 0 ≤ i → i < 60 → g (16, 0, 0) (60 * h (27, t, n) p + i) = h (16, 0, 0) (60 * h (27, t, n) p + i))
    (e54 : ∀ n p i, 1 ≤ n → n < 37 → 0 ≤ p → p < 36 → h (27, t, n) p ≠ 0 → 0 ≤ i → i < 60 → g (54, 0, 0) (60 * h (43, 0, 0) (36 * (36 * t + n - 1) + p) + i) = h (54, 0, 0) (60 * h (43, 0, 0) (36 * (36 * t + n - 1) + p) + i)) (S : kk_SR h t) : kk_SR g t := by
  intro n n0 n1
  have s := S n n0 n1
  have c : kk_ctn2 g t n ↔ kk_ctn2 h t n := by
    unfold kk_ctn2
    rw [(ms n n0 n1).1 41 kk_f41, kk_efcp ms]
  refine ⟨fun q => kk_NRcp (cp n n0 n1) (ms n n0 n1) (W n n0 n1) (e16 n · · n0 n1) (e54 n · · n0 n1) (s.1 (c.1 q)), fun q => ?_⟩
  rw [(cp n n0 n1).1.1 0 kk_F0]
  exact s.2 (fun w => q (c.2 w))
/-- trees and blocks, where every tree is a copy of one that was there -/
theorem kk_KTcp {P F : mm_Id → Int → Int} {τ σ : Int → Int} (K : kk_KT P) (hτ : ∀ t, mm_isT t → mm_isT (τ t)) (cp : ∀ t n, mm_isT t → 1 ≤ n → n < 37 → kk_cpd F t n P (τ t) n) (hσ : ∀ s, 0 ≤ s → s < 29 → 0 ≤ σ s ∧ σ s < 29) (hστ : ∀ t, mm_isT t → σ t = τ t)
    (ms : ∀ s n, 0 ≤ s → s < 29 → 1 ≤ n → n < 37 → kk_ms F (36 * s + n - 1) P (36 * σ s + n - 1)) (hNR : ∀ t n, 0 ≤ t → t < 13 → 1 ≤ n → n < 37 → kk_NR P (τ t) n) (R : kk_R F) (e16 : ∀ j, F (16, 0, 0) j = P (16, 0, 0) j) (e54 : ∀ j, F (54, 0, 0) j = P (54, 0, 0) j)
    (e22 : ∀ t, mm_isT t → F (22, t, 0) 2 = P (22, t, 0) 2) (e27 : ∀ t p, mm_isT t → 0 ≤ p → p < 36 → F (27, t, 0) p = P (27, t, 0) p) (hSR : ∀ t, t = 26 ∨ t = 27 → kk_SR F t) : kk_KT F := by
  obtain ⟨k1, k2, k3, k4, k5, k6, k7, k8, k9, k10, k11⟩ := K
  have T29 : ∀ t, mm_isT t → 0 ≤ t ∧ t < 29 := fun t ht => by unfold mm_isT at ht; omega
  have T13 : ∀ t : Int, 0 ≤ t → t < 13 → mm_isT t := fun t a b => by unfold mm_isT; omega
  have pc : ∀ t n p, mm_isT t → (1 ≤ n ∧ n < 37) → (0 ≤ p ∧ p < 36) → F (27, t, n) p = P (27, τ t, n) p := fun t n p ht hn hp => (cp t n ht hn.1 hn.2).2.2 p hp.1 hp.2
  have bc : ∀ t n p, mm_isT t → (1 ≤ n ∧ n < 37) → (0 ≤ p ∧ p < 36) → F (43, 0, 0) (36 * (36 * t + n - 1) + p) = P (43, 0, 0) (36 * (36 * τ t + n - 1) + p) := fun t n p ht hn hp => by
    rw [(ms t n (T29 t ht).1 (T29 t ht).2 hn.1 hn.2).2.1 p hp.1 hp.2, hστ t ht]
  refine ⟨fun t n t0 t1 n0 n1 => ?_, fun t n ht n0 n1 => ?_, fun t ht => ?_, hSR, fun s n s0 s1 n0 n1 => ?_, ?_, ?_, R, ?_, fun t ht => ?_, fun t p ht p0 p1 => ?_⟩
  · have ht := T13 t t0 t1
    have m := ms t n t0 (by omega) n0 n1
    rw [hστ t ht] at m
    exact kk_NRcp (cp t n ht n0 n1) m (k2 _ n (hτ t ht) n0 n1) (fun _ _ _ _ _ _ _ => e16 _) (fun _ _ _ _ _ _ _ => e54 _) (hNR t n t0 t1 n0 n1)
  · exact kk_NWcp (fun n a b => cp t n ht a b) ⟨n0, n1⟩ (fun _ _ _ _ _ _ => e16 _) (k2 _ n (hτ t ht) n0 n1)
  · exact kk_TWcp (fun n a b => cp t n ht a b) (fun n a b => k2 _ n (hτ t ht) a b) (k3 _ (hτ t ht))
  · exact kk_MWcp (ms s n s0 s1 n0 n1) (k5 _ n (hσ s s0 s1).1 (hσ s s0 s1).2 n0 n1)
  · intro t n p t2 n2 p2 ht hn hp ht2 hn2 hp2 z z2
    rw [pc t n p ht hn hp] at z ⊢
    rw [pc t2 n2 p2 ht2 hn2 hp2] at z2 ⊢
    rw [bc t n p ht hn hp, bc t2 n2 p2 ht2 hn2 hp2]
    exact k6 _ n p _ n2 p2 (hτ t ht) hn hp (hτ t2 ht2) hn2 hp2 z z2
  · intro t n p n2 p2 ht hn hp hn2 hp2 z
    rw [pc t n p ht hn hp] at z ⊢
    rw [pc t n2 p2 ht hn2 hp2]
    exact k7 _ n p n2 p2 (hτ t ht) hn hp hn2 hp2 z
  · exact ⟨fun e e0 e1 => by rw [e16]; exact k9.1 e e0 e1, fun j j0 j1 => by rw [e16]; exact k9.2 j j0 j1⟩
  · rw [e22 t ht]; exact k10 t ht
  · rw [e27 t p ht p0 p1]; exact k11 t p ht p0 p1

