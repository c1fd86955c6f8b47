/-! one tree changed among those that are there: trees, blocks, datasets -/
theorem kk_cpde {g h : mm_Id → Int → Int} {t n t1 n1 : Int} (e : ∀ (f : Nat) j, 24 ≤ f → f ≤ 30 → g (f, t, n) j = h (f, t1, n1) j) : kk_cpd g t n h t1 n1 :=
  ⟨⟨fun f _ => e 24 f (by decide) (by decide), fun _ i _ _ => ⟨e 25 i (by decide) (by decide), e 26 i (by decide) (by decide)⟩, fun _ i _ _ => e 30 i (by decide) (by decide), fun i _ _ => ⟨e 28 i (by decide) (by decide), e 29 i (by decide) (by decide)⟩⟩, e 24 9 (by decide) (by decide), fun p _ _ => e 27 p (by decide) (by decide)⟩
theorem kk_mse {g g2 h : mm_Id → Int → Int} {k k1 : Int} (e : ∀ (f : Nat) j, 40 ≤ f → g2 (f, 0, 0) j = g (f, 0, 0) j) (m : kk_ms g k h k1) : kk_ms g2 k h k1 := by
  obtain ⟨m1, m2, m3, m4, m5⟩ := m
  refine ⟨fun f hf => ?_, fun p p0 p1 => ?_, fun i i0 i1 => ?_, fun i i0 i1 => ?_, fun i i0 i1 => ?_⟩
  · rw [e f _ (by unfold kk_mf at hf; omega)]; exact m1 f hf
  · rw [e 43 _ (by decide)]; exact m2 p p0 p1
  · rw [e 45 _ (by decide), e 46 _ (by decide)]; exact m3 i i0 i1
  · rw [e 50 _ (by decide), e 51 _ (by decide)]; exact m4 i i0 i1
  · rw [e 52 _ (by decide)]; exact m5 i i0 i1
/-- trees become copies of others, and nodes of them are dropped -/
theorem kk_K0g {h F gm : mm_Id → Int → Int} {τ σ : Int → Int} {D E : Int → Int → Prop} (K : kk_K0 h) (hτ : ∀ t, mm_isT t → mm_isT (τ t)) (hσ : ∀ s, 0 ≤ s → s < 29 → 0 ≤ σ s ∧ σ s < 29) (hστ : ∀ t, mm_isT t → σ t = τ t) (hNR : ∀ t n, 0 ≤ t → t < 13 → 1 ≤ n → n < 37 → kk_NR h (τ t) n)
    (cl : ∀ t n, mm_isT t → 1 ≤ n → n < 37 → D t n → kk_cl F t n) (cp : ∀ t n, mm_isT t → 1 ≤ n → n < 37 → ¬ D t n → kk_cpd F t n h (τ t) n) (hD : ∀ t, mm_isT t → (∀ n, 1 ≤ n → n < 37 → D t n) ∨ ∀ n, 1 ≤ n → n < 37 → D t n → h (24, τ t, n) 0 = 1 ∧ h (24, τ t, n) 5 = 0)
    (ms : ∀ s n, 0 ≤ s → s < 29 → 1 ≤ n → n < 37 → kk_ms gm (36 * s + n - 1) h (36 * σ s + n - 1)) (mz : ∀ s n, 0 ≤ s → s < 29 → 1 ≤ n → n < 37 → E s n → kk_mz F (36 * s + n - 1)) (mE : ∀ s n x j, 0 ≤ s → s < 29 → 1 ≤ n → n < 37 → ¬ E s n → kk_mx (36 * s + n - 1) x j → F x j = gm x j) (m53 : ∀ j, F (53, 0, 0) j = gm (53, 0, 0) j)
    (hED : ∀ t n, mm_isT t → 1 ≤ n → n < 37 → E t n → D t n) (hDE : ∀ t n, 0 ≤ t → t < 13 → 1 ≤ n → n < 37 → D t n → E t n) (e16 : ∀ j, F (16, 0, 0) j = h (16, 0, 0) j) (e54 : ∀ j, F (54, 0, 0) j = gm (54, 0, 0) j) (f54 : ∀ j, gm (54, 0, 0) j = h (54, 0, 0) j) (e22 : ∀ t, mm_isT t → F (22, t, 0) 2 = h (22, t, 0) 2) (e27 : ∀ t p, mm_isT t → 0 ≤ p → p < 36 → F (27, t, 0) p = h (27, t, 0) p) :
    kk_K0 F ∧ ∀ s c, 0 ≤ s → s < 29 → kk_bs F s c → kk_bs h (σ s) c := by
  obtain ⟨G, G1, G2, G3⟩ : ∃ G : mm_Id → Int → Int, (∀ (f : Nat) t n j, 24 ≤ f → f ≤ 30 → 1 ≤ n → D t n → G (f, t, n) j = h (f, τ t, n) j) ∧ (∀ (f : Nat) t n j, f < 40 → ¬ (24 ≤ f ∧ f ≤ 30 ∧ 1 ≤ n ∧ D t n) → G (f, t, n) j = F (f, t, n) j) ∧ ∀ (x : mm_Id) j, 40 ≤ x.1 → G x j = gm x j := by
    classical
    refine ⟨fun x j => if 24 ≤ x.1 ∧ x.1 ≤ 30 ∧ 1 ≤ x.2.2 ∧ D x.2.1 x.2.2 then h (x.1, τ x.2.1, x.2.2) j else if x.1 < 40 then F x j else gm x j, fun f t n j f0 f1 n0 d => ?_, fun f t n j f0 d => ?_, fun x j x0 => ?_⟩
    · exact if_pos ⟨f0, f1, n0, d⟩
    · exact (if_neg d).trans (if_pos f0)
    · exact (if_neg (fun w => by omega)).trans (if_neg (by omega))
  have KG : kk_K0 G := by
    refine kk_K0cp K hτ (fun t n ht n0 n1 => ?_) hσ hστ (fun s n s0 s1 n0 n1 => kk_mse (fun f j f0 => G3 _ _ f0) (ms s n s0 s1 n0 n1)) hNR (fun j => ?_) (fun j => ?_) (fun t ht => ?_) (fun t p ht p0 p1 => ?_)
    · by_cases d : D t n
      · exact kk_cpde (fun f j f0 f1 => G1 f t n j f0 f1 n0 d)
      · exact kk_cpdt (kk_cpdr (fun f j f0 f1 => G2 f t n j (by omega) (fun w => d w.2.2.2))) (cp t n ht n0 n1 d)
    · rw [G2 16 0 0 j (by decide) (by omega)]; exact e16 j
    · rw [G3 _ _ (by decide)]; exact f54 j
    · rw [G2 22 t 0 2 (by decide) (by omega)]; exact e22 t ht
    · rw [G2 27 t 0 p (by decide) (by omega)]; exact e27 t p ht p0 p1
  refine ⟨kk_K0dr (D := D) (E := E) KG cl (fun f t n j f0 f1 ht n0 n1 d => (G2 f t n j (by omega) (fun w => d w.2.2.2)).symm) (fun t ht => ?_) mz (fun s n x j s0 s1 n0 n1 q hx => ?_) (fun j => ?_) hED hDE (fun j => ?_) (fun j => ?_) (fun t ht => ?_) (fun t p ht p0 p1 => ?_), fun s c s0 s1 q => ?_⟩
  · rcases hD t ht with q | q
    · exact Or.inl q
    · refine Or.inr (fun n n0 n1 d => ?_)
      rw [G1 24 t n 0 (by decide) (by decide) n0 d, G1 24 t n 5 (by decide) (by decide) n0 d]
      exact q n n0 n1 d
  · have r := kk_mxr hx
    rw [G3 x j (by omega)]
    exact mE s n x j s0 s1 n0 n1 q hx
  · rw [G3 _ _ (by decide)]; exact m53 j
  · rw [G2 16 0 0 j (by decide) (by omega)]
  · rw [G3 _ _ (by decide)]; exact e54 j
  · rw [G2 22 t 0 2 (by decide) (by omega)]
  · rw [G2 27 t 0 p (by decide) (by omega)]
  · exact (kk_bscp (fun n n0 n1 => ms s n s0 s1 n0 n1)).1 (kk_bsdr (E := E) (fun n n0 n1 => mz s n s0 s1 n0 n1) (fun n x j n0 n1 q hx => mE s n x j s0 s1 n0 n1 q hx) q)
/-- blocks, where each tree that is there has some of one's that was there -/
theorem kk_KB1 {h F : mm_Id → Int → Int} {σ : Int → Int} (B : kk_KB h) (hσ : ∀ s, 0 ≤ s → s < 29 → 0 ≤ σ s ∧ σ s < 29) (bs : ∀ s c, 0 ≤ s → s < 29 → kk_bs F s c → kk_bs h (σ s) c) (e55 : ∀ c, F (55, 0, 0) c = h (55, 0, 0) c) (e18 : F (40, 0, 0) 18 = h (40, 0, 0) 18)
    (live : ∀ k, 0 ≤ k → k < 13 → 0 < F (57, 0, 0) k → (0 ≤ σ k ∧ σ k < 13) ∧ 0 < h (57, 0, 0) (σ k)) (kept : ∀ s, 13 ≤ s → s < 26 → σ s = s) (s67 : kk_cnt (fun b => kk_bs F 26 b ∨ kk_bs F 27 b) ≤ 400) (s28 : σ 28 = 28 ∨ ((0 ≤ σ 28 ∧ σ 28 < 13) ∧ 0 < h (57, 0, 0) (σ 28)))
    (q59 : ∀ i, 0 ≤ i → i < 5 → 0 < kk_no F i → kk_cnt (kk_bs F i) ≤ F (59, 0, 0) i) (e57 : ∀ i, 0 ≤ i → i < 5 → F (57, 0, 0) (13 + i) = h (57, 0, 0) (13 + i) ∧ F (59, 0, 0) (13 + i) = h (59, 0, 0) (13 + i)) : kk_KB F := by
  obtain ⟨b1, b2, b3, b4, b5, b6, b7⟩ := B
  refine ⟨fun c c0 c1 q => ?_, by rw [e18]; exact b2, ?_, ?_, s67, ?_, fun i i0 i1 => ⟨fun z => q59 i i0 i1 z, fun z => ?_⟩⟩
  · rw [e55]
    obtain ⟨s, hs, q⟩ := q
    exact b1 c c0 c1 ⟨σ s, hσ s hs.1 hs.2, bs s c hs.1 hs.2 q⟩
  · refine Int.le_trans (kk_cntle (fun c _ _ q => ?_)) b3
    obtain ⟨k, hk, h57, _, q⟩ := q
    have w := live k hk.1 hk.2 h57
    exact ⟨σ k, w.1, w.2, by omega, bs k c hk.1 (by omega) q⟩
  · refine Int.le_trans (kk_cntle (fun c _ _ q => ?_)) b4
    obtain ⟨s, hs, q⟩ := q
    have w := bs s c (by omega) (by omega) q
    rw [kept s hs.1 hs.2] at w
    exact ⟨s, hs, w⟩
  · rcases s28 with q | q
    · refine Int.le_trans (kk_cntle (fun c _ _ w => ?_)) b6
      have := bs 28 c (by omega) (by omega) w
      rw [q] at this
      exact this
    · refine Int.le_trans (kk_cntle (fun c _ _ w => ?_)) b3
      exact ⟨σ 28, q.1, q.2, by omega, bs 28 c (by omega) (by omega) w⟩
  · rw [(e57 i i0 i1).1] at z
    rw [(e57 i i0 i1).2]
    refine Int.le_trans (kk_cntle (fun c _ _ w => ?_)) ((b7 i i0 i1).2 z)
    have := bs (13 + i) c (by omega) (by omega) w
    rw [kept _ (by omega) (by omega)] at this
    exact this
theorem kk_KD1 {b b2 t : Int} {h F : mm_Id → Int → Int} {dh dh' : Int → Int} (hK : kk_KD b h dh) (ht : 0 ≤ t ∧ t < 13) (hb : 0 ≤ b2 ∧ b2 ≤ 1000000) (c10 : F (1, 0, 0) 10 = F (40, 0, 0) 24 ∧ h (1, 0, 0) 10 ≤ F (1, 0, 0) 10 ∧ F (1, 0, 0) 10 ≤ b2 + 1) (c11 : F (1, 0, 0) 11 = F (40, 0, 0) 25 ∧ h (1, 0, 0) 11 ≤ F (1, 0, 0) 11 ∧ F (1, 0, 0) 11 ≤ b2)
    (e31 : ∀ i j, i ≠ t → j = 3 ∨ j = 4 ∨ j = 5 → F (31, i, 0) j = h (31, i, 0) j) (e33 : ∀ i j, 5 + i ≠ t → F (33, i, 0) j = h (33, i, 0) j) (e32 : ∀ i u, i ≠ t → F (32, i, 0) u = h (32, i, 0) u) (eq : ∀ (f : Nat) k, f = 57 ∨ f = 58 ∨ f = 59 ∨ f = 60 → k ≠ t → F (f, 0, 0) k = h (f, 0, 0) k) (e61 : ∀ i u, 0 ≤ u → u < 8 → i ≠ t → F (61, 0, 0) (8 * i + u) = h (61, 0, 0) (8 * i + u))
    (nt : F (57, 0, 0) t = kk_no F t ∧ 0 ≤ kk_no F t ∧ (t < 5 → kk_no F t ≤ F (1, 0, 0) 10) ∧ (5 ≤ t → kk_no F t ≤ F (1, 0, 0) 11))
    (t7 : t < 5 → 0 < kk_no F t → (F (31, t, 0) 4 = F (58, 0, 0) t ∧ 0 ≤ F (58, 0, 0) t ∧ F (58, 0, 0) t ≤ 2000000) ∧ (F (31, t, 0) 5 = F (59, 0, 0) t ∧ 0 ≤ F (59, 0, 0) t ∧ F (59, 0, 0) t ≤ 400) ∧ ∀ u, 0 ≤ u → u < 8 → F (32, t, 0) u = F (61, 0, 0) (8 * t + u) ∧ 0 ≤ F (32, t, 0) u ∧ F (32, t, 0) u ≤ 400)
    (d8 : ∀ i, 0 ≤ i → i < 5 → F (31, i, 0) 6 = 0 ∨ F (31, i, 0) 6 = 1) (t9 : 5 ≤ t → (0 < kk_no F t → F (33, t - 5, 0) 2 = F (58, 0, 0) t ∧ F (33, t - 5, 0) 3 = F (60, 0, 0) t ∧ 1 ≤ F (33, t - 5, 0) 2 ∧ F (33, t - 5, 0) 2 ≤ 2000000) ∧ (kk_no F t = 0 → F (33, t - 5, 0) 2 = 0)) (t10 : F (60, 0, 0) t = 0 ∨ F (60, 0, 0) t = 1)
    (ek : ∀ s n, 0 ≤ s → s < 13 → s ≠ t → 1 ≤ n → n < 37 → F (24, s, n) 0 = h (24, s, n) 0) (t13 : kk_no F t = 0 → ∀ n, 1 ≤ n → n < 37 → F (24, t, n) 0 = 0) (t14 : 0 < kk_no F t → F (24, t, 1) 0 = 2)
    (d15 : ∀ i n, 0 ≤ i → i < 5 → F (31, i, 0) 6 = 0 → 1 ≤ n → n < 37 → kk_cpd F (13 + i) n F i n) (d17 : kk_d17 F dh') (d18 : kk_d18 F) (d19 : kk_d19 F dh') : kk_KD b2 F dh' := by
  obtain ⟨d1, d2, d3, d4, d5, d6, d7, _, d9, d10, d13, d14, _, _, _, _⟩ := hK
  have no : ∀ s, 0 ≤ s → s < 13 → s ≠ t → kk_no F s = kk_no h s := fun s s0 s1 st => by
    unfold kk_no
    rw [e31 s 3 st (by omega)]
    by_cases z : s < 5
    · rw [if_pos z, if_pos z]
    · rw [if_neg z, if_neg z, e33 (s - 5) 1 (by omega)]
  refine ⟨hb, ⟨c10.1, by omega, c10.2.2⟩, ⟨c11.1, by omega, c11.2.2⟩, fun s s0 s1 => ?_, fun s s0 s1 => ?_, fun s s0 s1 => ?_, fun i i0 i1 z => ?_, d8, fun j j0 j1 => ?_, fun k k0 k1 => ?_, fun s s0 s1 z n n0 n1 => ?_, fun s s0 s1 z => ?_, d15, d17, d18, d19⟩
  · by_cases q : s = t
    · rw [q]; exact nt.1
    · rw [no s s0 s1 q, eq 57 s (by omega) q]; exact d4 s s0 s1
  · by_cases q : s = t
    · rw [q]; exact ⟨nt.2.1, nt.2.2.1 (by omega)⟩
    · rw [no s s0 (by omega) q]
      have := d5 s s0 s1
      omega
  · by_cases q : s = t
    · rw [q]; exact ⟨nt.2.1, nt.2.2.2 (by omega)⟩
    · rw [no s (by omega) s1 q]
      have := d6 s s0 s1
      omega
  · by_cases q : i = t
    · subst q; exact t7 i1 z
    · rw [no i i0 (by omega) q] at z
      obtain ⟨w1, w2, w3⟩ := d7 i i0 i1 z
      rw [e31 i 4 q (by omega), e31 i 5 q (by omega), eq 58 i (by omega) q, eq 59 i (by omega) q]
      refine ⟨w1, w2, fun u u0 u1 => ?_⟩
      rw [e32 i u q, e61 i u u0 u1 q]
      exact w3 u u0 u1
  · by_cases q : 5 + j = t
    · have w := t9 (by omega)
      rw [show t - 5 = j by omega] at w
      rw [q]
      exact w
    · rw [no _ (by omega) (by omega) q, e33 j 2 q, e33 j 3 q, eq 58 _ (by omega) q, eq 60 _ (by omega) q]
      exact d9 j j0 j1
  · by_cases q : k = t
    · rw [q]; exact t10
    · rw [eq 60 k (by omega) q]; exact d10 k k0 k1
  · by_cases q : s = t
    · rw [q] at z ⊢; exact t13 z n n0 n1
    · rw [no s s0 s1 q] at z
      rw [ek s n s0 s1 q n0 n1]
      exact d13 s s0 s1 z n n0 n1
  · by_cases q : s = t
    · rw [q] at z ⊢; exact t14 z
    · rw [no s s0 s1 q] at z
      rw [ek s 1 s0 s1 q (by omega) (by omega)]
      exact d14 s s0 s1 z
theorem kk_d15x {b i n : Int} {h F : mm_Id → Int → Int} {dh : Int → Int} (hK : kk_KD b h dh) (i0 : 0 ≤ i) (i1 : i < 5) (z : h (31, i, 0) 6 = 0) (n0 : 1 ≤ n) (n1 : n < 37) (e : ∀ (f : Nat) j, 24 ≤ f → f ≤ 30 → F (f, 13 + i, n) j = h (f, 13 + i, n) j ∧ F (f, i, n) j = h (f, i, n) j) : kk_cpd F (13 + i) n F i n :=
  kk_cpdt (kk_cpdr (fun f j f0 f1 => (e f j f0 f1).1)) (kk_cpdt (hK.2.2.2.2.2.2.2.2.2.2.2.2.1 i n i0 i1 z n0 n1) (kk_cpdr (fun f j f0 f1 => (e f j f0 f1).2.symm)))
/-- handles of a dataset closed, or none -/
theorem kk_d17c {t : Int} {h F : mm_Id → Int → Int} {dh dh' : Int → Int} {P : Int → Prop} (q : kk_d17 h dh) (hcl : ∀ i, 0 ≤ i → i < 8 → P i → dh' i = -1 ∧ F (63, 0, 0) (i + 1) = 0 ∧ ∀ a, 0 ≤ a → a < 2160 → F (64, 0, 0) (2160 * (i + 1) + a) = 0)
    (hno : ∀ i, 0 ≤ i → i < 8 → ¬ P i → (mm_isD (dh i) → dh i ≠ t) ∧ dh' i = dh i ∧ F (63, 0, 0) (i + 1) = h (63, 0, 0) (i + 1) ∧ ∀ a, 0 ≤ a → a < 2160 → F (64, 0, 0) (2160 * (i + 1) + a) = h (64, 0, 0) (2160 * (i + 1) + a))
    (eh : ∀ (f : Nat) i j, f = 34 ∨ f = 35 → F (f, i, 0) j = h (f, i, 0) j) (e62 : ∀ j, F (62, 0, 0) j = h (62, 0, 0) j) (no : ∀ s, 0 ≤ s → s < 5 → s ≠ t → 0 < kk_no h s → 0 < kk_no F s) (k : ∀ s n, 0 ≤ s → s < 5 → s ≠ t → 1 ≤ n → n < 37 → h (24, s, n) 0 = 1 → F (24, s, n) 0 = 1) : kk_d17 F dh' := by
  intro i i0 i1
  obtain ⟨a, c⟩ := q i i0 i1
  by_cases z : P i
  · obtain ⟨w1, w2, w3⟩ := hcl i i0 i1 z
    exact ⟨fun d => by unfold mm_isD at d; omega, fun _ => ⟨w2, w3⟩⟩
  · obtain ⟨w0, w1, w2, w3⟩ := hno i i0 i1 z
    rw [w1, w2, eh 34 i 2 (by omega), e62]
    refine ⟨fun d => ?_, fun d => ?_⟩
    · obtain ⟨y1, y2, y3, y4, y5, y6⟩ := a d
      have dd := d
      unfold mm_isD at dd
      refine ⟨y1, y2, k _ _ dd.1 dd.2 (w0 d) y2.1 y2.2 y3, y4, no _ dd.1 dd.2 (w0 d) y5, fun m m0 m1 => ?_⟩
      rw [eh 35 i m (by omega), w3 m m0 m1]
      exact y6 m m0 m1
    · obtain ⟨y1, y2⟩ := c d
      exact ⟨y1, fun m m0 m1 => by rw [w3 m m0 m1]; exact y2 m m0 m1⟩
/-- the first that is so, or none -/
theorem kk_ff (P : Int → Prop) : ∀ N : Nat, ∃ j : Int, (0 ≤ j ∧ j ≤ N) ∧ (∀ i, 0 ≤ i → i < j → ¬ P i) ∧ (j < N → P j) := by
  intro N
  induction N with
  | zero => exact ⟨0, ⟨by omega, by omega⟩, fun i a c => by omega, fun a => by omega⟩
  | succ N ih =>
    obtain ⟨j, ⟨j0, j1⟩, jn, jp⟩ := ih
    by_cases z : j < N
    · exact ⟨j, ⟨j0, by omega⟩, jn, fun _ => jp z⟩
    · by_cases p : P j
      · exact ⟨j, ⟨j0, by omega⟩, jn, fun _ => p⟩
      · refine ⟨j + 1, ⟨by omega, by omega⟩, fun i a c => ?_, fun w => by omega⟩
        by_cases y : i = j
        · rw [y]; exact p
        · exact jn i a (by omega)

