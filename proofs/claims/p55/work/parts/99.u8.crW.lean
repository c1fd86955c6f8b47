/-! what holds behind a crash -/
theorem kk_crW {b : Int} {P hcc g1 gm : mm_Id → Int → Int} {dh dh1 : Int → Int} (hc : kk_core b P dh) (R : kk_R hcc) (C1 : ∀ a n, 0 ≤ a → a < 5 → 1 ≤ n → n < 37 → kk_uk P a n → kk_cl hcc a n) (C2 : ∀ a n, 0 ≤ a → a < 5 → 1 ≤ n → n < 37 → ¬ kk_uk P a n → kk_cpd hcc a n P (13 + a) n) (C6 : ∀ t n, t = 26 ∨ t = 27 → 1 ≤ n → n < 37 → kk_cl hcc t n)
    (cF : ∀ (f : Nat) a c k, f < 40 → ¬ (f = 15 ∧ k = 7) → f ≠ 17 → f ≠ 18 → f ≠ 19 → ¬ (24 ≤ f ∧ f ≤ 30 ∧ (0 ≤ a ∧ a < 5 ∨ a = 26 ∨ a = 27) ∧ 1 ≤ c ∧ c < 37) → ¬ (f = 31 ∧ 0 ≤ a ∧ a < 5 ∧ k = 6) → ¬ (f = 1 ∧ (k = 9 ∨ k = 12)) → ¬ (f = 5 ∧ k = 2) → hcc (f, a, c) k = P (f, a, c) k)
    (C5 : ∀ a, 0 ≤ a → a < 5 → ¬ P (31, a, 0) 3 = 0 → hcc (31, a, 0) 6 = 1) (C50 : ∀ a, 0 ≤ a → a < 5 → P (31, a, 0) 3 = 0 → hcc (31, a, 0) 6 = P (31, a, 0) 6 ∧ (P (31, a, 0) 6 = 0 → ∀ (f : Nat) n k, 24 ≤ f → f ≤ 30 → hcc (f, a, n) k = P (f, a, n) k)) (s1 : hcc (1, 0, 0) 12 = 0 ∧ hcc (1, 0, 0) 9 = 0 ∧ hcc (5, 0, 0) 2 = 0)
    (p1 : ∀ a n, 0 ≤ a → a < 13 → 1 ≤ n → n < 37 → kk_ms g1 (36 * a + n - 1) P (36 * (13 + a) + n - 1)) (pk : ∀ a n, 13 ≤ a → a < 29 → 1 ≤ n → n < 37 → kk_ms g1 (36 * a + n - 1) P (36 * a + n - 1)) (f54 : ∀ j, g1 (54, 0, 0) j = P (54, 0, 0) j)
    (m1 : ∀ a n, (0 ≤ a ∧ a < 5 ∧ kk_uk P a n) ∨ a = 26 ∨ a = 27 → 1 ≤ n → n < 37 → kk_mz gm (36 * a + n - 1)) (m2 : ∀ a n x j, ¬ ((0 ≤ a ∧ a < 5 ∧ kk_uk P a n) ∨ a = 26 ∨ a = 27) → 1 ≤ n → n < 37 → kk_mx (36 * a + n - 1) x j → gm x j = g1 x j) (m53 : ∀ j, gm (53, 0, 0) j = g1 (53, 0, 0) j)
    (mF : ∀ (x : mm_Id) j, 40 ≤ x.1 → x.1 < 41 ∨ 53 < x.1 → x.1 ≠ 63 → x.1 ≠ 64 → ¬ (x = (40, 0, 0) ∧ (j = 0 ∨ j = 29 ∨ j = 30 ∨ j = 34)) → gm x j = P x j) (z63 : ∀ i, 1 ≤ i → i < 9 → gm (63, 0, 0) i = 0) (z64 : ∀ a, 2160 ≤ a → a < 19440 → gm (64, 0, 0) a = 0) (z40 : gm (40, 0, 0) 29 = 0 ∧ gm (40, 0, 0) 30 = 0 ∧ gm (40, 0, 0) 34 = 0)
    (dcl : ∀ q, 0 ≤ q → q < 8 → ¬ mm_isD (dh1 q)) : kk_W b (kk_mix hcc gm) dh1 := by
  obtain ⟨F, hF⟩ : ∃ F, F = kk_mix hcc gm := ⟨_, rfl⟩
  rw [← hF]
  have KDP := hc.1.2.2.1
  have zC : ∀ (f : Nat) a c k, f < 40 → F (f, a, c) k = hcc (f, a, c) k := fun f a c k f0 => by rw [hF]; exact kk_mixC f0
  have zM : ∀ (x : mm_Id) k, 40 ≤ x.1 → F x k = gm x k := fun x k f0 => by rw [hF]; exact kk_mixM f0
  have FC : ∀ (f : Nat) a c k, f < 40 → ¬ (f = 15 ∧ k = 7) → f ≠ 17 → f ≠ 18 → f ≠ 19 → ¬ (24 ≤ f ∧ f ≤ 30 ∧ (0 ≤ a ∧ a < 5 ∨ a = 26 ∨ a = 27) ∧ 1 ≤ c ∧ c < 37) → ¬ (f = 31 ∧ 0 ≤ a ∧ a < 5 ∧ k = 6) → ¬ (f = 1 ∧ (k = 9 ∨ k = 12)) → ¬ (f = 5 ∧ k = 2) → F (f, a, c) k = P (f, a, c) k := fun f a c k f0 q1 q2 q3 q4 q5 q6 q7 q8 => by
    rw [zC f a c k f0]; exact cF f a c k f0 q1 q2 q3 q4 q5 q6 q7 q8
  have FM : ∀ (f : Nat) a c k, 40 ≤ f → f < 41 ∨ 53 < f → f ≠ 63 → f ≠ 64 → ¬ (f = 40 ∧ (k = 0 ∨ k = 29 ∨ k = 30 ∨ k = 34)) → F (f, a, c) k = P (f, a, c) k := fun f a c k f0 q1 q2 q3 q4 => by
    rw [zM _ k f0]; exact mF _ k f0 q1 q2 q3 (by rintro ⟨v, v2⟩; simp at v; omega)
  have fd : ∀ (f : Nat) a c k, 24 ≤ f → f ≤ 30 → ¬ (0 ≤ a ∧ a < 5 ∨ a = 26 ∨ a = 27) → F (f, a, c) k = P (f, a, c) k := fun f a c k f0 f1 q => FC f a c k (by omega) (by omega) (by omega) (by omega) (by omega) (by omega) (by omega) (by omega) (by omega)
  have F1 : ∀ a n, 0 ≤ a → a < 5 → 1 ≤ n → n < 37 → kk_uk P a n → kk_cl F a n := fun a n a0 a1 n0 n1 q => kk_cle (fun f k w => zC f a n k (by omega)) (C1 a n a0 a1 n0 n1 q)
  have F2 : ∀ a n, 0 ≤ a → a < 5 → 1 ≤ n → n < 37 → ¬ kk_uk P a n → kk_cpd F a n P (13 + a) n := fun a n a0 a1 n0 n1 q => kk_cpdt (kk_cpdr (fun f k f0 f1 => zC f a n k (by omega))) (C2 a n a0 a1 n0 n1 q)
  have F6 : ∀ t n, t = 26 ∨ t = 27 → 1 ≤ n → n < 37 → kk_cl F t n := fun t n ht n0 n1 => kk_cle (fun f k w => zC f t n k (by omega)) (C6 t n ht n0 n1)
  have no : ∀ s, kk_no F s = kk_no P s := fun s => by
    unfold kk_no
    rw [FC 31 s 0 3 (by decide) (by omega) (by decide) (by decide) (by decide) (by omega) (by omega) (by omega) (by omega), FC 33 _ 0 1 (by decide) (by omega) (by decide) (by decide) (by decide) (by omega) (by omega) (by omega) (by omega)]
  let σ : Int → Int := fun s => if 0 ≤ s ∧ s < 5 then 13 + s else s
  have σ1 : ∀ s, 0 ≤ s → s < 5 → σ s = 13 + s := fun s a c => if_pos ⟨a, c⟩
  have σ0 : ∀ s, ¬ (0 ≤ s ∧ s < 5) → σ s = s := fun s q => if_neg q
  have σr : ∀ s, 0 ≤ s → s < 29 → 0 ≤ σ s ∧ σ s < 29 := fun s a c => by
    by_cases q : 0 ≤ s ∧ s < 5
    · rw [σ1 s q.1 q.2]; omega
    · rw [σ0 s q]; omega
  have ms : ∀ s n, 0 ≤ s → s < 29 → 1 ≤ n → n < 37 → kk_ms g1 (36 * s + n - 1) P (36 * σ s + n - 1) := fun s n s0 s1 n0 n1 => by
    by_cases q : 0 ≤ s ∧ s < 5
    · rw [σ1 s q.1 q.2]; exact p1 s n q.1 (by omega) n0 n1
    · rw [σ0 s q]
      by_cases q2 : s < 13
      · have w := hc.2.2.2.2.2.2.2 (s - 5) n (by omega) (by omega) n0 n1
        rw [show 18 + (s - 5) = 13 + s by omega, show 5 + (s - 5) = s by omega] at w
        exact kk_mst (p1 s n s0 q2 n0 n1) w
      · exact pk s n (by omega) s1 n0 n1
  have e16 : ∀ j, F (16, 0, 0) j = P (16, 0, 0) j := fun j => FC 16 0 0 j (by decide) (by omega) (by decide) (by decide) (by decide) (by omega) (by omega) (by omega) (by omega)
  have e54 : ∀ j, F (54, 0, 0) j = P (54, 0, 0) j := fun j => FM 54 0 0 j (by omega) (by omega) (by omega) (by omega) (by omega)
  have mzF : ∀ a n, (0 ≤ a ∧ a < 5 ∧ kk_uk P a n) ∨ a = 26 ∨ a = 27 → 1 ≤ n → n < 37 → kk_mz F (36 * a + n - 1) := fun a n q n0 n1 => by
    have m := m1 a n q n0 n1
    unfold kk_mz
    rw [zM (41, 0, 0) _ (by decide), zM (42, 0, 0) _ (by decide), zM (44, 0, 0) _ (by decide), zM (49, 0, 0) _ (by decide)]
    exact ⟨m.1, fun p p0 p1 => by rw [zM (43, 0, 0) _ (by decide)]; exact m.2 p p0 p1⟩
  have K0 := kk_K0g (F := F) (gm := g1) (τ := σ) (σ := σ) (D := fun a n => (0 ≤ a ∧ a < 5 ∧ kk_uk P a n) ∨ a = 26 ∨ a = 27) (E := fun a n => (0 ≤ a ∧ a < 5 ∧ kk_uk P a n) ∨ a = 26 ∨ a = 27) (kk_K0o hc.1.1) (fun s hs => by
      by_cases q : 0 ≤ s ∧ s < 5
      · rw [σ1 s q.1 q.2]; exact mm_T18 ⟨by omega, by omega⟩
      · rw [σ0 s q]; exact hs) σr (fun _ _ => rfl) (fun s n s0 s1 n0 n1 => by
      by_cases q : 0 ≤ s ∧ s < 5
      · rw [σ1 s q.1 q.2]; exact kk_NRC hc (by omega) ⟨n0, n1⟩
      · rw [σ0 s q]; exact hc.1.1.1 s n s0 s1 n0 n1)
    (fun s n _ n0 n1 d => by
      rcases d with d | d
      · exact F1 s n d.1 d.2.1 n0 n1 d.2.2
      · exact F6 s n d n0 n1)
    (fun s n _ n0 n1 d => by
      by_cases q : 0 ≤ s ∧ s < 5
      · rw [σ1 s q.1 q.2]; exact F2 s n q.1 q.2 n0 n1 (fun w => d (Or.inl ⟨q.1, q.2, w⟩))
      · rw [σ0 s q]; exact kk_cpdr (fun f k f0 f1 => fd f s n k f0 f1 (fun w => by
          rcases w with w | w
          · exact q w
          · exact d (Or.inr w))))
    (fun s _ => by
      by_cases q : s = 26 ∨ s = 27
      · exact Or.inl (fun n _ _ => Or.inr q)
      · refine Or.inr (fun n n0 n1 d => ?_)
        rcases d with d | d
        · rw [σ1 s d.1 d.2.1]; exact d.2.2
        · exact absurd d q)
    ms (fun s n _ _ n0 n1 d => mzF s n d n0 n1) (fun s n x j _ _ n0 n1 d hx2 => by rw [zM x j (by have := kk_mxr hx2; omega)]; exact m2 s n x j d n0 n1 hx2) (fun j => by rw [zM _ _ (by decide)]; exact m53 j) (fun _ _ _ _ _ d => d) (fun _ _ _ _ _ _ d => d) e16 (fun j => by rw [e54, f54]) f54 (fun s _ => FC 22 s 0 2 (by decide) (by omega) (by decide) (by decide) (by decide) (by omega) (by omega) (by omega) (by omega)) (fun s p _ _ _ => FC 27 s 0 p (by decide) (by omega) (by decide) (by decide) (by decide) (by omega) (by omega) (by omega) (by omega))
  have b13 : ∀ k c, 0 ≤ k → k < 13 → kk_bs F k c → kk_bs P (13 + k) c := fun k c k0 k1 q => by
    have y := K0.2 k c k0 (by omega) q
    by_cases z : k < 5
    · rw [σ1 k k0 z] at y; exact y
    · rw [σ0 k (by omega)] at y
      have w := kk_bscp (g := P) (h := P) (s := 13 + k) (s1 := k) (b := c) (fun n n0 n1 => by
        have w := hc.2.2.2.2.2.2.2 (k - 5) n (by omega) (by omega) n0 n1
        rw [show 18 + (k - 5) = 13 + k by omega, show 5 + (k - 5) = k by omega] at w
        exact w)
      exact w.2 y
  have kq : ∀ (f : Nat) k, kk_q4 f → 0 ≤ k → k < 13 → P (f, 0, 0) (13 + k) = P (f, 0, 0) k := fun f k hf k0 k1 => hc.2.2.2.1 k f k0 k1 hf
  obtain ⟨b1, b2, b3, b4, b5, b6, b7⟩ := hc.1.2.1
  have RF : kk_R F := kk_Rcong (fun a c k => zC 27 a c k (by decide)) (zC _ _ _ _ (by decide)) (zC _ _ _ _ (by decide)) (fun r => zC _ _ _ _ (by decide)) (fun r => zC _ _ _ _ (by decide)) (fun r => zC _ _ _ _ (by decide)) R
  refine ⟨kk_K0i K0.1 RF (fun t ht n n0 n1 => ?_), ⟨fun c c0 c1 q => ?_, ?_, ?_, ?_, ?_, ?_, fun i i0 i1 => ⟨fun z => ?_, fun z => ?_⟩⟩, ?_, ?_⟩
  · have z := (mzF t n (Or.inr ht) n0 n1).1.1
    unfold kk_ctn2
    rw [z]
    exact ⟨fun w => absurd w.1 (by decide), fun _ => by rw [(F6 t n ht n0 n1).1 0 kk_F0]; rfl⟩
  · rw [FM 55 0 0 c (by omega) (by omega) (by omega) (by omega) (by omega)]
    obtain ⟨s, hs, q⟩ := q
    exact b1 c c0 c1 ⟨σ s, σr s hs.1 hs.2, K0.2 s c hs.1 hs.2 q⟩
  · rw [FM 40 0 0 18 (by omega) (by omega) (by omega) (by omega) (by omega)]; exact b2
  · refine Int.le_trans (kk_cntle (fun c _ _ q => ?_)) b4
    obtain ⟨k, hk, _, _, q⟩ := q
    exact ⟨13 + k, by omega, b13 k c hk.1 hk.2 q⟩
  · refine Int.le_trans (kk_cntle (fun c _ _ q => ?_)) b4
    obtain ⟨s, hs, q⟩ := q
    have y := K0.2 s c (by omega) (by omega) q
    rw [σ0 s (by omega)] at y
    exact ⟨s, hs, y⟩
  · rw [kk_cnt0 (fun c _ _ q => ?_)]
    · decide
    · rcases q with ⟨n, p, hn, hp, k, e⟩ | ⟨n, p, hn, hp, k, e⟩
      · have := (mzF 26 n (by omega) hn.1 hn.2).1.1; omega
      · have := (mzF 27 n (by omega) hn.1 hn.2).1.1; omega
  · refine Int.le_trans (kk_cntle (fun c _ _ w => ?_)) b6
    have y := K0.2 28 c (by omega) (by omega) w
    rw [σ0 28 (by omega)] at y
    exact y
  · rw [no] at z
    have z2 : 0 < P (57, 0, 0) (13 + i) := by rw [kq 57 i (by simp [kk_q4]) i0 (by omega), kk_NC hc i i0 (by omega)]; exact z
    rw [FM 59 0 0 i (by omega) (by omega) (by omega) (by omega) (by omega), ← kq 59 i (by simp [kk_q4]) i0 (by omega)]
    exact Int.le_trans (kk_cntle (fun c _ _ w => b13 i c i0 (by omega) w)) ((b7 i i0 i1).2 z2)
  · rw [FM 57 0 0 _ (by omega) (by omega) (by omega) (by omega) (by omega)] at z
    rw [FM 59 0 0 _ (by omega) (by omega) (by omega) (by omega) (by omega)]
    refine Int.le_trans (kk_cntle (fun c _ _ w => ?_)) ((b7 i i0 i1).2 z)
    have y := K0.2 (13 + i) c (by omega) (by omega) w
    rw [σ0 _ (by omega)] at y
    exact y
  · obtain ⟨d1, d2, d3, d4, d5, d6, d7, d8, d9, d10, d13, d14, d15, d17, d18, d19⟩ := KDP
    have f31 : ∀ i k, k ≠ 6 → F (31, i, 0) k = P (31, i, 0) k := fun i k q => FC 31 i 0 k (by decide) (by omega) (by decide) (by decide) (by decide) (by omega) (by omega) (by omega) (by omega)
    have f33 : ∀ (f : Nat) i k, 32 ≤ f → f ≤ 35 → F (f, i, 0) k = P (f, i, 0) k := fun f i k f0 f1 => FC f i 0 k (by omega) (by omega) (by omega) (by omega) (by omega) (by omega) (by omega) (by omega) (by omega)
    have fq : ∀ (f : Nat) k, 57 ≤ f → f ≤ 62 → F (f, 0, 0) k = P (f, 0, 0) k := fun f k f0 f1 => FM f 0 0 k (by omega) (by omega) (by omega) (by omega) (by omega)
    have n3 : ∀ i, i < 5 → kk_no P i = P (31, i, 0) 3 := fun i i1 => kk_n5 i1
    have D1 : ∀ i, 0 ≤ i → i < 5 → 0 < kk_no P i → ¬ kk_uk P i 1 := fun i i0 i1 z w => by
      have := hc.2.2.2.2.2.2.1 i i0 i1 z
      unfold kk_uk at w
      omega
    refine ⟨d1, ?_, ?_, fun s s0 s1 => ?_, fun s s0 s1 => ?_, fun s s0 s1 => ?_, fun i i0 i1 z => ?_, fun i i0 i1 => ?_, fun j j0 j1 => ?_, fun k k0 k1 => ?_, fun s s0 s1 z n n0 n1 => ?_, fun s s0 s1 z => ?_, fun i n i0 i1 z n0 n1 => ?_, fun i i0 i1 => ⟨fun q => absurd q (dcl i i0 i1), fun _ => ⟨?_, fun a a0 a1 => ?_⟩⟩, fun a a0 a1 => ?_, fun i n i0 i1 n0 n1 w w5 => ?_⟩
    · rw [FC 1 0 0 10 (by decide) (by omega) (by decide) (by decide) (by decide) (by omega) (by omega) (by omega) (by omega), FM 40 0 0 24 (by omega) (by omega) (by omega) (by omega) (by omega)]; exact d2
    · rw [FC 1 0 0 11 (by decide) (by omega) (by decide) (by decide) (by decide) (by omega) (by omega) (by omega) (by omega), FM 40 0 0 25 (by omega) (by omega) (by omega) (by omega) (by omega)]; exact d3
    · rw [no, fq 57 s (by omega) (by omega)]; exact d4 s s0 s1
    · rw [no, FC 1 0 0 10 (by decide) (by omega) (by decide) (by decide) (by decide) (by omega) (by omega) (by omega) (by omega)]; exact d5 s s0 s1
    · rw [no, FC 1 0 0 11 (by decide) (by omega) (by decide) (by decide) (by decide) (by omega) (by omega) (by omega) (by omega)]; exact d6 s s0 s1
    · rw [no] at z
      obtain ⟨w1, w2, w3⟩ := d7 i i0 i1 z
      rw [f31 i 4 (by decide), f31 i 5 (by decide), fq 58 i (by omega) (by omega), fq 59 i (by omega) (by omega)]
      refine ⟨w1, w2, fun u u0 u1 => ?_⟩
      rw [f33 32 i u (by omega) (by omega), fq 61 _ (by omega) (by omega)]
      exact w3 u u0 u1
    · rw [zC 31 i 0 6 (by decide)]
      by_cases z : P (31, i, 0) 3 = 0
      · rw [(C50 i i0 i1 z).1]; exact d8 i i0 i1
      · exact Or.inr (C5 i i0 i1 z)
    · rw [no, f33 33 j 2 (by omega) (by omega), f33 33 j 3 (by omega) (by omega), fq 58 _ (by omega) (by omega), fq 60 _ (by omega) (by omega)]
      exact d9 j j0 j1
    · rw [fq 60 k (by omega) (by omega)]; exact d10 k k0 k1
    · rw [no] at z
      by_cases q : s < 5
      · have k0 := hc.2.2.2.2.2.1 s s0 q z n n0 n1
        rw [(F2 s n s0 q n0 n1 (fun w => by unfold kk_uk at w; omega)).1.1 0 kk_F0]
        exact k0
      · rw [fd 24 s n 0 (by omega) (by omega) (by omega)]; exact d13 s s0 s1 z n n0 n1
    · rw [no] at z
      by_cases q : s < 5
      · rw [(F2 s 1 s0 q (by omega) (by omega) (D1 s s0 q z)).1.1 0 kk_F0]
        exact hc.2.2.2.2.2.2.1 s s0 q z
      · rw [fd 24 s 1 0 (by omega) (by omega) (by omega)]; exact d14 s s0 s1 z
    · rw [zC 31 i 0 6 (by decide)] at z
      by_cases q : P (31, i, 0) 3 = 0
      · have w := C50 i i0 i1 q
        rw [w.1] at z
        exact kk_d15x hc.1.2.2.1 i0 i1 z n0 n1 (fun f k f0 f1 => ⟨fd f _ n k f0 f1 (by omega), by rw [zC f i n k (by omega)]; exact w.2 z f n k f0 f1⟩)
      · rw [C5 i i0 i1 q] at z; exact absurd z (by decide)
    · rw [zM _ _ (by decide)]; exact z63 _ (by omega) (by omega)
    · rw [zM _ _ (by decide)]; exact z64 _ (by omega) (by omega)
    · rw [zM _ _ (by decide), z64 a a0 a1]; omega
    · exfalso
      by_cases d : kk_uk P i n
      · have := (F1 i n i0 i1 n0 n1 d).1 0 kk_F0
        rw [if_neg (by decide)] at this
        omega
      · have y := (F2 i n i0 i1 n0 n1 d).1.1
        rw [y 0 kk_F0] at w
        rw [y 5 kk_F5] at w5
        exact d ⟨w, w5⟩
  · obtain ⟨g1', g2, g3, g4, g5, g6, g7, g8⟩ := hc.1.2.2.2
    have c14 : ∀ k, F (14, 0, 0) k = P (14, 0, 0) k := fun k => FC 14 0 0 k (by decide) (by omega) (by decide) (by decide) (by decide) (by omega) (by omega) (by omega) (by omega)
    have m40 : ∀ k, ¬ (k = 0 ∨ k = 29 ∨ k = 30 ∨ k = 34) → F (40, 0, 0) k = P (40, 0, 0) k := fun k q => FM 40 0 0 k (by omega) (by omega) (by omega) (by omega) (by omega)
    unfold kk_KG
    rw [zC 1 0 0 12 (by decide), zC 1 0 0 9 (by decide), zC 5 0 0 2 (by decide), s1.1, s1.2.1, s1.2.2, zM (40, 0, 0) 29 (by decide), zM (40, 0, 0) 30 (by decide), zM (40, 0, 0) 34 (by decide), z40.1, z40.2.1, z40.2.2, c14 0, c14 1, c14 2, m40 1 (by decide), m40 35 (by decide), m40 36 (by decide)]
    refine ⟨by omega, by omega, fun i i0 i1 => by omega, ⟨rfl, Or.inl rfl⟩, g5, g6, g7, fun _ n n0 n1 => ⟨?_, ?_⟩, fun w => absurd w (by decide)⟩
    · rw [(F6 26 n (Or.inl rfl) n0 n1).1 0 kk_F0]; rfl
    · rw [(F6 27 n (Or.inr rfl) n0 n1).1 0 kk_F0]; rfl

