/-! a dataset's tree becomes what is used of a snapshot's -/
theorem kk_tuW {b b2 i s v : Int} {h hcc gm0 gm : mm_Id → Int → Int} {dh dh' : Int → Int} (hb2 : b ≤ b2 ∧ b2 ≤ 1000000) (hc : kk_core b h dh) (hi : 0 ≤ i ∧ i < 5) (hs : 5 ≤ s ∧ s < 13) (hno : 0 < kk_no h s) (hv : v = 28 ∨ ((0 ≤ v ∧ v < 13) ∧ 0 < h (57, 0, 0) v)) (R : kk_R hcc)
    (cl : ∀ n, 1 ≤ n → n < 37 → (h (24, s, n) 0 = 1 ∧ h (24, s, n) 5 = 0) → kk_cl hcc i n) (cp : ∀ n, 1 ≤ n → n < 37 → ¬ (h (24, s, n) 0 = 1 ∧ h (24, s, n) 5 = 0) → kk_cpd hcc i n h s n)
    (cF : ∀ (f : Nat) a c k, f < 40 → ¬ (f = 15 ∧ k = 7) → f ≠ 17 → f ≠ 18 → f ≠ 19 → ¬ (24 ≤ f ∧ f ≤ 30 ∧ a = i ∧ 1 ≤ c ∧ c < 37) → ¬ (f = 1 ∧ k = 10) → ¬ (f = 31 ∧ a = i) → ¬ (f = 32 ∧ a = i) → hcc (f, a, c) k = h (f, a, c) k)
    (cfl : hcc (31, i, 0) 6 = 1) (c10 : hcc (1, 0, 0) 10 = gm (40, 0, 0) 24 ∧ h (1, 0, 0) 10 ≤ hcc (1, 0, 0) 10 ∧ hcc (1, 0, 0) 10 ≤ b2 + 1) (nt : gm (57, 0, 0) i = hcc (31, i, 0) 3 ∧ 0 < hcc (31, i, 0) 3 ∧ hcc (31, i, 0) 3 ≤ hcc (1, 0, 0) 10)
    (t7 : (hcc (31, i, 0) 4 = gm (58, 0, 0) i ∧ 0 ≤ gm (58, 0, 0) i ∧ gm (58, 0, 0) i ≤ 2000000) ∧ (hcc (31, i, 0) 5 = gm (59, 0, 0) i ∧ 0 ≤ gm (59, 0, 0) i ∧ gm (59, 0, 0) i ≤ 400) ∧ ∀ u, 0 ≤ u → u < 8 → hcc (32, i, 0) u = gm (61, 0, 0) (8 * i + u) ∧ 0 ≤ hcc (32, i, 0) u ∧ hcc (32, i, 0) u ≤ 400)
    (mt : ∀ n, 1 ≤ n → n < 37 → kk_ms gm0 (36 * i + n - 1) h (36 * s + n - 1)) (m28 : ∀ n, 1 ≤ n → n < 37 → kk_ms gm0 (36 * 28 + n - 1) h (36 * v + n - 1)) (mo : ∀ a x k, a ≠ i → a ≠ 28 → kk_sx a x k → gm0 x k = h x k)
    (mz : ∀ n, 1 ≤ n → n < 37 → (h (24, s, n) 0 = 1 ∧ h (24, s, n) 5 = 0) → kk_mz gm (36 * i + n - 1)) (mE : ∀ a n x k, ¬ (a = i ∧ h (24, s, n) 0 = 1 ∧ h (24, s, n) 5 = 0) → 1 ≤ n → n < 37 → kk_mx (36 * a + n - 1) x k → gm x k = gm0 x k) (m53 : ∀ k, gm (53, 0, 0) k = gm0 (53, 0, 0) k)
    (e54 : ∀ k, gm (54, 0, 0) k = gm0 (54, 0, 0) k) (mF : ∀ (f : Nat) a c k, 40 ≤ f → f < 41 ∨ 53 < f → f ≠ 56 → f ≠ 63 → f ≠ 64 → ¬ (f = 40 ∧ (k = 0 ∨ k = 24)) → ¬ ((f = 57 ∨ f = 58 ∨ f = 59) ∧ k = i) → ¬ (f = 61 ∧ 8 * i ≤ k ∧ k < 8 * i + 8) → gm (f, a, c) k = h (f, a, c) k)
    (dcl : ∀ q, 0 ≤ q → q < 8 → dh q = i → dh' q = -1 ∧ gm (63, 0, 0) (q + 1) = 0 ∧ ∀ a, 0 ≤ a → a < 2160 → gm (64, 0, 0) (2160 * (q + 1) + a) = 0) (dno : ∀ q, 0 ≤ q → q < 8 → ¬ dh q = i → dh' q = dh q ∧ gm (63, 0, 0) (q + 1) = h (63, 0, 0) (q + 1) ∧ ∀ a, 0 ≤ a → a < 2160 → gm (64, 0, 0) (2160 * (q + 1) + a) = h (64, 0, 0) (2160 * (q + 1) + a))
    (q59 : (∀ c, kk_bs (kk_mix hcc gm) i c → kk_bs h s c) → kk_cnt (kk_bs (kk_mix hcc gm) i) ≤ gm (59, 0, 0) i) : kk_W b2 (kk_mix hcc gm) dh' := by
  obtain ⟨F, hF⟩ : ∃ F, F = kk_mix hcc gm := ⟨_, rfl⟩
  rw [← hF] at q59 ⊢
  have KD := hc.1.2.2.1
  have zC : ∀ (f : Nat) a c k, f < 40 → F (f, a, c) k = hcc (f, a, c) k := fun f a c k f0 => by rw [hF]; exact kk_mixC f0
  have zM : ∀ (x : mm_Id) k, 40 ≤ x.1 → F x k = gm x k := fun x k f0 => by rw [hF]; exact kk_mixM f0
  have FC : ∀ (f : Nat) a c k, f < 40 → ¬ (f = 15 ∧ k = 7) → f ≠ 17 → f ≠ 18 → f ≠ 19 → ¬ (24 ≤ f ∧ f ≤ 30 ∧ a = i ∧ 1 ≤ c ∧ c < 37) → ¬ (f = 1 ∧ k = 10) → ¬ (f = 31 ∧ a = i) → ¬ (f = 32 ∧ a = i) → F (f, a, c) k = h (f, a, c) k := fun f a c k f0 q1 q2 q3 q4 q5 q6 q7 q8 => by
    rw [zC f a c k f0]; exact cF f a c k f0 q1 q2 q3 q4 q5 q6 q7 q8
  have FM : ∀ (f : Nat) a c k, 40 ≤ f → f < 41 ∨ 53 < f → f ≠ 56 → f ≠ 63 → f ≠ 64 → ¬ (f = 40 ∧ (k = 0 ∨ k = 24)) → ¬ ((f = 57 ∨ f = 58 ∨ f = 59) ∧ k = i) → ¬ (f = 61 ∧ 8 * i ≤ k ∧ k < 8 * i + 8) → F (f, a, c) k = h (f, a, c) k := fun f a c k f0 q1 q2 q3 q4 q5 q6 q7 => by
    rw [zM _ k f0]; exact mF f a c k f0 q1 q2 q3 q4 q5 q6 q7
  have fd : ∀ (f : Nat) a c k, 24 ≤ f → f ≤ 30 → a ≠ i → F (f, a, c) k = h (f, a, c) k := fun f a c k f0 f1 q => FC f a c k (by omega) (by omega) (by omega) (by omega) (by omega) (by omega) (by omega) (by omega) (by omega)
  have k10 := KD.2.1
  have k11 := KD.2.2.1
  have no5 : kk_no F i = hcc (31, i, 0) 3 := by
    unfold kk_no
    rw [if_pos hi.2, zC 31 i 0 3 (by decide)]
  have nos : ∀ a, 0 ≤ a → a < 13 → a ≠ i → kk_no F a = kk_no h a := fun a a1 a2 a3 => by
    unfold kk_no
    rw [FC 33 (a - 5) 0 1 (by decide) (by omega) (by decide) (by decide) (by decide) (by omega) (by omega) (by omega) (by omega)]
    by_cases z : a < 5
    · rw [if_pos z, if_pos z, FC 31 a 0 3 (by decide) (by omega) (by decide) (by decide) (by decide) (by omega) (by omega) (by omega) (by omega)]
    · rw [if_neg z, if_neg z]
  have D1 : ¬ (h (24, s, 1) 0 = 1 ∧ h (24, s, 1) 5 = 0) := fun w => by
    have := KD.2.2.2.2.2.2.2.2.2.2.2.1 s (by omega) hs.2 hno
    omega
  have f34 : ∀ (f : Nat) a k, f = 34 ∨ f = 35 → F (f, a, 0) k = h (f, a, 0) k := fun f a k hf => FC f a 0 k (by omega) (by omega) (by omega) (by omega) (by omega) (by omega) (by omega) (by omega) (by omega)
  have kd : kk_KD b2 F dh' := by
    refine kk_KD1 (t := i) KD (by omega) (by omega) ?_ ?_ (fun a k ne hk => FC 31 a 0 k (by decide) (by omega) (by decide) (by decide) (by decide) (by omega) (by omega) (by omega) (by omega)) (fun a k _ => FC 33 a 0 k (by decide) (by omega) (by decide) (by decide) (by decide) (by omega) (by omega) (by omega) (by omega)) (fun a u ne => FC 32 a 0 u (by decide) (by omega) (by decide) (by decide) (by decide) (by omega) (by omega) (by omega) (by omega)) (fun f k hf ne => FM f 0 0 k (by omega) (by omega) (by omega) (by omega) (by omega) (by omega) (by omega) (by omega)) (fun a u u0 u1 ne => FM 61 0 0 _ (by omega) (by omega) (by omega) (by omega) (by omega) (by omega) (by omega) (by omega)) ?_ (fun _ _ => ?_) (fun a a0 a1 => ?_) (fun w => by omega) ?_ (fun a n _ _ q _ _ => fd 24 a n 0 (by decide) (by decide) q) (fun w => ?_) (fun _ => ?_) (fun a n a0 a1 z n0 n1 => ?_) (kk_d17c (t := i) (P := fun q => dh q = i) (kk_h17 hc) (fun q q0 q1 e => ?_) (fun q q0 q1 e => ⟨fun _ => e, ?_⟩) f34 (fun k => FM 62 0 0 k (by omega) (by omega) (by omega) (by omega) (by omega) (by omega) (by omega) (by omega)) (fun a a1 a2 a3 z => ?_) (fun a n a1 a2 a3 _ _ z => ?_)) ?_ ?_
    · rw [zC 1 0 0 10 (by decide), zM (40, 0, 0) 24 (by decide)]; exact c10
    · rw [FC 1 0 0 11 (by decide) (by omega) (by decide) (by decide) (by decide) (by omega) (by omega) (by omega) (by omega), FM 40 0 0 25 (by omega) (by omega) (by omega) (by omega) (by omega) (by omega) (by omega) (by omega)]
      exact ⟨k11.1, Int.le_refl _, by omega⟩
    · rw [no5, zM (57, 0, 0) _ (by decide), zC 1 0 0 10 (by decide)]
      exact ⟨nt.1, by omega, fun _ => nt.2.2, fun w => by omega⟩
    · rw [zC 31 i 0 4 (by decide), zC 31 i 0 5 (by decide), zM (58, 0, 0) _ (by decide), zM (59, 0, 0) _ (by decide)]
      refine ⟨t7.1, t7.2.1, fun u u0 u1 => ?_⟩
      rw [zC 32 i 0 u (by decide), zM (61, 0, 0) _ (by decide)]
      exact t7.2.2 u u0 u1
    · by_cases q : a = i
      · rw [q, zC 31 i 0 6 (by decide)]; exact Or.inr cfl
      · rw [FC 31 a 0 6 (by decide) (by omega) (by decide) (by decide) (by decide) (by omega) (by omega) (by omega) (by omega)]; exact KD.2.2.2.2.2.2.2.1 a a0 a1
    · rw [FM 60 0 0 i (by omega) (by omega) (by omega) (by omega) (by omega) (by omega) (by omega) (by omega)]
      exact KD.2.2.2.2.2.2.2.2.2.1 i hi.1 (by omega)
    · rw [no5] at w; omega
    · rw [zC 24 _ 1 0 (by decide), (cp 1 (by omega) (by omega) D1).1.1 0 kk_F0]
      exact KD.2.2.2.2.2.2.2.2.2.2.2.1 s (by omega) hs.2 hno
    · by_cases q : a = i
      · rw [q, zC 31 i 0 6 (by decide), cfl] at z; exact absurd z (by decide)
      · rw [FC 31 a 0 6 (by decide) (by omega) (by decide) (by decide) (by decide) (by omega) (by omega) (by omega) (by omega)] at z
        exact kk_d15x KD a0 a1 z n0 n1 (fun f k f0 f1 => ⟨fd f _ n k f0 f1 (by omega), fd f _ n k f0 f1 q⟩)
    · rw [zM (63, 0, 0) _ (by decide)]
      refine ⟨(dcl q q0 q1 e).1, (dcl q q0 q1 e).2.1, fun a a0 a1 => ?_⟩
      rw [zM (64, 0, 0) _ (by decide)]
      exact (dcl q q0 q1 e).2.2 a a0 a1
    · rw [zM (63, 0, 0) _ (by decide)]
      refine ⟨(dno q q0 q1 e).1, (dno q q0 q1 e).2.1, fun a a0 a1 => ?_⟩
      rw [zM (64, 0, 0) _ (by decide)]
      exact (dno q q0 q1 e).2.2 a a0 a1
    · rw [nos a a1 (by omega) a3]; exact z
    · rw [fd 24 a n 0 (by decide) (by decide) a3]; exact z
    · intro a a0 a1
      rw [zM (64, 0, 0) _ (by decide)]
      have e : a = 2160 * ((a / 2160 - 1) + 1) + a % 2160 := by omega
      by_cases q : dh (a / 2160 - 1) = i
      · have w := (dcl (a / 2160 - 1) (by omega) (by omega) q).2.2 (a % 2160) (by omega) (by omega)
        rw [← e] at w
        omega
      · have w := (dno (a / 2160 - 1) (by omega) (by omega) q).2.2 (a % 2160) (by omega) (by omega)
        rw [← e] at w
        rw [w]
        exact kk_h18 hc a a0 a1
    · intro a n a0 a1 n0 n1 w w5
      by_cases q : a = i
      · exfalso
        rw [q, zC 24 i n _ (by decide)] at w w5
        by_cases d : h (24, s, n) 0 = 1 ∧ h (24, s, n) 5 = 0
        · have := (cl n n0 n1 d).1 0 kk_F0
          rw [if_neg (by decide)] at this
          omega
        · have y := (cp n n0 n1 d).1.1
          rw [y 0 kk_F0] at w
          rw [y 5 kk_F5] at w5
          exact d ⟨w, w5⟩
      · rw [fd 24 a n 0 (by decide) (by decide) q] at w
        rw [fd 24 a n 5 (by decide) (by decide) q] at w5
        obtain ⟨j, hj, q1, q2⟩ := kk_h19 hc a n a0 a1 n0 n1 w w5
        refine ⟨j, hj, ?_, by rw [f34 34 j 2 (by omega)]; exact q2⟩
        rw [(dno j hj.1 hj.2 (by omega)).1]
        exact q1
  refine kk_W1 (t := i) (u := s) (v := v) (D := fun n => h (24, s, n) 0 = 1 ∧ h (24, s, n) 5 = 0) (C := False) (gm := gm0) hc (by omega) (by omega) hv (fun n n0 n1 q => ?_) (fun n n0 n1 q => kk_cpdt (kk_cpdr (fun f a f0 f1 => zC f _ n a (by omega))) (cp n n0 n1 q)) (Or.inr (fun _ _ _ q => q)) (fun q => absurd q id) (fun f a n k f0 f1 q _ => fd f a n k f0 f1 q) (fun a p => ?_) mt m28 mo (fun n n0 n1 q => ?_) (fun a n x k q n0 n1 hx2 => ?_) (fun k => (zM _ k (by decide)).trans (m53 k)) ?_ (fun k => FC 16 0 0 k (by decide) (by omega) (by decide) (by decide) (by decide) (by omega) (by omega) (by omega) (by omega)) (fun k => (zM _ k (by decide)).trans (e54 k)) (fun k => ?_) (fun a => FC 22 a 0 2 (by decide) (by omega) (by decide) (by decide) (by decide) (by omega) (by omega) (by omega) (by omega)) (fun c => FM 55 0 0 c (by omega) (by omega) (by omega) (by omega) (by omega) (by omega) (by omega) (by omega)) (FM 40 0 0 18 (by omega) (by omega) (by omega) (by omega) (by omega) (by omega) (by omega) (by omega)) (fun _ => ?_) (fun k q _ _ => ⟨FM 57 0 0 k (by omega) (by omega) (by omega) (by omega) (by omega) (by omega) (by omega) (by omega), FM 59 0 0 k (by omega) (by omega) (by omega) (by omega) (by omega) (by omega) (by omega) (by omega)⟩) (fun _ _ q => ?_) (fun a a1 a2 q => nos a a1 (by omega) q) kd ?_
  · have c := cl n n0 n1 q
    exact ⟨fun f hf => by rw [zC 24 i n f (by decide)]; exact c.1 f hf, by rw [zC 24 i n 9 (by decide)]; exact c.2.1, fun p p0 p1 => by rw [zC 27 i n p (by decide)]; exact c.2.2 p p0 p1⟩
  · exact FC 27 a 0 p (by decide) (by omega) (by decide) (by decide) (by decide) (by omega) (by omega) (by omega) (by omega)
  · have m := mz n n0 n1 q
    unfold kk_mz
    rw [zM (41, 0, 0) _ (by decide), zM (42, 0, 0) _ (by decide), zM (44, 0, 0) _ (by decide), zM (49, 0, 0) _ (by decide)]
    exact ⟨m.1, fun p p0 p1 => by rw [zM (43, 0, 0) _ (by decide)]; exact m.2 p p0 p1⟩
  · have r := kk_mxr hx2
    rw [zM x k (by omega)]
    exact mE a n x k q n0 n1 hx2
  · exact kk_Rcong (fun a c k => zC 27 a c k (by decide)) (zC _ _ _ _ (by decide)) (zC _ _ _ _ (by decide)) (fun r => zC _ _ _ _ (by decide)) (fun r => zC _ _ _ _ (by decide)) (fun r => zC _ _ _ _ (by decide)) R
  · rw [← e54, mF 54 0 0 k (by omega) (by omega) (by omega) (by omega) (by omega) (by omega) (by omega) (by omega)]
  · rw [kk_NC hc s (by omega) hs.2]; exact hno
  · rw [zM (59, 0, 0) _ (by decide)]; exact q59 q
  · intro x k q
    obtain ⟨f, a, c⟩ := x
    unfold kk_kgx at q
    rcases q with ⟨q, q2⟩ | q | q | q | q | ⟨q, q2⟩ | ⟨q, q2⟩
    · rw [q]; exact FC 1 0 0 k (by decide) (by omega) (by decide) (by decide) (by decide) (by omega) (by omega) (by omega) (by omega)
    · simp at q; exact FC f a c k (by omega) (by omega) (by omega) (by omega) (by omega) (by omega) (by omega) (by omega) (by omega)
    · simp at q; exact FC f a c k (by omega) (by omega) (by omega) (by omega) (by omega) (by omega) (by omega) (by omega) (by omega)
    · simp at q; exact FC f a c k (by omega) (by omega) (by omega) (by omega) (by omega) (by omega) (by omega) (by omega) (by omega)
    · simp at q; exact FM f a c k (by omega) (by omega) (by omega) (by omega) (by omega) (by omega) (by omega) (by omega)
    · rw [q]; exact FM 40 0 0 k (by omega) (by omega) (by omega) (by omega) (by omega) (by omega) (by omega) (by omega)
    · simp at q q2; exact fd f a c k (by omega) (by omega) (by omega)

