/-! a tree is no more -/
theorem kk_clcp {F : mm_Id → Int → Int} {t n t1 n1 : Int} (a : kk_cl F t n) (c : kk_cl F t1 n1) : kk_cpd F t n F t1 n1 := by
  have c0 : F (24, t1, n1) 0 = 0 := by rw [c.1 0 kk_F0]; rfl
  have c11 : F (24, t1, n1) 11 = 0 := by rw [c.1 11 kk_F11]; rfl
  exact ⟨⟨fun f hf => by rw [a.1 f hf, c.1 f hf], fun w => by omega, fun w => by omega, fun i _ w => by omega⟩, by rw [a.2.1, c.2.1], fun p p0 p1 => by rw [a.2.2 p p0 p1, c.2.2 p p0 p1]⟩
theorem kk_cle {F G : mm_Id → Int → Int} {t n : Int} (e : ∀ (f : Nat) k, f = 24 ∨ f = 27 → G (f, t, n) k = F (f, t, n) k) (c : kk_cl F t n) : kk_cl G t n :=
  ⟨fun f hf => by rw [e 24 f (by omega)]; exact c.1 f hf, by rw [e 24 9 (by omega)]; exact c.2.1, fun p p0 p1 => by rw [e 27 p (by omega)]; exact c.2.2 p p0 p1⟩
theorem kk_deW {b t : Int} {h hcc g0 gm : mm_Id → Int → Int} {dh dh' : Int → Int} (hc : kk_core b h dh) (ht : 0 ≤ t ∧ t < 13) (R : kk_R hcc) (cl : ∀ n, 1 ≤ n → n < 37 → kk_cl hcc t n) (ck : t < 5 → ∀ n, 1 ≤ n → n < 37 → kk_cl hcc (13 + t) n)
    (cF : ∀ (f : Nat) a c k, f < 40 → ¬ (f = 15 ∧ k = 7) → f ≠ 17 → f ≠ 18 → f ≠ 19 → ¬ (24 ≤ f ∧ f ≤ 30 ∧ a = t ∧ 1 ≤ c ∧ c < 37) → ¬ (t < 5 ∧ 24 ≤ f ∧ f ≤ 30 ∧ a = 13 + t ∧ 1 ≤ c ∧ c < 37) → ¬ (t < 5 ∧ f = 31 ∧ a = t) → ¬ (5 ≤ t ∧ f = 33 ∧ 5 + a = t) → hcc (f, a, c) k = h (f, a, c) k)
    (c31 : t < 5 → hcc (31, t, 0) 3 = 0 ∧ hcc (31, t, 0) 6 = 0) (c33 : 5 ≤ t → hcc (33, t - 5, 0) 1 = 0 ∧ hcc (33, t - 5, 0) 2 = 0)
    (m0 : ∀ (x : mm_Id) k, 40 ≤ x.1 → x.1 ≠ 56 → x.1 ≠ 63 → x.1 ≠ 64 → ¬ (x = (57, 0, 0) ∧ k = t) → ¬ (x = (40, 0, 0) ∧ k = 0) → g0 x k = h x k) (m57 : g0 (57, 0, 0) t = 0) (mz : ∀ n, 1 ≤ n → n < 37 → kk_mz gm (36 * t + n - 1)) (mF : ∀ x k, ¬ (∃ n, 1 ≤ n ∧ n < 37 ∧ kk_cx (36 * t + n - 1) x k) → x.1 ≠ 56 → gm x k = g0 x k)
    (dcl : ∀ p, 0 ≤ p → p < 8 → mm_isD (dh p) ∧ dh p = t → dh' p = -1 ∧ g0 (63, 0, 0) (p + 1) = 0 ∧ ∀ a, 0 ≤ a → a < 2160 → g0 (64, 0, 0) (2160 * (p + 1) + a) = 0) (dno : ∀ p, 0 ≤ p → p < 8 → ¬ (mm_isD (dh p) ∧ dh p = t) → dh' p = dh p ∧ g0 (63, 0, 0) (p + 1) = h (63, 0, 0) (p + 1) ∧ ∀ a, 0 ≤ a → a < 2160 → g0 (64, 0, 0) (2160 * (p + 1) + a) = h (64, 0, 0) (2160 * (p + 1) + a)) : kk_W b (kk_mix hcc gm) dh' := by
  obtain ⟨F, hF⟩ : ∃ F, F = kk_mix hcc gm := ⟨_, rfl⟩
  rw [← hF]
  have KD := hc.1.2.2.1
  have zC : ∀ (f : Nat) a c k, f < 40 → F (f, a, c) k = hcc (f, a, c) k := fun f a c k f0 => by rw [hF]; exact kk_mixC f0
  have zM : ∀ (x : mm_Id) k, 40 ≤ x.1 → F x k = gm x k := fun x k f0 => by rw [hF]; exact kk_mixM f0
  have FC : ∀ (f : Nat) a c k, f < 40 → ¬ (f = 15 ∧ k = 7) → f ≠ 17 → f ≠ 18 → f ≠ 19 → ¬ (24 ≤ f ∧ f ≤ 30 ∧ a = t ∧ 1 ≤ c ∧ c < 37) → ¬ (t < 5 ∧ 24 ≤ f ∧ f ≤ 30 ∧ a = 13 + t ∧ 1 ≤ c ∧ c < 37) → ¬ (t < 5 ∧ f = 31 ∧ a = t) → ¬ (5 ≤ t ∧ f = 33 ∧ 5 + a = t) → F (f, a, c) k = h (f, a, c) k := fun f a c k f0 q1 q2 q3 q4 q5 q6 q7 q8 => by
    rw [zC f a c k f0]; exact cF f a c k f0 q1 q2 q3 q4 q5 q6 q7 q8
  have Z0 : ∀ (f : Nat) a c k, 40 ≤ f → f < 41 ∨ 53 < f → f ≠ 56 → F (f, a, c) k = g0 (f, a, c) k := fun f a c k f0 f1 f2 => by
    rw [zM _ k f0, mF _ k (by
      rintro ⟨n, n0, n1, w⟩
      have r := kk_mxr (kk_cxm w)
      simp at r
      omega) f2]
  have FM : ∀ (f : Nat) a c k, 40 ≤ f → f < 41 ∨ 53 < f → f ≠ 56 → f ≠ 63 → f ≠ 64 → ¬ (f = 57 ∧ k = t) → ¬ (f = 40 ∧ k = 0) → F (f, a, c) k = h (f, a, c) k := fun f a c k f0 f1 f2 f3 f4 f5 f6 => by
    rw [Z0 f a c k f0 f1 f2]
    exact m0 _ k f0 f2 f3 f4 (by rintro ⟨v, v2⟩; simp at v; omega) (by rintro ⟨v, v2⟩; simp at v; omega)
  have Fcl : ∀ n, 1 ≤ n → n < 37 → kk_cl F t n := fun n n0 n1 => kk_cle (fun f k q => zC f t n k (by omega)) (cl n n0 n1)
  have Fck : t < 5 → ∀ n, 1 ≤ n → n < 37 → kk_cl F (13 + t) n := fun q n n0 n1 => kk_cle (fun f k q => zC f _ n k (by omega)) (ck q n n0 n1)
  have fd : ∀ (f : Nat) a c k, 24 ≤ f → f ≤ 30 → a ≠ t → ¬ (t < 5 ∧ a = 13 + t) → F (f, a, c) k = h (f, a, c) k := fun f a c k f0 f1 q q2 => FC f a c k (by omega) (by omega) (by omega) (by omega) (by omega) (by omega) (by omega) (by omega) (by omega)
  have no5 : kk_no F t = 0 := by
    unfold kk_no
    by_cases z : t < 5
    · rw [if_pos z, zC 31 t 0 3 (by decide)]; exact (c31 z).1
    · rw [if_neg z, zC 33 _ 0 1 (by decide)]; exact (c33 (by omega)).1
  have nos : ∀ a, 0 ≤ a → a < 13 → a ≠ t → kk_no F a = kk_no h a := fun a a1 a2 a3 => by
    unfold kk_no
    by_cases z : a < 5
    · rw [if_pos z, if_pos z, FC 31 a 0 3 (by decide) (by omega) (by decide) (by decide) (by decide) (by omega) (by omega) (by omega) (by omega)]
    · rw [if_neg z, if_neg z, FC 33 (a - 5) 0 1 (by decide) (by omega) (by decide) (by decide) (by decide) (by omega) (by omega) (by omega) (by omega)]
  have f34 : ∀ (f : Nat) a k, f = 34 ∨ f = 35 → F (f, a, 0) k = h (f, a, 0) k := fun f a k hf => FC f a 0 k (by omega) (by omega) (by omega) (by omega) (by omega) (by omega) (by omega) (by omega) (by omega)
  have k10 := KD.2.1
  have k11 := KD.2.2.1
  have kd : kk_KD b F dh' := by
    refine kk_KD1 (t := t) KD ht KD.1 ?_ ?_ (fun a k ne hk => FC 31 a 0 k (by decide) (by omega) (by decide) (by decide) (by decide) (by omega) (by omega) (by omega) (by omega)) (fun a k ne => FC 33 a 0 k (by decide) (by omega) (by decide) (by decide) (by decide) (by omega) (by omega) (by omega) (by omega)) (fun a u _ => FC 32 a 0 u (by decide) (by omega) (by decide) (by decide) (by decide) (by omega) (by omega) (by omega) (by omega)) (fun f k hf ne => FM f 0 0 k (by omega) (by omega) (by omega) (by omega) (by omega) (by omega) (by omega)) (fun a u u0 u1 ne => FM 61 0 0 _ (by omega) (by omega) (by omega) (by omega) (by omega) (by omega) (by omega)) ?_ (fun _ w => ?_) (fun a a0 a1 => ?_) (fun w => ⟨fun w2 => ?_, fun _ => ?_⟩) ?_ (fun a n a0 a1 q _ _ => fd 24 a n 0 (by decide) (by decide) q (by omega)) (fun _ n n0 n1 => ?_) (fun w => ?_) (fun a n a0 a1 z n0 n1 => ?_) (kk_d17c (t := t) (P := fun q => mm_isD (dh q) ∧ dh q = t) (kk_h17 hc) (fun q q0 q1 e => ?_) (fun q q0 q1 e => ⟨fun w w2 => e ⟨w, w2⟩, ?_⟩) f34 (fun k => FM 62 0 0 k (by omega) (by omega) (by omega) (by omega) (by omega) (by omega) (by omega)) (fun a a1 a2 a3 z => ?_) (fun a n a1 a2 a3 _ _ z => ?_)) ?_ ?_
    · rw [FC 1 0 0 10 (by decide) (by omega) (by decide) (by decide) (by decide) (by omega) (by omega) (by omega) (by omega), FM 40 0 0 24 (by omega) (by omega) (by omega) (by omega) (by omega) (by omega) (by omega)]
      exact ⟨k10.1, Int.le_refl _, k10.2.2⟩
    · rw [FC 1 0 0 11 (by decide) (by omega) (by decide) (by decide) (by decide) (by omega) (by omega) (by omega) (by omega), FM 40 0 0 25 (by omega) (by omega) (by omega) (by omega) (by omega) (by omega) (by omega)]
      exact ⟨k11.1, Int.le_refl _, k11.2.2⟩
    · rw [no5, Z0 57 0 0 t (by omega) (by omega) (by omega), m57, FC 1 0 0 10 (by decide) (by omega) (by decide) (by decide) (by decide) (by omega) (by omega) (by omega) (by omega), FC 1 0 0 11 (by decide) (by omega) (by decide) (by decide) (by decide) (by omega) (by omega) (by omega) (by omega)]
      exact ⟨rfl, Int.le_refl _, fun _ => by omega, fun _ => k11.2.1⟩
    · rw [no5] at w; omega
    · by_cases q : a = t
      · rw [q, zC 31 t 0 6 (by decide)]; exact Or.inl (c31 (by omega)).2
      · rw [FC 31 a 0 6 (by decide) (by omega) (by decide) (by decide) (by decide) (by omega) (by omega) (by omega) (by omega)]; exact KD.2.2.2.2.2.2.2.1 a a0 a1
    · rw [no5] at w2; omega
    · rw [zC 33 _ 0 2 (by decide)]; exact (c33 w).2
    · rw [FM 60 0 0 t (by omega) (by omega) (by omega) (by omega) (by omega) (by omega) (by omega)]
      exact KD.2.2.2.2.2.2.2.2.2.1 t ht.1 (by omega)
    · rw [(Fcl n n0 n1).1 0 kk_F0]; rfl
    · rw [no5] at w; omega
    · by_cases q : a = t
      · rw [q]; exact kk_clcp (Fck (by omega) n n0 n1) (Fcl n n0 n1)
      · rw [FC 31 a 0 6 (by decide) (by omega) (by decide) (by decide) (by decide) (by omega) (by omega) (by omega) (by omega)] at z
        exact kk_d15x KD a0 a1 z n0 n1 (fun f k f0 f1 => ⟨fd f _ n k f0 f1 (by omega) (by omega), fd f _ n k f0 f1 q (by omega)⟩)
    · rw [Z0 63 0 0 _ (by omega) (by omega) (by omega)]
      refine ⟨(dcl q q0 q1 e).1, (dcl q q0 q1 e).2.1, fun a a0 a1 => ?_⟩
      rw [Z0 64 0 0 _ (by omega) (by omega) (by omega)]
      exact (dcl q q0 q1 e).2.2 a a0 a1
    · rw [Z0 63 0 0 _ (by omega) (by omega) (by omega)]
      refine ⟨(dno q q0 q1 e).1, (dno q q0 q1 e).2.1, fun a a0 a1 => ?_⟩
      rw [Z0 64 0 0 _ (by omega) (by omega) (by omega)]
      exact (dno q q0 q1 e).2.2 a a0 a1
    · rw [nos a a1 (by omega) a3]; exact z
    · rw [fd 24 a n 0 (by decide) (by decide) a3 (by omega)]; exact z
    · intro a a0 a1
      rw [Z0 64 0 0 _ (by omega) (by omega) (by omega)]
      have e : a = 2160 * ((a / 2160 - 1) + 1) + a % 2160 := by omega
      by_cases q : mm_isD (dh (a / 2160 - 1)) ∧ dh (a / 2160 - 1) = t
      · have w := (dcl (a / 2160 - 1) (by omega) (by omega) q).2.2 (a % 2160) (by omega) (by omega)
        rw [← e] at w
        omega
      · have w := (dno (a / 2160 - 1) (by omega) (by omega) q).2.2 (a % 2160) (by omega) (by omega)
        rw [← e] at w
        rw [w]
        exact kk_h18 hc a a0 a1
    · intro a n a0 a1 n0 n1 w w5
      by_cases q : a = t
      · have := (Fcl n n0 n1).1 0 kk_F0
        rw [if_neg (by decide)] at this
        rw [q] at w
        omega
      · rw [fd 24 a n 0 (by decide) (by decide) q (by omega)] at w
        rw [fd 24 a n 5 (by decide) (by decide) q (by omega)] at w5
        obtain ⟨j, hj, q1, q2⟩ := kk_h19 hc a n a0 a1 n0 n1 w w5
        refine ⟨j, hj, ?_, by rw [f34 34 j 2 (by omega)]; exact q2⟩
        rw [(dno j hj.1 hj.2 (by omega)).1]
        exact q1
  have g0m : ∀ a n x k, 1 ≤ n → n < 37 → kk_mx (36 * a + n - 1) x k → g0 x k = h x k := fun a n x k n0 n1 hx2 => by
    have r := kk_mxr hx2
    exact m0 x k (by omega) (by omega) (by omega) (by omega) (by rintro ⟨v, _⟩; rw [v] at r; simp at r) (by rintro ⟨v, _⟩; rw [v] at r; simp at r)
  have msa : ∀ a n, 0 ≤ a → a < 29 → 1 ≤ n → n < 37 → kk_ms g0 (36 * a + n - 1) h (36 * a + n - 1) := fun a n a0 a1 n0 n1 => by
    have w := kk_mwC hc (s := a) (n := n) ⟨a0, a1⟩ ⟨n0, n1⟩
    exact kk_msr w.2.1.2 w.2.2.2 (fun x k hx2 => g0m a n x k n0 n1 hx2)
  refine kk_W1 (t := t) (u := t) (v := 28) (D := fun _ => True) (C := t < 5) (gm := g0) hc ht ht (Or.inl rfl) (fun n n0 n1 _ => Fcl n n0 n1) (fun _ _ _ q => absurd trivial q) (Or.inl (fun _ _ _ => trivial)) Fck (fun f a n k f0 f1 q q2 => fd f a n k f0 f1 q q2) (fun a p => ?_) (fun n n0 n1 => msa t n ht.1 (by omega) n0 n1) (fun n n0 n1 => msa 28 n (by omega) (by omega) n0 n1) (fun a x k _ _ hx2 => ?_) (fun n n0 n1 _ => ?_) (fun a n x k q n0 n1 hx2 => ?_) (fun k => ?_) ?_ (fun k => FC 16 0 0 k (by decide) (by omega) (by decide) (by decide) (by decide) (by omega) (by omega) (by omega) (by omega)) (fun k => Z0 54 0 0 k (by omega) (by omega) (by omega)) (fun k => m0 _ k (by decide) (by decide) (by decide) (by decide) (by simp) (by simp)) (fun a => FC 22 a 0 2 (by decide) (by omega) (by decide) (by decide) (by decide) (by omega) (by omega) (by omega) (by omega)) (fun c => FM 55 0 0 c (by omega) (by omega) (by omega) (by omega) (by omega) (by omega) (by omega)) (FM 40 0 0 18 (by omega) (by omega) (by omega) (by omega) (by omega) (by omega) (by omega)) (fun w => ?_) (fun k q _ _ => ⟨FM 57 0 0 k (by omega) (by omega) (by omega) (by omega) (by omega) (by omega) (by omega), FM 59 0 0 k (by omega) (by omega) (by omega) (by omega) (by omega) (by omega) (by omega)⟩) (fun _ w _ => ?_) (fun a a1 a2 q => nos a a1 (by omega) q) kd ?_
  · exact FC 27 a 0 p (by decide) (by omega) (by decide) (by decide) (by decide) (by omega) (by omega) (by omega) (by omega)
  · obtain ⟨n, n0, n1, hx2⟩ := hx2
    exact g0m a n x k n0 n1 hx2
  · have m := mz n n0 n1
    unfold kk_mz
    rw [zM (41, 0, 0) _ (by decide), zM (42, 0, 0) _ (by decide), zM (44, 0, 0) _ (by decide), zM (49, 0, 0) _ (by decide)]
    exact ⟨m.1, fun p p0 p1 => by rw [zM (43, 0, 0) _ (by decide)]; exact m.2 p p0 p1⟩
  · have r := kk_mxr hx2
    rw [zM x k (by omega)]
    refine mF x k ?_ (by omega)
    rintro ⟨m, m0, m1, w⟩
    exact kk_mxd (a := 36 * a + n - 1) (b := 36 * t + m - 1) (by
      intro e
      exact q ⟨by omega, trivial⟩) hx2 (kk_cxm w)
  · rw [zM (53, 0, 0) k (by decide), mF _ k (by
      rintro ⟨n, n0, n1, w⟩
      unfold kk_cx at w
      simp at w) (by decide)]
  · exact kk_Rcong (fun a c k => zC 27 a c k (by decide)) (zC _ _ _ _ (by decide)) (zC _ _ _ _ (by decide)) (fun r => zC _ _ _ _ (by decide)) (fun r => zC _ _ _ _ (by decide)) (fun r => zC _ _ _ _ (by decide)) R
  · rw [Z0 57 0 0 t (by omega) (by omega) (by omega), m57] at w; omega
  · rw [no5] at w; omega
  · intro x k q
    obtain ⟨f, a, c⟩ := x
    unfold kk_kgx at q
    rcases q with ⟨q, q2⟩ | q | q | q | q | ⟨q, q2⟩ | ⟨q, q2⟩
    · rw [q]; exact FC 1 0 0 k (by decide) (by omega) (by decide) (by decide) (by decide) (by omega) (by omega) (by omega) (by omega)
    · simp at q; exact FC f a c k (by omega) (by omega) (by omega) (by omega) (by omega) (by omega) (by omega) (by omega) (by omega)
    · simp at q; exact FC f a c k (by omega) (by omega) (by omega) (by omega) (by omega) (by omega) (by omega) (by omega) (by omega)
    · simp at q; exact FC f a c k (by omega) (by omega) (by omega) (by omega) (by omega) (by omega) (by omega) (by omega) (by omega)
    · simp at q; exact FM f a c k (by omega) (by omega) (by omega) (by omega) (by omega) (by omega) (by omega)
    · rw [q]; exact FM 40 0 0 k (by omega) (by omega) (by omega) (by omega) (by omega) (by omega) (by omega)
    · simp at q q2; exact fd f a c k (by omega) (by omega) (by omega) (by omega)

