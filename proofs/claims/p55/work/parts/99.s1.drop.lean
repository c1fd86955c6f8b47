/-! trees copied, nodes dropped: trees and blocks, without what counts the rows, and without the streams -/
def kk_K0 (h : mm_Id → Int → Int) : Prop :=
  (∀ t n, 0 ≤ t → t < 13 → 1 ≤ n → n < 37 → kk_NR h t n) ∧ (∀ t n, mm_isT t → 1 ≤ n → n < 37 → kk_NW h t n) ∧ (∀ t, mm_isT t → kk_TW h t) ∧ (∀ s n, 0 ≤ s → s < 29 → 1 ≤ n → n < 37 → kk_MW h (36 * s + n - 1)) ∧
  kk_PQ h ∧ kk_DS h ∧ ((∀ e, 0 ≤ e → e < 60 → h (16, 0, 0) e = 0) ∧ ∀ j, 0 ≤ j → j < 102060 → -128 ≤ h (16, 0, 0) j ∧ h (16, 0, 0) j < 128) ∧ (∀ t, mm_isT t → h (22, t, 0) 2 = kk_as t) ∧ (∀ t p, mm_isT t → 0 ≤ p → p < 36 → h (27, t, 0) p = 0)
theorem kk_K0o {h : mm_Id → Int → Int} (K : kk_KT h) : kk_K0 h := ⟨K.1, K.2.1, K.2.2.1, K.2.2.2.2.1, K.2.2.2.2.2.1, K.2.2.2.2.2.2.1, K.2.2.2.2.2.2.2.2.1, K.2.2.2.2.2.2.2.2.2.1, K.2.2.2.2.2.2.2.2.2.2⟩
theorem kk_K0i {h : mm_Id → Int → Int} (K : kk_K0 h) (R : kk_R h) (S : ∀ t, t = 26 ∨ t = 27 → kk_SR h t) : kk_KT h := ⟨K.1, K.2.1, K.2.2.1, S, K.2.2.2.1, K.2.2.2.2.1, K.2.2.2.2.2.1, R, K.2.2.2.2.2.2.1, K.2.2.2.2.2.2.2.1, K.2.2.2.2.2.2.2.2⟩
theorem kk_T29 {t : Int} (ht : mm_isT t) : 0 ≤ t ∧ t < 29 := by unfold mm_isT at ht; omega
theorem kk_K0cp {P F : mm_Id → Int → Int} {τ σ : Int → Int} (K : kk_K0 P) (hτ : ∀ t, mm_isT t → mm_isT (τ t)) (cp : ∀ t n, mm_isT t → 1 ≤ n → n < 37 → kk_cpd F t n P (τ t) n) (hσ : ∀ s, 0 ≤ s → s < 29 → 0 ≤ σ s ∧ σ s < 29) (hστ : ∀ t, mm_isT t → σ t = τ t)
    (ms : ∀ s n, 0 ≤ s → s < 29 → 1 ≤ n → n < 37 → kk_ms F (36 * s + n - 1) P (36 * σ s + n - 1)) (hNR : ∀ t n, 0 ≤ t → t < 13 → 1 ≤ n → n < 37 → kk_NR P (τ t) n) (e16 : ∀ j, F (16, 0, 0) j = P (16, 0, 0) j) (e54 : ∀ j, F (54, 0, 0) j = P (54, 0, 0) j)
    (e22 : ∀ t, mm_isT t → F (22, t, 0) 2 = P (22, t, 0) 2) (e27 : ∀ t p, mm_isT t → 0 ≤ p → p < 36 → F (27, t, 0) p = P (27, t, 0) p) : kk_K0 F := by
  obtain ⟨k1, k2, k3, k5, k6, k7, k9, k10, k11⟩ := K
  have pc : ∀ t n p, mm_isT t → (1 ≤ n ∧ n < 37) → (0 ≤ p ∧ p < 36) → F (27, t, n) p = P (27, τ t, n) p := fun t n p ht hn hp => (cp t n ht hn.1 hn.2).2.2 p hp.1 hp.2
  have bc : ∀ t n p, mm_isT t → (1 ≤ n ∧ n < 37) → (0 ≤ p ∧ p < 36) → F (43, 0, 0) (36 * (36 * t + n - 1) + p) = P (43, 0, 0) (36 * (36 * τ t + n - 1) + p) := fun t n p ht hn hp => by
    rw [(ms t n (kk_T29 ht).1 (kk_T29 ht).2 hn.1 hn.2).2.1 p hp.1 hp.2, hστ t ht]
  refine ⟨fun t n t0 t1 n0 n1 => ?_, fun t n ht n0 n1 => ?_, fun t ht => ?_, fun s n s0 s1 n0 n1 => ?_, ?_, ?_, ?_, fun t ht => ?_, fun t p ht p0 p1 => ?_⟩
  · have ht := mm_T13 ⟨t0, t1⟩
    have m := ms t n t0 (by omega) n0 n1
    rw [hστ t ht] at m
    exact kk_NRcp (cp t n ht n0 n1) m (k2 _ n (hτ t ht) n0 n1) (fun _ _ _ _ _ _ _ => e16 _) (fun _ _ _ _ _ _ _ => e54 _) (hNR t n t0 t1 n0 n1)
  · exact kk_NWcp (fun n a b => cp t n ht a b) ⟨n0, n1⟩ (fun _ _ _ _ _ _ => e16 _) (k2 _ n (hτ t ht) n0 n1)
  · exact kk_TWcp (fun n a b => cp t n ht a b) (fun n a b => k2 _ n (hτ t ht) a b) (k3 _ (hτ t ht))
  · exact kk_MWcp (ms s n s0 s1 n0 n1) (k5 _ n (hσ s s0 s1).1 (hσ s s0 s1).2 n0 n1)
  · intro t n p t2 n2 p2 ht hn hp ht2 hn2 hp2 z z2
    rw [pc t n p ht hn hp] at z ⊢
    rw [pc t2 n2 p2 ht2 hn2 hp2] at z2 ⊢
    rw [bc t n p ht hn hp, bc t2 n2 p2 ht2 hn2 hp2]
    exact k6 _ n p _ n2 p2 (hτ t ht) hn hp (hτ t2 ht2) hn2 hp2 z z2
  · intro t n p n2 p2 ht hn hp hn2 hp2 z
    rw [pc t n p ht hn hp] at z ⊢
    rw [pc t n2 p2 ht hn2 hp2]
    exact k7 _ n p n2 p2 (hτ t ht) hn hp hn2 hp2 z
  · exact ⟨fun e e0 e1 => by rw [e16]; exact k9.1 e e0 e1, fun j j0 j1 => by rw [e16]; exact k9.2 j j0 j1⟩
  · rw [e22 t ht]; exact k10 t ht
  · rw [e27 t p ht p0 p1]; exact k11 t p ht p0 p1
theorem kk_NWcl {g : mm_Id → Int → Int} {t n : Int} (gc : kk_cl g t n) : kk_NW g t n := by
  have c0 : g (24, t, n) 0 = 0 := by rw [gc.1 0 kk_F0]; rfl
  have c6 : g (24, t, n) 6 = 0 := by rw [gc.1 6 kk_F6]; rfl
  have c11 : g (24, t, n) 11 = 0 := by rw [gc.1 11 kk_F11]; rfl
  have c2 : g (24, t, n) 2 = 0 := by rw [gc.1 2 kk_F2]; rfl
  have c3 : g (24, t, n) 3 = 61 := by rw [gc.1 3 kk_F3]; rfl
  have c14 : g (24, t, n) 14 = 0 := by rw [gc.1 14 kk_F14]; rfl
  refine ⟨by omega, by omega, fun _ => c6, by omega, fun _ => c11, Or.inl c14, ?_, fun _ => gc.2.2, by omega, by omega, ⟨fun w => by omega, fun w => by omega, fun w => by omega⟩, fun i j _ _ w => by omega, fun i j _ _ w => by omega, fun e _ w => by omega, fun e _ w => by omega, fun w => by omega, fun w => by omega⟩
  rw [gc.2.1, kk_nz0 gc.2.2]
theorem kk_TWcl {g : mm_Id → Int → Int} {t : Int} (gc : ∀ n, 1 ≤ n → n < 37 → kk_cl g t n) : kk_TW g t := by
  have g0 : ∀ n, 1 ≤ n → n < 37 → g (24, t, n) 0 = 0 := fun n n0 n1 => by rw [(gc n n0 n1).1 0 kk_F0]; rfl
  have g4 : ∀ n, 1 ≤ n → n < 37 → g (24, t, n) 4 = 0 := fun n n0 n1 => by rw [(gc n n0 n1).1 4 kk_F4]; rfl
  have g6 : ∀ n, 1 ≤ n → n < 37 → g (24, t, n) 6 = 0 := fun n n0 n1 => by rw [(gc n n0 n1).1 6 kk_F6]; rfl
  have ec : ∀ n, kk_ec g t n = 0 := fun n => by
    have a := kk_ecnn g t n
    by_cases q : 0 < kk_ec g t n
    · obtain ⟨d, e, hd, he, _⟩ := kk_ecx q
      have := g6 d hd.1 hd.2
      omega
    · omega
  refine ⟨fun n n0 n1 k => absurd (g0 n n0 n1) k, fun n n0 n1 k => ?_, fun n n0 n1 k => ?_, ec 1, fun n n0 n1 _ => g4 n n0 n1, fun n d e n0 n1 k _ _ _ _ _ => ?_, fun n n0 n1 k => absurd (g0 n n0 n1) k, fun _ => 0, fun n n0 n1 k => ?_⟩
  · have := g0 n (by omega) n1; omega
  · rw [ec]; omega
  · have := g0 n (by omega) n1; omega
  · have := g0 n (by omega) n1; omega
/-- some unused files dropped -/
theorem kk_TWdr {h g : mm_Id → Int → Int} {t : Int} {D : Int → Prop} (NW : ∀ n, 1 ≤ n → n < 37 → kk_NW h t n) (T : kk_TW h t) (hD : ∀ n, 1 ≤ n → n < 37 → D n → h (24, t, n) 0 = 1 ∧ h (24, t, n) 5 = 0) (gc : ∀ n, 1 ≤ n → n < 37 → D n → kk_cl g t n)
    (fr : ∀ (f : Nat) n j, 24 ≤ f → f ≤ 30 → 1 ≤ n → n < 37 → ¬ D n → g (f, t, n) j = h (f, t, n) j) (e16 : ∀ j, g (16, 0, 0) j = h (16, 0, 0) j) : (∀ n, 1 ≤ n → n < 37 → kk_NW g t n) ∧ kk_TW g t := by
  obtain ⟨a1, a2, a3, a4, a5, a6, a7, r, a8⟩ := T
  have gz : ∀ n, 1 ≤ n → n < 37 → D n → g (24, t, n) 0 = 0 := fun n n0 n1 d => by rw [(gc n n0 n1 d).1 0 kk_F0]; rfl
  have g6 : ∀ n, 1 ≤ n → n < 37 → D n → g (24, t, n) 6 = 0 := fun n n0 n1 d => by rw [(gc n n0 n1 d).1 6 kk_F6]; rfl
  have h6 : ∀ n, 1 ≤ n → n < 37 → D n → h (24, t, n) 6 = 0 := fun n n0 n1 d => (NW n n0 n1).2.2.1 (by have := (hD n n0 n1 d).1; omega)
  have nD : ∀ n, 1 ≤ n → n < 37 → g (24, t, n) 0 ≠ 0 → ¬ D n := fun n n0 n1 k d => k (gz n n0 n1 d)
  have ec : ∀ n, kk_ec g t n = kk_ec h t n := fun n => by
    refine kk_Sc _ (fun d d0 d1 => ?_)
    by_cases q : D d
    · unfold kk_e1
      rw [g6 d d0 (by omega) q, h6 d d0 (by omega) q]
      rfl
    · exact kk_e1c (fr 24 d 6 (by omega) (by omega) d0 (by omega) q) (fun i => fr 26 d i (by omega) (by omega) d0 (by omega) q)
  have nm : ∀ d e, 1 ≤ d → d < 37 → 0 ≤ e → e < h (24, t, d) 6 → ¬ D (h (26, t, d) e) := fun d e d0 d1 e0 e1 q => by
    have w := (NW d d0 d1).2.2.2.2.2.2.2.2.2.2.2.2.2.1 e e0 e1
    have p := kk_ecp (h := h) (m := h (26, t, d) e) ⟨d0, d1⟩ ⟨e0, e1⟩ rfl
    have u := a1 _ w.2.1.1 w.2.1.2 w.2.2
    have v := (hD _ w.2.1.1 w.2.1.2 q).2
    omega
  refine ⟨fun n n0 n1 => ?_, fun n n0 n1 k => ?_, fun n n0 n1 k => ?_, fun n n0 n1 k => ?_, by rw [ec]; exact a4, fun n n0 n1 k => ?_, fun n d2 e n0 n1 k d0 d1 e0 e1 q => ?_, fun n n0 n1 k => ?_, r, fun n n0 n1 k => ?_⟩
  · by_cases q : D n
    · exact kk_NWcl (gc n n0 n1 q)
    · refine kk_NWx (fun f j f0 f1 => fr f n j f0 f1 n0 n1 q) (fun i i0 i1 => ?_) (fun _ _ _ _ _ _ => e16 _) (NW n n0 n1)
      have w := (NW n n0 n1).2.2.2.2.2.2.2.2.2.2.2.2.2.1 i i0 i1
      rw [fr 24 _ 0 (by omega) (by omega) w.2.1.1 w.2.1.2 (nm n i n0 n1 i0 i1)]
      exact w.2.2
  · have q := nD n n0 n1 k
    rw [fr 24 n 0 (by omega) (by omega) n0 n1 q] at k
    rw [fr 24 n 5 (by omega) (by omega) n0 n1 q, ec]
    exact a1 n n0 n1 k
  · have q := nD n (by omega) n1 (by omega)
    rw [fr 24 n 0 (by omega) (by omega) (by omega) n1 q] at k
    rw [ec]
    exact a2 n n0 n1 k
  · have q := nD n n0 n1 (by omega)
    rw [fr 24 n 0 (by omega) (by omega) n0 n1 q] at k
    rw [ec]
    exact a3 n n0 n1 k
  · by_cases q : D n
    · rw [(gc n n0 n1 q).1 4 kk_F4]; rfl
    · rw [fr 24 n 0 (by omega) (by omega) n0 n1 q] at k
      rw [fr 24 n 4 (by omega) (by omega) n0 n1 q]
      exact a5 n n0 n1 k
  · have y := nD n (by omega) n1 (by omega)
    have z : ¬ D d2 := fun z => by rw [g6 d2 d0 d1 z] at e1; omega
    rw [fr 24 n 0 (by omega) (by omega) (by omega) n1 y] at k
    rw [fr 24 d2 6 (by omega) (by omega) d0 d1 z] at e1
    rw [fr 26 d2 e (by omega) (by omega) d0 d1 z] at q
    rw [fr 24 n 4 (by omega) (by omega) (by omega) n1 y]
    exact a6 n d2 e n0 n1 k d0 d1 e0 e1 q
  · have q := nD n n0 n1 k
    rw [fr 24 n 0 (by omega) (by omega) n0 n1 q] at k
    have w := a7 n n0 n1 k
    have q1 : ¬ D 1 := fun z => by have := (hD 1 (by omega) (by omega) z).1; omega
    rw [fr 24 1 0 (by omega) (by omega) (by omega) (by omega) q1]
    exact w
  · have q := nD n (by omega) n1 (by omega)
    rw [fr 24 n 0 (by omega) (by omega) (by omega) n1 q] at k
    rw [fr 24 n 4 (by omega) (by omega) (by omega) n1 q]
    exact a8 n n0 n1 k
/-- nodes dropped, here and there -/
theorem kk_K0dr {P F : mm_Id → Int → Int} {D E : Int → Int → Prop} (K : kk_K0 P) (cl : ∀ t n, mm_isT t → 1 ≤ n → n < 37 → D t n → kk_cl F t n) (cs : ∀ (f : Nat) t n j, 24 ≤ f → f ≤ 30 → mm_isT t → 1 ≤ n → n < 37 → ¬ D t n → F (f, t, n) j = P (f, t, n) j)
    (hD : ∀ t, mm_isT t → (∀ n, 1 ≤ n → n < 37 → D t n) ∨ ∀ n, 1 ≤ n → n < 37 → D t n → P (24, t, n) 0 = 1 ∧ P (24, t, n) 5 = 0)
    (mz : ∀ s n, 0 ≤ s → s < 29 → 1 ≤ n → n < 37 → E s n → kk_mz F (36 * s + n - 1)) (ms : ∀ s n x j, 0 ≤ s → s < 29 → 1 ≤ n → n < 37 → ¬ E s n → kk_mx (36 * s + n - 1) x j → F x j = P x j) (m53 : ∀ j, F (53, 0, 0) j = P (53, 0, 0) j)
    (hED : ∀ t n, mm_isT t → 1 ≤ n → n < 37 → E t n → D t n) (hDE : ∀ t n, 0 ≤ t → t < 13 → 1 ≤ n → n < 37 → D t n → E t n) (e16 : ∀ j, F (16, 0, 0) j = P (16, 0, 0) j) (e54 : ∀ j, F (54, 0, 0) j = P (54, 0, 0) j) (e22 : ∀ t, mm_isT t → F (22, t, 0) 2 = P (22, t, 0) 2) (e27 : ∀ t p, mm_isT t → 0 ≤ p → p < 36 → F (27, t, 0) p = P (27, t, 0) p) : kk_K0 F := by
  obtain ⟨k1, k2, k3, k5, k6, k7, k9, k10, k11⟩ := K
  have pc : ∀ t n p, mm_isT t → (1 ≤ n ∧ n < 37) → (0 ≤ p ∧ p < 36) → F (27, t, n) p ≠ 0 → ¬ D t n ∧ F (27, t, n) p = P (27, t, n) p := fun t n p ht hn hp z => by
    by_cases q : D t n
    · exact absurd ((cl t n ht hn.1 hn.2 q).2.2 p hp.1 hp.2) z
    · exact ⟨q, cs 27 t n p (by omega) (by omega) ht hn.1 hn.2 q⟩
  have bc : ∀ t n p, mm_isT t → (1 ≤ n ∧ n < 37) → (0 ≤ p ∧ p < 36) → ¬ D t n → F (43, 0, 0) (36 * (36 * t + n - 1) + p) = P (43, 0, 0) (36 * (36 * t + n - 1) + p) := fun t n p ht hn hp z => ms t n _ _ (kk_T29 ht).1 (kk_T29 ht).2 hn.1 hn.2 (fun q => z (hED t n ht hn.1 hn.2 q)) (kk_m43 hp)
  have ms2 : ∀ s n, 0 ≤ s → s < 29 → 1 ≤ n → n < 37 → ¬ E s n → kk_ms F (36 * s + n - 1) P (36 * s + n - 1) := fun s n s0 s1 n0 n1 q => by
    have w := (k5 s n s0 s1 n0 n1).1
    exact kk_msr w.2.1.2 w.2.2.2 (fun x j hx => ms s n x j s0 s1 n0 n1 q hx)
  have tw : ∀ t, mm_isT t → (∀ n, 1 ≤ n → n < 37 → kk_NW F t n) ∧ kk_TW F t := fun t ht => by
    rcases hD t ht with q | q
    · have c : ∀ n, 1 ≤ n → n < 37 → kk_cl F t n := fun n n0 n1 => cl t n ht n0 n1 (q n n0 n1)
      exact ⟨fun n n0 n1 => kk_NWcl (c n n0 n1), kk_TWcl c⟩
    · exact kk_TWdr (D := D t) (fun n n0 n1 => k2 t n ht n0 n1) (k3 t ht) q (fun n n0 n1 d => cl t n ht n0 n1 d) (fun f n j f0 f1 n0 n1 d => cs f t n j f0 f1 ht n0 n1 d) e16
  refine ⟨fun t n t0 t1 n0 n1 => ?_, fun t n ht n0 n1 => (tw t ht).1 n n0 n1, fun t ht => (tw t ht).2, fun s n s0 s1 n0 n1 => ?_, ?_, ?_, ?_, fun t ht => ?_, fun t p ht p0 p1 => ?_⟩
  · have ht := mm_T13 ⟨t0, t1⟩
    by_cases q : D t n
    · exact kk_NRz (cl t n ht n0 n1 q) (mz t n t0 (by omega) n0 n1 (hDE t n t0 t1 n0 n1 q))
    · exact kk_NRcp (kk_cpdr (fun f j f0 f1 => cs f t n j f0 f1 ht n0 n1 q)) (ms2 t n t0 (by omega) n0 n1 (fun z => q (hED t n ht n0 n1 z))) (k2 t n ht n0 n1) (fun _ _ _ _ _ _ _ => e16 _) (fun _ _ _ _ _ _ _ => e54 _) (k1 t n t0 t1 n0 n1)
  · by_cases q : E s n
    · have w := mz s n s0 s1 n0 n1 q
      have v := (k5 s n s0 s1 n0 n1).1.1
      rw [← m53] at v
      refine ⟨⟨v, by rw [w.1.2.2.1]; omega, by rw [w.1.2.2.2]; omega⟩, by rw [w.1.1]; omega, fun _ => w.1.2.2.1, fun p p0 p1 => ?_⟩
      rw [w.2 p p0 p1]
      exact ⟨by omega, fun _ => rfl⟩
    · exact kk_MWcp (ms2 s n s0 s1 n0 n1 q) (k5 s n s0 s1 n0 n1)
  · intro t n p t2 n2 p2 ht hn hp ht2 hn2 hp2 z z2
    have u := pc t n p ht hn hp z
    have u2 := pc t2 n2 p2 ht2 hn2 hp2 z2
    rw [u.2] at z ⊢
    rw [u2.2] at z2 ⊢
    rw [bc t n p ht hn hp u.1, bc t2 n2 p2 ht2 hn2 hp2 u2.1]
    exact k6 t n p t2 n2 p2 ht hn hp ht2 hn2 hp2 z z2
  · intro t n p n2 p2 ht hn hp hn2 hp2 z y
    have u := pc t n p ht hn hp z
    have u2 := pc t n2 p2 ht hn2 hp2 (by rw [← y]; exact z)
    rw [u.2] at z y
    rw [u2.2] at y
    exact k7 t n p n2 p2 ht hn hp hn2 hp2 z y
  · exact ⟨fun e e0 e1 => by rw [e16]; exact k9.1 e e0 e1, fun j j0 j1 => by rw [e16]; exact k9.2 j j0 j1⟩
  · rw [e22 t ht]; exact k10 t ht
  · rw [e27 t p ht p0 p1]; exact k11 t p ht p0 p1
theorem kk_bsdr {P F : mm_Id → Int → Int} {E : Int → Int → Prop} {s c : Int} (mz : ∀ n, 1 ≤ n → n < 37 → E s n → kk_mz F (36 * s + n - 1)) (ms : ∀ n x j, 1 ≤ n → n < 37 → ¬ E s n → kk_mx (36 * s + n - 1) x j → F x j = P x j) (q : kk_bs F s c) : kk_bs P s c := by
  obtain ⟨n, p, hn, hp, k, e⟩ := q
  have z : ¬ E s n := fun z => by
    have := (mz n hn.1 hn.2 z).1.1
    omega
  refine ⟨n, p, hn, hp, ?_, ?_⟩
  · rw [← ms n _ _ hn.1 hn.2 z (Or.inl ⟨kk_f41, rfl⟩)]; exact k
  · rw [← ms n _ _ hn.1 hn.2 z (kk_m43 hp)]; exact e

