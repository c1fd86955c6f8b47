/-! what holds between the calls holds at the beginning -/
section
variable {c : Int} {h : mm_Id → Int → Int}
theorem kk_Zcore (c4 : 4 ≤ c ∧ c ≤ 7) (hz : kk_Z c h) : kk_core 0 h (fun _ => -1) := by
  obtain ⟨⟨a1, a1z⟩, ⟨a8, a8z⟩, ⟨a14, a14z⟩, a22, ⟨a3, a4, a5, a31z⟩, a32, a33, a05, a16, P0, N, R, CP, ⟨b1, b24, b43, b40z⟩, B5, B61, B6, M, P43, B52⟩ := hz
  have nD : ¬ mm_isD (-1) := by unfold mm_isD; omega
  -- numbers of trees
  have no0 : kk_no h 0 = 1 := by unfold kk_no; rw [if_pos (by omega)]; exact a3
  have noz : ∀ s, s ≠ 0 → kk_no h s = 0 := fun s q => by
    unfold kk_no
    by_cases s5 : s < 5
    · rw [if_pos s5]; exact a31z s 3 (by omega)
    · rw [if_neg s5]; exact a33 _ _
  have no1 : ∀ s, 0 < kk_no h s → s = 0 := fun s q => Classical.byContradiction (fun w => by rw [noz s w] at q; omega)
  have no01 : ∀ s, 0 ≤ kk_no h s ∧ kk_no h s ≤ 1 := fun s => by
    by_cases q : s = 0
    · rw [q, no0]; omega
    · rw [noz s q]; omega
  -- fields of nodes
  have nf : ∀ t n f v, mm_isT t → 1 ≤ n → n < 37 → (kk_F f ∨ f = 9) → (v = if f = 0 then 2 else if f = 3 then 61 else 0) → h (24, t, n) f = 0 ∨ h (24, t, n) f = v := fun t n f v ht n0 n1 hf hv => by
    by_cases r : kk_rho t n
    · right; rw [(N t n f ht n0 n1 hf).1 r, hv]
    · left; exact (N t n f ht n0 n1 hf).2 r
  have z1 : ∀ t n, mm_isT t → 1 ≤ n → n < 37 → h (24, t, n) 1 = 0 := fun t n ht n0 n1 => by rcases nf t n 1 0 ht n0 n1 (by unfold kk_F; omega) rfl with w | w <;> exact w
  have z2 : ∀ t n, mm_isT t → 1 ≤ n → n < 37 → h (24, t, n) 2 = 0 := fun t n ht n0 n1 => by rcases nf t n 2 0 ht n0 n1 (by unfold kk_F; omega) rfl with w | w <;> exact w
  have z4 : ∀ t n, mm_isT t → 1 ≤ n → n < 37 → h (24, t, n) 4 = 0 := fun t n ht n0 n1 => by rcases nf t n 4 0 ht n0 n1 (by unfold kk_F; omega) rfl with w | w <;> exact w
  have z5 : ∀ t n, mm_isT t → 1 ≤ n → n < 37 → h (24, t, n) 5 = 0 := fun t n ht n0 n1 => by rcases nf t n 5 0 ht n0 n1 (by unfold kk_F; omega) rfl with w | w <;> exact w
  have z6 : ∀ t n, mm_isT t → 1 ≤ n → n < 37 → h (24, t, n) 6 = 0 := fun t n ht n0 n1 => by rcases nf t n 6 0 ht n0 n1 (by unfold kk_F; omega) rfl with w | w <;> exact w
  have z9 : ∀ t n, mm_isT t → 1 ≤ n → n < 37 → h (24, t, n) 9 = 0 := fun t n ht n0 n1 => by rcases nf t n 9 0 ht n0 n1 (by unfold kk_F; omega) rfl with w | w <;> exact w
  have z11 : ∀ t n, mm_isT t → 1 ≤ n → n < 37 → h (24, t, n) 11 = 0 := fun t n ht n0 n1 => by rcases nf t n 11 0 ht n0 n1 (by unfold kk_F; omega) rfl with w | w <;> exact w
  have z14 : ∀ t n, mm_isT t → 1 ≤ n → n < 37 → h (24, t, n) 14 = 0 := fun t n ht n0 n1 => by rcases nf t n 14 0 ht n0 n1 (by unfold kk_F; omega) rfl with w | w <;> exact w
  have t02 : ∀ t n, mm_isT t → 1 ≤ n → n < 37 → h (24, t, n) 0 = 0 ∨ h (24, t, n) 0 = 2 := fun t n ht n0 n1 => nf t n 0 2 ht n0 n1 (by unfold kk_F; omega) rfl
  have t3 : ∀ t n, mm_isT t → 1 ≤ n → n < 37 → h (24, t, n) 3 = 0 ∨ h (24, t, n) 3 = 61 := fun t n ht n0 n1 => nf t n 3 61 ht n0 n1 (by unfold kk_F; omega) rfl
  have tr : ∀ t n, mm_isT t → 1 ≤ n → n < 37 → h (24, t, n) 0 ≠ 0 → kk_rho t n := fun t n ht n0 n1 q => Classical.byContradiction (fun r => q ((N t n 0 ht n0 n1 (by unfold kk_F; omega)).2 r))
  have tr2 : ∀ t, t = 0 ∨ t = 13 → h (24, t, 1) 0 = 2 := fun t q => by
    have ht : mm_isT t := by unfold mm_isT; omega
    rw [(N t 1 0 ht (by omega) (by omega) (by unfold kk_F; omega)).1 ⟨q, rfl⟩]
    rfl
  have nz : ∀ t n, mm_isT t → 1 ≤ n → n < 37 → kk_nz (h (27, t, n)) = 0 := fun t n ht n0 n1 => kk_sm0 _ (fun p p0 p1 => by rw [P0 t n p ht (by omega) n1 p0 (by omega), if_pos rfl])
  -- fields there
  have mz : ∀ f s n, kk_mf f → f ≠ 41 → f ≠ 48 → 0 ≤ s → s < 29 → 1 ≤ n → n < 37 → h (f, 0, 0) (36 * s + n - 1) = 0 := fun f s n hf q1 q2 s0 s1 n0 n1 => by
    by_cases r : kk_rho s n
    · rw [(M f s n hf s0 s1 n0 n1).1 r, if_neg q1, if_neg q2]
    · exact (M f s n hf s0 s1 n0 n1).2 r
  have m41 : ∀ s n, 0 ≤ s → s < 29 → 1 ≤ n → n < 37 → h (41, 0, 0) (36 * s + n - 1) = 0 ∨ h (41, 0, 0) (36 * s + n - 1) = 2 := fun s n s0 s1 n0 n1 => by
    by_cases r : kk_rho s n
    · right; rw [(M 41 s n (Or.inl rfl) s0 s1 n0 n1).1 r]; rfl
    · left; exact (M 41 s n (Or.inl rfl) s0 s1 n0 n1).2 r
  have f42 : kk_mf 42 := by unfold kk_mf; omega
  have f44 : kk_mf 44 := by unfold kk_mf; omega
  have f47 : kk_mf 47 := by unfold kk_mf; omega
  have f48 : kk_mf 48 := by unfold kk_mf; omega
  have f49 : kk_mf 49 := by unfold kk_mf; omega
  have f53 : kk_mf 53 := by unfold kk_mf; omega
  have f41 : kk_mf 41 := by unfold kk_mf; omega
  -- nodes are alike
  have NR : ∀ t n, 0 ≤ t → t < 18 → 1 ≤ n → n < 37 → kk_NR h t n := fun t n t0 t1 n0 n1 => by
    have ht : mm_isT t := Or.inl ⟨t0, t1⟩
    have y1 := z1 t n ht n0 n1
    have y2 := z2 t n ht n0 n1
    have y6 := z6 t n ht n0 n1
    have y11 := z11 t n ht n0 n1
    have y14 := z14 t n ht n0 n1
    refine ⟨?_, ?_, ?_, fun _ => ⟨?_, ?_, ?_, ?_⟩, fun e e0 e1 => by omega, fun e e0 e1 => by omega, fun q => ?_, fun p p0 p1 => ⟨?_, fun q => absurd (P0 t n p ht (by omega) n1 p0 p1) q⟩⟩
    · by_cases r : kk_rho t n
      · rw [(N t n 0 ht n0 n1 (by unfold kk_F; omega)).1 r, (M 41 t n f41 t0 (by omega) n0 n1).1 r]; rfl
      · rw [(N t n 0 ht n0 n1 (by unfold kk_F; omega)).2 r, (M 41 t n f41 t0 (by omega) n0 n1).2 r]
    · rw [y6, mz 44 t n f44 (by decide) (by decide) t0 (by omega) n0 n1]
    · rw [y11, mz 49 t n f49 (by decide) (by decide) t0 (by omega) n0 n1]
    · rw [y1, mz 42 t n f42 (by decide) (by decide) t0 (by omega) n0 n1]
    · rw [y2, mz 47 t n f47 (by decide) (by decide) t0 (by omega) n0 n1]
    · by_cases r : kk_rho t n
      · rw [(N t n 3 ht n0 n1 (by unfold kk_F; omega)).1 r, (M 48 t n f48 t0 (by omega) n0 n1).1 r]; rfl
      · rw [(N t n 3 ht n0 n1 (by unfold kk_F; omega)).2 r, (M 48 t n f48 t0 (by omega) n0 n1).2 r]
    · rw [y14, mz 53 t n f53 (by decide) (by decide) t0 (by omega) n0 n1]
    · rcases t02 t n ht n0 n1 with w | w <;> omega
    · rw [P0 t n p ht (by omega) n1 p0 p1, P43 t n p t0 (by omega) n0 n1 p0 p1]
  have ec0 : ∀ t m, mm_isT t → kk_ec h t m = 0 := fun t m ht => kk_sm0 _ (fun d d0 d1 => by
    show kk_e1 h t (d + 1) m = 0
    unfold kk_e1
    rw [z6 t (d + 1) ht (by omega) (by omega)]
    rfl)
  have bs0 : ∀ s b, 0 ≤ s → s < 29 → ¬ kk_bs h s b := fun s b s0 s1 q => by
    obtain ⟨n, p, n0, p0, q1, q2⟩ := q
    rcases m41 s n s0 s1 n0.1 n0.2 with w | w <;> omega
  have KT : kk_KT h := by
    refine ⟨fun t n t0 t1 n0 n1 => NR t n t0 (by omega) n0 n1, fun t n ht n0 n1 => ?_, fun t ht => ?_, fun t ht => ?_, fun s n s0 s1 n0 n1 => ?_, ?_, ?_, R, ⟨fun e _ _ => a16 e, fun j _ _ => by rw [a16]; omega⟩, a22, fun t p ht p0 p1 => P0 t 0 p ht (by omega) (by omega) p0 p1⟩
    · have y0 := t02 t n ht n0 n1
      have y1 := z1 t n ht n0 n1
      have y2 := z2 t n ht n0 n1
      have y3 := t3 t n ht n0 n1
      have y6 := z6 t n ht n0 n1
      have y11 := z11 t n ht n0 n1
      refine ⟨by omega, by omega, fun _ => y6, by omega, fun _ => y11, Or.inl (z14 t n ht n0 n1), by rw [z9 t n ht n0 n1, nz t n ht n0 n1], fun _ p p0 p1 => P0 t n p ht (by omega) n1 p0 p1, by omega, by omega, ⟨fun q => by omega, fun _ => y1, fun q => by omega⟩, fun i j i0 ij jc => by omega, fun i j i0 ij jc => by omega, fun e e0 e1 => by omega, fun e e0 e1 => by omega, fun q => by omega, fun q => by omega⟩
    · refine ⟨fun n n0 n1 _ => by rw [z5 t n ht n0 n1, ec0 t n ht], fun n n0 n1 q => ?_, fun n n0 n1 _ => by rw [ec0 t n ht]; omega, ec0 t 1 ht, fun n n0 n1 _ => z4 t n ht n0 n1, fun n d e n0 n1 q => ?_, fun n n0 n1 q => ?_, fun _ => 0, fun n n0 n1 q => ?_⟩
      · have r := tr t n ht (by omega) n1 (by omega)
        have := r.2
        omega
      · have r := tr t n ht (by omega) n1 (by omega)
        have := r.2
        omega
      · exact tr2 t (tr t n ht n0 n1 q).1
      · have r := tr t n ht (by omega) n1 (by omega)
        have := r.2
        omega
    · intro n n0 n1
      have r : ¬ kk_rho t n := fun q => by have := q.1; omega
      have hT : mm_isT t := by unfold mm_isT; omega
      refine ⟨fun q => ?_, fun _ => (N t n 0 hT n0 n1 (by unfold kk_F; omega)).2 r⟩
      have := q.1
      rw [(M 41 t n f41 (by omega) (by omega) n0 n1).2 r] at this
      omega
    · have y := m41 s n s0 s1 n0 n1
      have y44 := mz 44 s n f44 (by decide) (by decide) s0 s1 n0 n1
      have y49 := mz 49 s n f49 (by decide) (by decide) s0 s1 n0 n1
      have y53 := mz 53 s n f53 (by decide) (by decide) s0 s1 n0 n1
      refine ⟨⟨Or.inl y53, by omega, by omega⟩, by omega, fun _ => y44, fun p p0 p1 => ?_⟩
      have y := P43 s n p s0 s1 n0 n1 p0 p1
      exact ⟨by omega, fun _ => y⟩
    · intro t n p t2 n2 p2 ht hn hp _ _ _ q
      exact absurd (P0 t n p ht (by omega) hn.2 hp.1 hp.2) q
    · intro t n p n2 p2 ht hn hp _ _ q
      exact absurd (P0 t n p ht (by omega) hn.2 hp.1 hp.2) q
  have cz : ∀ (P : Int → Prop), (∀ b, ¬ P b) → kk_cnt P = 0 := fun P q => kk_cnt0 (fun b _ _ => q b)
  have KB : kk_KB h := by
    refine ⟨fun b _ _ q => ?_, by rw [b40z 18 (by omega)]; omega, ?_, ?_, ?_, ?_, fun i i0 i1 => ⟨fun _ => ?_, fun _ => ?_⟩⟩
    · obtain ⟨s, s0, q⟩ := q
      exact absurd q (bs0 s b s0.1 s0.2)
    · rw [cz _ (fun b q => by obtain ⟨k, k0, _, _, q⟩ := q; exact bs0 k b k0.1 (by omega) q)]; omega
    · rw [cz _ (fun b q => by obtain ⟨k, k0, q⟩ := q; exact bs0 k b (by omega) (by omega) q)]; omega
    · rw [cz _ (fun b q => q.elim (bs0 26 b (by omega) (by omega)) (bs0 27 b (by omega) (by omega)))]; omega
    · rw [cz _ (fun b => bs0 28 b (by omega) (by omega))]; omega
    · rw [cz _ (fun b => bs0 i b (by omega) (by omega))]
      by_cases w : i = 0 ∨ i = 13
      · rw [((B5 i (by omega) (by omega)).1 w).2]; omega
      · rw [((B5 i (by omega) (by omega)).2.1 w).2]; omega
    · rw [cz _ (fun b => bs0 (13 + i) b (by omega) (by omega))]
      by_cases w : 13 + i = 0 ∨ 13 + i = 13
      · rw [((B5 (13 + i) (by omega) (by omega)).1 w).2]; omega
      · rw [((B5 (13 + i) (by omega) (by omega)).2.1 w).2]; omega
  have KD : kk_KD 0 h (fun _ => -1) := by
    refine ⟨by omega, ⟨by rw [a1, b24], by omega, by omega⟩, ⟨by rw [a1z 11 (by omega), b40z 25 (by omega)], by rw [a1z 11 (by omega)]; omega, by rw [a1z 11 (by omega)]; omega⟩, fun s s0 s1 => ?_, fun s s0 s1 => ?_, fun s s0 s1 => ?_, fun i i0 i1 q => ?_, fun i i0 i1 => Or.inl (a31z i 6 (by omega)), fun j j0 j1 => ⟨fun q => ?_, fun _ => a33 j 2⟩, fun k k0 k1 => Or.inl ((B5 k k0 k1).2.2.2), fun s s0 s1 q n n0 n1 => ?_, fun s s0 s1 q => ?_, fun i n i0 i1 _ n0 n1 => ?_, fun i i0 i1 => ⟨fun q => absurd q nD, fun _ => ⟨(B6 _).2.1, fun a _ _ => (B6 _).2.2⟩⟩, fun a _ _ => by rw [(B6 a).2.2]; omega, fun i n i0 i1 n0 n1 q => ?_⟩
    · by_cases w : s = 0
      · subst w; rw [no0]; exact ((B5 0 (by omega) (by omega)).1 (Or.inl rfl)).1
      · rw [noz s w]; exact ((B5 s s0 (by omega)).2.1 (by omega)).1
    · rw [a1]; exact no01 s
    · rw [a1z 11 (by omega), noz s (by omega)]; omega
    · have e := no1 i q
      subst e
      have y := (B5 0 (by omega) (by omega)).1 (Or.inl rfl)
      have y58 := (B5 0 (by omega) (by omega)).2.2.1
      refine ⟨⟨by rw [a4, y58], by rw [y58]; omega, by rw [y58]; omega⟩, ⟨by rw [a5, y.2], by rw [y.2]; omega, by rw [y.2]; omega⟩, fun u u0 u1 => ?_⟩
      rw [a32 u u0 u1, (B61 0 u (by omega) (by omega) u0 u1).1 (Or.inl rfl)]
      omega
    · rw [noz (5 + j) (by omega)] at q
      omega
    · have hT : mm_isT s := Or.inl ⟨s0, by omega⟩
      refine (N s n 0 hT n0 n1 (by unfold kk_F; omega)).2 (fun r => ?_)
      have e : s = 0 := by have := r.1; omega
      rw [e, no0] at q
      omega
    · rw [no1 s q]; exact tr2 0 (Or.inl rfl)
    · by_cases w : i = 0
      · subst w; exact CP n n0 n1
      · have hT : mm_isT i := Or.inl ⟨i0, by omega⟩
        have hT2 : mm_isT (13 + i) := Or.inl ⟨by omega, by omega⟩
        have r1 : ¬ kk_rho i n := fun q => by have := q.1; omega
        have r2 : ¬ kk_rho (13 + i) n := fun q => by have := q.1; omega
        have y0 := (N i n 0 hT n0 n1 (by unfold kk_F; omega)).2 r1
        have y11 := z11 i n hT n0 n1
        refine ⟨⟨fun f hf => ?_, fun q => by omega, fun q => by omega, fun e e0 e1 => by omega⟩, ?_, fun p p0 p1 => ?_⟩
        · rw [(N i n f hT n0 n1 (Or.inl hf)).2 r1, (N (13 + i) n f hT2 n0 n1 (Or.inl hf)).2 r2]
        · rw [z9 i n hT n0 n1, z9 (13 + i) n hT2 n0 n1]
        · rw [P0 i n p hT (by omega) n1 p0 p1, P0 (13 + i) n p hT2 (by omega) n1 p0 p1]
    · have hT : mm_isT i := Or.inl ⟨i0, by omega⟩
      rcases t02 i n hT n0 n1 with w | w <;> omega
  have KG : kk_KG h := by
    refine ⟨⟨?_, ?_, ?_⟩, ⟨?_, ?_, ?_⟩, fun i i0 i1 => ?_, ⟨?_, ?_⟩, ⟨?_, ?_, ?_⟩, ⟨?_, ?_, ?_⟩, ⟨?_, ?_⟩, fun _ n n0 n1 => ?_, fun q => ?_⟩
    · rw [a1z 12 (by omega), b40z 29 (by omega)]
    · rw [a1z 12 (by omega)]; omega
    · rw [a1z 12 (by omega)]; omega
    · rw [a05, b40z 30 (by omega)]
    · rw [a05]; omega
    · rw [a05]; omega
    · rw [a05] at i1; omega
    · rw [a1z 9 (by omega), b40z 34 (by omega)]
    · exact Or.inl (a1z 9 (by omega))
    · rw [a14, b1]
    · rw [a14]; omega
    · rw [a14]; omega
    · rw [a14z 1 (by omega), b40z 35 (by omega)]
    · rw [a14z 1 (by omega)]; omega
    · rw [a14z 1 (by omega)]; omega
    · rw [a14z 2 (by omega), b40z 36 (by omega)]
    · exact Or.inl (a14z 2 (by omega))
    · refine ⟨(N 26 n 0 mm_t26 n0 n1 (by unfold kk_F; omega)).2 (fun r => ?_), (N 27 n 0 mm_t27 n0 n1 (by unfold kk_F; omega)).2 (fun r => ?_)⟩
      · have := r.1; omega
      · have := r.1; omega
    · rw [a1z 9 (by omega)] at q; omega
  have KP : kk_KP h := by
    refine ⟨fun t n t0 t1 n0 n1 => NR t n (by omega) t1 n0 n1, ⟨?_, ?_, ?_⟩, fun k f k0 k1 hf => ?_, fun k u k0 k1 u0 u1 => ?_, fun s s0 s1 q n n0 n1 => ?_, fun s s0 s1 q => ?_, fun j n j0 j1 n0 n1 => ?_⟩
    · rw [a1z 13 (by omega), b40z 33 (by omega)]
    · rw [a1z 13 (by omega)]; omega
    · rw [a1z 13 (by omega)]; omega
    · have x := B5 k k0 (by omega)
      have y := B5 (13 + k) (by omega) (by omega)
      by_cases w : k = 0
      · subst w
        rcases hf with e | e | e | e <;> subst e
        · exact (y.1 (Or.inr rfl)).1.trans (x.1 (Or.inl rfl)).1.symm
        · exact y.2.2.1.trans x.2.2.1.symm
        · exact (y.1 (Or.inr rfl)).2.trans (x.1 (Or.inl rfl)).2.symm
        · exact y.2.2.2.trans x.2.2.2.symm
      · rcases hf with e | e | e | e <;> subst e
        · exact (y.2.1 (by omega)).1.trans (x.2.1 (by omega)).1.symm
        · exact y.2.2.1.trans x.2.2.1.symm
        · exact (y.2.1 (by omega)).2.trans (x.2.1 (by omega)).2.symm
        · exact y.2.2.2.trans x.2.2.2.symm
    · by_cases w : k = 0
      · subst w
        rw [(B61 (13 + 0) u (by omega) (by omega) u0 u1).1 (Or.inr rfl), (B61 0 u (by omega) (by omega) u0 u1).1 (Or.inl rfl)]
      · rw [(B61 (13 + k) u (by omega) (by omega) u0 u1).2 (by omega), (B61 k u (by omega) (by omega) u0 u1).2 (by omega)]
    · have hT : mm_isT (13 + s) := Or.inl ⟨by omega, by omega⟩
      refine (N (13 + s) n 0 hT n0 n1 (by unfold kk_F; omega)).2 (fun r => ?_)
      have e : s = 0 := by have := r.1; omega
      rw [e, no0] at q
      omega
    · rw [no1 s q]; exact tr2 (13 + 0) (Or.inr rfl)
    · have r1 : ¬ kk_rho (18 + j) n := fun q => by have := q.1; omega
      have r2 : ¬ kk_rho (5 + j) n := fun q => by have := q.1; omega
      have y44 := mz 44 (5 + j) n f44 (by decide) (by decide) (by omega) (by omega) n0 n1
      have y49 := mz 49 (5 + j) n f49 (by decide) (by decide) (by omega) (by omega) n0 n1
      refine ⟨fun f hf => ?_, fun p p0 p1 => ?_, fun e e0 e1 => by omega, fun e e0 e1 => by omega, fun e e0 e1 => ?_⟩
      · rw [(M f (18 + j) n hf (by omega) (by omega) n0 n1).2 r1, (M f (5 + j) n hf (by omega) (by omega) n0 n1).2 r2]
      · rw [P43 (18 + j) n p (by omega) (by omega) n0 n1 p0 p1, P43 (5 + j) n p (by omega) (by omega) n0 n1 p0 p1]
      · rw [B52 (18 + j) n e (by omega) (by omega) n0 n1 e0 e1, B52 (5 + j) n e (by omega) (by omega) n0 n1 e0 e1]
  exact ⟨⟨KT, KB, KD, KG⟩, KP⟩
end

