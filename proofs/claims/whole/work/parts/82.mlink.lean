/-! the calls of both: makeLink -/
theorem kk_pdMg {a g g' : mm_Id → Int → Int} (hg : ∀ x j, 40 ≤ x.1 → g' x j = g x j) (c : kk_pdM a g) : kk_pdM a g' := by
  obtain ⟨c1, c2, c3, c4, c5⟩ := c
  have G : ∀ (f : Nat) t n j, 40 ≤ f → g' (f, t, n) j = g (f, t, n) j := fun f t n j hf => hg _ _ hf
  refine ⟨by rw [G 40 _ _ _ (by decide)]; exact c1, fun k f k0 k1 hf => ?_, fun k u k0 k1 u0 u1 => ?_, fun k n k0 k1 n0 n1 => ?_, fun x j h1 h2 h3 => ?_⟩
  · have hf2 := hf
    unfold kk_q4 at hf2
    rw [G f _ _ _ (by omega)]; exact c2 k f k0 k1 hf
  · rw [G 61 _ _ _ (by decide)]; exact c3 k u k0 k1 u0 u1
  · obtain ⟨m1, m2, m3, m4, m5⟩ := c4 k n k0 k1 n0 n1
    refine ⟨fun f hf => ?_, fun p p0 p1 => ?_, fun e e0 e1 => ?_, fun e e0 e1 => ?_, fun e e0 e1 => ?_⟩
    · have hf2 := hf
      unfold kk_mf at hf2
      rw [G f _ _ _ (by omega)]; exact m1 f hf
    · rw [G 43 _ _ _ (by decide)]; exact m2 p p0 p1
    · rw [G 45 _ _ _ (by decide), G 46 _ _ _ (by decide)]; exact m3 e e0 e1
    · rw [G 50 _ _ _ (by decide), G 51 _ _ _ (by decide)]; exact m4 e e0 e1
    · rw [G 52 _ _ _ (by decide)]; exact m5 e e0 e1
  · rw [hg x j h1]; exact c5 x j h1 h2 h3
theorem kk_acMm {a gm g2 : mm_Id → Int → Int} (hM : ∀ k n, 0 ≤ k → k < 13 → 1 ≤ n → n < 37 → kk_mw gm (36 * k + n - 1)) (m : kk_acM gm g2) : kk_acM (kk_mix a gm) (kk_mix a g2) := by
  have e : kk_mix a gm (40, 0, 0) 33 = gm (40, 0, 0) 33 := kk_mixM (by decide)
  rcases m with ⟨m1, m2⟩ | ⟨m1, m2⟩
  · refine Or.inl ⟨by rw [e]; exact m1, ?_⟩
    rw [e, m2]
    funext x j
    by_cases q : x.1 < 40
    · rw [kk_mixC q, kk_clU q (by simp), kk_mixC q]
    · rw [kk_mixM (by omega)]
      unfold mm_up
      split
      · rfl
      · rw [kk_mixM (by omega)]
  · refine Or.inr ⟨by rw [e]; exact m1, ?_⟩
    rw [e]
    refine kk_pdMg (fun x j q => kk_mixM q) (kk_pdMc (fun k n k0 k1 n0 n1 => ?_) (fun x j q => ?_) m2)
    · have w := hM k n k0 k1 n0 n1
      unfold kk_mw at w ⊢
      rw [mm_upf (by decide), mm_upf (by decide), mm_upf (by decide)]
      exact w
    · unfold mm_up
      split
      · rfl
      · rw [kk_mixM q]

theorem c_3 {b : Int} {h : mm_Id → Int → Int} {dh : Int → Int} {nx ns : Int} (hy : 5306 ≤ nx) (hc : kk_core b h dh) (hb : b + 1 ≤ 1000000) {t n k l : Int} (ht : -2147483648 ≤ t ∧ t < 2147483648) (hn : -2147483648 ≤ n ∧ n < 2147483648) (hk : -2147483648 ≤ k ∧ k < 2147483648) (hl : l = 0 ∨ l = 1) : kk_call 3 215 [zI t, zI n, zI k, zI l] b h dh nx ns kk_SI := by
  unfold kk_call
  have hx : 5275 ≤ nx := by omega
  have hc0 : kk_core b (mm_up h (40, 0, 0) 0 0) dh := kk_core0 hc
  have fin : ∀ v, kk_SI (zI v) → mm_Cl 215 [zR (40, 0, 0), zI t, zI n, zI k, zI l] (mm_z h dh nx ns) (fun (r2 : mm_V) (h2 : mm_H) => r2 = zI v ∧ ∃ g2, h2 = mm_z g2 dh nx ns ∧ kk_core (b + 1) g2 dh ∧ ∀ x j, kk_scr x j → g2 x j = h x j) →
      (fun (r : mm_V) (h1 : mm_H) => kk_SI r ∧ ∃ g dh1, h1 = mm_z g dh1 nx ns ∧ mm_Cl 215 [zR (40, 0, 0), zI t, zI n, zI k, zI l] (mm_z g dh1 nx ns) (fun r2 h2 => r2 = r ∧ ∃ g2, h2 = mm_z g2 dh1 nx ns ∧ kk_core (b + 1) g2 dh1 ∧ ∀ x j, kk_scr x j → g2 x j = h x j)) (zI v) (mm_z h dh nx ns) :=
    fun v h1 h2 => ⟨h1, h, dh, rfl, h2⟩
  have mfin : ∀ v w : Int, w = v → (fun (r2 : mm_V) (h2 : mm_H) => r2 = zI v ∧ ∃ g2, h2 = mm_z g2 dh nx ns ∧ kk_core (b + 1) g2 dh ∧ ∀ x j, kk_scr x j → g2 x j = h x j) (zI w) (mm_z (mm_up h (40, 0, 0) 0 0) dh nx ns) :=
    fun v w e => ⟨by rw [e], _, rfl, kk_coreS hb hc0, fun x j hs => kk_scr0 hs⟩
  rw [r_3_e (hx := hx)]
  refine s55 hx (kk_nmC hc) ht.1 ht.2 (fun s hs => ?_) (fun hs => ?_)
  · have hsT := mm_T13 hs.1
    have hs13 := hs.1
    rw [mm_pR, r_3_0_4a (hty0 := hsT) (hx := hx)]
    refine s56 hsT hx (fun h1n h2n => ?_) (fun hn0 => ?_)
    · have hnN : mm_isN n := ⟨by omega, h1n.2⟩
      have NWn := kk_NWC hc hsT h1n
      have h3n : 0 < h (24, s, n) 0 := by
        have := NWn.1.1
        omega
      rw [mm_pR, r_3_0_6a (hty0 := hsT) (hny0 := hnN) (hx := hx)]
      have NRn := kk_NRC hc (t := s) (n := n) (by omega) h1n
      have kpos : ∀ j, 1 ≤ j → j < 37 → h (24, s, j) 0 ≠ 0 → 0 < h (24, s, j) 0 := fun j j0 j1 q => by
        have := (kk_NWC hc hsT ⟨j0, j1⟩).1.1
        omega
      have ph := kk_pth hc
      have mfinP : ∀ v w : Int, w = v → (fun (r2 : mm_V) (h2 : mm_H) => r2 = zI v ∧ ∃ g2, h2 = mm_z g2 dh nx ns ∧ kk_core (b + 1) g2 dh ∧ ∀ x j, kk_scr x j → g2 x j = h x j) (zI w) (mm_z (mm_up (mm_up (mm_up h (5, 0, 0) 2 0) (40, 0, 0) 0 0) (40, 0, 0) 30 0) dh nx ns) := fun v w e => by
        have z5 : mm_up (mm_up (mm_up h (5, 0, 0) 2 0) (40, 0, 0) 0 0) (40, 0, 0) 30 0 (5, 0, 0) 2 = 0 := by rw [mm_upf (by decide), mm_upf (by decide), mm_ups]
        refine ⟨by rw [e], _, rfl, kk_upP hb hc (fun x j v5 _ _ v40 => ?_) ?_ (fun i i0 i1 => ?_)⟩
        · rw [mm_upne' (fun q => v40 ⟨q.1, Or.inr q.2⟩), mm_upne' (fun q => v40 ⟨q.1, Or.inl q.2⟩), mm_upne' (fun q => v5 (by rw [q.1]))]
        · rw [z5, mm_ups]; exact ⟨rfl, by decide, by decide⟩
        · rw [z5] at i1; omega
      have bad : ¬ ((1 ≤ k ∧ k ≤ 1000000) ∧ h (5, 0, 0) 2 ≠ 0) → mm_Wp 3 (mm_blk 3 2) [zR (1, 0, 0), zI t, zI n, zI k, zI l, zR (24, s, n), zU, zU, zU] [] (mm_z h dh nx ns) (fun (r : mm_V) (h1 : mm_H) => kk_SI r ∧ ∃ g dh1, h1 = mm_z g dh1 nx ns ∧ mm_Cl 215 [zR (40, 0, 0), zI t, zI n, zI k, zI l] (mm_z g dh1 nx ns) (fun r2 h2 => r2 = r ∧ ∃ g2, h2 = mm_z g2 dh1 nx ns ∧ kk_core (b + 1) g2 dh1 ∧ ∀ x j, kk_scr x j → g2 x j = h x j)) := fun w => by
        rw [r_3_2 (hx := hx)]
        refine fin (-2) ⟨_, rfl, by omega, by omega⟩ ?_
        have ek : ∀ (x : mm_Id) (j : Int), 40 ≤ x.1 → h x j = h x j := fun _ _ _ => rfl
        have lk := kk_lkr h
        have f29 : mm_up h (40, 0, 0) 0 0 (40, 0, 0) 29 = h (1, 0, 0) 12 := (mm_upj (by decide)).trans ((ek _ _ (by simp)).trans (kk_cal hc).1.symm)
        have f41n : mm_up h (40, 0, 0) 0 0 (41, 0, 0) (36 * s + n - 1) = h (24, s, n) 0 := by rw [mm_upf (by decide)]; exact (ek _ _ (by simp)).trans (kk_nf hc (by omega) h1n).1
        have f44n : mm_up h (40, 0, 0) 0 0 (44, 0, 0) (36 * s + n - 1) = h (24, s, n) 6 := by rw [mm_upf (by decide)]; exact (ek _ _ (by simp)).trans (kk_nf hc (by omega) h1n).2.1
        have f49n : mm_up h (40, 0, 0) 0 0 (49, 0, 0) (36 * s + n - 1) = h (24, s, n) 11 := by rw [mm_upf (by decide)]; exact (ek _ _ (by simp)).trans (kk_nf hc (by omega) h1n).2.2.1
        have f42n : mm_up h (40, 0, 0) 0 0 (42, 0, 0) (36 * s + n - 1) = h (24, s, n) 1 := by rw [mm_upf (by decide)]; exact (ek _ _ (by simp)).trans ((kk_nf hc (by omega) h1n).2.2.2 h2n).1
        have f47n : mm_up h (40, 0, 0) 0 0 (47, 0, 0) (36 * s + n - 1) = h (24, s, n) 2 := by rw [mm_upf (by decide)]; exact (ek _ _ (by simp)).trans ((kk_nf hc (by omega) h1n).2.2.2 h2n).2.1
        have f48n : mm_up h (40, 0, 0) 0 0 (48, 0, 0) (36 * s + n - 1) = h (24, s, n) 3 := by rw [mm_upf (by decide)]; exact (ek _ _ (by simp)).trans ((kk_nf hc (by omega) h1n).2.2.2 h2n).2.2
        rw [r_215_e (hy := hy)]
        refine m181y hy hc (kk_lku (by decide) lk) ht hs ?_
        rw [mm_pI, r_215_0_6 (hy := hy)]
        refine m210y hy (by omega) h1n (by rw [f41n]; exact h3n) ?_
        rw [mm_pI, r_215_0_11 (hy := hy), if_neg (by decide)]
        by_cases w1 : 1 ≤ k ∧ k ≤ 1000000
        · refine m174y hy w1 ?_
          have z5 : mm_up h (40, 0, 0) 0 0 (40, 0, 0) 30 = 0 := by
            rw [mm_upj (by decide), ← ph.1.1]
            by_cases q : h (5, 0, 0) 2 = 0
            · exact q
            · exact absurd ⟨w1, q⟩ w
          rw [mm_pI, r_215_1_5 (hy := hy), if_neg (by decide), if_pos z5, r_215_2 (hy := hy)]
          exact mfin _ _ rfl
        · refine m174n hy w1 ?_
          rw [mm_pI, r_215_1_5 (hy := hy), if_pos rfl, r_215_2 (hy := hy)]
          exact mfin _ _ rfl
      refine s58 hx (fun w1 => ?_) (fun w1 => ?_)
      · rw [mm_pI, r_3_1_3 (hx := hx), if_neg (by decide)]
        by_cases h5 : h (5, 0, 0) 2 = 0
        · rw [if_pos h5]
          exact bad (fun q => q.2 h5)
        · rw [if_neg h5]
          refine s53t hx (kk_nmC hc) (fun s5 s50 s51 hs5 => ?_) (fun hs5 => ?_)
          · have e5 := (kk_tp1 hs5 hs).symm
            subst e5
            have hD : mm_isD s := ⟨s50, s51⟩
            have hno := kk_tpp hs
            rw [mm_pR, r_3_3_3a (hvx5 := rfl) (hty0 := hD) (hx := hx)]
            refine s67 hx hD h1n h2n NWn (fun kd => ?_) (fun kd w => ?_) (fun kd w p p0 p1 p2 => ?_) (fun kd w ab w4 => ?_) ?_
            · rw [mm_pI, r_3_4_6 (htx6 := hD) (hx := hx), r_3_5a (htx6 := hD) (hx := hx)]
              refine s157 hsT hx (fun w1 => by omega) (fun _ => ?_)
              rw [mm_pR, r_3_6_4 (htx6 := hD) (hx := hx), r_3_7a (htx6 := hD) (hx := hx)]
              rw [r_3_8 (hx := hx), r_119_e (hx := hx), mm_pU, r_3_8_3 (hx := hx)]
              refine ⟨⟨_, rfl, by omega, by omega⟩, _, dh, rfl, ?_⟩
              have ek : ∀ (x : mm_Id) (j : Int), 40 ≤ x.1 → mm_up h (5, 0, 0) 2 0 x j = h x j := fun x j q => kk_moU q (by simp)
              have lk : kk_lk h (mm_up h (5, 0, 0) 2 0) := kk_lku (by decide) (kk_lkr h)
              have f29 : mm_up (mm_up h (5, 0, 0) 2 0) (40, 0, 0) 0 0 (40, 0, 0) 29 = h (1, 0, 0) 12 := (mm_upj (by decide)).trans ((ek _ _ (by simp)).trans (kk_cal hc).1.symm)
              have f41n : mm_up (mm_up h (5, 0, 0) 2 0) (40, 0, 0) 0 0 (41, 0, 0) (36 * s + n - 1) = h (24, s, n) 0 := by rw [mm_upf (by decide)]; exact (ek _ _ (by simp)).trans (kk_nf hc (by omega) h1n).1
              have f44n : mm_up (mm_up h (5, 0, 0) 2 0) (40, 0, 0) 0 0 (44, 0, 0) (36 * s + n - 1) = h (24, s, n) 6 := by rw [mm_upf (by decide)]; exact (ek _ _ (by simp)).trans (kk_nf hc (by omega) h1n).2.1
              have f49n : mm_up (mm_up h (5, 0, 0) 2 0) (40, 0, 0) 0 0 (49, 0, 0) (36 * s + n - 1) = h (24, s, n) 11 := by rw [mm_upf (by decide)]; exact (ek _ _ (by simp)).trans (kk_nf hc (by omega) h1n).2.2.1
              have f42n : mm_up (mm_up h (5, 0, 0) 2 0) (40, 0, 0) 0 0 (42, 0, 0) (36 * s + n - 1) = h (24, s, n) 1 := by rw [mm_upf (by decide)]; exact (ek _ _ (by simp)).trans ((kk_nf hc (by omega) h1n).2.2.2 h2n).1
              have f47n : mm_up (mm_up h (5, 0, 0) 2 0) (40, 0, 0) 0 0 (47, 0, 0) (36 * s + n - 1) = h (24, s, n) 2 := by rw [mm_upf (by decide)]; exact (ek _ _ (by simp)).trans ((kk_nf hc (by omega) h1n).2.2.2 h2n).2.1
              have f48n : mm_up (mm_up h (5, 0, 0) 2 0) (40, 0, 0) 0 0 (48, 0, 0) (36 * s + n - 1) = h (24, s, n) 3 := by rw [mm_upf (by decide)]; exact (ek _ _ (by simp)).trans ((kk_nf hc (by omega) h1n).2.2.2 h2n).2.2
              rw [r_215_e (hy := hy)]
              refine m181y hy hc (kk_lku (by decide) lk) ht hs ?_
              rw [mm_pI, r_215_0_6 (hy := hy)]
              refine m210y hy (by omega) h1n (by rw [f41n]; exact h3n) ?_
              rw [mm_pI, r_215_0_11 (hy := hy), if_neg (by decide)]
              refine m174y hy (by omega) ?_
              rw [mm_pI, r_215_1_5 (hy := hy), if_neg (by decide), (mm_upj (by decide) : mm_up (mm_up h (5, 0, 0) 2 0) (40, 0, 0) 0 0 (40, 0, 0) 30 = _), ek _ _ (by simp), ← ph.1.1, if_neg h5]
              rw [r_213_e (hy := hy), if_pos s51]
              refine m211n hy (by omega) h1n f41n kd ?_
              rw [mm_pI, r_213_0_7 (hy := hy), if_pos rfl, r_213_1 (hy := hy)]
              rw [mm_pI, r_215_3_7 (hvx5 := rfl) (hy := hy)]
              exact mfinP _ _ rfl
            · rw [mm_pI, r_3_4_6 (htx6 := hD) (hx := hx), r_3_5a (htx6 := hD) (hx := hx)]
              refine s157 hsT hx (fun w1 => by omega) (fun _ => ?_)
              rw [mm_pR, r_3_6_4 (htx6 := hD) (hx := hx), r_3_7a (htx6 := hD) (hx := hx)]
              rw [r_3_8 (hx := hx), r_119_e (hx := hx), mm_pU, r_3_8_3 (hx := hx)]
              refine ⟨⟨_, rfl, by omega, by omega⟩, _, dh, rfl, ?_⟩
              have ek : ∀ (x : mm_Id) (j : Int), 40 ≤ x.1 → mm_up h (5, 0, 0) 2 0 x j = h x j := fun x j q => kk_moU q (by simp)
              have lk : kk_lk h (mm_up h (5, 0, 0) 2 0) := kk_lku (by decide) (kk_lkr h)
              have f29 : mm_up (mm_up h (5, 0, 0) 2 0) (40, 0, 0) 0 0 (40, 0, 0) 29 = h (1, 0, 0) 12 := (mm_upj (by decide)).trans ((ek _ _ (by simp)).trans (kk_cal hc).1.symm)
              have f41n : mm_up (mm_up h (5, 0, 0) 2 0) (40, 0, 0) 0 0 (41, 0, 0) (36 * s + n - 1) = h (24, s, n) 0 := by rw [mm_upf (by decide)]; exact (ek _ _ (by simp)).trans (kk_nf hc (by omega) h1n).1
              have f44n : mm_up (mm_up h (5, 0, 0) 2 0) (40, 0, 0) 0 0 (44, 0, 0) (36 * s + n - 1) = h (24, s, n) 6 := by rw [mm_upf (by decide)]; exact (ek _ _ (by simp)).trans (kk_nf hc (by omega) h1n).2.1
              have f49n : mm_up (mm_up h (5, 0, 0) 2 0) (40, 0, 0) 0 0 (49, 0, 0) (36 * s + n - 1) = h (24, s, n) 11 := by rw [mm_upf (by decide)]; exact (ek _ _ (by simp)).trans (kk_nf hc (by omega) h1n).2.2.1
              have f42n : mm_up (mm_up h (5, 0, 0) 2 0) (40, 0, 0) 0 0 (42, 0, 0) (36 * s + n - 1) = h (24, s, n) 1 := by rw [mm_upf (by decide)]; exact (ek _ _ (by simp)).trans ((kk_nf hc (by omega) h1n).2.2.2 h2n).1
              have f47n : mm_up (mm_up h (5, 0, 0) 2 0) (40, 0, 0) 0 0 (47, 0, 0) (36 * s + n - 1) = h (24, s, n) 2 := by rw [mm_upf (by decide)]; exact (ek _ _ (by simp)).trans ((kk_nf hc (by omega) h1n).2.2.2 h2n).2.1
              have f48n : mm_up (mm_up h (5, 0, 0) 2 0) (40, 0, 0) 0 0 (48, 0, 0) (36 * s + n - 1) = h (24, s, n) 3 := by rw [mm_upf (by decide)]; exact (ek _ _ (by simp)).trans ((kk_nf hc (by omega) h1n).2.2.2 h2n).2.2
              rw [r_215_e (hy := hy)]
              refine m181y hy hc (kk_lku (by decide) lk) ht hs ?_
              rw [mm_pI, r_215_0_6 (hy := hy)]
              refine m210y hy (by omega) h1n (by rw [f41n]; exact h3n) ?_
              rw [mm_pI, r_215_0_11 (hy := hy), if_neg (by decide)]
              refine m174y hy (by omega) ?_
              rw [mm_pI, r_215_1_5 (hy := hy), if_neg (by decide), (mm_upj (by decide) : mm_up (mm_up h (5, 0, 0) 2 0) (40, 0, 0) 0 0 (40, 0, 0) 30 = _), ek _ _ (by simp), ← ph.1.1, if_neg h5]
              rw [r_213_e (hy := hy), if_pos s51]
              refine m211y hy (by omega) h1n f41n kd ?_
              rw [mm_pI, r_213_0_7 (hy := hy), if_neg (by decide)]
              refine m204n hy (by omega) h1n f29 f47n f48n w ?_
              rw [mm_pI, r_213_2_4 (hy := hy), if_pos rfl]
              rw [mm_pI, r_215_3_7 (hvx5 := rfl) (hy := hy)]
              exact mfinP _ _ rfl
            · rw [mm_pI, r_3_4_6 (htx6 := hD) (hx := hx), r_3_5a (htx6 := hD) (hx := hx)]
              refine s157 hsT hx (fun w1 => by omega) (fun _ => ?_)
              rw [mm_pR, r_3_6_4 (htx6 := hD) (hx := hx), r_3_7a (htx6 := hD) (hx := hx)]
              rw [r_3_8 (hx := hx), r_119_e (hx := hx), mm_pU, r_3_8_3 (hx := hx)]
              refine ⟨⟨_, rfl, by omega, by omega⟩, _, dh, rfl, ?_⟩
              have ek : ∀ (x : mm_Id) (j : Int), 40 ≤ x.1 → mm_up h (5, 0, 0) 2 0 x j = h x j := fun x j q => kk_moU q (by simp)
              have lk : kk_lk h (mm_up h (5, 0, 0) 2 0) := kk_lku (by decide) (kk_lkr h)
              have f29 : mm_up (mm_up h (5, 0, 0) 2 0) (40, 0, 0) 0 0 (40, 0, 0) 29 = h (1, 0, 0) 12 := (mm_upj (by decide)).trans ((ek _ _ (by simp)).trans (kk_cal hc).1.symm)
              have f41n : mm_up (mm_up h (5, 0, 0) 2 0) (40, 0, 0) 0 0 (41, 0, 0) (36 * s + n - 1) = h (24, s, n) 0 := by rw [mm_upf (by decide)]; exact (ek _ _ (by simp)).trans (kk_nf hc (by omega) h1n).1
              have f44n : mm_up (mm_up h (5, 0, 0) 2 0) (40, 0, 0) 0 0 (44, 0, 0) (36 * s + n - 1) = h (24, s, n) 6 := by rw [mm_upf (by decide)]; exact (ek _ _ (by simp)).trans (kk_nf hc (by omega) h1n).2.1
              have f49n : mm_up (mm_up h (5, 0, 0) 2 0) (40, 0, 0) 0 0 (49, 0, 0) (36 * s + n - 1) = h (24, s, n) 11 := by rw [mm_upf (by decide)]; exact (ek _ _ (by simp)).trans (kk_nf hc (by omega) h1n).2.2.1
              have f42n : mm_up (mm_up h (5, 0, 0) 2 0) (40, 0, 0) 0 0 (42, 0, 0) (36 * s + n - 1) = h (24, s, n) 1 := by rw [mm_upf (by decide)]; exact (ek _ _ (by simp)).trans ((kk_nf hc (by omega) h1n).2.2.2 h2n).1
              have f47n : mm_up (mm_up h (5, 0, 0) 2 0) (40, 0, 0) 0 0 (47, 0, 0) (36 * s + n - 1) = h (24, s, n) 2 := by rw [mm_upf (by decide)]; exact (ek _ _ (by simp)).trans ((kk_nf hc (by omega) h1n).2.2.2 h2n).2.1
              have f48n : mm_up (mm_up h (5, 0, 0) 2 0) (40, 0, 0) 0 0 (48, 0, 0) (36 * s + n - 1) = h (24, s, n) 3 := by rw [mm_upf (by decide)]; exact (ek _ _ (by simp)).trans ((kk_nf hc (by omega) h1n).2.2.2 h2n).2.2
              rw [r_215_e (hy := hy)]
              refine m181y hy hc (kk_lku (by decide) lk) ht hs ?_
              rw [mm_pI, r_215_0_6 (hy := hy)]
              refine m210y hy (by omega) h1n (by rw [f41n]; exact h3n) ?_
              rw [mm_pI, r_215_0_11 (hy := hy), if_neg (by decide)]
              refine m174y hy (by omega) ?_
              rw [mm_pI, r_215_1_5 (hy := hy), if_neg (by decide), (mm_upj (by decide) : mm_up (mm_up h (5, 0, 0) 2 0) (40, 0, 0) 0 0 (40, 0, 0) 30 = _), ek _ _ (by simp), ← ph.1.1, if_neg h5]
              rw [r_213_e (hy := hy), if_pos s51]
              refine m211y hy (by omega) h1n f41n kd ?_
              rw [mm_pI, r_213_0_7 (hy := hy), if_neg (by decide)]
              refine m204y hy (by omega) h1n f29 f47n f48n w ?_
              rw [mm_pI, r_213_2_4 (hy := hy), if_neg (by decide)]
              have nm : ∀ i, 0 ≤ i → i < h (24, s, n) 6 → mm_up (mm_up h (5, 0, 0) 2 0) (40, 0, 0) 0 0 (45, 0, 0) (24 * (36 * s + n - 1) + i) = h (25, s, n) i := fun i i0 i1 => (mm_upf (by decide)).trans ((ek _ _ (by simp)).trans (NRn.2.2.2.2.1 i i0 i1).1.symm)
              refine m184y hy (by omega) h1n f44n NWn.2.1 ⟨p, ⟨p0, p1⟩, by rw [nm p p0 p1]; exact p2⟩ (fun e e0 e1 e2 => ?_) (p := p)
              rw [mm_pI, r_213_3_5 (hy := hy), if_neg (by omega)]
              rw [mm_pI, r_215_3_7 (hvx5 := rfl) (hy := hy)]
              exact mfinP _ _ rfl
            · rw [mm_pI, r_3_4_6 (htx6 := hD) (hx := hx), r_3_5a (htx6 := hD) (hx := hx)]
              refine s157 hsT hx (fun w1 => by omega) (fun _ => ?_)
              rw [mm_pR, r_3_6_4 (htx6 := hD) (hx := hx), r_3_7a (htx6 := hD) (hx := hx)]
              rw [r_3_8 (hx := hx), r_119_e (hx := hx), mm_pU, r_3_8_3 (hx := hx)]
              refine ⟨⟨_, rfl, by omega, by omega⟩, _, dh, rfl, ?_⟩
              have ek : ∀ (x : mm_Id) (j : Int), 40 ≤ x.1 → mm_up h (5, 0, 0) 2 0 x j = h x j := fun x j q => kk_moU q (by simp)
              have lk : kk_lk h (mm_up h (5, 0, 0) 2 0) := kk_lku (by decide) (kk_lkr h)
              have f29 : mm_up (mm_up h (5, 0, 0) 2 0) (40, 0, 0) 0 0 (40, 0, 0) 29 = h (1, 0, 0) 12 := (mm_upj (by decide)).trans ((ek _ _ (by simp)).trans (kk_cal hc).1.symm)
              have f41n : mm_up (mm_up h (5, 0, 0) 2 0) (40, 0, 0) 0 0 (41, 0, 0) (36 * s + n - 1) = h (24, s, n) 0 := by rw [mm_upf (by decide)]; exact (ek _ _ (by simp)).trans (kk_nf hc (by omega) h1n).1
              have f44n : mm_up (mm_up h (5, 0, 0) 2 0) (40, 0, 0) 0 0 (44, 0, 0) (36 * s + n - 1) = h (24, s, n) 6 := by rw [mm_upf (by decide)]; exact (ek _ _ (by simp)).trans (kk_nf hc (by omega) h1n).2.1
              have f49n : mm_up (mm_up h (5, 0, 0) 2 0) (40, 0, 0) 0 0 (49, 0, 0) (36 * s + n - 1) = h (24, s, n) 11 := by rw [mm_upf (by decide)]; exact (ek _ _ (by simp)).trans (kk_nf hc (by omega) h1n).2.2.1
              have f42n : mm_up (mm_up h (5, 0, 0) 2 0) (40, 0, 0) 0 0 (42, 0, 0) (36 * s + n - 1) = h (24, s, n) 1 := by rw [mm_upf (by decide)]; exact (ek _ _ (by simp)).trans ((kk_nf hc (by omega) h1n).2.2.2 h2n).1
              have f47n : mm_up (mm_up h (5, 0, 0) 2 0) (40, 0, 0) 0 0 (47, 0, 0) (36 * s + n - 1) = h (24, s, n) 2 := by rw [mm_upf (by decide)]; exact (ek _ _ (by simp)).trans ((kk_nf hc (by omega) h1n).2.2.2 h2n).2.1
              have f48n : mm_up (mm_up h (5, 0, 0) 2 0) (40, 0, 0) 0 0 (48, 0, 0) (36 * s + n - 1) = h (24, s, n) 3 := by rw [mm_upf (by decide)]; exact (ek _ _ (by simp)).trans ((kk_nf hc (by omega) h1n).2.2.2 h2n).2.2
              rw [r_215_e (hy := hy)]
              refine m181y hy hc (kk_lku (by decide) lk) ht hs ?_
              rw [mm_pI, r_215_0_6 (hy := hy)]
              refine m210y hy (by omega) h1n (by rw [f41n]; exact h3n) ?_
              rw [mm_pI, r_215_0_11 (hy := hy), if_neg (by decide)]
              refine m174y hy (by omega) ?_
              rw [mm_pI, r_215_1_5 (hy := hy), if_neg (by decide), (mm_upj (by decide) : mm_up (mm_up h (5, 0, 0) 2 0) (40, 0, 0) 0 0 (40, 0, 0) 30 = _), ek _ _ (by simp), ← ph.1.1, if_neg h5]
              rw [r_213_e (hy := hy), if_pos s51]
              refine m211y hy (by omega) h1n f41n kd ?_
              rw [mm_pI, r_213_0_7 (hy := hy), if_neg (by decide)]
              refine m204y hy (by omega) h1n f29 f47n f48n w ?_
              rw [mm_pI, r_213_2_4 (hy := hy), if_neg (by decide)]
              have nm : ∀ i, 0 ≤ i → i < h (24, s, n) 6 → mm_up (mm_up h (5, 0, 0) 2 0) (40, 0, 0) 0 0 (45, 0, 0) (24 * (36 * s + n - 1) + i) = h (25, s, n) i := fun i i0 i1 => (mm_upf (by decide)).trans ((ek _ _ (by simp)).trans (NRn.2.2.2.2.1 i i0 i1).1.symm)
              have f41 : ∀ j, 1 ≤ j → j < 37 → mm_up (mm_up h (5, 0, 0) 2 0) (40, 0, 0) 0 0 (41, 0, 0) (36 * s + j - 1) = h (24, s, j) 0 := fun j j0 j1 => (mm_upf (by decide)).trans ((ek _ _ (by simp)).trans (kk_nf hc (by omega) ⟨j0, j1⟩).1)
              refine m184n hy (by omega) h1n f44n NWn.2.1 (fun e e0 e1 => by rw [nm e e0 e1]; exact ab e e0 e1) ?_
              rw [mm_pI, r_213_3_5 (hy := hy), if_pos (by decide)]
              by_cases al : ∀ j, 1 ≤ j → j < 37 → h (24, s, j) 0 ≠ 0
              · refine m213f hy ⟨s50, s51⟩ (m := 37) (by omega) (fun j j0 j1 => by rw [f41 j j0 j1]; exact kpos j j0 j1 (al j j0 j1)) (fun q => by omega) ?_
                rw [r_213_6 (hy := hy)]
                refine m175 hy (by omega) h1n ?_
                rw [mm_pI, r_213_6_5 (hy := hy), f44n]
                refine ⟨by omega, ?_⟩
                split
                · rw [r_213_7 (hy := hy)]
                  rw [mm_pI, r_215_3_7 (hvx5 := rfl) (hy := hy)]
                  exact mfinP _ _ rfl
                · rw [if_pos (by decide), r_213_7 (hy := hy)]
                  rw [mm_pI, r_215_3_7 (hvx5 := rfl) (hy := hy)]
                  exact mfinP _ _ rfl
              · obtain ⟨m, m0, m1, m2, m3⟩ := kk_first (P := fun j => h (24, s, j) 0 = 0) al
                have c24 : h (24, s, n) 6 = 24 := by
                  have := NWn.2.1
                  rcases w4 with q | q
                  · omega
                  · exact absurd m2 (q m m0 m1)
                refine m213f hy ⟨s50, s51⟩ (m := m) (by omega) (fun j j0 j1 => by rw [f41 j j0 (by omega)]; exact kpos j j0 (by omega) (m3 j j0 j1)) (fun q => by rw [f41 m m0 m1]; omega) ?_
                rw [r_213_6 (hy := hy)]
                refine m175 hy (by omega) h1n ?_
                rw [mm_pI, r_213_6_5 (hy := hy), f44n, if_pos c24, r_213_7 (hy := hy)]
                refine ⟨by omega, ?_⟩
                rw [mm_pI, r_215_3_7 (hvx5 := rfl) (hy := hy)]
                exact mfinP _ _ rfl
            · intro kd w ab c24 m m0 m1 m2 m3 p p0 p1 p2 p3 hcc0 c0 ce c6 fcc
              have dm : n ≠ m := fun q => by rw [q] at kd; omega
              have mN : mm_isN m := ⟨by omega, m1⟩
              rw [mm_pI, r_3_4_6 (htx6 := hD) (hx := hx), r_3_5a (htx6 := hD) (hx := hx)]
              refine s157 hsT hx (fun _ _ => ?_) (fun q => absurd ⟨⟨m0, m1⟩, by rw [c0.1]; decide⟩ q)
              rw [mm_pR, r_3_6_4a (htx6 := hD) (hty0 := hsT) (hny0 := mN) (hx := hx), r_3_7b (htx6 := hD) (hty0 := hsT) (hny0 := mN) (hx := hx)]
              refine s97 hsT mN hx hl (fun hcc l1 l14 l30 lf => ?_)
              rw [mm_pU, r_3_7_10 (htx6 := hD) (hx := hx)]
              have F9 : ¬ kk_F 9 := by simp [kk_F]
              have fc5 : ∀ y j, ¬ (y = (24, s, m) ∧ kk_F j) → y ≠ (25, s, n) → y ≠ (26, s, n) → ¬ (y = (24, s, n) ∧ j = 6) → y ≠ (30, s, m) → hcc y j = h y j := fun y j a1 a2 a3 a4 a5 => by
                rw [lf y j (by rintro ⟨q, q2⟩; exact a1 ⟨q, by rcases q2 with q2 | q2 <;> rw [q2] <;> simp [kk_F]⟩) (fun q => a5 q.1)]
                exact fcc y j a1 a2 a3 a4
              have cm : ∀ j, j ≠ 1 → j ≠ 14 → hcc (24, s, m) j = hcc0 (24, s, m) j := fun j j1 j14 => lf _ _ (by rintro ⟨_, q⟩; omega) (by simp)
              have ce2 : ∀ i, hcc (25, s, n) i = kk_ins (h (25, s, n)) p (h (24, s, n) 6) k i ∧ hcc (26, s, n) i = kk_ins (h (26, s, n)) p (h (24, s, n) 6) m i := fun i => by rw [lf _ _ (by simp) (by simp), lf _ _ (by simp) (by simp)]; exact ce i
              have c62 : hcc (24, s, n) 6 = h (24, s, n) 6 + 1 := by rw [lf _ _ (by simp) (by simp)]; exact c6
              have e5 : hcc0 (5, 0, 0) 2 = h (5, 0, 0) 2 := fcc _ _ (by simp) (by simp) (by simp) (by simp)
              have c02 : hcc (24, s, m) 0 = 3 ∧ hcc (24, s, m) 1 = h (5, 0, 0) 2 ∧ hcc (24, s, m) 2 = h (1, 0, 0) 12 ∧ hcc (24, s, m) 3 = 61 ∧ hcc (24, s, m) 4 = (if (3 : Int) = 1 then 0 else n) ∧ hcc (24, s, m) 5 = 1 ∧ hcc (24, s, m) 6 = 0 ∧ hcc (24, s, m) 11 = 0 ∧ hcc (24, s, m) 14 = l := by
                obtain ⟨x0, x1, x2, x3, x4, x5, x6, x7, x8⟩ := c0
                refine ⟨?_, by rw [l1, e5], ?_, ?_, ?_, ?_, ?_, ?_, l14⟩
                · rw [cm 0 (by decide) (by decide)]; exact x0
                · rw [cm 2 (by decide) (by decide)]; exact x2
                · rw [cm 3 (by decide) (by decide)]; exact x3
                · rw [cm 4 (by decide) (by decide)]; exact x4
                · rw [cm 5 (by decide) (by decide)]; exact x5
                · rw [cm 6 (by decide) (by decide)]; exact x6
                · rw [cm 11 (by decide) (by decide)]; exact x7
              have c302 : (3 : Int) = 3 → ∀ i, 0 ≤ i → i < 8 → hcc (30, s, m) i = h (6, 0, 0) i := fun _ i i0 i1 => by
                rw [l30 i i0 i1]; exact fcc _ _ (by simp) (by simp) (by simp) (by simp)
              have EE : ∀ x j, x.1 < 40 → ¬ kk_ts s x j → hcc x j = h x j := fun x j _ v => by
                refine fc5 x j ?_ ?_ ?_ ?_ ?_
                · rintro ⟨q, _⟩; rw [q] at v; exact v (Or.inl ⟨by simp, by simp, rfl, m0, m1⟩)
                · intro q; rw [q] at v; exact v (Or.inl ⟨by simp, by simp, rfl, h1n⟩)
                · intro q; rw [q] at v; exact v (Or.inl ⟨by simp, by simp, rfl, h1n⟩)
                · rintro ⟨q, _⟩; rw [q] at v; exact v (Or.inl ⟨by simp, by simp, rfl, h1n⟩)
                · intro q; rw [q] at v; exact v (Or.inl ⟨by simp, by simp, rfl, m0, m1⟩)
              have e27 : ∀ t2 m2 j, hcc (27, t2, m2) j = h (27, t2, m2) j := fun t2 m2 j => fc5 _ _ (by simp) (by simp) (by simp) (by simp) (by simp)
              have hR : kk_R hcc := kk_Rcong e27 (fc5 _ _ (by simp) (by simp) (by simp) (by simp) (by simp)) (fc5 _ _ (by simp) (by simp) (by simp) (by simp) (by simp)) (fun _ => fc5 _ _ (by simp) (by simp) (by simp) (by simp) (by simp)) (fun _ => fc5 _ _ (by simp) (by simp) (by simp) (by simp) (by simp)) (fun _ => fc5 _ _ (by simp) (by simp) (by simp) (by simp) (by simp)) hc.1.1.2.2.2.2.2.2.2.1
              have hnw : ∀ n2, 1 ≤ n2 → n2 < 37 → kk_nw hcc s n2 := fun n2 n20 n21 => by
                have W := kk_NWC hc hsT ⟨n20, n21⟩
                have e9 : hcc (24, s, n2) 9 = kk_nz (hcc (27, s, n2)) := by
                  rw [fc5 _ _ (fun q => F9 q.2) (by simp) (by simp) (by simp) (by simp), W.2.2.2.2.2.2.1]
                  exact (kk_nzc (fun p _ _ => e27 _ _ p)).symm
                by_cases q : n2 = m
                · subst q
                  exact ⟨by rw [l14]; exact hl, by rw [c02.2.2.2.2.2.2.2.1]; omega, e9⟩
                · refine ⟨?_, ?_, e9⟩
                  · rw [fc5 _ _ (by simp; omega) (by simp) (by simp) (by simp) (by simp)]; exact W.2.2.2.2.2.1
                  · rw [fc5 _ _ (by simp; omega) (by simp) (by simp) (by simp) (by simp)]; exact W.2.2.2.1
              refine s63t hx hc hD EE hR hnw (fun g0 k1 k2 ek3 no => ?_)
              rw [mm_pU, r_3_7_13 (hx := hx), r_3_8 (hx := hx), r_119_e (hx := hx), mm_pU, r_3_8_3 (hx := hx)]
              obtain ⟨g, hg⟩ : ∃ g, g = mm_up g0 (5, 0, 0) 2 0 := ⟨_, rfl⟩
              rw [← hg]
              refine ⟨⟨_, rfl, by omega, by omega⟩, g, dh, rfl, ?_⟩
              have ek0 : ∀ x j, 40 ≤ x.1 → g0 x j = h x j := fun x j q => by
                rw [k2 x j q]
                exact fc5 x j (by rintro ⟨q6, _⟩; rw [q6] at q; simp at q) (by intro q6; rw [q6] at q; simp at q) (by intro q6; rw [q6] at q; simp at q) (by rintro ⟨q6, _⟩; rw [q6] at q; simp at q) (by intro q6; rw [q6] at q; simp at q)
              have ek : ∀ x j, 40 ≤ x.1 → g x j = h x j := fun x j q => by
                rw [hg, kk_moU q (by simp)]; exact ek0 x j q
              have lk : kk_lk h g := by
                rw [hg]
                exact kk_lku (by decide) ⟨fun s2 _ _ => no s2, fun k k0 k9 => ek0 _ _ (by simp)⟩
              have f29 : mm_up g (40, 0, 0) 0 0 (40, 0, 0) 29 = h (1, 0, 0) 12 := (mm_upj (by decide)).trans ((ek _ _ (by simp)).trans (kk_cal hc).1.symm)
              have f41n : mm_up g (40, 0, 0) 0 0 (41, 0, 0) (36 * s + n - 1) = h (24, s, n) 0 := by rw [mm_upf (by decide)]; exact (ek _ _ (by simp)).trans (kk_nf hc (by omega) h1n).1
              have f44n : mm_up g (40, 0, 0) 0 0 (44, 0, 0) (36 * s + n - 1) = h (24, s, n) 6 := by rw [mm_upf (by decide)]; exact (ek _ _ (by simp)).trans (kk_nf hc (by omega) h1n).2.1
              have f49n : mm_up g (40, 0, 0) 0 0 (49, 0, 0) (36 * s + n - 1) = h (24, s, n) 11 := by rw [mm_upf (by decide)]; exact (ek _ _ (by simp)).trans (kk_nf hc (by omega) h1n).2.2.1
              have f42n : mm_up g (40, 0, 0) 0 0 (42, 0, 0) (36 * s + n - 1) = h (24, s, n) 1 := by rw [mm_upf (by decide)]; exact (ek _ _ (by simp)).trans ((kk_nf hc (by omega) h1n).2.2.2 h2n).1
              have f47n : mm_up g (40, 0, 0) 0 0 (47, 0, 0) (36 * s + n - 1) = h (24, s, n) 2 := by rw [mm_upf (by decide)]; exact (ek _ _ (by simp)).trans ((kk_nf hc (by omega) h1n).2.2.2 h2n).2.1
              have f48n : mm_up g (40, 0, 0) 0 0 (48, 0, 0) (36 * s + n - 1) = h (24, s, n) 3 := by rw [mm_upf (by decide)]; exact (ek _ _ (by simp)).trans ((kk_nf hc (by omega) h1n).2.2.2 h2n).2.2
              rw [r_215_e (hy := hy)]
              refine m181y hy hc (kk_lku (by decide) lk) ht hs ?_
              rw [mm_pI, r_215_0_6 (hy := hy)]
              refine m210y hy (by omega) h1n (by rw [f41n]; exact h3n) ?_
              rw [mm_pI, r_215_0_11 (hy := hy), if_neg (by decide)]
              refine m174y hy (by omega) ?_
              rw [mm_pI, r_215_1_5 (hy := hy), if_neg (by decide), (mm_upj (by decide) : mm_up g (40, 0, 0) 0 0 (40, 0, 0) 30 = _), ek _ _ (by simp), ← ph.1.1, if_neg h5]
              rw [r_213_e (hy := hy), if_pos s51]
              refine m211y hy (by omega) h1n f41n kd ?_
              rw [mm_pI, r_213_0_7 (hy := hy), if_neg (by decide)]
              refine m204y hy (by omega) h1n f29 f47n f48n w ?_
              rw [mm_pI, r_213_2_4 (hy := hy), if_neg (by decide)]
              have nm : ∀ i, 0 ≤ i → i < h (24, s, n) 6 → mm_up g (40, 0, 0) 0 0 (45, 0, 0) (24 * (36 * s + n - 1) + i) = h (25, s, n) i := fun i i0 i1 => (mm_upf (by decide)).trans ((ek _ _ (by simp)).trans (NRn.2.2.2.2.1 i i0 i1).1.symm)
              have f41 : ∀ j, 1 ≤ j → j < 37 → mm_up g (40, 0, 0) 0 0 (41, 0, 0) (36 * s + j - 1) = h (24, s, j) 0 := fun j j0 j1 => (mm_upf (by decide)).trans ((ek _ _ (by simp)).trans (kk_nf hc (by omega) ⟨j0, j1⟩).1)
              refine m184n hy (by omega) h1n f44n NWn.2.1 (fun e e0 e1 => by rw [nm e e0 e1]; exact ab e e0 e1) ?_
              rw [mm_pI, r_213_3_5 (hy := hy), if_pos (by decide)]
              refine m213f hy ⟨s50, s51⟩ (m := m) (by omega) (fun j j0 j1 => by rw [f41 j j0 (by omega)]; exact kpos j j0 (by omega) (m3 j j0 j1)) (fun q => by rw [f41 m m0 m1]; omega) ?_
              have g30 : mm_up g (40, 0, 0) 0 0 (40, 0, 0) 30 = h (40, 0, 0) 30 := (mm_upj (by decide)).trans (ek _ _ (by simp))
              refine m213g hy ⟨s50, s51⟩ h1n ⟨m0, m1⟩ dm f44n (by have := NWn.2.1; omega) hl (by rw [g30]; omega) (fun q gm q0 q1 q2 q3 e0 e43 e52 e6 em fmm => ?_)
              have fM : ∀ y j, 40 ≤ y.1 → y.1 ≠ 56 → ¬ (y = (40, 0, 0) ∧ j = 0) → ¬ kk_mx (36 * s + m - 1) y j → ¬ (y = (44, 0, 0) ∧ j = 36 * s + n - 1) → ¬ ((y = (45, 0, 0) ∨ y = (46, 0, 0)) ∧ 24 * (36 * s + n - 1) ≤ j ∧ j < 24 * (36 * s + n - 1) + 24) → gm y j = h y j := fun y j a0 a1 a2 a3 a4 a5 => by
                rw [fmm y j a3 a4 a5, mm_upne' a2]; exact ek y j a0
              have b45 : ∀ (f : Nat), f = 45 ∨ f = 46 → (fun i => mm_up g (40, 0, 0) 0 0 (f, 0, 0) (24 * (36 * s + n - 1) + i)) = fun i => h (f, 0, 0) (24 * (36 * s + n - 1) + i) := fun f hf => funext fun i => (mm_upf (by omega)).trans (ek _ _ (by show 40 ≤ f; omega))
              have g29 : mm_up g (40, 0, 0) 0 0 (40, 0, 0) 29 = h (40, 0, 0) 29 := (mm_upj (by decide)).trans (ek _ _ (by simp))
              have g65 : ∀ i, mm_up g (40, 0, 0) 0 0 (65, 0, 0) i = h (65, 0, 0) i := fun i => (mm_upf (by decide)).trans (ek _ _ (by simp))
              rw [g30, g29] at e0
              rw [g30] at e52
              simp only [g65] at e52
              rw [b45 45 (Or.inl rfl), b45 46 (Or.inr rfl)] at em
              have WM := kk_mkW hc ⟨s50, s51⟩ hno h1n kd rfl c24 ⟨m0, m1⟩ m2 ab (by omega) (Or.inr (Or.inr rfl)) hl (if_pos rfl).symm (fun _ => by omega) c02 c302 p0 p1 p2 p3 ce2 c62 fc5 e0 e43 (fun _ => e52 trivial) q0 q1 (fun i i0 i1 => by rw [(NRn.2.2.2.2.1 i (by omega) i1).1.symm, ← nm i (by omega) i1]; exact q2 i i0 i1) (fun v => by rw [(NRn.2.2.2.2.1 (q - 1) (by omega) (by omega)).1.symm, ← nm (q - 1) (by omega) (by omega)]; exact q3 v) e6 em fM rfl
              refine m209W hy rfl WM.1 WM.2 (fun g2 a1 a2 a3 => ⟨rfl, g2, rfl, ?_⟩)
              have cG : ∀ x j, x.1 < 40 → gm x j = g x j := fun x j v => by
                rw [fmm x j (fun u => by have := kk_mxr u; omega) (by rintro ⟨q6, _⟩; rw [q6] at v; simp at v) (by rintro ⟨q6, _⟩; rcases q6 with q6 | q6 <;> rw [q6] at v <;> simp at v)]
                exact kk_clU v (by simp)
              have sG : ∀ x j, kk_scr x j → gm x j = g x j := fun x j v => by
                rw [fmm x j (fun u => by have := kk_mxr u; unfold kk_scr at v; rcases v with v | v | ⟨v, _⟩ | v <;> first | omega | (rw [v] at this; simp at this)) (by rintro ⟨q6, _⟩; rw [q6] at v; simp [kk_scr] at v) (by rintro ⟨q6, _⟩; rcases q6 with q6 | q6 <;> rw [q6] at v <;> simp [kk_scr] at v)]
                exact kk_scrU v (Or.inr ⟨rfl, by omega⟩)
              rw [mm_pI, r_215_3_7 (hvx5 := rfl) (hy := hy)]
              have mixE : kk_mix hcc (kk_mix g0 gm) = kk_mix hcc gm := kk_mixE (fun x j v => kk_mixM v)
              have core0 : kk_core b (kk_mix g0 g2) dh := kk_actL (t := s) (hc := hcc) (g := g0) (gm := kk_mix g0 gm) rfl (by rw [mixE]; exact WM.1) (by rw [mixE]; exact WM.2) k1 (kk_acMm (fun k n k0 k1 n0 n1 => by
                have w := (WM.1.1.2.2.2.2.1 k n k0 (by omega) n0 n1).1
                unfold kk_mw at w ⊢
                rw [mm_upf (by decide), mm_upf (by decide), mm_upf (by decide), kk_mixM (by simp), kk_mixM (by simp), kk_mixM (by simp)] at w
                exact w) a1) (fun x j v => kk_mixC v)
              have fin2 := kk_upP (g := mm_up g2 (40, 0, 0) 30 0) hb core0 (fun x j v5 _ _ v40 => by
                rw [mm_upne' (fun q => v40 ⟨q.1, Or.inr q.2⟩)]
                by_cases v : x.1 < 40
                · rw [kk_mixC v, a2 x j v, cG x j v, hg, mm_upne' (fun q => v5 (by rw [q.1]))]
                · rw [kk_mixM (by omega)]) (by
                have z5 : g2 (5, 0, 0) 2 = 0 := by rw [a2 _ _ (by decide), cG _ _ (by decide), hg, mm_ups]
                rw [mm_upf (by decide), mm_ups, z5]
                exact ⟨rfl, by decide, by decide⟩) (fun i i0 i1 => by
                have z5 : g2 (5, 0, 0) 2 = 0 := by rw [a2 _ _ (by decide), cG _ _ (by decide), hg, mm_ups]
                rw [mm_upf (by decide), z5] at i1
                omega)
              refine ⟨rfl, _, rfl, fin2.1, fun x j v => ?_⟩
              rw [fin2.2 x j v]
              rcases kk_scrC v with q5 | q5
              · rw [kk_mixM q5, a3 x j v, sG x j v]; exact ek x j q5
              · rw [kk_mixC (by omega)]; exact ek3 x j q5.1 q5.2
          · have s5 : 5 ≤ s := by
              by_cases z : s < 5
              · exact absurd hs (hs5 s z)
              · omega
            rw [mm_pR, r_3_3_3 (hvx5 := rfl) (hx := hx), r_3_5 (hx := hx), r_3_7 (hx := hx)]
            rw [r_3_8 (hx := hx), r_119_e (hx := hx), mm_pU, r_3_8_3 (hx := hx)]
            refine ⟨⟨_, rfl, by omega, by omega⟩, _, dh, rfl, ?_⟩
            have ek : ∀ (x : mm_Id) (j : Int), 40 ≤ x.1 → mm_up h (5, 0, 0) 2 0 x j = h x j := fun x j q => kk_moU q (by simp)
            have lk : kk_lk h (mm_up h (5, 0, 0) 2 0) := kk_lku (by decide) (kk_lkr h)
            have f29 : mm_up (mm_up h (5, 0, 0) 2 0) (40, 0, 0) 0 0 (40, 0, 0) 29 = h (1, 0, 0) 12 := (mm_upj (by decide)).trans ((ek _ _ (by simp)).trans (kk_cal hc).1.symm)
            have f41n : mm_up (mm_up h (5, 0, 0) 2 0) (40, 0, 0) 0 0 (41, 0, 0) (36 * s + n - 1) = h (24, s, n) 0 := by rw [mm_upf (by decide)]; exact (ek _ _ (by simp)).trans (kk_nf hc (by omega) h1n).1
            have f44n : mm_up (mm_up h (5, 0, 0) 2 0) (40, 0, 0) 0 0 (44, 0, 0) (36 * s + n - 1) = h (24, s, n) 6 := by rw [mm_upf (by decide)]; exact (ek _ _ (by simp)).trans (kk_nf hc (by omega) h1n).2.1
            have f49n : mm_up (mm_up h (5, 0, 0) 2 0) (40, 0, 0) 0 0 (49, 0, 0) (36 * s + n - 1) = h (24, s, n) 11 := by rw [mm_upf (by decide)]; exact (ek _ _ (by simp)).trans (kk_nf hc (by omega) h1n).2.2.1
            have f42n : mm_up (mm_up h (5, 0, 0) 2 0) (40, 0, 0) 0 0 (42, 0, 0) (36 * s + n - 1) = h (24, s, n) 1 := by rw [mm_upf (by decide)]; exact (ek _ _ (by simp)).trans ((kk_nf hc (by omega) h1n).2.2.2 h2n).1
            have f47n : mm_up (mm_up h (5, 0, 0) 2 0) (40, 0, 0) 0 0 (47, 0, 0) (36 * s + n - 1) = h (24, s, n) 2 := by rw [mm_upf (by decide)]; exact (ek _ _ (by simp)).trans ((kk_nf hc (by omega) h1n).2.2.2 h2n).2.1
            have f48n : mm_up (mm_up h (5, 0, 0) 2 0) (40, 0, 0) 0 0 (48, 0, 0) (36 * s + n - 1) = h (24, s, n) 3 := by rw [mm_upf (by decide)]; exact (ek _ _ (by simp)).trans ((kk_nf hc (by omega) h1n).2.2.2 h2n).2.2
            rw [r_215_e (hy := hy)]
            refine m181y hy hc (kk_lku (by decide) lk) ht hs ?_
            rw [mm_pI, r_215_0_6 (hy := hy)]
            refine m210y hy (by omega) h1n (by rw [f41n]; exact h3n) ?_
            rw [mm_pI, r_215_0_11 (hy := hy), if_neg (by decide)]
            refine m174y hy (by omega) ?_
            rw [mm_pI, r_215_1_5 (hy := hy), if_neg (by decide), (mm_upj (by decide) : mm_up (mm_up h (5, 0, 0) 2 0) (40, 0, 0) 0 0 (40, 0, 0) 30 = _), ek _ _ (by simp), ← ph.1.1, if_neg h5]
            rw [r_213_e (hy := hy), if_neg (show ¬ s < 5 by omega), r_213_1 (hy := hy)]
            rw [mm_pI, r_215_3_7 (hvx5 := rfl) (hy := hy)]
            exact mfinP _ _ rfl
      · rw [mm_pI, r_3_1_3 (hx := hx), if_pos rfl]
        exact bad (by omega)
    · rw [mm_pR, r_3_0_6 (hx := hx)]
      refine fin (-1) ⟨_, rfl, by omega, by omega⟩ ?_
      have ek : ∀ (x : mm_Id) (j : Int), 40 ≤ x.1 → h x j = h x j := fun _ _ _ => rfl
      have lk := kk_lkr h
      rw [r_215_e (hy := hy)]
      refine m181y hy hc (kk_lku (by decide) lk) ht hs ?_
      rw [mm_pI, r_215_0_6 (hy := hy)]
      refine m210z hy (by omega) (fun w => hn0 ((kk_isn hc (by omega)).2 ⟨w.1, by rw [mm_upf (by decide)] at w; exact w.2⟩)) ?_
      rw [mm_pI, r_215_0_11 (hy := hy), if_pos rfl]
      exact mfin _ _ rfl
  · rw [mm_pR, r_3_0_4 (hx := hx)]
    refine s56n hx ?_
    rw [mm_pR, r_3_0_6 (hx := hx)]
    refine fin (-1) ⟨_, rfl, by omega, by omega⟩ ?_
    have ek : ∀ (x : mm_Id) (j : Int), 40 ≤ x.1 → h x j = h x j := fun _ _ _ => rfl
    have lk := kk_lkr h
    rw [r_215_e (hy := hy)]
    refine m181n hy hc (kk_lku (by decide) lk) ht hs ?_
    rw [mm_pI, r_215_0_6 (hy := hy)]
    refine m210n hy ?_
    rw [mm_pI, r_215_0_11 (hy := hy), if_pos rfl]
    exact mfin _ _ rfl

