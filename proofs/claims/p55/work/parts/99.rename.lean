/-! the calls of both: rename -/
theorem c_12 {b : Int} {h : mm_Id → Int → Int} {dh : Int → Int} {nx ns : Int} (hy : 10581 ≤ nx) (hc : kk_core b h dh) (hb : b + 1 ≤ 1000000) {t n l k q : Int} (ht : -2147483648 ≤ t ∧ t < 2147483648) (hn : -2147483648 ≤ n ∧ n < 2147483648) (hl : -2147483648 ≤ l ∧ l < 2147483648) (hk : -2147483648 ≤ k ∧ k < 2147483648) (hq : -2147483648 ≤ q ∧ q < 2147483648) : kk_call 12 227 [zI t, zI n, zI l, zI k, zI q] b h dh nx ns kk_SI := by
  unfold kk_call
  have hx : 5275 ≤ nx := by omega
  have hc0 : kk_core b (mm_up h (40, 0, 0) 0 0) dh := kk_core0 hc
  have fin : ∀ v, kk_SI (zI v) → mm_Cl 227 [zR (40, 0, 0), zI t, zI n, zI l, zI k, zI q] (mm_z h dh nx ns) (fun (r2 : mm_V) (h2 : mm_H) => r2 = zI v ∧ ∃ g2, h2 = mm_z g2 dh nx ns ∧ kk_core (b + 1) g2 dh ∧ ∀ x j, kk_scr x j → g2 x j = h x j) →
      (fun (r : mm_V) (h1 : mm_H) => kk_SI r ∧ ∃ g dh1, h1 = mm_z g dh1 nx ns ∧ mm_Cl 227 [zR (40, 0, 0), zI t, zI n, zI l, zI k, zI q] (mm_z g dh1 nx ns) (fun r2 h2 => r2 = r ∧ ∃ g2, h2 = mm_z g2 dh1 nx ns ∧ kk_core (b + 1) g2 dh1 ∧ ∀ x j, kk_scr x j → g2 x j = h x j)) (zI v) (mm_z h dh nx ns) :=
    fun v h1 h2 => ⟨h1, h, dh, rfl, h2⟩
  have mfin : ∀ v w : Int, w = v → (fun (r2 : mm_V) (h2 : mm_H) => r2 = zI v ∧ ∃ g2, h2 = mm_z g2 dh nx ns ∧ kk_core (b + 1) g2 dh ∧ ∀ x j, kk_scr x j → g2 x j = h x j) (zI w) (mm_z (mm_up h (40, 0, 0) 0 0) dh nx ns) :=
    fun v w e => ⟨by rw [e], _, rfl, kk_coreS hb hc0, fun x j hs => kk_scr0 hs⟩
  rw [r_12_e (hx := hx)]
  refine s55 hx (kk_nmC hc) ht.1 ht.2 (fun s hs => ?_) (fun hs => ?_)
  · have hsT := mm_T13 hs.1
    have hs13 := hs.1
    rw [mm_pR, r_12_0_3a (hty0 := hsT) (hx := hx)]
    refine s56 hsT hx (fun h1n h2n => ?_) (fun hn0 => ?_)
    · have hnN : mm_isN n := ⟨by omega, h1n.2⟩
      have NWn := kk_NWC hc hsT h1n
      have h3n : 0 < h (24, s, n) 0 := by
        have := NWn.1.1
        omega
      rw [mm_pR, r_12_0_8b (htx6 := hsT) (hty0 := hsT) (hny0 := hnN) (hx := hx)]
      refine s56 hsT hx (fun h1k h2k => ?_) (fun hk0 => ?_)
      · have hkN : mm_isN k := ⟨by omega, h1k.2⟩
        have NWk := kk_NWC hc hsT h1k
        have h3k : 0 < h (24, s, k) 0 := by
          have := NWk.1.1
          omega
        rw [mm_pR, r_12_0_13d (htx6 := hsT) (htx7 := hsT) (hnx7 := hnN) (hty0 := hsT) (hny0 := hkN) (hx := hx)]
        refine s58 hx (fun wl => ?_) (fun wl => ?_)
        · rw [mm_pI, r_12_2_3 (htx6 := hsT) (htx7 := hsT) (hnx7 := hnN) (htx8 := hsT) (hnx8 := hkN) (hx := hx), if_neg (by decide)]
          refine s58 hx (fun wq => ?_) (fun wq => ?_)
          · rw [mm_pI, r_12_2_7 (htx6 := hsT) (htx7 := hsT) (hnx7 := hnN) (htx8 := hsT) (hnx8 := hkN) (hx := hx), if_neg (by decide)]
            refine s53t hx (kk_nmC hc) (fun s5 s50 s51 hs5 => ?_) (fun hs5 => ?_)
            · have e5 := (kk_tp1 hs5 hs).symm
              subst e5
              have hD : mm_isD s := ⟨s50, s51⟩
              have hno := kk_tpp hs
              rw [mm_pR, r_12_4_3a (htx6 := hsT) (htx7 := hsT) (hnx7 := hnN) (htx8 := hsT) (hnx8 := hkN) (hty0 := hD) (hx := hx)]
              by_cases kdn : h (24, s, n) 0 = 2
              · rw [if_pos kdn]
                by_cases kdk : h (24, s, k) 0 = 2
                · rw [if_pos kdk]
                  refine s61 hsT hnN hx (fun wn => ?_) (fun wn => ?_)
                  · rw [mm_pI, r_12_6_3 (htx6 := hsT) (htx7 := hsT) (hnx7 := hnN) (htx8 := hsT) (hnx8 := hkN) (htx9 := hD) (hx := hx), if_neg (by decide)]
                    refine s61 hsT hkN hx (fun wk => ?_) (fun wk => ?_)
                    · rw [mm_pI, r_12_6_7 (htx6 := hsT) (htx7 := hsT) (hnx7 := hnN) (htx9 := hD) (hx := hx), if_neg (by decide)]
                      have srtn := NWn.2.2.2.2.2.2.2.2.2.2.2.1
                      refine s99 hsT hnN hx NWn.2.1 srtn (fun p p0 p1 el => ?_) (fun ab => ?_)
                      · have hp : 0 ≤ p ∧ p < h (24, s, n) 6 := ⟨p0, p1⟩
                        obtain ⟨m, em⟩ : ∃ m, h (26, s, n) p = m := ⟨_, rfl⟩
                        have mr := (NWn.2.2.2.2.2.2.2.2.2.2.2.2.2.1 p p0 p1).2
                        rw [em] at mr ⊢
                        have m1 := mr.1
                        have km := mr.2
                        have NWs : ∀ m2, 1 ≤ m2 → m2 < 37 → kk_NW h s m2 := fun m2 a0 a1 => kk_NWC hc hsT ⟨a0, a1⟩
                        have T := kk_TWC hc hsT
                        rw [mm_pI, r_12_8_3 (htx6 := hsT) (htx7 := hsT) (hnx7 := hnN) (htx9 := hD) (hx := hx), if_neg (by omega)]
                        by_cases same : n = k ∧ l = q
                        · rw [if_pos same.1, if_pos same.2]
                          rw [r_12_12 (htx9 := hD) (hx := hx)]
                          refine s63t hx hc hD (fun _ _ _ _ => rfl) hc.1.1.2.2.2.2.2.2.2.1 (fun m2 a0 a1 => ⟨(NWs m2 a0 a1).2.2.2.2.2.1, (NWs m2 a0 a1).2.2.2.1, (NWs m2 a0 a1).2.2.2.2.2.2.1⟩) (fun g k1g k2g ek3 no => ?_)
                          rw [mm_pU, r_12_12_3 (hx := hx)]
                          refine ⟨⟨_, rfl, by omega, by omega⟩, g, dh, rfl, ?_⟩
                          have ek : ∀ x j, 40 ≤ x.1 → g x j = h x j := k2g
                          have lk : kk_lk h g := ⟨fun s2 _ _ => no s2, fun k k0 k9 => ek _ _ (by simp)⟩
                          have f29 : mm_up g (40, 0, 0) 0 0 (40, 0, 0) 29 = h (1, 0, 0) 12 := (mm_upj (by decide)).trans ((ek _ _ (by simp)).trans (kk_cal hc).1.symm)
                          have f41n : mm_up g (40, 0, 0) 0 0 (41, 0, 0) (36 * s + n - 1) = h (24, s, n) 0 := by rw [mm_upf (by decide)]; exact (ek _ _ (by simp)).trans (kk_nf hc (by omega) h1n).1
                          have f44n : mm_up g (40, 0, 0) 0 0 (44, 0, 0) (36 * s + n - 1) = h (24, s, n) 6 := by rw [mm_upf (by decide)]; exact (ek _ _ (by simp)).trans (kk_nf hc (by omega) h1n).2.1
                          have f49n : mm_up g (40, 0, 0) 0 0 (49, 0, 0) (36 * s + n - 1) = h (24, s, n) 11 := by rw [mm_upf (by decide)]; exact (ek _ _ (by simp)).trans (kk_nf hc (by omega) h1n).2.2.1
                          have f42n : mm_up g (40, 0, 0) 0 0 (42, 0, 0) (36 * s + n - 1) = h (24, s, n) 1 := by rw [mm_upf (by decide)]; exact (ek _ _ (by simp)).trans ((kk_nf hc (by omega) h1n).2.2.2 h2n).1
                          have f47n : mm_up g (40, 0, 0) 0 0 (47, 0, 0) (36 * s + n - 1) = h (24, s, n) 2 := by rw [mm_upf (by decide)]; exact (ek _ _ (by simp)).trans ((kk_nf hc (by omega) h1n).2.2.2 h2n).2.1
                          have f48n : mm_up g (40, 0, 0) 0 0 (48, 0, 0) (36 * s + n - 1) = h (24, s, n) 3 := by rw [mm_upf (by decide)]; exact (ek _ _ (by simp)).trans ((kk_nf hc (by omega) h1n).2.2.2 h2n).2.2
                          have f41k : mm_up g (40, 0, 0) 0 0 (41, 0, 0) (36 * s + k - 1) = h (24, s, k) 0 := by rw [mm_upf (by decide)]; exact (ek _ _ (by simp)).trans (kk_nf hc (by omega) h1k).1
                          have f44k : mm_up g (40, 0, 0) 0 0 (44, 0, 0) (36 * s + k - 1) = h (24, s, k) 6 := by rw [mm_upf (by decide)]; exact (ek _ _ (by simp)).trans (kk_nf hc (by omega) h1k).2.1
                          have f49k : mm_up g (40, 0, 0) 0 0 (49, 0, 0) (36 * s + k - 1) = h (24, s, k) 11 := by rw [mm_upf (by decide)]; exact (ek _ _ (by simp)).trans (kk_nf hc (by omega) h1k).2.2.1
                          have f42k : mm_up g (40, 0, 0) 0 0 (42, 0, 0) (36 * s + k - 1) = h (24, s, k) 1 := by rw [mm_upf (by decide)]; exact (ek _ _ (by simp)).trans ((kk_nf hc (by omega) h1k).2.2.2 h2k).1
                          have f47k : mm_up g (40, 0, 0) 0 0 (47, 0, 0) (36 * s + k - 1) = h (24, s, k) 2 := by rw [mm_upf (by decide)]; exact (ek _ _ (by simp)).trans ((kk_nf hc (by omega) h1k).2.2.2 h2k).2.1
                          have f48k : mm_up g (40, 0, 0) 0 0 (48, 0, 0) (36 * s + k - 1) = h (24, s, k) 3 := by rw [mm_upf (by decide)]; exact (ek _ _ (by simp)).trans ((kk_nf hc (by omega) h1k).2.2.2 h2k).2.2
                          rw [r_227_e (hy := hy)]
                          refine m181y hy hc (kk_lku (by decide) lk) ht hs ?_
                          rw [mm_pI, r_227_0_6 (hy := hy)]
                          refine m210y hy (by omega) h1n (by rw [f41n]; exact h3n) ?_
                          rw [mm_pI, r_227_0_11 (hy := hy), if_neg (by decide)]
                          refine m176y hy (by omega) h1k (by rw [f41k]; exact h3k) ?_
                          rw [mm_pI, r_227_0_16 (hy := hy), if_neg (by decide)]
                          refine m174y hy (by omega) ?_
                          rw [mm_pI, r_227_2_5 (hy := hy), if_neg (by decide)]
                          refine m174y hy (by omega) ?_
                          rw [mm_pI, r_227_2_11 (hy := hy), if_neg (by decide)]
                          rw [if_pos s51]
                          refine m211y hy (by omega) h1n f41n kdn ?_
                          rw [mm_pI, r_227_4_7 (hy := hy), if_neg (by decide)]
                          refine m211y hy (by omega) h1k f41k kdk ?_
                          rw [mm_pI, r_227_4_12 (hy := hy), if_neg (by decide)]
                          refine m204y hy (by omega) h1n f29 f47n f48n wn ?_
                          rw [mm_pI, r_227_6_4 (hy := hy), if_neg (by decide)]
                          refine m204y hy (by omega) h1k f29 f47k f48k wk ?_
                          rw [mm_pI, r_227_6_9 (hy := hy), if_neg (by decide)]
                          have mG : ∀ (x : mm_Id) j, 40 ≤ x.1 → ¬ (x = (40, 0, 0) ∧ j = 0) → mm_up g (40, 0, 0) 0 0 x j = h x j := fun x j a1 a2 => (mm_upne' a2).trans (ek x j a1)
                          refine m227p (k := k) (q := q) hy hc hs13 h1n h1k mG hp el em (fun x9 x10 o2 h9 ho2 => ?_)
                          have x0 : ¬ x10 < 0 := fun w => by
                            rcases ho2 with ⟨_, _, w5⟩ | ⟨w5, _⟩
                            · exact w5 m ⟨p, by rw [← same.1]; exact hp, by rw [← same.1, el]; exact same.2, by rw [← same.1]; exact em⟩
                            · omega
                          rw [r_227_11 (hy := hy), if_pos same.1, if_pos same.2, r_227_13 (hy := hy), if_neg (by decide), r_227_14 (hy := hy), if_neg x0, if_neg (by decide), r_227_16 (hy := hy), if_neg x0, r_227_17 (hy := hy), if_neg (by decide), r_227_20 (hy := hy)]
                          have M : ∀ f : Nat, kk_mf f → 40 ≤ f ∧ f ≠ 40 := fun f hf => by unfold kk_mf at hf; omega
                          refine kk_mvT (s := s) (C := fun _ => False) hy hb hc ⟨s50, s51⟩ hno (fun _ _ _ _ _ => rfl) (fun _ _ _ => rfl) hc.1.1.2.2.2.2.2.2.2.1 NWs T (fun _ w => w.elim) (fun _ _ _ _ => ⟨fun _ _ _ _ => rfl, fun _ _ _ _ => rfl⟩) (fun y j a0 a1 a2 => mG y j a0 a2) (fun _ w => w.elim) (fun _ _ _ => mG _ _ (by simp) (by simp)) (fun x _ x0 x1 => ⟨fun f hf _ => mG _ _ (M f hf).1 (by rintro ⟨z, _⟩; simp at z; exact (M f hf).2 z), fun _ _ _ => mG _ _ (by simp) (by simp), fun _ _ _ => ⟨mG _ _ (by simp) (by simp), mG _ _ (by simp) (by simp)⟩, fun _ _ _ => mG _ _ (by simp) (by simp)⟩) (fun x _ x0 x1 => ⟨(kk_EmC hc hs13 mG ⟨x0, x1⟩).2.1.symm, fun e e0 e1 => ⟨((kk_EmC hc hs13 mG ⟨x0, x1⟩).2.2.1 e e0 e1).1.symm, ((kk_EmC hc hs13 mG ⟨x0, x1⟩).2.2.1 e e0 e1).2.symm⟩⟩) (hc.1.2.2.1.2.2.2.2.2.2.2.2.2.2.2.1 s hs13.1 hs13.2 hno) (fun _ w => w.elim) (fun x _ x0 x1 k1 k5 => kk_h19 hc s x s50 s51 x0 x1 k1 k5) k1g k2g ek3 (fun x j v => mm_upne' (by rintro ⟨z, _⟩; rw [z] at v; simp at v)) (fun g2 q1 q2 => ?_)
                          rw [mm_pU, r_227_20_2 (hy := hy)]
                          exact ⟨rfl, g2, rfl, q1, q2⟩
                        · rw [kk_i2 same, r_12_10 (htx6 := hsT) (htx7 := hsT) (hnx7 := hnN) (htx9 := hD) (hx := hx)]
                          refine s69 hx hc hs13 h1k kdk m1 km (fun z0 hit => ?_) (fun nh o o1 oE orr => ?_) (fun nh ab2 nk full => ?_) (fun nh o ho hk2 hfull => ?_)
                          · rw [mm_pI, r_12_10_7 (htx6 := hsT) (htx7 := hsT) (hnx7 := hnN) (htx9 := hD) (hx := hx), if_pos (by decide)]
                            refine fin (-3) ⟨_, rfl, by omega, by omega⟩ ?_
                            have ek : ∀ (x : mm_Id) (j : Int), 40 ≤ x.1 → h x j = h x j := fun _ _ _ => rfl
                            have lk := kk_lkr h
                            have f29 : mm_up h (40, 0, 0) 0 0 (40, 0, 0) 29 = h (1, 0, 0) 12 := (mm_upj (by decide)).trans ((ek _ _ (by simp)).trans (kk_cal hc).1.symm)
                            have f41n : mm_up h (40, 0, 0) 0 0 (41, 0, 0) (36 * s + n - 1) = h (24, s, n) 0 := by rw [mm_upf (by decide)]; exact (ek _ _ (by simp)).trans (kk_nf hc (by omega) h1n).1
                            have f44n : mm_up h (40, 0, 0) 0 0 (44, 0, 0) (36 * s + n - 1) = h (24, s, n) 6 := by rw [mm_upf (by decide)]; exact (ek _ _ (by simp)).trans (kk_nf hc (by omega) h1n).2.1
                            have f49n : mm_up h (40, 0, 0) 0 0 (49, 0, 0) (36 * s + n - 1) = h (24, s, n) 11 := by rw [mm_upf (by decide)]; exact (ek _ _ (by simp)).trans (kk_nf hc (by omega) h1n).2.2.1
                            have f42n : mm_up h (40, 0, 0) 0 0 (42, 0, 0) (36 * s + n - 1) = h (24, s, n) 1 := by rw [mm_upf (by decide)]; exact (ek _ _ (by simp)).trans ((kk_nf hc (by omega) h1n).2.2.2 h2n).1
                            have f47n : mm_up h (40, 0, 0) 0 0 (47, 0, 0) (36 * s + n - 1) = h (24, s, n) 2 := by rw [mm_upf (by decide)]; exact (ek _ _ (by simp)).trans ((kk_nf hc (by omega) h1n).2.2.2 h2n).2.1
                            have f48n : mm_up h (40, 0, 0) 0 0 (48, 0, 0) (36 * s + n - 1) = h (24, s, n) 3 := by rw [mm_upf (by decide)]; exact (ek _ _ (by simp)).trans ((kk_nf hc (by omega) h1n).2.2.2 h2n).2.2
                            have f41k : mm_up h (40, 0, 0) 0 0 (41, 0, 0) (36 * s + k - 1) = h (24, s, k) 0 := by rw [mm_upf (by decide)]; exact (ek _ _ (by simp)).trans (kk_nf hc (by omega) h1k).1
                            have f44k : mm_up h (40, 0, 0) 0 0 (44, 0, 0) (36 * s + k - 1) = h (24, s, k) 6 := by rw [mm_upf (by decide)]; exact (ek _ _ (by simp)).trans (kk_nf hc (by omega) h1k).2.1
                            have f49k : mm_up h (40, 0, 0) 0 0 (49, 0, 0) (36 * s + k - 1) = h (24, s, k) 11 := by rw [mm_upf (by decide)]; exact (ek _ _ (by simp)).trans (kk_nf hc (by omega) h1k).2.2.1
                            have f42k : mm_up h (40, 0, 0) 0 0 (42, 0, 0) (36 * s + k - 1) = h (24, s, k) 1 := by rw [mm_upf (by decide)]; exact (ek _ _ (by simp)).trans ((kk_nf hc (by omega) h1k).2.2.2 h2k).1
                            have f47k : mm_up h (40, 0, 0) 0 0 (47, 0, 0) (36 * s + k - 1) = h (24, s, k) 2 := by rw [mm_upf (by decide)]; exact (ek _ _ (by simp)).trans ((kk_nf hc (by omega) h1k).2.2.2 h2k).2.1
                            have f48k : mm_up h (40, 0, 0) 0 0 (48, 0, 0) (36 * s + k - 1) = h (24, s, k) 3 := by rw [mm_upf (by decide)]; exact (ek _ _ (by simp)).trans ((kk_nf hc (by omega) h1k).2.2.2 h2k).2.2
                            rw [r_227_e (hy := hy)]
                            refine m181y hy hc (kk_lku (by decide) lk) ht hs ?_
                            rw [mm_pI, r_227_0_6 (hy := hy)]
                            refine m210y hy (by omega) h1n (by rw [f41n]; exact h3n) ?_
                            rw [mm_pI, r_227_0_11 (hy := hy), if_neg (by decide)]
                            refine m176y hy (by omega) h1k (by rw [f41k]; exact h3k) ?_
                            rw [mm_pI, r_227_0_16 (hy := hy), if_neg (by decide)]
                            refine m174y hy (by omega) ?_
                            rw [mm_pI, r_227_2_5 (hy := hy), if_neg (by decide)]
                            refine m174y hy (by omega) ?_
                            rw [mm_pI, r_227_2_11 (hy := hy), if_neg (by decide)]
                            rw [if_pos s51]
                            refine m211y hy (by omega) h1n f41n kdn ?_
                            rw [mm_pI, r_227_4_7 (hy := hy), if_neg (by decide)]
                            refine m211y hy (by omega) h1k f41k kdk ?_
                            rw [mm_pI, r_227_4_12 (hy := hy), if_neg (by decide)]
                            refine m204y hy (by omega) h1n f29 f47n f48n wn ?_
                            rw [mm_pI, r_227_6_4 (hy := hy), if_neg (by decide)]
                            refine m204y hy (by omega) h1k f29 f47k f48k wk ?_
                            rw [mm_pI, r_227_6_9 (hy := hy), if_neg (by decide)]
                            have mG : ∀ (x : mm_Id) j, 40 ≤ x.1 → ¬ (x = (40, 0, 0) ∧ j = 0) → mm_up h (40, 0, 0) 0 0 x j = h x j := fun x j a1 a2 => (mm_upne' a2).trans (ek x j a1)
                            refine m227p (k := k) (q := q) hy hc hs13 h1n h1k mG hp el em (fun x9 x10 o2 h9 ho2 => ?_)
                            rw [r_227_11 (hy := hy), kk_i2 same, r_227_12 (hy := hy)]
                            refine m227w (h := h) (ko := h (24, s, o2) 0) hy (by omega) NWs T h1k kdk m1 (fun d hd => (kk_EmC hc hs13 mG hd).2.1) (fun d hd e e0 e1 => ((kk_EmC hc hs13 mG hd).2.2.1 e e0 e1).2) h9 (fun x0 => ?_) (fun z w => ?_) (fun nh2 x0 w => ?_) (fun nh2 x0 w1 w2 => ?_) (fun nh2 w1 w2 => ?_)
                            · rcases ho2 with ⟨w, _⟩ | ⟨w1, w2, w3⟩
                              · omega
                              · have r := (NWk.2.2.2.2.2.2.2.2.2.2.2.2.2.1 x10 w1.1 w1.2).2
                                rw [w3] at r
                                exact ⟨r.1, (mG _ _ (by simp) (by simp)).trans (kk_nf hc (by omega) r.1).1⟩
                            · exact mfin _ _ rfl
                            · exact absurd hit (nh2 z0)
                            · exact absurd hit (nh2 z0)
                            · exact absurd hit (nh2 z0)
                          · rw [mm_pI, r_12_10_7 (htx6 := hsT) (htx7 := hsT) (hnx7 := hnN) (htx9 := hD) (hx := hx), if_pos (by decide)]
                            refine fin (-3) ⟨_, rfl, by omega, by omega⟩ ?_
                            have ek : ∀ (x : mm_Id) (j : Int), 40 ≤ x.1 → h x j = h x j := fun _ _ _ => rfl
                            have lk := kk_lkr h
                            have f29 : mm_up h (40, 0, 0) 0 0 (40, 0, 0) 29 = h (1, 0, 0) 12 := (mm_upj (by decide)).trans ((ek _ _ (by simp)).trans (kk_cal hc).1.symm)
                            have f41n : mm_up h (40, 0, 0) 0 0 (41, 0, 0) (36 * s + n - 1) = h (24, s, n) 0 := by rw [mm_upf (by decide)]; exact (ek _ _ (by simp)).trans (kk_nf hc (by omega) h1n).1
                            have f44n : mm_up h (40, 0, 0) 0 0 (44, 0, 0) (36 * s + n - 1) = h (24, s, n) 6 := by rw [mm_upf (by decide)]; exact (ek _ _ (by simp)).trans (kk_nf hc (by omega) h1n).2.1
                            have f49n : mm_up h (40, 0, 0) 0 0 (49, 0, 0) (36 * s + n - 1) = h (24, s, n) 11 := by rw [mm_upf (by decide)]; exact (ek _ _ (by simp)).trans (kk_nf hc (by omega) h1n).2.2.1
                            have f42n : mm_up h (40, 0, 0) 0 0 (42, 0, 0) (36 * s + n - 1) = h (24, s, n) 1 := by rw [mm_upf (by decide)]; exact (ek _ _ (by simp)).trans ((kk_nf hc (by omega) h1n).2.2.2 h2n).1
                            have f47n : mm_up h (40, 0, 0) 0 0 (47, 0, 0) (36 * s + n - 1) = h (24, s, n) 2 := by rw [mm_upf (by decide)]; exact (ek _ _ (by simp)).trans ((kk_nf hc (by omega) h1n).2.2.2 h2n).2.1
                            have f48n : mm_up h (40, 0, 0) 0 0 (48, 0, 0) (36 * s + n - 1) = h (24, s, n) 3 := by rw [mm_upf (by decide)]; exact (ek _ _ (by simp)).trans ((kk_nf hc (by omega) h1n).2.2.2 h2n).2.2
                            have f41k : mm_up h (40, 0, 0) 0 0 (41, 0, 0) (36 * s + k - 1) = h (24, s, k) 0 := by rw [mm_upf (by decide)]; exact (ek _ _ (by simp)).trans (kk_nf hc (by omega) h1k).1
                            have f44k : mm_up h (40, 0, 0) 0 0 (44, 0, 0) (36 * s + k - 1) = h (24, s, k) 6 := by rw [mm_upf (by decide)]; exact (ek _ _ (by simp)).trans (kk_nf hc (by omega) h1k).2.1
                            have f49k : mm_up h (40, 0, 0) 0 0 (49, 0, 0) (36 * s + k - 1) = h (24, s, k) 11 := by rw [mm_upf (by decide)]; exact (ek _ _ (by simp)).trans (kk_nf hc (by omega) h1k).2.2.1
                            have f42k : mm_up h (40, 0, 0) 0 0 (42, 0, 0) (36 * s + k - 1) = h (24, s, k) 1 := by rw [mm_upf (by decide)]; exact (ek _ _ (by simp)).trans ((kk_nf hc (by omega) h1k).2.2.2 h2k).1
                            have f47k : mm_up h (40, 0, 0) 0 0 (47, 0, 0) (36 * s + k - 1) = h (24, s, k) 2 := by rw [mm_upf (by decide)]; exact (ek _ _ (by simp)).trans ((kk_nf hc (by omega) h1k).2.2.2 h2k).2.1
                            have f48k : mm_up h (40, 0, 0) 0 0 (48, 0, 0) (36 * s + k - 1) = h (24, s, k) 3 := by rw [mm_upf (by decide)]; exact (ek _ _ (by simp)).trans ((kk_nf hc (by omega) h1k).2.2.2 h2k).2.2
                            rw [r_227_e (hy := hy)]
                            refine m181y hy hc (kk_lku (by decide) lk) ht hs ?_
                            rw [mm_pI, r_227_0_6 (hy := hy)]
                            refine m210y hy (by omega) h1n (by rw [f41n]; exact h3n) ?_
                            rw [mm_pI, r_227_0_11 (hy := hy), if_neg (by decide)]
                            refine m176y hy (by omega) h1k (by rw [f41k]; exact h3k) ?_
                            rw [mm_pI, r_227_0_16 (hy := hy), if_neg (by decide)]
                            refine m174y hy (by omega) ?_
                            rw [mm_pI, r_227_2_5 (hy := hy), if_neg (by decide)]
                            refine m174y hy (by omega) ?_
                            rw [mm_pI, r_227_2_11 (hy := hy), if_neg (by decide)]
                            rw [if_pos s51]
                            refine m211y hy (by omega) h1n f41n kdn ?_
                            rw [mm_pI, r_227_4_7 (hy := hy), if_neg (by decide)]
                            refine m211y hy (by omega) h1k f41k kdk ?_
                            rw [mm_pI, r_227_4_12 (hy := hy), if_neg (by decide)]
                            refine m204y hy (by omega) h1n f29 f47n f48n wn ?_
                            rw [mm_pI, r_227_6_4 (hy := hy), if_neg (by decide)]
                            refine m204y hy (by omega) h1k f29 f47k f48k wk ?_
                            rw [mm_pI, r_227_6_9 (hy := hy), if_neg (by decide)]
                            have mG : ∀ (x : mm_Id) j, 40 ≤ x.1 → ¬ (x = (40, 0, 0) ∧ j = 0) → mm_up h (40, 0, 0) 0 0 x j = h x j := fun x j a1 a2 => (mm_upne' a2).trans (ek x j a1)
                            refine m227p (k := k) (q := q) hy hc hs13 h1n h1k mG hp el em (fun x9 x10 o2 h9 ho2 => ?_)
                            rw [r_227_11 (hy := hy), kk_i2 same, r_227_12 (hy := hy)]
                            refine m227w (h := h) (ko := h (24, s, o2) 0) hy (by omega) NWs T h1k kdk m1 (fun d hd => (kk_EmC hc hs13 mG hd).2.1) (fun d hd e e0 e1 => ((kk_EmC hc hs13 mG hd).2.2.1 e e0 e1).2) h9 (fun x0 => ?_) (fun z w => ?_) (fun nh2 x0 w => ?_) (fun nh2 x0 w1 w2 => ?_) (fun nh2 w1 w2 => ?_)
                            · rcases ho2 with ⟨w, _⟩ | ⟨w1, w2, w3⟩
                              · omega
                              · have r := (NWk.2.2.2.2.2.2.2.2.2.2.2.2.2.1 x10 w1.1 w1.2).2
                                rw [w3] at r
                                exact ⟨r.1, (mG _ _ (by simp) (by simp)).trans (kk_nf hc (by omega) r.1).1⟩
                            · exact absurd w (nh z)
                            · exact mfin _ _ rfl
                            · exact absurd oE (by
                                rcases ho2 with ⟨_, _, w5⟩ | ⟨w5, _⟩
                                · exact w5 _
                                · omega)
                            · rcases ho2 with ⟨_, _, w5⟩ | ⟨w5, w6, w7⟩
                              · exact absurd oE (w5 _)
                              · have oo : o2 = o := kk_E1 NWk.2.2.2.2.2.2.2.2.2.2.2.1 ⟨x10, w5, w6, w7⟩ oE
                                have W := w1 w5.1
                                rw [oo] at W
                                rcases orr with u | u
                                · exact absurd u W.1
                                · exact absurd u W.2
                          · rw [mm_pI, r_12_10_7 (htx6 := hsT) (htx7 := hsT) (hnx7 := hnN) (htx9 := hD) (hx := hx), if_pos (by decide)]
                            refine fin (-4) ⟨_, rfl, by omega, by omega⟩ ?_
                            have ek : ∀ (x : mm_Id) (j : Int), 40 ≤ x.1 → h x j = h x j := fun _ _ _ => rfl
                            have lk := kk_lkr h
                            have f29 : mm_up h (40, 0, 0) 0 0 (40, 0, 0) 29 = h (1, 0, 0) 12 := (mm_upj (by decide)).trans ((ek _ _ (by simp)).trans (kk_cal hc).1.symm)
                            have f41n : mm_up h (40, 0, 0) 0 0 (41, 0, 0) (36 * s + n - 1) = h (24, s, n) 0 := by rw [mm_upf (by decide)]; exact (ek _ _ (by simp)).trans (kk_nf hc (by omega) h1n).1
                            have f44n : mm_up h (40, 0, 0) 0 0 (44, 0, 0) (36 * s + n - 1) = h (24, s, n) 6 := by rw [mm_upf (by decide)]; exact (ek _ _ (by simp)).trans (kk_nf hc (by omega) h1n).2.1
                            have f49n : mm_up h (40, 0, 0) 0 0 (49, 0, 0) (36 * s + n - 1) = h (24, s, n) 11 := by rw [mm_upf (by decide)]; exact (ek _ _ (by simp)).trans (kk_nf hc (by omega) h1n).2.2.1
                            have f42n : mm_up h (40, 0, 0) 0 0 (42, 0, 0) (36 * s + n - 1) = h (24, s, n) 1 := by rw [mm_upf (by decide)]; exact (ek _ _ (by simp)).trans ((kk_nf hc (by omega) h1n).2.2.2 h2n).1
                            have f47n : mm_up h (40, 0, 0) 0 0 (47, 0, 0) (36 * s + n - 1) = h (24, s, n) 2 := by rw [mm_upf (by decide)]; exact (ek _ _ (by simp)).trans ((kk_nf hc (by omega) h1n).2.2.2 h2n).2.1
                            have f48n : mm_up h (40, 0, 0) 0 0 (48, 0, 0) (36 * s + n - 1) = h (24, s, n) 3 := by rw [mm_upf (by decide)]; exact (ek _ _ (by simp)).trans ((kk_nf hc (by omega) h1n).2.2.2 h2n).2.2
                            have f41k : mm_up h (40, 0, 0) 0 0 (41, 0, 0) (36 * s + k - 1) = h (24, s, k) 0 := by rw [mm_upf (by decide)]; exact (ek _ _ (by simp)).trans (kk_nf hc (by omega) h1k).1
                            have f44k : mm_up h (40, 0, 0) 0 0 (44, 0, 0) (36 * s + k - 1) = h (24, s, k) 6 := by rw [mm_upf (by decide)]; exact (ek _ _ (by simp)).trans (kk_nf hc (by omega) h1k).2.1
                            have f49k : mm_up h (40, 0, 0) 0 0 (49, 0, 0) (36 * s + k - 1) = h (24, s, k) 11 := by rw [mm_upf (by decide)]; exact (ek _ _ (by simp)).trans (kk_nf hc (by omega) h1k).2.2.1
                            have f42k : mm_up h (40, 0, 0) 0 0 (42, 0, 0) (36 * s + k - 1) = h (24, s, k) 1 := by rw [mm_upf (by decide)]; exact (ek _ _ (by simp)).trans ((kk_nf hc (by omega) h1k).2.2.2 h2k).1
                            have f47k : mm_up h (40, 0, 0) 0 0 (47, 0, 0) (36 * s + k - 1) = h (24, s, k) 2 := by rw [mm_upf (by decide)]; exact (ek _ _ (by simp)).trans ((kk_nf hc (by omega) h1k).2.2.2 h2k).2.1
                            have f48k : mm_up h (40, 0, 0) 0 0 (48, 0, 0) (36 * s + k - 1) = h (24, s, k) 3 := by rw [mm_upf (by decide)]; exact (ek _ _ (by simp)).trans ((kk_nf hc (by omega) h1k).2.2.2 h2k).2.2
                            rw [r_227_e (hy := hy)]
                            refine m181y hy hc (kk_lku (by decide) lk) ht hs ?_
                            rw [mm_pI, r_227_0_6 (hy := hy)]
                            refine m210y hy (by omega) h1n (by rw [f41n]; exact h3n) ?_
                            rw [mm_pI, r_227_0_11 (hy := hy), if_neg (by decide)]
                            refine m176y hy (by omega) h1k (by rw [f41k]; exact h3k) ?_
                            rw [mm_pI, r_227_0_16 (hy := hy), if_neg (by decide)]
                            refine m174y hy (by omega) ?_
                            rw [mm_pI, r_227_2_5 (hy := hy), if_neg (by decide)]
                            refine m174y hy (by omega) ?_
                            rw [mm_pI, r_227_2_11 (hy := hy), if_neg (by decide)]
                            rw [if_pos s51]
                            refine m211y hy (by omega) h1n f41n kdn ?_
                            rw [mm_pI, r_227_4_7 (hy := hy), if_neg (by decide)]
                            refine m211y hy (by omega) h1k f41k kdk ?_
                            rw [mm_pI, r_227_4_12 (hy := hy), if_neg (by decide)]
                            refine m204y hy (by omega) h1n f29 f47n f48n wn ?_
                            rw [mm_pI, r_227_6_4 (hy := hy), if_neg (by decide)]
                            refine m204y hy (by omega) h1k f29 f47k f48k wk ?_
                            rw [mm_pI, r_227_6_9 (hy := hy), if_neg (by decide)]
                            have mG : ∀ (x : mm_Id) j, 40 ≤ x.1 → ¬ (x = (40, 0, 0) ∧ j = 0) → mm_up h (40, 0, 0) 0 0 x j = h x j := fun x j a1 a2 => (mm_upne' a2).trans (ek x j a1)
                            refine m227p (k := k) (q := q) hy hc hs13 h1n h1k mG hp el em (fun x9 x10 o2 h9 ho2 => ?_)
                            rw [r_227_11 (hy := hy), kk_i2 same, r_227_12 (hy := hy)]
                            refine m227w (h := h) (ko := h (24, s, o2) 0) hy (by omega) NWs T h1k kdk m1 (fun d hd => (kk_EmC hc hs13 mG hd).2.1) (fun d hd e e0 e1 => ((kk_EmC hc hs13 mG hd).2.2.1 e e0 e1).2) h9 (fun x0 => ?_) (fun z w => ?_) (fun nh2 x0 w => ?_) (fun nh2 x0 w1 w2 => ?_) (fun nh2 w1 w2 => ?_)
                            · rcases ho2 with ⟨w, _⟩ | ⟨w1, w2, w3⟩
                              · omega
                              · have r := (NWk.2.2.2.2.2.2.2.2.2.2.2.2.2.1 x10 w1.1 w1.2).2
                                rw [w3] at r
                                exact ⟨r.1, (mG _ _ (by simp) (by simp)).trans (kk_nf hc (by omega) r.1).1⟩
                            · exact absurd w (nh z)
                            · rcases ho2 with ⟨w5, _⟩ | ⟨w5, w6, w7⟩
                              · omega
                              · exact absurd ⟨x10, w5, w6, w7⟩ (ab2 o2)
                            · exact mfin _ _ rfl
                            · rcases ho2 with ⟨w5, _⟩ | ⟨w5, w6, w7⟩
                              · rcases w2 w5 with u | u
                                · exact absurd u nk
                                · have := NWk.2.1
                                  omega
                              · exact absurd ⟨x10, w5, w6, w7⟩ (ab2 o2)
                          · rw [mm_pI, r_12_10_7 (htx6 := hsT) (htx7 := hsT) (hnx7 := hnN) (htx9 := hD) (hx := hx), if_neg (by decide)]
                            refine s70 hx hc hs13 h1n kdn h1k kdk hp el em wq same ho hfull nh (fun hst SC PE f5 f4 fr => ?_)
                            rw [mm_pI, r_12_11_9 (htx9 := hD) (hty1 := hD) (hx := hx)]
                            obtain ⟨D, hDD⟩ : ∃ D : Prop, D ↔ (o ≠ 0 ∧ hst (24, s, o) 5 = 0 ∧ ∀ i, 0 ≤ i → i < 8 → ¬ (dh i = s ∧ h (34, i, 0) 2 = o)) := ⟨_, Iff.rfl⟩
                            have oR : o ≠ 0 → (1 ≤ o ∧ o < 37) ∧ h (24, s, o) 0 ≠ 0 ∧ 2 ≤ o ∧ o ≠ k ∧ o ≠ n := fun z => by
                              rcases ho with ⟨w, _⟩ | ⟨_, i, hi, q1, q2⟩
                              · exact absurd w z
                              · have r := (NWk.2.2.2.2.2.2.2.2.2.2.2.2.2.1 i hi.1 hi.2).2
                                rw [q2] at r
                                have e := kk_ecp h1k hi q2
                                have W := (hk2 z).2
                                refine ⟨r.1, r.2, ?_, fun w => W (by rw [w]; exact kdk), fun w => W (by rw [w]; exact kdn)⟩
                                by_cases y : o = 1
                                · have := T.2.2.2.1
                                  rw [y] at e
                                  omega
                                · omega
                            have hF : ∀ (y : mm_Id) j, ¬ (24 ≤ y.1 ∧ y.1 ≤ 26 ∧ y.2.1 = s ∧ 1 ≤ y.2.2 ∧ y.2.2 < 37) → hst y j = h y j := fun y j w => fr y j (fun u => w ⟨by omega, by omega, u.2.1, by omega, by omega⟩) (fun u => w ⟨by omega, by omega, u.2.1, u.2.2.1.1, u.2.2.1.2⟩)
                            have k24 : ∀ x j, j ≠ 4 → j ≠ 5 → j ≠ 6 → hst (24, s, x) j = h (24, s, x) j := fun x j j4 j5 j6 => fr _ _ (by simp) (by simp; omega)
                            have hRs : kk_R hst := kk_Rcong (fun _ _ _ => hF _ _ (by simp)) (hF _ _ (by simp)) (hF _ _ (by simp)) (fun _ => hF _ _ (by simp)) (fun _ => hF _ _ (by simp)) (fun _ => hF _ _ (by simp)) hc.1.1.2.2.2.2.2.2.2.1
                            have uS : ∀ x, 1 ≤ x → x < 37 → h (24, s, x) 0 ≠ 0 → hst (24, s, x) 5 = kk_ec hst s x := fun x a0 a1 a2 => SC.2.1 x a0 a1 (by rw [k24 _ _ (by decide) (by decide) (by decide)]; exact a2)
                            have oz5 : o ≠ 0 → hst (24, s, o) 5 = h (24, s, o) 5 - 1 := fun z => by rw [f5, if_pos ⟨rfl, z⟩]
                            have nfD : o ≠ 0 → h (24, s, o) 0 ≠ 1 → D ∧ o ≠ m := fun z y => by
                              have r := oR z
                              have kx := (NWs o r.1.1 r.1.2).1
                              have e1 := T.2.1 o r.2.2.1 r.1.2 (by omega)
                              have u := T.1 o r.1.1 r.1.2 r.2.1
                              have z5 := oz5 z
                              refine ⟨hDD.2 ⟨z, by omega, fun i i0 i1 w => ?_⟩, fun w => ?_⟩
                              · have a := ((kk_h17 hc i i0 i1).1 (by rw [w.1]; exact hD)).2.2.1
                                rw [w.1, w.2] at a
                                exact y a
                              · have b2 := (PE k q m).2 (Or.inr ⟨rfl, rfl, rfl⟩)
                                obtain ⟨i, hi, q1, q2⟩ := b2
                                have a := kk_ecp (h := hst) h1k hi q2
                                have bb := uS o r.1.1 r.1.2 r.2.1
                                rw [← w] at a
                                omega
                            have c0o : o ≠ 0 → hst (24, s, o) 6 = 0 := fun z => (SC.1 o (oR z).1.1 (oR z).1.2).2.2.1 (by rw [k24 _ _ (by decide) (by decide) (by decide)]; exact (hk2 z).2)
                            have rt : h (24, s, 1) 0 = 2 := hc.1.2.2.1.2.2.2.2.2.2.2.2.2.2.2.1 s hs13.1 hs13.2 hno
                            have tail : ∀ hcc : mm_Id → Int → Int, kk_R hcc → (D → kk_cl hcc s o) → (∀ (y : mm_Id) j, ¬ kk_ct y j → ¬ (D ∧ 24 ≤ y.1 ∧ y.1 ≤ 30 ∧ y.2.1 = s ∧ y.2.2 = o) → hcc y j = hst y j) → mm_Wp 12 (bk_12_11.drop 10) [zR (1, 0, 0), zI t, zI n, zI l, zI k, zI q, zR (22, s, 0), zR (24, s, n), zR (24, s, k), zR (31, s, 0), zI m, zI 0] [] (mm_z hcc dh nx ns) (fun (r : mm_V) (h1 : mm_H) => kk_SI r ∧ ∃ g dh1, h1 = mm_z g dh1 nx ns ∧ mm_Cl 227 [zR (40, 0, 0), zI t, zI n, zI l, zI k, zI q] (mm_z g dh1 nx ns) (fun r2 h2 => r2 = r ∧ ∃ g2, h2 = mm_z g2 dh1 nx ns ∧ kk_core (b + 1) g2 dh1 ∧ ∀ x j, kk_scr x j → g2 x j = h x j)) := fun hcc hR hcl frc => by
                              have cG0 : ∀ (f : Nat) t2 m2 j, f ≠ 15 → f ≠ 17 → f ≠ 18 → f ≠ 19 → ¬ (D ∧ (24 ≤ f ∧ f ≤ 30) ∧ t2 = s ∧ m2 = o) → hcc (f, t2, m2) j = hst (f, t2, m2) j := fun f t2 m2 j a1 a2 a3 a4 a5 => frc _ _ (by unfold kk_ct; rintro (⟨q, _⟩ | q | q | q) <;> simp at q <;> omega) (fun q => a5 ⟨q.1, ⟨q.2.1, q.2.2.1⟩, q.2.2.2.1, q.2.2.2.2⟩)
                              have SCc : (∀ m2, 1 ≤ m2 → m2 < 37 → kk_NW hcc s m2) ∧ kk_TW hcc s := by
                                by_cases d : D
                                · have d2 := hDD.1 d
                                  have r := oR d2.1
                                  obtain ⟨S, _⟩ := kk_clear (g := hcc) (m := o) SC ⟨r.2.2.1, r.1.2⟩ (by rw [← uS o r.1.1 r.1.2 r.2.1]; exact d2.2.1) (c0o d2.1) (hcl d) (fun f m2 j f0 f1 q => cG0 f s m2 j (by omega) (by omega) (by omega) (by omega) (fun w => q w.2.2.2)) (fun j => cG0 16 0 0 j (by decide) (by decide) (by decide) (by decide) (by omega))
                                  exact ⟨S.1, kk_THW S.2 (fun _ _ _ _ w => w.2 w.1)⟩
                                · have cp : ∀ m2, kk_cpd hcc s m2 hst s m2 := fun m2 => kk_cpdr (fun f j f0 f1 => cG0 f s m2 j (by omega) (by omega) (by omega) (by omega) (fun w => d w.1))
                                  have T1 : kk_TW hst s := kk_THW SC.2 (fun x x0 x1 k2 w => by
                                    have w2 : x = o := w
                                    rw [k24 _ _ (by decide) (by decide) (by decide), w2] at k2
                                    exact d (nfD (by omega) (by omega)).1)
                                  exact ⟨fun m2 a0 a1 => kk_NWcp (fun m3 _ _ => cp m3) ⟨a0, a1⟩ (fun _ _ _ _ _ _ => cG0 16 0 0 _ (by decide) (by decide) (by decide) (by decide) (by omega)) (SC.1 m2 a0 a1), kk_TWcp (fun m3 _ _ => cp m3) SC.1 T1⟩
                              have nts : ∀ (y : mm_Id) j, ¬ (24 ≤ y.1 ∧ y.1 ≤ 30 ∧ y.2.1 = s ∧ 1 ≤ y.2.2 ∧ y.2.2 < 37) → ¬ kk_ct y j → hcc y j = h y j := fun y j w1 w2 => by
                                rw [frc y j w2 (fun u => w1 ⟨u.2.1, u.2.2.1, u.2.2.2.1, by have := (oR (hDD.1 u.1).1).1; omega, by have := (oR (hDD.1 u.1).1).1; omega⟩)]
                                exact hF y j (fun u => w1 ⟨u.1, by omega, u.2.2.1, u.2.2.2.1, u.2.2.2.2⟩)
                              rw [r_12_11_10 (htx9 := hD) (hx := hx), r_12_12 (htx9 := hD) (hx := hx)]
                              refine s63t hx hc hD (fun y j _ v => nts y j (fun u => v (Or.inl u)) (fun u => v (Or.inr (Or.inr (Or.inr (Or.inl u)))))) hR (fun m2 a0 a1 => ⟨(SCc.1 m2 a0 a1).2.2.2.2.2.1, (SCc.1 m2 a0 a1).2.2.2.1, (SCc.1 m2 a0 a1).2.2.2.2.2.2.1⟩) (fun g k1g k2g ek3 no => ?_)
                              rw [mm_pU, r_12_12_3 (hx := hx)]
                              refine ⟨⟨_, rfl, by omega, by omega⟩, g, dh, rfl, ?_⟩
                              have h40 : ∀ (y : mm_Id) j, 40 ≤ y.1 → hcc y j = h y j := fun y j q => nts y j (fun u => by omega) (by unfold kk_ct; rintro (⟨q6, _⟩ | q6 | q6 | q6) <;> rw [q6] at q <;> simp at q)
                              have ek : ∀ x j, 40 ≤ x.1 → g x j = h x j := fun x j q => by rw [k2g x j q]; exact h40 x j q
                              have lk : kk_lk h g := ⟨fun s2 _ _ => no s2, fun k k0 k9 => ek _ _ (by simp)⟩
                              have f29 : mm_up g (40, 0, 0) 0 0 (40, 0, 0) 29 = h (1, 0, 0) 12 := (mm_upj (by decide)).trans ((ek _ _ (by simp)).trans (kk_cal hc).1.symm)
                              have f41n : mm_up g (40, 0, 0) 0 0 (41, 0, 0) (36 * s + n - 1) = h (24, s, n) 0 := by rw [mm_upf (by decide)]; exact (ek _ _ (by simp)).trans (kk_nf hc (by omega) h1n).1
                              have f44n : mm_up g (40, 0, 0) 0 0 (44, 0, 0) (36 * s + n - 1) = h (24, s, n) 6 := by rw [mm_upf (by decide)]; exact (ek _ _ (by simp)).trans (kk_nf hc (by omega) h1n).2.1
                              have f49n : mm_up g (40, 0, 0) 0 0 (49, 0, 0) (36 * s + n - 1) = h (24, s, n) 11 := by rw [mm_upf (by decide)]; exact (ek _ _ (by simp)).trans (kk_nf hc (by omega) h1n).2.2.1
                              have f42n : mm_up g (40, 0, 0) 0 0 (42, 0, 0) (36 * s + n - 1) = h (24, s, n) 1 := by rw [mm_upf (by decide)]; exact (ek _ _ (by simp)).trans ((kk_nf hc (by omega) h1n).2.2.2 h2n).1
                              have f47n : mm_up g (40, 0, 0) 0 0 (47, 0, 0) (36 * s + n - 1) = h (24, s, n) 2 := by rw [mm_upf (by decide)]; exact (ek _ _ (by simp)).trans ((kk_nf hc (by omega) h1n).2.2.2 h2n).2.1
                              have f48n : mm_up g (40, 0, 0) 0 0 (48, 0, 0) (36 * s + n - 1) = h (24, s, n) 3 := by rw [mm_upf (by decide)]; exact (ek _ _ (by simp)).trans ((kk_nf hc (by omega) h1n).2.2.2 h2n).2.2
                              have f41k : mm_up g (40, 0, 0) 0 0 (41, 0, 0) (36 * s + k - 1) = h (24, s, k) 0 := by rw [mm_upf (by decide)]; exact (ek _ _ (by simp)).trans (kk_nf hc (by omega) h1k).1
                              have f44k : mm_up g (40, 0, 0) 0 0 (44, 0, 0) (36 * s + k - 1) = h (24, s, k) 6 := by rw [mm_upf (by decide)]; exact (ek _ _ (by simp)).trans (kk_nf hc (by omega) h1k).2.1
                              have f49k : mm_up g (40, 0, 0) 0 0 (49, 0, 0) (36 * s + k - 1) = h (24, s, k) 11 := by rw [mm_upf (by decide)]; exact (ek _ _ (by simp)).trans (kk_nf hc (by omega) h1k).2.2.1
                              have f42k : mm_up g (40, 0, 0) 0 0 (42, 0, 0) (36 * s + k - 1) = h (24, s, k) 1 := by rw [mm_upf (by decide)]; exact (ek _ _ (by simp)).trans ((kk_nf hc (by omega) h1k).2.2.2 h2k).1
                              have f47k : mm_up g (40, 0, 0) 0 0 (47, 0, 0) (36 * s + k - 1) = h (24, s, k) 2 := by rw [mm_upf (by decide)]; exact (ek _ _ (by simp)).trans ((kk_nf hc (by omega) h1k).2.2.2 h2k).2.1
                              have f48k : mm_up g (40, 0, 0) 0 0 (48, 0, 0) (36 * s + k - 1) = h (24, s, k) 3 := by rw [mm_upf (by decide)]; exact (ek _ _ (by simp)).trans ((kk_nf hc (by omega) h1k).2.2.2 h2k).2.2
                              rw [r_227_e (hy := hy)]
                              refine m181y hy hc (kk_lku (by decide) lk) ht hs ?_
                              rw [mm_pI, r_227_0_6 (hy := hy)]
                              refine m210y hy (by omega) h1n (by rw [f41n]; exact h3n) ?_
                              rw [mm_pI, r_227_0_11 (hy := hy), if_neg (by decide)]
                              refine m176y hy (by omega) h1k (by rw [f41k]; exact h3k) ?_
                              rw [mm_pI, r_227_0_16 (hy := hy), if_neg (by decide)]
                              refine m174y hy (by omega) ?_
                              rw [mm_pI, r_227_2_5 (hy := hy), if_neg (by decide)]
                              refine m174y hy (by omega) ?_
                              rw [mm_pI, r_227_2_11 (hy := hy), if_neg (by decide)]
                              rw [if_pos s51]
                              refine m211y hy (by omega) h1n f41n kdn ?_
                              rw [mm_pI, r_227_4_7 (hy := hy), if_neg (by decide)]
                              refine m211y hy (by omega) h1k f41k kdk ?_
                              rw [mm_pI, r_227_4_12 (hy := hy), if_neg (by decide)]
                              refine m204y hy (by omega) h1n f29 f47n f48n wn ?_
                              rw [mm_pI, r_227_6_4 (hy := hy), if_neg (by decide)]
                              refine m204y hy (by omega) h1k f29 f47k f48k wk ?_
                              rw [mm_pI, r_227_6_9 (hy := hy), if_neg (by decide)]
                              have mG : ∀ (x : mm_Id) j, 40 ≤ x.1 → ¬ (x = (40, 0, 0) ∧ j = 0) → mm_up g (40, 0, 0) 0 0 x j = h x j := fun x j a1 a2 => (mm_upne' a2).trans (ek x j a1)
                              refine m227p (k := k) (q := q) hy hc hs13 h1n h1k mG hp el em (fun x9 x10 o2 h9 ho2 => ?_)
                              rw [r_227_11 (hy := hy), kk_i2 same, r_227_12 (hy := hy)]
                              refine m227w (h := h) (ko := h (24, s, o2) 0) hy (by omega) NWs T h1k kdk m1 (fun d hd => (kk_EmC hc hs13 mG hd).2.1) (fun d hd e e0 e1 => ((kk_EmC hc hs13 mG hd).2.2.1 e e0 e1).2) h9 (fun x0 => ?_) (fun z w => ?_) (fun nh2 x0 w => ?_) (fun nh2 x0 w1 w2 => ?_) (fun nh2 w1 w2 => ?_)
                              · rcases ho2 with ⟨w, _⟩ | ⟨w1, w2, w3⟩
                                · omega
                                · have r := (NWk.2.2.2.2.2.2.2.2.2.2.2.2.2.1 x10 w1.1 w1.2).2
                                  rw [w3] at r
                                  exact ⟨r.1, (mG _ _ (by simp) (by simp)).trans (kk_nf hc (by omega) r.1).1⟩
                              · exact absurd w (nh z)
                              · rcases ho2 with ⟨w5, _⟩ | ⟨w5, w6, w7⟩
                                · omega
                                · rcases ho with ⟨_, w8⟩ | ⟨w8, oE⟩
                                  · exact absurd ⟨x10, w5, w6, w7⟩ (w8 o2)
                                  · have oo : o2 = o := kk_E1 NWk.2.2.2.2.2.2.2.2.2.2.2.1 ⟨x10, w5, w6, w7⟩ oE
                                    have W := hk2 (by omega)
                                    rw [oo] at w
                                    rcases w with u | u
                                    · exact absurd u W.1
                                    · exact absurd u W.2
                              · rcases ho with ⟨w8, _⟩ | ⟨w8, oE⟩
                                · rcases hfull w8 with u | u
                                  · exact absurd u w1
                                  · omega
                                · rcases ho2 with ⟨_, _, w5⟩ | ⟨w5, _⟩
                                  · exact absurd oE (w5 _)
                                  · omega
                              · have eo : o = o2 := by
                                  rcases ho with ⟨w8, w9⟩ | ⟨w8, oE⟩
                                  · rcases ho2 with ⟨_, w5, _⟩ | ⟨w5, w6, w7⟩
                                    · rw [w8, w5]
                                    · exact absurd ⟨x10, w5, w6, w7⟩ (w9 o2)
                                  · rcases ho2 with ⟨_, _, w5⟩ | ⟨w5, w6, w7⟩
                                    · exact absurd oE (w5 _)
                                    · exact kk_E1 NWk.2.2.2.2.2.2.2.2.2.2.2.1 oE ⟨x10, w5, w6, w7⟩
                                subst eo
                                obtain ⟨Sk, k6, kE, kP⟩ := kk_EmC hc hs13 mG h1k
                                refine m227m (ko := h (24, s, o) 0) hy (by omega) h1n h1k m1 (fun d a0 a1 => (kk_EmC hc hs13 mG ⟨a0, a1⟩).1) (((kk_EmC hc hs13 mG h1n).2.2.2 l m).2 ⟨p, hp, el, em⟩) same ?_ (fun z => by rw [k6]; exact hfull z) (fun G PG zG frG => ?_)
                                · rcases ho2 with ⟨w5, w6, w7⟩ | ⟨w5, w6, w7⟩
                                  · exact Or.inl ⟨w5, w6, fun v u => w7 v ((kP q v).1 u)⟩
                                  · have oz : o ≠ 0 := fun z => by
                                      have r := (NWk.2.2.2.2.2.2.2.2.2.2.2.2.2.1 x10 w5.1 w5.2).2.1
                                      omega
                                    have r := oR oz
                                    exact Or.inr ⟨by rw [k6]; exact w5, (kE x10 w5.1 w5.2).1.trans w6, (kE x10 w5.1 w5.2).2.trans w7, r.1, fun _ => ⟨r.2.2.2.2, r.2.2.2.1, (kk_EmC hc hs13 mG r.1).2.1.trans ((NWs o r.1.1 r.1.2).2.2.1 (hk2 oz).2), (mG _ _ (by simp) (by simp)).trans (kk_nf hc (by omega) r.1).1⟩⟩
                                rw [r_227_19 (hy := hy)]
                                obtain ⟨M, hM⟩ : ∃ M, M = 36 * s + o - 1 := ⟨_, rfl⟩
                                rw [← hM] at zG frG
                                have LS : ∀ d, 1 ≤ d → d < 37 → hst (24, s, d) 6 = G (44, 0, 0) (36 * s + d - 1) ∧ ∀ i, 0 ≤ i → i < hst (24, s, d) 6 → hst (25, s, d) i = G (45, 0, 0) (24 * (36 * s + d - 1) + i) ∧ hst (26, s, d) i = G (46, 0, 0) (24 * (36 * s + d - 1) + i) := fun d a0 a1 => by
                                  have W := SC.1 d a0 a1
                                  exact kk_Eeq W.2.2.2.2.2.2.2.2.2.2.2.1 (PG d a0 a1).1.1 W.2.1.1 (PG d a0 a1).1.2.1 (fun x v => (PE d x v).trans (((PG d a0 a1).2 x v).trans (or_congr (and_congr ((kk_EmC hc hs13 mG ⟨a0, a1⟩).2.2.2 x v) Iff.rfl) Iff.rfl)).symm)
                                have ef := fun m2 => kk_ece (h := hst) (G := G) (t := s) (fun d a0 a1 => ⟨(LS d a0 a1).1, fun i i0 i1 => ((LS d a0 a1).2 i i0 i1).2⟩) m2
                                have frN : ∀ (y : mm_Id) j, 40 ≤ y.1 → ¬ (y = (40, 0, 0) ∧ j = 0) → y.1 ≠ 44 → y.1 ≠ 45 → y.1 ≠ 46 → ¬ ((o ≠ 0 ∧ o ≠ m ∧ h (24, s, o) 0 ≠ 1) ∧ kk_cx M y j) → G y j = h y j := fun y j a0 a1 a4 a5 a6 a7 => (frG y j (fun w => a4 (by rw [w.1])) (fun w => by
                                  rcases w.1 with u | u
                                  · exact a5 (by rw [u])
                                  · exact a6 (by rw [u])) a7).trans (mG y j a0 a1)
                                have ncx : ∀ y j, kk_cx M y j → kk_mx M y j := fun y j q => by
                                  rcases q with ⟨q, q2⟩ | ⟨q, q2⟩
                                  · exact Or.inl ⟨by rcases q with q | q | q | q <;> rw [q] <;> simp [kk_mf], q2⟩
                                  · exact Or.inr (Or.inl ⟨by rw [q], q2⟩)
                                have Gh : ∀ (f : Nat) j, 62 ≤ f → f ≤ 64 → G (f, 0, 0) j = h (f, 0, 0) j := fun f j f0 f1 => frN _ _ (by show 40 ≤ f; omega) (by rintro ⟨z, _⟩; simp at z; omega) (by show f ≠ 44; omega) (by show f ≠ 45; omega) (by show f ≠ 46; omega) (fun w => by have := kk_mxr (ncx _ _ w.2); simp at this; omega)
                                have op : ∀ m2, 1 ≤ m2 → (kk_op G s m2 ↔ ∃ j, (0 ≤ j ∧ j < 8) ∧ dh j = s ∧ h (34, j, 0) 2 = m2) := fun m2 a0 => by
                                  unfold kk_op
                                  constructor
                                  · rintro ⟨i, i0, i1, q1, q2⟩
                                    rw [Gh 63 _ (by decide) (by decide)] at q1
                                    rw [Gh 62 _ (by decide) (by decide)] at q2
                                    have Hi := kk_h17 hc (i - 1) (by omega) (by omega)
                                    rw [show i - 1 + 1 = i by omega] at Hi
                                    by_cases w : mm_isD (dh (i - 1))
                                    · obtain ⟨w1, w2, w3, w4, _⟩ := Hi.1 w
                                      exact ⟨i - 1, by omega, by omega, by omega⟩
                                    · have := (Hi.2 w).1; omega
                                  · rintro ⟨j, hj, q1, q2⟩
                                    obtain ⟨w1, w2, w3, w4, _⟩ := (kk_h17 hc j hj.1 hj.2).1 (by rw [q1]; exact hD)
                                    exact ⟨j + 1, by omega, by omega, by rw [Gh 63 _ (by decide) (by decide)]; omega, by rw [Gh 62 _ (by decide) (by decide)]; omega⟩
                                have g41 : ∀ m2, 1 ≤ m2 → m2 < 37 → ((o ≠ 0 ∧ o ≠ m ∧ h (24, s, o) 0 ≠ 1) ∧ m2 = o ∧ G (41, 0, 0) (36 * s + m2 - 1) = 0) ∨ (¬ ((o ≠ 0 ∧ o ≠ m ∧ h (24, s, o) 0 ≠ 1) ∧ m2 = o) ∧ G (41, 0, 0) (36 * s + m2 - 1) = h (24, s, m2) 0) := fun m2 a0 a1 => by
                                  by_cases c : (o ≠ 0 ∧ o ≠ m ∧ h (24, s, o) 0 ≠ 1) ∧ m2 = o
                                  · exact Or.inl ⟨c.1, c.2, by rw [c.2, ← hM]; exact (zG c.1).1.1⟩
                                  · refine Or.inr ⟨c, (frN _ _ (by simp) (by simp) (by simp) (by simp) (by simp) (fun w => ?_)).trans (kk_nf hc (by omega) ⟨a0, a1⟩).1⟩
                                    rcases w.2 with ⟨_, u⟩ | ⟨u, _⟩
                                    · exact c ⟨w.1, by omega⟩
                                    · simp at u
                                have sw : ∀ m2, 1 ≤ m2 → m2 < 37 → (kk_sw G s m2 ↔ m2 = o ∧ D ∧ h (24, s, o) 0 = 1) := fun m2 a0 a1 => by
                                  unfold kk_sw
                                  rw [ef, op m2 a0]
                                  constructor
                                  · rintro ⟨b1, b2, b3⟩
                                    rcases g41 m2 a0 a1 with ⟨_, _, c⟩ | ⟨_, c⟩
                                    · omega
                                    · have k1 : h (24, s, m2) 0 = 1 := by omega
                                      have u5 := uS m2 a0 a1 (by omega)
                                      by_cases y : m2 = o ∧ o ≠ 0
                                      · refine ⟨y.1, hDD.2 ⟨y.2, by rw [← y.1]; omega, fun i i0 i1 w => b3 ⟨i, ⟨i0, i1⟩, w.1, by rw [y.1]; exact w.2⟩⟩, by rw [← y.1]; exact k1⟩
                                      · have f := f5 m2
                                        rw [if_neg y] at f
                                        exact absurd (kk_h19 hc s m2 s50 s51 a0 a1 k1 (by omega)) b3
                                  · rintro ⟨z, d, k1⟩
                                    have d2 := hDD.1 d
                                    rw [z] at a0 a1 ⊢
                                    rcases g41 o a0 a1 with ⟨c, _⟩ | ⟨_, c⟩
                                    · exact absurd k1 c.2.2
                                    · exact ⟨by omega, by rw [← uS o a0 a1 (by omega)]; exact d2.2.1, fun ⟨j, hj, w⟩ => d2.2.2 j hj.1 hj.2 w⟩
                                refine m191 hy (by omega) (fun d a0 a1 => (PG d a0 a1).1.2) (fun d a0 a1 u => by
                                  rw [← (LS d a0 a1).1]
                                  refine (SC.1 d a0 a1).2.2.1 ?_
                                  rw [k24 _ _ (by decide) (by decide) (by decide)]
                                  rcases g41 d a0 a1 with ⟨_, _, c⟩ | ⟨_, c⟩ <;> omega) (fun gm mz gmf => ?_)
                                rw [mm_pU, r_227_19_3 (hy := hy), r_227_20 (hy := hy)]
                                have gM : ∀ y j, ¬ ((D ∧ h (24, s, o) 0 = 1) ∧ kk_cx M y j) → gm y j = G y j := fun y j w => gmf y j (by
                                  rintro ⟨m2, a0, a1, q1, q2⟩
                                  obtain ⟨z, d, d1⟩ := (sw m2 a0 a1).1 q1
                                  rw [z, ← hM] at q2
                                  exact w ⟨⟨d, d1⟩, q2⟩)
                                have gz : D → kk_mz gm M := fun d => by
                                  have oz := (hDD.1 d).1
                                  have r := oR oz
                                  by_cases z : h (24, s, o) 0 = 1
                                  · have := mz o r.1.1 r.1.2 ((sw o r.1.1 r.1.2).2 ⟨rfl, d, z⟩)
                                    rw [← hM] at this
                                    exact this
                                  · have a := zG ⟨oz, (nfD oz z).2, z⟩
                                    have g2 : ∀ y j, gm y j = G y j := fun y j => gM y j (fun w => z w.1.2)
                                    exact ⟨⟨by rw [g2]; exact a.1.1, by rw [g2]; exact a.1.2.1, by rw [g2]; exact a.1.2.2.1, by rw [g2]; exact a.1.2.2.2⟩, fun p p0 p1 => by rw [g2]; exact a.2 p p0 p1⟩
                                have gN : ∀ (y : mm_Id) j, 40 ≤ y.1 → ¬ (y = (40, 0, 0) ∧ j = 0) → y.1 ≠ 44 → y.1 ≠ 45 → y.1 ≠ 46 → ¬ (D ∧ kk_cx M y j) → gm y j = h y j := fun y j a0 a1 a4 a5 a6 a7 =>
                                  (gM y j (fun w => a7 ⟨w.1.1, w.2⟩)).trans (frN y j a0 a1 a4 a5 a6 (fun w => a7 ⟨(nfD w.1.1 w.1.2.2).1, w.2⟩))
                                have ncO : ∀ (f : Nat) x j, f ≠ 41 → f ≠ 42 → f ≠ 44 → f ≠ 49 → f ≠ 43 → ¬ (D ∧ kk_cx x (f, 0, 0) j) := fun f x j a1 a2 a3 a4 a5 w => by
                                  rcases w.2 with ⟨u, _⟩ | ⟨u, _⟩
                                  · rcases u with u | u | u | u <;> simp at u <;> omega
                                  · simp at u; omega
                                have Mf : ∀ f : Nat, kk_mf f → 40 ≤ f ∧ f ≠ 40 ∧ f ≠ 43 ∧ f ≠ 45 ∧ f ≠ 46 := fun f hf => by unfold kk_mf at hf; omega
                                have cC0 : ∀ x, ¬ (D ∧ x = o) → ∀ (f : Nat) j, 24 ≤ f → f ≤ 30 → hcc (f, s, x) j = hst (f, s, x) j := fun x w f j f0 f1 => cG0 _ _ _ _ (by omega) (by omega) (by omega) (by omega) (fun u => w ⟨u.1, u.2.2.2⟩)
                                refine kk_mvT (s := s) (C := fun x => D ∧ x = o) hy hb hc ⟨s50, s51⟩ hno (fun y j _ w1 w2 => nts y j w1 w2) h40 hR SCc.1 SCc.2 (fun x w _ _ => by rw [w.2]; exact hcl w.1) (fun x w x0 x1 => ⟨fun j j4 j5 j6 => by rw [cC0 x w 24 j (by decide) (by decide)]; exact k24 x j j4 j5 j6, fun f j f0 f1 => by rw [cC0 x w f j (by omega) f1]; exact hF _ _ (by simp; omega)⟩)
                                  (fun y j a0 a1 a2 => by
                                    rw [gM y j (fun w => a1 ⟨o, (oR (hDD.1 w.1.1).1).1.1, (oR (hDD.1 w.1.1).1).1.2, by rw [← hM]; exact ncx _ _ w.2⟩), frG y j (fun w => by
                                      rcases w.2 with u | u
                                      · exact a1 ⟨n, h1n.1, h1n.2, Or.inl ⟨by rw [w.1]; exact kk_f44, u⟩⟩
                                      · exact a1 ⟨k, h1k.1, h1k.2, Or.inl ⟨by rw [w.1]; exact kk_f44, u⟩⟩) (fun w => by
                                      rcases w.2 with u | u
                                      · exact a1 ⟨n, h1n.1, h1n.2, Or.inr (Or.inr (Or.inl ⟨by rcases w.1 with v | v <;> rw [v] <;> simp, u⟩))⟩
                                      · exact a1 ⟨k, h1k.1, h1k.2, Or.inr (Or.inr (Or.inl ⟨by rcases w.1 with v | v <;> rw [v] <;> simp, u⟩))⟩) (fun w => a1 ⟨o, (oR w.1.1).1.1, (oR w.1.1).1.2, by rw [← hM]; exact ncx _ _ w.2⟩)]
                                    exact mG y j a0 a2) (fun x w _ _ => by rw [w.2, ← hM]; exact gz w.1) (fun x _ _ => gN _ _ (by simp) (by simp) (by simp) (by simp) (by simp) (ncO 53 _ _ (by decide) (by decide) (by decide) (by decide) (by decide)))
                                  (fun x w x0 x1 => ⟨fun f hf f4 => gN _ _ (Mf f hf).1 (by rintro ⟨z, _⟩; simp at z; exact (Mf f hf).2.1 z) f4 (Mf f hf).2.2.2.1 (Mf f hf).2.2.2.2 (fun u => by
                                      rcases u.2 with ⟨_, v⟩ | ⟨v, _⟩
                                      · exact w ⟨u.1, by omega⟩
                                      · simp at v; exact (Mf f hf).2.2.1 v), fun p2 _ _ => gN _ _ (by simp) (by simp) (by simp) (by simp) (by simp) (fun u => by
                                      rcases u.2 with ⟨v, _⟩ | ⟨_, v⟩
                                      · simp at v
                                      · exact w ⟨u.1, by omega⟩), fun e _ _ => ⟨gN _ _ (by simp) (by simp) (by simp) (by simp) (by simp) (ncO 50 _ _ (by decide) (by decide) (by decide) (by decide) (by decide)), gN _ _ (by simp) (by simp) (by simp) (by simp) (by simp) (ncO 51 _ _ (by decide) (by decide) (by decide) (by decide) (by decide))⟩, fun e _ _ => gN _ _ (by simp) (by simp) (by simp) (by simp) (by simp) (ncO 52 _ _ (by decide) (by decide) (by decide) (by decide) (by decide))⟩)
                                  (fun x w x0 x1 => by
                                    rw [cC0 x w 24 6 (by decide) (by decide), gM (44, 0, 0) _ (fun u => by
                                      rcases u.2 with ⟨_, v⟩ | ⟨v, _⟩
                                      · exact w ⟨u.1.1, by omega⟩
                                      · simp at v)]
                                    refine ⟨(LS x x0 x1).1, fun e e0 e1 => ?_⟩
                                    rw [cC0 x w 25 e (by decide) (by decide), cC0 x w 26 e (by decide) (by decide), gM (45, 0, 0) _ (fun u => ncO 45 _ _ (by decide) (by decide) (by decide) (by decide) (by decide) ⟨u.1.1, u.2⟩), gM (46, 0, 0) _ (fun u => ncO 46 _ _ (by decide) (by decide) (by decide) (by decide) (by decide) ⟨u.1.1, u.2⟩)]
                                    exact (LS x x0 x1).2 e e0 e1) (by
                                    rw [cC0 1 (fun w => by have := (oR (hDD.1 w.1).1).2.2.1; omega) 24 0 (by decide) (by decide), k24 _ _ (by decide) (by decide) (by decide)]
                                    exact rt) (fun x w i i0 i1 u => (hDD.1 w.1).2.2 i i0 i1 ⟨u.1, by rw [u.2]; exact w.2⟩) (fun x w x0 x1 kx k5 => by
                                    rw [cC0 x w 24 5 (by decide) (by decide), f5] at k5
                                    by_cases y : x = o ∧ o ≠ 0
                                    · refine Classical.byContradiction (fun no2 => w ⟨hDD.2 ⟨y.2, ?_, fun i i0 i1 u => no2 ⟨i, ⟨i0, i1⟩, u.1, by rw [y.1]; exact u.2⟩⟩, y.1⟩)
                                      rw [if_pos y, y.1] at k5
                                      rw [oz5 y.2]
                                      exact k5
                                    · rw [if_neg y] at k5
                                      exact kk_h19 hc s x s50 s51 x0 x1 kx k5) k1g k2g ek3 (fun x j v => by
                                    rw [gM x j (fun w => by have := kk_mxr (ncx _ _ w.2); omega), frG x j (by rintro ⟨z, _⟩; rw [z] at v; simp at v) (by rintro ⟨z, _⟩; rcases z with z | z <;> rw [z] at v <;> simp at v) (fun w => by have := kk_mxr (ncx _ _ w.2); omega)]
                                    exact mm_upne' (by rintro ⟨z, _⟩; rw [z] at v; simp at v)) (fun g2 q1 q2 => ?_)
                                rw [mm_pU, r_227_20_2 (hy := hy)]
                                exact ⟨rfl, g2, rfl, q1, q2⟩
                            by_cases oz : o = 0
                            · rw [oz]
                              refine s71z hx hD ?_
                              rw [mm_pU]
                              exact tail hst hRs (fun d => absurd oz (hDD.1 d).1) (fun _ _ _ _ => rfl)
                            · have r := oR oz
                              refine s71 hx hD r.1 (by rw [k24 _ _ (by decide) (by decide) (by decide)]; exact r.2.1) hRs ((SC.1 o r.1.1 r.1.2).2.2.2.2.2.2.1) (fun w => ?_) (fun w1 w2 h2 a1 a2 a3 => ?_)
                              · rw [mm_pU]
                                have nD : ¬ D := fun d => by
                                  have d2 := hDD.1 d
                                  rcases w with w | ⟨i, hi, w1, w2⟩
                                  · omega
                                  · rw [hF _ _ (by simp)] at w2
                                    exact d2.2.2 i hi.1 hi.2 ⟨w1, w2⟩
                                exact tail hst hRs (fun d => absurd d nD) (fun _ _ _ _ => rfl)
                              · rw [mm_pU]
                                have z5 := uS o r.1.1 r.1.2 r.2.1
                                have ecn : 0 ≤ kk_ec hst s o := kk_Snn _ (fun i _ _ => sm_nn _ (fun _ _ _ => by split <;> omega))
                                have d : D := hDD.2 ⟨oz, by omega, fun i i0 i1 w => w2 i i0 i1 ⟨w.1, by rw [hF _ _ (by simp)]; exact w.2⟩⟩
                                refine tail h2 a1 (fun _ => a2) (fun y j q1 q2 => a3 y j q1 (by rintro ⟨q3, _⟩; exact q2 ⟨d, by rw [q3]; exact ⟨by simp, by simp, rfl, rfl⟩⟩) (by rintro ⟨q3, _⟩; exact q2 ⟨d, by rw [q3]; exact ⟨by simp, by simp, rfl, rfl⟩⟩))
                      · rw [mm_pI, r_12_8_3 (htx6 := hsT) (htx7 := hsT) (hnx7 := hnN) (htx9 := hD) (hx := hx), if_pos rfl]
                        refine fin (-1) ⟨_, rfl, by omega, by omega⟩ ?_
                        have ek : ∀ (x : mm_Id) (j : Int), 40 ≤ x.1 → h x j = h x j := fun _ _ _ => rfl
                        have lk := kk_lkr h
                        have f29 : mm_up h (40, 0, 0) 0 0 (40, 0, 0) 29 = h (1, 0, 0) 12 := (mm_upj (by decide)).trans ((ek _ _ (by simp)).trans (kk_cal hc).1.symm)
                        have f41n : mm_up h (40, 0, 0) 0 0 (41, 0, 0) (36 * s + n - 1) = h (24, s, n) 0 := by rw [mm_upf (by decide)]; exact (ek _ _ (by simp)).trans (kk_nf hc (by omega) h1n).1
                        have f44n : mm_up h (40, 0, 0) 0 0 (44, 0, 0) (36 * s + n - 1) = h (24, s, n) 6 := by rw [mm_upf (by decide)]; exact (ek _ _ (by simp)).trans (kk_nf hc (by omega) h1n).2.1
                        have f49n : mm_up h (40, 0, 0) 0 0 (49, 0, 0) (36 * s + n - 1) = h (24, s, n) 11 := by rw [mm_upf (by decide)]; exact (ek _ _ (by simp)).trans (kk_nf hc (by omega) h1n).2.2.1
                        have f42n : mm_up h (40, 0, 0) 0 0 (42, 0, 0) (36 * s + n - 1) = h (24, s, n) 1 := by rw [mm_upf (by decide)]; exact (ek _ _ (by simp)).trans ((kk_nf hc (by omega) h1n).2.2.2 h2n).1
                        have f47n : mm_up h (40, 0, 0) 0 0 (47, 0, 0) (36 * s + n - 1) = h (24, s, n) 2 := by rw [mm_upf (by decide)]; exact (ek _ _ (by simp)).trans ((kk_nf hc (by omega) h1n).2.2.2 h2n).2.1
                        have f48n : mm_up h (40, 0, 0) 0 0 (48, 0, 0) (36 * s + n - 1) = h (24, s, n) 3 := by rw [mm_upf (by decide)]; exact (ek _ _ (by simp)).trans ((kk_nf hc (by omega) h1n).2.2.2 h2n).2.2
                        have f41k : mm_up h (40, 0, 0) 0 0 (41, 0, 0) (36 * s + k - 1) = h (24, s, k) 0 := by rw [mm_upf (by decide)]; exact (ek _ _ (by simp)).trans (kk_nf hc (by omega) h1k).1
                        have f44k : mm_up h (40, 0, 0) 0 0 (44, 0, 0) (36 * s + k - 1) = h (24, s, k) 6 := by rw [mm_upf (by decide)]; exact (ek _ _ (by simp)).trans (kk_nf hc (by omega) h1k).2.1
                        have f49k : mm_up h (40, 0, 0) 0 0 (49, 0, 0) (36 * s + k - 1) = h (24, s, k) 11 := by rw [mm_upf (by decide)]; exact (ek _ _ (by simp)).trans (kk_nf hc (by omega) h1k).2.2.1
                        have f42k : mm_up h (40, 0, 0) 0 0 (42, 0, 0) (36 * s + k - 1) = h (24, s, k) 1 := by rw [mm_upf (by decide)]; exact (ek _ _ (by simp)).trans ((kk_nf hc (by omega) h1k).2.2.2 h2k).1
                        have f47k : mm_up h (40, 0, 0) 0 0 (47, 0, 0) (36 * s + k - 1) = h (24, s, k) 2 := by rw [mm_upf (by decide)]; exact (ek _ _ (by simp)).trans ((kk_nf hc (by omega) h1k).2.2.2 h2k).2.1
                        have f48k : mm_up h (40, 0, 0) 0 0 (48, 0, 0) (36 * s + k - 1) = h (24, s, k) 3 := by rw [mm_upf (by decide)]; exact (ek _ _ (by simp)).trans ((kk_nf hc (by omega) h1k).2.2.2 h2k).2.2
                        rw [r_227_e (hy := hy)]
                        refine m181y hy hc (kk_lku (by decide) lk) ht hs ?_
                        rw [mm_pI, r_227_0_6 (hy := hy)]
                        refine m210y hy (by omega) h1n (by rw [f41n]; exact h3n) ?_
                        rw [mm_pI, r_227_0_11 (hy := hy), if_neg (by decide)]
                        refine m176y hy (by omega) h1k (by rw [f41k]; exact h3k) ?_
                        rw [mm_pI, r_227_0_16 (hy := hy), if_neg (by decide)]
                        refine m174y hy (by omega) ?_
                        rw [mm_pI, r_227_2_5 (hy := hy), if_neg (by decide)]
                        refine m174y hy (by omega) ?_
                        rw [mm_pI, r_227_2_11 (hy := hy), if_neg (by decide)]
                        rw [if_pos s51]
                        refine m211y hy (by omega) h1n f41n kdn ?_
                        rw [mm_pI, r_227_4_7 (hy := hy), if_neg (by decide)]
                        refine m211y hy (by omega) h1k f41k kdk ?_
                        rw [mm_pI, r_227_4_12 (hy := hy), if_neg (by decide)]
                        refine m204y hy (by omega) h1n f29 f47n f48n wn ?_
                        rw [mm_pI, r_227_6_4 (hy := hy), if_neg (by decide)]
                        refine m204y hy (by omega) h1k f29 f47k f48k wk ?_
                        rw [mm_pI, r_227_6_9 (hy := hy), if_neg (by decide)]
                        have mG : ∀ (x : mm_Id) j, 40 ≤ x.1 → ¬ (x = (40, 0, 0) ∧ j = 0) → mm_up h (40, 0, 0) 0 0 x j = h x j := fun x j a1 a2 => (mm_upne' a2).trans (ek x j a1)
                        refine m184n hy (by omega) h1n (kk_EmC hc hs13 mG h1n).2.1 NWn.2.1 (fun e e0 e1 => by rw [((kk_EmC hc hs13 mG h1n).2.2.1 e e0 e1).1]; exact ab e e0 e1) ?_
                        rw [mm_pI, r_227_8_5 (hy := hy), if_pos (by decide)]
                        exact mfin _ _ rfl
                    · rw [mm_pI, r_12_6_7 (htx6 := hsT) (htx7 := hsT) (hnx7 := hnN) (htx9 := hD) (hx := hx), if_pos rfl, r_12_7 (hx := hx)]
                      refine fin (-5) ⟨_, rfl, by omega, by omega⟩ ?_
                      have ek : ∀ (x : mm_Id) (j : Int), 40 ≤ x.1 → h x j = h x j := fun _ _ _ => rfl
                      have lk := kk_lkr h
                      have f29 : mm_up h (40, 0, 0) 0 0 (40, 0, 0) 29 = h (1, 0, 0) 12 := (mm_upj (by decide)).trans ((ek _ _ (by simp)).trans (kk_cal hc).1.symm)
                      have f41n : mm_up h (40, 0, 0) 0 0 (41, 0, 0) (36 * s + n - 1) = h (24, s, n) 0 := by rw [mm_upf (by decide)]; exact (ek _ _ (by simp)).trans (kk_nf hc (by omega) h1n).1
                      have f44n : mm_up h (40, 0, 0) 0 0 (44, 0, 0) (36 * s + n - 1) = h (24, s, n) 6 := by rw [mm_upf (by decide)]; exact (ek _ _ (by simp)).trans (kk_nf hc (by omega) h1n).2.1
                      have f49n : mm_up h (40, 0, 0) 0 0 (49, 0, 0) (36 * s + n - 1) = h (24, s, n) 11 := by rw [mm_upf (by decide)]; exact (ek _ _ (by simp)).trans (kk_nf hc (by omega) h1n).2.2.1
                      have f42n : mm_up h (40, 0, 0) 0 0 (42, 0, 0) (36 * s + n - 1) = h (24, s, n) 1 := by rw [mm_upf (by decide)]; exact (ek _ _ (by simp)).trans ((kk_nf hc (by omega) h1n).2.2.2 h2n).1
                      have f47n : mm_up h (40, 0, 0) 0 0 (47, 0, 0) (36 * s + n - 1) = h (24, s, n) 2 := by rw [mm_upf (by decide)]; exact (ek _ _ (by simp)).trans ((kk_nf hc (by omega) h1n).2.2.2 h2n).2.1
                      have f48n : mm_up h (40, 0, 0) 0 0 (48, 0, 0) (36 * s + n - 1) = h (24, s, n) 3 := by rw [mm_upf (by decide)]; exact (ek _ _ (by simp)).trans ((kk_nf hc (by omega) h1n).2.2.2 h2n).2.2
                      have f41k : mm_up h (40, 0, 0) 0 0 (41, 0, 0) (36 * s + k - 1) = h (24, s, k) 0 := by rw [mm_upf (by decide)]; exact (ek _ _ (by simp)).trans (kk_nf hc (by omega) h1k).1
                      have f44k : mm_up h (40, 0, 0) 0 0 (44, 0, 0) (36 * s + k - 1) = h (24, s, k) 6 := by rw [mm_upf (by decide)]; exact (ek _ _ (by simp)).trans (kk_nf hc (by omega) h1k).2.1
                      have f49k : mm_up h (40, 0, 0) 0 0 (49, 0, 0) (36 * s + k - 1) = h (24, s, k) 11 := by rw [mm_upf (by decide)]; exact (ek _ _ (by simp)).trans (kk_nf hc (by omega) h1k).2.2.1
                      have f42k : mm_up h (40, 0, 0) 0 0 (42, 0, 0) (36 * s + k - 1) = h (24, s, k) 1 := by rw [mm_upf (by decide)]; exact (ek _ _ (by simp)).trans ((kk_nf hc (by omega) h1k).2.2.2 h2k).1
                      have f47k : mm_up h (40, 0, 0) 0 0 (47, 0, 0) (36 * s + k - 1) = h (24, s, k) 2 := by rw [mm_upf (by decide)]; exact (ek _ _ (by simp)).trans ((kk_nf hc (by omega) h1k).2.2.2 h2k).2.1
                      have f48k : mm_up h (40, 0, 0) 0 0 (48, 0, 0) (36 * s + k - 1) = h (24, s, k) 3 := by rw [mm_upf (by decide)]; exact (ek _ _ (by simp)).trans ((kk_nf hc (by omega) h1k).2.2.2 h2k).2.2
                      rw [r_227_e (hy := hy)]
                      refine m181y hy hc (kk_lku (by decide) lk) ht hs ?_
                      rw [mm_pI, r_227_0_6 (hy := hy)]
                      refine m210y hy (by omega) h1n (by rw [f41n]; exact h3n) ?_
                      rw [mm_pI, r_227_0_11 (hy := hy), if_neg (by decide)]
                      refine m176y hy (by omega) h1k (by rw [f41k]; exact h3k) ?_
                      rw [mm_pI, r_227_0_16 (hy := hy), if_neg (by decide)]
                      refine m174y hy (by omega) ?_
                      rw [mm_pI, r_227_2_5 (hy := hy), if_neg (by decide)]
                      refine m174y hy (by omega) ?_
                      rw [mm_pI, r_227_2_11 (hy := hy), if_neg (by decide)]
                      rw [if_pos s51]
                      refine m211y hy (by omega) h1n f41n kdn ?_
                      rw [mm_pI, r_227_4_7 (hy := hy), if_neg (by decide)]
                      refine m211y hy (by omega) h1k f41k kdk ?_
                      rw [mm_pI, r_227_4_12 (hy := hy), if_neg (by decide)]
                      refine m204y hy (by omega) h1n f29 f47n f48n wn ?_
                      rw [mm_pI, r_227_6_4 (hy := hy), if_neg (by decide)]
                      refine m204n hy (by omega) h1k f29 f47k f48k wk ?_
                      rw [mm_pI, r_227_6_9 (hy := hy), if_pos rfl, r_227_7 (hy := hy)]
                      exact mfin _ _ rfl
                  · rw [mm_pI, r_12_6_3 (htx6 := hsT) (htx7 := hsT) (hnx7 := hnN) (htx8 := hsT) (hnx8 := hkN) (htx9 := hD) (hx := hx), if_pos rfl, r_12_7 (hx := hx)]
                    refine fin (-5) ⟨_, rfl, by omega, by omega⟩ ?_
                    have ek : ∀ (x : mm_Id) (j : Int), 40 ≤ x.1 → h x j = h x j := fun _ _ _ => rfl
                    have lk := kk_lkr h
                    have f29 : mm_up h (40, 0, 0) 0 0 (40, 0, 0) 29 = h (1, 0, 0) 12 := (mm_upj (by decide)).trans ((ek _ _ (by simp)).trans (kk_cal hc).1.symm)
                    have f41n : mm_up h (40, 0, 0) 0 0 (41, 0, 0) (36 * s + n - 1) = h (24, s, n) 0 := by rw [mm_upf (by decide)]; exact (ek _ _ (by simp)).trans (kk_nf hc (by omega) h1n).1
                    have f44n : mm_up h (40, 0, 0) 0 0 (44, 0, 0) (36 * s + n - 1) = h (24, s, n) 6 := by rw [mm_upf (by decide)]; exact (ek _ _ (by simp)).trans (kk_nf hc (by omega) h1n).2.1
                    have f49n : mm_up h (40, 0, 0) 0 0 (49, 0, 0) (36 * s + n - 1) = h (24, s, n) 11 := by rw [mm_upf (by decide)]; exact (ek _ _ (by simp)).trans (kk_nf hc (by omega) h1n).2.2.1
                    have f42n : mm_up h (40, 0, 0) 0 0 (42, 0, 0) (36 * s + n - 1) = h (24, s, n) 1 := by rw [mm_upf (by decide)]; exact (ek _ _ (by simp)).trans ((kk_nf hc (by omega) h1n).2.2.2 h2n).1
                    have f47n : mm_up h (40, 0, 0) 0 0 (47, 0, 0) (36 * s + n - 1) = h (24, s, n) 2 := by rw [mm_upf (by decide)]; exact (ek _ _ (by simp)).trans ((kk_nf hc (by omega) h1n).2.2.2 h2n).2.1
                    have f48n : mm_up h (40, 0, 0) 0 0 (48, 0, 0) (36 * s + n - 1) = h (24, s, n) 3 := by rw [mm_upf (by decide)]; exact (ek _ _ (by simp)).trans ((kk_nf hc (by omega) h1n).2.2.2 h2n).2.2
                    have f41k : mm_up h (40, 0, 0) 0 0 (41, 0, 0) (36 * s + k - 1) = h (24, s, k) 0 := by rw [mm_upf (by decide)]; exact (ek _ _ (by simp)).trans (kk_nf hc (by omega) h1k).1
                    have f44k : mm_up h (40, 0, 0) 0 0 (44, 0, 0) (36 * s + k - 1) = h (24, s, k) 6 := by rw [mm_upf (by decide)]; exact (ek _ _ (by simp)).trans (kk_nf hc (by omega) h1k).2.1
                    have f49k : mm_up h (40, 0, 0) 0 0 (49, 0, 0) (36 * s + k - 1) = h (24, s, k) 11 := by rw [mm_upf (by decide)]; exact (ek _ _ (by simp)).trans (kk_nf hc (by omega) h1k).2.2.1
                    have f42k : mm_up h (40, 0, 0) 0 0 (42, 0, 0) (36 * s + k - 1) = h (24, s, k) 1 := by rw [mm_upf (by decide)]; exact (ek _ _ (by simp)).trans ((kk_nf hc (by omega) h1k).2.2.2 h2k).1
                    have f47k : mm_up h (40, 0, 0) 0 0 (47, 0, 0) (36 * s + k - 1) = h (24, s, k) 2 := by rw [mm_upf (by decide)]; exact (ek _ _ (by simp)).trans ((kk_nf hc (by omega) h1k).2.2.2 h2k).2.1
                    have f48k : mm_up h (40, 0, 0) 0 0 (48, 0, 0) (36 * s + k - 1) = h (24, s, k) 3 := by rw [mm_upf (by decide)]; exact (ek _ _ (by simp)).trans ((kk_nf hc (by omega) h1k).2.2.2 h2k).2.2
                    rw [r_227_e (hy := hy)]
                    refine m181y hy hc (kk_lku (by decide) lk) ht hs ?_
                    rw [mm_pI, r_227_0_6 (hy := hy)]
                    refine m210y hy (by omega) h1n (by rw [f41n]; exact h3n) ?_
                    rw [mm_pI, r_227_0_11 (hy := hy), if_neg (by decide)]
                    refine m176y hy (by omega) h1k (by rw [f41k]; exact h3k) ?_
                    rw [mm_pI, r_227_0_16 (hy := hy), if_neg (by decide)]
                    refine m174y hy (by omega) ?_
                    rw [mm_pI, r_227_2_5 (hy := hy), if_neg (by decide)]
                    refine m174y hy (by omega) ?_
                    rw [mm_pI, r_227_2_11 (hy := hy), if_neg (by decide)]
                    rw [if_pos s51]
                    refine m211y hy (by omega) h1n f41n kdn ?_
                    rw [mm_pI, r_227_4_7 (hy := hy), if_neg (by decide)]
                    refine m211y hy (by omega) h1k f41k kdk ?_
                    rw [mm_pI, r_227_4_12 (hy := hy), if_neg (by decide)]
                    refine m204n hy (by omega) h1n f29 f47n f48n wn ?_
                    rw [mm_pI, r_227_6_4 (hy := hy), if_pos rfl, r_227_7 (hy := hy)]
                    exact mfin _ _ rfl
                · rw [if_neg kdk, r_12_5 (hx := hx)]
                  refine fin (-3) ⟨_, rfl, by omega, by omega⟩ ?_
                  have ek : ∀ (x : mm_Id) (j : Int), 40 ≤ x.1 → h x j = h x j := fun _ _ _ => rfl
                  have lk := kk_lkr h
                  have f29 : mm_up h (40, 0, 0) 0 0 (40, 0, 0) 29 = h (1, 0, 0) 12 := (mm_upj (by decide)).trans ((ek _ _ (by simp)).trans (kk_cal hc).1.symm)
                  have f41n : mm_up h (40, 0, 0) 0 0 (41, 0, 0) (36 * s + n - 1) = h (24, s, n) 0 := by rw [mm_upf (by decide)]; exact (ek _ _ (by simp)).trans (kk_nf hc (by omega) h1n).1
                  have f44n : mm_up h (40, 0, 0) 0 0 (44, 0, 0) (36 * s + n - 1) = h (24, s, n) 6 := by rw [mm_upf (by decide)]; exact (ek _ _ (by simp)).trans (kk_nf hc (by omega) h1n).2.1
                  have f49n : mm_up h (40, 0, 0) 0 0 (49, 0, 0) (36 * s + n - 1) = h (24, s, n) 11 := by rw [mm_upf (by decide)]; exact (ek _ _ (by simp)).trans (kk_nf hc (by omega) h1n).2.2.1
                  have f42n : mm_up h (40, 0, 0) 0 0 (42, 0, 0) (36 * s + n - 1) = h (24, s, n) 1 := by rw [mm_upf (by decide)]; exact (ek _ _ (by simp)).trans ((kk_nf hc (by omega) h1n).2.2.2 h2n).1
                  have f47n : mm_up h (40, 0, 0) 0 0 (47, 0, 0) (36 * s + n - 1) = h (24, s, n) 2 := by rw [mm_upf (by decide)]; exact (ek _ _ (by simp)).trans ((kk_nf hc (by omega) h1n).2.2.2 h2n).2.1
                  have f48n : mm_up h (40, 0, 0) 0 0 (48, 0, 0) (36 * s + n - 1) = h (24, s, n) 3 := by rw [mm_upf (by decide)]; exact (ek _ _ (by simp)).trans ((kk_nf hc (by omega) h1n).2.2.2 h2n).2.2
                  have f41k : mm_up h (40, 0, 0) 0 0 (41, 0, 0) (36 * s + k - 1) = h (24, s, k) 0 := by rw [mm_upf (by decide)]; exact (ek _ _ (by simp)).trans (kk_nf hc (by omega) h1k).1
                  have f44k : mm_up h (40, 0, 0) 0 0 (44, 0, 0) (36 * s + k - 1) = h (24, s, k) 6 := by rw [mm_upf (by decide)]; exact (ek _ _ (by simp)).trans (kk_nf hc (by omega) h1k).2.1
                  have f49k : mm_up h (40, 0, 0) 0 0 (49, 0, 0) (36 * s + k - 1) = h (24, s, k) 11 := by rw [mm_upf (by decide)]; exact (ek _ _ (by simp)).trans (kk_nf hc (by omega) h1k).2.2.1
                  have f42k : mm_up h (40, 0, 0) 0 0 (42, 0, 0) (36 * s + k - 1) = h (24, s, k) 1 := by rw [mm_upf (by decide)]; exact (ek _ _ (by simp)).trans ((kk_nf hc (by omega) h1k).2.2.2 h2k).1
                  have f47k : mm_up h (40, 0, 0) 0 0 (47, 0, 0) (36 * s + k - 1) = h (24, s, k) 2 := by rw [mm_upf (by decide)]; exact (ek _ _ (by simp)).trans ((kk_nf hc (by omega) h1k).2.2.2 h2k).2.1
                  have f48k : mm_up h (40, 0, 0) 0 0 (48, 0, 0) (36 * s + k - 1) = h (24, s, k) 3 := by rw [mm_upf (by decide)]; exact (ek _ _ (by simp)).trans ((kk_nf hc (by omega) h1k).2.2.2 h2k).2.2
                  rw [r_227_e (hy := hy)]
                  refine m181y hy hc (kk_lku (by decide) lk) ht hs ?_
                  rw [mm_pI, r_227_0_6 (hy := hy)]
                  refine m210y hy (by omega) h1n (by rw [f41n]; exact h3n) ?_
                  rw [mm_pI, r_227_0_11 (hy := hy), if_neg (by decide)]
                  refine m176y hy (by omega) h1k (by rw [f41k]; exact h3k) ?_
                  rw [mm_pI, r_227_0_16 (hy := hy), if_neg (by decide)]
                  refine m174y hy (by omega) ?_
                  rw [mm_pI, r_227_2_5 (hy := hy), if_neg (by decide)]
                  refine m174y hy (by omega) ?_
                  rw [mm_pI, r_227_2_11 (hy := hy), if_neg (by decide)]
                  rw [if_pos s51]
                  refine m211y hy (by omega) h1n f41n kdn ?_
                  rw [mm_pI, r_227_4_7 (hy := hy), if_neg (by decide)]
                  refine m211n hy (by omega) h1k f41k kdk ?_
                  rw [mm_pI, r_227_4_12 (hy := hy), if_pos rfl, r_227_5 (hy := hy)]
                  exact mfin _ _ rfl
              · rw [if_neg kdn, r_12_5 (hx := hx)]
                refine fin (-3) ⟨_, rfl, by omega, by omega⟩ ?_
                have ek : ∀ (x : mm_Id) (j : Int), 40 ≤ x.1 → h x j = h x j := fun _ _ _ => rfl
                have lk := kk_lkr h
                have f29 : mm_up h (40, 0, 0) 0 0 (40, 0, 0) 29 = h (1, 0, 0) 12 := (mm_upj (by decide)).trans ((ek _ _ (by simp)).trans (kk_cal hc).1.symm)
                have f41n : mm_up h (40, 0, 0) 0 0 (41, 0, 0) (36 * s + n - 1) = h (24, s, n) 0 := by rw [mm_upf (by decide)]; exact (ek _ _ (by simp)).trans (kk_nf hc (by omega) h1n).1
                have f44n : mm_up h (40, 0, 0) 0 0 (44, 0, 0) (36 * s + n - 1) = h (24, s, n) 6 := by rw [mm_upf (by decide)]; exact (ek _ _ (by simp)).trans (kk_nf hc (by omega) h1n).2.1
                have f49n : mm_up h (40, 0, 0) 0 0 (49, 0, 0) (36 * s + n - 1) = h (24, s, n) 11 := by rw [mm_upf (by decide)]; exact (ek _ _ (by simp)).trans (kk_nf hc (by omega) h1n).2.2.1
                have f42n : mm_up h (40, 0, 0) 0 0 (42, 0, 0) (36 * s + n - 1) = h (24, s, n) 1 := by rw [mm_upf (by decide)]; exact (ek _ _ (by simp)).trans ((kk_nf hc (by omega) h1n).2.2.2 h2n).1
                have f47n : mm_up h (40, 0, 0) 0 0 (47, 0, 0) (36 * s + n - 1) = h (24, s, n) 2 := by rw [mm_upf (by decide)]; exact (ek _ _ (by simp)).trans ((kk_nf hc (by omega) h1n).2.2.2 h2n).2.1
                have f48n : mm_up h (40, 0, 0) 0 0 (48, 0, 0) (36 * s + n - 1) = h (24, s, n) 3 := by rw [mm_upf (by decide)]; exact (ek _ _ (by simp)).trans ((kk_nf hc (by omega) h1n).2.2.2 h2n).2.2
                have f41k : mm_up h (40, 0, 0) 0 0 (41, 0, 0) (36 * s + k - 1) = h (24, s, k) 0 := by rw [mm_upf (by decide)]; exact (ek _ _ (by simp)).trans (kk_nf hc (by omega) h1k).1
                have f44k : mm_up h (40, 0, 0) 0 0 (44, 0, 0) (36 * s + k - 1) = h (24, s, k) 6 := by rw [mm_upf (by decide)]; exact (ek _ _ (by simp)).trans (kk_nf hc (by omega) h1k).2.1
                have f49k : mm_up h (40, 0, 0) 0 0 (49, 0, 0) (36 * s + k - 1) = h (24, s, k) 11 := by rw [mm_upf (by decide)]; exact (ek _ _ (by simp)).trans (kk_nf hc (by omega) h1k).2.2.1
                have f42k : mm_up h (40, 0, 0) 0 0 (42, 0, 0) (36 * s + k - 1) = h (24, s, k) 1 := by rw [mm_upf (by decide)]; exact (ek _ _ (by simp)).trans ((kk_nf hc (by omega) h1k).2.2.2 h2k).1
                have f47k : mm_up h (40, 0, 0) 0 0 (47, 0, 0) (36 * s + k - 1) = h (24, s, k) 2 := by rw [mm_upf (by decide)]; exact (ek _ _ (by simp)).trans ((kk_nf hc (by omega) h1k).2.2.2 h2k).2.1
                have f48k : mm_up h (40, 0, 0) 0 0 (48, 0, 0) (36 * s + k - 1) = h (24, s, k) 3 := by rw [mm_upf (by decide)]; exact (ek _ _ (by simp)).trans ((kk_nf hc (by omega) h1k).2.2.2 h2k).2.2
                rw [r_227_e (hy := hy)]
                refine m181y hy hc (kk_lku (by decide) lk) ht hs ?_
                rw [mm_pI, r_227_0_6 (hy := hy)]
                refine m210y hy (by omega) h1n (by rw [f41n]; exact h3n) ?_
                rw [mm_pI, r_227_0_11 (hy := hy), if_neg (by decide)]
                refine m176y hy (by omega) h1k (by rw [f41k]; exact h3k) ?_
                rw [mm_pI, r_227_0_16 (hy := hy), if_neg (by decide)]
                refine m174y hy (by omega) ?_
                rw [mm_pI, r_227_2_5 (hy := hy), if_neg (by decide)]
                refine m174y hy (by omega) ?_
                rw [mm_pI, r_227_2_11 (hy := hy), if_neg (by decide)]
                rw [if_pos s51]
                refine m211n hy (by omega) h1n f41n kdn ?_
                rw [mm_pI, r_227_4_7 (hy := hy), if_pos rfl, r_227_5 (hy := hy)]
                exact mfin _ _ rfl
            · have s5 : 5 ≤ s := by
                by_cases z : s < 5
                · exact absurd hs (hs5 s z)
                · omega
              rw [mm_pR, r_12_4_3 (htx6 := hsT) (htx7 := hsT) (hnx7 := hnN) (htx8 := hsT) (hnx8 := hkN) (hx := hx), r_12_5 (hx := hx)]
              refine fin (-3) ⟨_, rfl, by omega, by omega⟩ ?_
              have ek : ∀ (x : mm_Id) (j : Int), 40 ≤ x.1 → h x j = h x j := fun _ _ _ => rfl
              have lk := kk_lkr h
              have f29 : mm_up h (40, 0, 0) 0 0 (40, 0, 0) 29 = h (1, 0, 0) 12 := (mm_upj (by decide)).trans ((ek _ _ (by simp)).trans (kk_cal hc).1.symm)
              have f41n : mm_up h (40, 0, 0) 0 0 (41, 0, 0) (36 * s + n - 1) = h (24, s, n) 0 := by rw [mm_upf (by decide)]; exact (ek _ _ (by simp)).trans (kk_nf hc (by omega) h1n).1
              have f44n : mm_up h (40, 0, 0) 0 0 (44, 0, 0) (36 * s + n - 1) = h (24, s, n) 6 := by rw [mm_upf (by decide)]; exact (ek _ _ (by simp)).trans (kk_nf hc (by omega) h1n).2.1
              have f49n : mm_up h (40, 0, 0) 0 0 (49, 0, 0) (36 * s + n - 1) = h (24, s, n) 11 := by rw [mm_upf (by decide)]; exact (ek _ _ (by simp)).trans (kk_nf hc (by omega) h1n).2.2.1
              have f42n : mm_up h (40, 0, 0) 0 0 (42, 0, 0) (36 * s + n - 1) = h (24, s, n) 1 := by rw [mm_upf (by decide)]; exact (ek _ _ (by simp)).trans ((kk_nf hc (by omega) h1n).2.2.2 h2n).1
              have f47n : mm_up h (40, 0, 0) 0 0 (47, 0, 0) (36 * s + n - 1) = h (24, s, n) 2 := by rw [mm_upf (by decide)]; exact (ek _ _ (by simp)).trans ((kk_nf hc (by omega) h1n).2.2.2 h2n).2.1
              have f48n : mm_up h (40, 0, 0) 0 0 (48, 0, 0) (36 * s + n - 1) = h (24, s, n) 3 := by rw [mm_upf (by decide)]; exact (ek _ _ (by simp)).trans ((kk_nf hc (by omega) h1n).2.2.2 h2n).2.2
              have f41k : mm_up h (40, 0, 0) 0 0 (41, 0, 0) (36 * s + k - 1) = h (24, s, k) 0 := by rw [mm_upf (by decide)]; exact (ek _ _ (by simp)).trans (kk_nf hc (by omega) h1k).1
              have f44k : mm_up h (40, 0, 0) 0 0 (44, 0, 0) (36 * s + k - 1) = h (24, s, k) 6 := by rw [mm_upf (by decide)]; exact (ek _ _ (by simp)).trans (kk_nf hc (by omega) h1k).2.1
              have f49k : mm_up h (40, 0, 0) 0 0 (49, 0, 0) (36 * s + k - 1) = h (24, s, k) 11 := by rw [mm_upf (by decide)]; exact (ek _ _ (by simp)).trans (kk_nf hc (by omega) h1k).2.2.1
              have f42k : mm_up h (40, 0, 0) 0 0 (42, 0, 0) (36 * s + k - 1) = h (24, s, k) 1 := by rw [mm_upf (by decide)]; exact (ek _ _ (by simp)).trans ((kk_nf hc (by omega) h1k).2.2.2 h2k).1
              have f47k : mm_up h (40, 0, 0) 0 0 (47, 0, 0) (36 * s + k - 1) = h (24, s, k) 2 := by rw [mm_upf (by decide)]; exact (ek _ _ (by simp)).trans ((kk_nf hc (by omega) h1k).2.2.2 h2k).2.1
              have f48k : mm_up h (40, 0, 0) 0 0 (48, 0, 0) (36 * s + k - 1) = h (24, s, k) 3 := by rw [mm_upf (by decide)]; exact (ek _ _ (by simp)).trans ((kk_nf hc (by omega) h1k).2.2.2 h2k).2.2
              rw [r_227_e (hy := hy)]
              refine m181y hy hc (kk_lku (by decide) lk) ht hs ?_
              rw [mm_pI, r_227_0_6 (hy := hy)]
              refine m210y hy (by omega) h1n (by rw [f41n]; exact h3n) ?_
              rw [mm_pI, r_227_0_11 (hy := hy), if_neg (by decide)]
              refine m176y hy (by omega) h1k (by rw [f41k]; exact h3k) ?_
              rw [mm_pI, r_227_0_16 (hy := hy), if_neg (by decide)]
              refine m174y hy (by omega) ?_
              rw [mm_pI, r_227_2_5 (hy := hy), if_neg (by decide)]
              refine m174y hy (by omega) ?_
              rw [mm_pI, r_227_2_11 (hy := hy), if_neg (by decide)]
              rw [if_neg (show ¬ s < 5 by omega), r_227_5 (hy := hy)]
              exact mfin _ _ rfl
          · rw [mm_pI, r_12_2_7 (htx6 := hsT) (htx7 := hsT) (hnx7 := hnN) (htx8 := hsT) (hnx8 := hkN) (hx := hx), if_pos rfl, r_12_3 (hx := hx)]
            refine fin (-2) ⟨_, rfl, by omega, by omega⟩ ?_
            have ek : ∀ (x : mm_Id) (j : Int), 40 ≤ x.1 → h x j = h x j := fun _ _ _ => rfl
            have lk := kk_lkr h
            have f29 : mm_up h (40, 0, 0) 0 0 (40, 0, 0) 29 = h (1, 0, 0) 12 := (mm_upj (by decide)).trans ((ek _ _ (by simp)).trans (kk_cal hc).1.symm)
            have f41n : mm_up h (40, 0, 0) 0 0 (41, 0, 0) (36 * s + n - 1) = h (24, s, n) 0 := by rw [mm_upf (by decide)]; exact (ek _ _ (by simp)).trans (kk_nf hc (by omega) h1n).1
            have f44n : mm_up h (40, 0, 0) 0 0 (44, 0, 0) (36 * s + n - 1) = h (24, s, n) 6 := by rw [mm_upf (by decide)]; exact (ek _ _ (by simp)).trans (kk_nf hc (by omega) h1n).2.1
            have f49n : mm_up h (40, 0, 0) 0 0 (49, 0, 0) (36 * s + n - 1) = h (24, s, n) 11 := by rw [mm_upf (by decide)]; exact (ek _ _ (by simp)).trans (kk_nf hc (by omega) h1n).2.2.1
            have f42n : mm_up h (40, 0, 0) 0 0 (42, 0, 0) (36 * s + n - 1) = h (24, s, n) 1 := by rw [mm_upf (by decide)]; exact (ek _ _ (by simp)).trans ((kk_nf hc (by omega) h1n).2.2.2 h2n).1
            have f47n : mm_up h (40, 0, 0) 0 0 (47, 0, 0) (36 * s + n - 1) = h (24, s, n) 2 := by rw [mm_upf (by decide)]; exact (ek _ _ (by simp)).trans ((kk_nf hc (by omega) h1n).2.2.2 h2n).2.1
            have f48n : mm_up h (40, 0, 0) 0 0 (48, 0, 0) (36 * s + n - 1) = h (24, s, n) 3 := by rw [mm_upf (by decide)]; exact (ek _ _ (by simp)).trans ((kk_nf hc (by omega) h1n).2.2.2 h2n).2.2
            have f41k : mm_up h (40, 0, 0) 0 0 (41, 0, 0) (36 * s + k - 1) = h (24, s, k) 0 := by rw [mm_upf (by decide)]; exact (ek _ _ (by simp)).trans (kk_nf hc (by omega) h1k).1
            have f44k : mm_up h (40, 0, 0) 0 0 (44, 0, 0) (36 * s + k - 1) = h (24, s, k) 6 := by rw [mm_upf (by decide)]; exact (ek _ _ (by simp)).trans (kk_nf hc (by omega) h1k).2.1
            have f49k : mm_up h (40, 0, 0) 0 0 (49, 0, 0) (36 * s + k - 1) = h (24, s, k) 11 := by rw [mm_upf (by decide)]; exact (ek _ _ (by simp)).trans (kk_nf hc (by omega) h1k).2.2.1
            have f42k : mm_up h (40, 0, 0) 0 0 (42, 0, 0) (36 * s + k - 1) = h (24, s, k) 1 := by rw [mm_upf (by decide)]; exact (ek _ _ (by simp)).trans ((kk_nf hc (by omega) h1k).2.2.2 h2k).1
            have f47k : mm_up h (40, 0, 0) 0 0 (47, 0, 0) (36 * s + k - 1) = h (24, s, k) 2 := by rw [mm_upf (by decide)]; exact (ek _ _ (by simp)).trans ((kk_nf hc (by omega) h1k).2.2.2 h2k).2.1
            have f48k : mm_up h (40, 0, 0) 0 0 (48, 0, 0) (36 * s + k - 1) = h (24, s, k) 3 := by rw [mm_upf (by decide)]; exact (ek _ _ (by simp)).trans ((kk_nf hc (by omega) h1k).2.2.2 h2k).2.2
            rw [r_227_e (hy := hy)]
            refine m181y hy hc (kk_lku (by decide) lk) ht hs ?_
            rw [mm_pI, r_227_0_6 (hy := hy)]
            refine m210y hy (by omega) h1n (by rw [f41n]; exact h3n) ?_
            rw [mm_pI, r_227_0_11 (hy := hy), if_neg (by decide)]
            refine m176y hy (by omega) h1k (by rw [f41k]; exact h3k) ?_
            rw [mm_pI, r_227_0_16 (hy := hy), if_neg (by decide)]
            refine m174y hy (by omega) ?_
            rw [mm_pI, r_227_2_5 (hy := hy), if_neg (by decide)]
            refine m174n hy wq ?_
            rw [mm_pI, r_227_2_11 (hy := hy), if_pos rfl, r_227_3 (hy := hy)]
            exact mfin _ _ rfl
        · rw [mm_pI, r_12_2_3 (htx6 := hsT) (htx7 := hsT) (hnx7 := hnN) (htx8 := hsT) (hnx8 := hkN) (hx := hx), if_pos rfl, r_12_3 (hx := hx)]
          refine fin (-2) ⟨_, rfl, by omega, by omega⟩ ?_
          have ek : ∀ (x : mm_Id) (j : Int), 40 ≤ x.1 → h x j = h x j := fun _ _ _ => rfl
          have lk := kk_lkr h
          have f29 : mm_up h (40, 0, 0) 0 0 (40, 0, 0) 29 = h (1, 0, 0) 12 := (mm_upj (by decide)).trans ((ek _ _ (by simp)).trans (kk_cal hc).1.symm)
          have f41n : mm_up h (40, 0, 0) 0 0 (41, 0, 0) (36 * s + n - 1) = h (24, s, n) 0 := by rw [mm_upf (by decide)]; exact (ek _ _ (by simp)).trans (kk_nf hc (by omega) h1n).1
          have f44n : mm_up h (40, 0, 0) 0 0 (44, 0, 0) (36 * s + n - 1) = h (24, s, n) 6 := by rw [mm_upf (by decide)]; exact (ek _ _ (by simp)).trans (kk_nf hc (by omega) h1n).2.1
          have f49n : mm_up h (40, 0, 0) 0 0 (49, 0, 0) (36 * s + n - 1) = h (24, s, n) 11 := by rw [mm_upf (by decide)]; exact (ek _ _ (by simp)).trans (kk_nf hc (by omega) h1n).2.2.1
          have f42n : mm_up h (40, 0, 0) 0 0 (42, 0, 0) (36 * s + n - 1) = h (24, s, n) 1 := by rw [mm_upf (by decide)]; exact (ek _ _ (by simp)).trans ((kk_nf hc (by omega) h1n).2.2.2 h2n).1
          have f47n : mm_up h (40, 0, 0) 0 0 (47, 0, 0) (36 * s + n - 1) = h (24, s, n) 2 := by rw [mm_upf (by decide)]; exact (ek _ _ (by simp)).trans ((kk_nf hc (by omega) h1n).2.2.2 h2n).2.1
          have f48n : mm_up h (40, 0, 0) 0 0 (48, 0, 0) (36 * s + n - 1) = h (24, s, n) 3 := by rw [mm_upf (by decide)]; exact (ek _ _ (by simp)).trans ((kk_nf hc (by omega) h1n).2.2.2 h2n).2.2
          have f41k : mm_up h (40, 0, 0) 0 0 (41, 0, 0) (36 * s + k - 1) = h (24, s, k) 0 := by rw [mm_upf (by decide)]; exact (ek _ _ (by simp)).trans (kk_nf hc (by omega) h1k).1
          have f44k : mm_up h (40, 0, 0) 0 0 (44, 0, 0) (36 * s + k - 1) = h (24, s, k) 6 := by rw [mm_upf (by decide)]; exact (ek _ _ (by simp)).trans (kk_nf hc (by omega) h1k).2.1
          have f49k : mm_up h (40, 0, 0) 0 0 (49, 0, 0) (36 * s + k - 1) = h (24, s, k) 11 := by rw [mm_upf (by decide)]; exact (ek _ _ (by simp)).trans (kk_nf hc (by omega) h1k).2.2.1
          have f42k : mm_up h (40, 0, 0) 0 0 (42, 0, 0) (36 * s + k - 1) = h (24, s, k) 1 := by rw [mm_upf (by decide)]; exact (ek _ _ (by simp)).trans ((kk_nf hc (by omega) h1k).2.2.2 h2k).1
          have f47k : mm_up h (40, 0, 0) 0 0 (47, 0, 0) (36 * s + k - 1) = h (24, s, k) 2 := by rw [mm_upf (by decide)]; exact (ek _ _ (by simp)).trans ((kk_nf hc (by omega) h1k).2.2.2 h2k).2.1
          have f48k : mm_up h (40, 0, 0) 0 0 (48, 0, 0) (36 * s + k - 1) = h (24, s, k) 3 := by rw [mm_upf (by decide)]; exact (ek _ _ (by simp)).trans ((kk_nf hc (by omega) h1k).2.2.2 h2k).2.2
          rw [r_227_e (hy := hy)]
          refine m181y hy hc (kk_lku (by decide) lk) ht hs ?_
          rw [mm_pI, r_227_0_6 (hy := hy)]
          refine m210y hy (by omega) h1n (by rw [f41n]; exact h3n) ?_
          rw [mm_pI, r_227_0_11 (hy := hy), if_neg (by decide)]
          refine m176y hy (by omega) h1k (by rw [f41k]; exact h3k) ?_
          rw [mm_pI, r_227_0_16 (hy := hy), if_neg (by decide)]
          refine m174n hy wl ?_
          rw [mm_pI, r_227_2_5 (hy := hy), if_pos rfl, r_227_3 (hy := hy)]
          exact mfin _ _ rfl
      · rw [mm_pR, r_12_0_13c (htx6 := hsT) (htx7 := hsT) (hnx7 := hnN) (hx := hx), r_12_1 (hx := hx)]
        refine fin (-1) ⟨_, rfl, by omega, by omega⟩ ?_
        have ek : ∀ (x : mm_Id) (j : Int), 40 ≤ x.1 → h x j = h x j := fun _ _ _ => rfl
        have lk := kk_lkr h
        have f29 : mm_up h (40, 0, 0) 0 0 (40, 0, 0) 29 = h (1, 0, 0) 12 := (mm_upj (by decide)).trans ((ek _ _ (by simp)).trans (kk_cal hc).1.symm)
        have f41n : mm_up h (40, 0, 0) 0 0 (41, 0, 0) (36 * s + n - 1) = h (24, s, n) 0 := by rw [mm_upf (by decide)]; exact (ek _ _ (by simp)).trans (kk_nf hc (by omega) h1n).1
        have f44n : mm_up h (40, 0, 0) 0 0 (44, 0, 0) (36 * s + n - 1) = h (24, s, n) 6 := by rw [mm_upf (by decide)]; exact (ek _ _ (by simp)).trans (kk_nf hc (by omega) h1n).2.1
        have f49n : mm_up h (40, 0, 0) 0 0 (49, 0, 0) (36 * s + n - 1) = h (24, s, n) 11 := by rw [mm_upf (by decide)]; exact (ek _ _ (by simp)).trans (kk_nf hc (by omega) h1n).2.2.1
        have f42n : mm_up h (40, 0, 0) 0 0 (42, 0, 0) (36 * s + n - 1) = h (24, s, n) 1 := by rw [mm_upf (by decide)]; exact (ek _ _ (by simp)).trans ((kk_nf hc (by omega) h1n).2.2.2 h2n).1
        have f47n : mm_up h (40, 0, 0) 0 0 (47, 0, 0) (36 * s + n - 1) = h (24, s, n) 2 := by rw [mm_upf (by decide)]; exact (ek _ _ (by simp)).trans ((kk_nf hc (by omega) h1n).2.2.2 h2n).2.1
        have f48n : mm_up h (40, 0, 0) 0 0 (48, 0, 0) (36 * s + n - 1) = h (24, s, n) 3 := by rw [mm_upf (by decide)]; exact (ek _ _ (by simp)).trans ((kk_nf hc (by omega) h1n).2.2.2 h2n).2.2
        rw [r_227_e (hy := hy)]
        refine m181y hy hc (kk_lku (by decide) lk) ht hs ?_
        rw [mm_pI, r_227_0_6 (hy := hy)]
        refine m210y hy (by omega) h1n (by rw [f41n]; exact h3n) ?_
        rw [mm_pI, r_227_0_11 (hy := hy), if_neg (by decide)]
        refine m176z hy (by omega) (fun w => hk0 ((kk_isn hc (by omega)).2 ⟨w.1, by rw [mm_upf (by decide)] at w; exact w.2⟩)) ?_
        rw [mm_pI, r_227_0_16 (hy := hy), if_pos rfl, r_227_1 (hy := hy)]
        exact mfin _ _ rfl
    · rw [mm_pR, r_12_0_8a (htx6 := hsT) (hx := hx)]
      refine s56 hsT hx (fun h1k _ => ?_) (fun _ => ?_)
      · rw [mm_pR, r_12_0_13b (htx6 := hsT) (hty0 := hsT) (hny0 := ⟨by omega, h1k.2⟩) (hx := hx), r_12_1 (hx := hx)]
        refine fin (-1) ⟨_, rfl, by omega, by omega⟩ ?_
        have ek : ∀ (x : mm_Id) (j : Int), 40 ≤ x.1 → h x j = h x j := fun _ _ _ => rfl
        have lk := kk_lkr h
        rw [r_227_e (hy := hy)]
        refine m181y hy hc (kk_lku (by decide) lk) ht hs ?_
        rw [mm_pI, r_227_0_6 (hy := hy)]
        refine m210z hy (by omega) (fun w => hn0 ((kk_isn hc (by omega)).2 ⟨w.1, by rw [mm_upf (by decide)] at w; exact w.2⟩)) ?_
        rw [mm_pI, r_227_0_11 (hy := hy), if_pos rfl, r_227_1 (hy := hy)]
        exact mfin _ _ rfl
      · rw [mm_pR, r_12_0_13a (htx6 := hsT) (hx := hx), r_12_1 (hx := hx)]
        refine fin (-1) ⟨_, rfl, by omega, by omega⟩ ?_
        have ek : ∀ (x : mm_Id) (j : Int), 40 ≤ x.1 → h x j = h x j := fun _ _ _ => rfl
        have lk := kk_lkr h
        rw [r_227_e (hy := hy)]
        refine m181y hy hc (kk_lku (by decide) lk) ht hs ?_
        rw [mm_pI, r_227_0_6 (hy := hy)]
        refine m210z hy (by omega) (fun w => hn0 ((kk_isn hc (by omega)).2 ⟨w.1, by rw [mm_upf (by decide)] at w; exact w.2⟩)) ?_
        rw [mm_pI, r_227_0_11 (hy := hy), if_pos rfl, r_227_1 (hy := hy)]
        exact mfin _ _ rfl
  · rw [mm_pR, r_12_0_3 (hx := hx)]
    refine s56n hx ?_
    rw [mm_pR, r_12_0_8 (hx := hx)]
    refine s56n hx ?_
    rw [mm_pR, r_12_0_13 (hx := hx), r_12_1 (hx := hx)]
    refine fin (-1) ⟨_, rfl, by omega, by omega⟩ ?_
    have ek : ∀ (x : mm_Id) (j : Int), 40 ≤ x.1 → h x j = h x j := fun _ _ _ => rfl
    have lk := kk_lkr h
    rw [r_227_e (hy := hy)]
    refine m181n hy hc (kk_lku (by decide) lk) ht hs ?_
    rw [mm_pI, r_227_0_6 (hy := hy)]
    refine m210n hy ?_
    rw [mm_pI, r_227_0_11 (hy := hy), if_pos rfl, r_227_1 (hy := hy)]
    exact mfin _ _ rfl


