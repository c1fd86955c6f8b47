/-! the calls of both: rename -/
theorem c_12 {b : Int} {h : mm_Id → Int → Int} {dh : Int → Int} {nx ns : Int} (hy : 5306 ≤ nx) (hc : kk_core b h dh) (hb : b + 1 ≤ 1000000) {t n l k q : Int} (ht : -2147483648 ≤ t ∧ t < 2147483648) (hn : -2147483648 ≤ n ∧ n < 2147483648) (hl : -2147483648 ≤ l ∧ l < 2147483648) (hk : -2147483648 ≤ k ∧ k < 2147483648) (hq : -2147483648 ≤ q ∧ q < 2147483648) : kk_call 12 227 [zI t, zI n, zI l, zI k, zI q] b h dh nx ns kk_SI := by
  unfold kk_call
  have hx : 5275 ≤ nx := by omega
  have hc0 : kk_core b (mm_up h (40, 0, 0) 0 0) dh := kk_core0 hc
  have fin : ∀ v, kk_SI (zI v) → mm_Cl 227 [zR (40, 0, 0), zI t, zI n, zI l, zI k, zI q] (mm_z h dh nx ns) (fun (r2 : mm_V) (h2 : mm_H) => r2 = zI v ∧ ∃ g2, h2 = mm_z g2 dh nx ns ∧ kk_core (b + 1) g2 dh ∧ ∀ x j, kk_scr x j → g2 x j = h x j) →
      (fun (r : mm_V) (h1 : mm_H) => kk_SI r ∧ ∃ g dh1, h1 = mm_z g dh1 nx ns ∧ mm_Cl 227 [zR (40, 0, 0), zI t, zI n, zI l, zI k, zI q] (mm_z g dh1 nx ns) (fun r2 h2 => r2 = r ∧ ∃ g2, h2 = mm_z g2 dh1 nx ns ∧ kk_core (b + 1) g2 dh1 ∧ ∀ x j, kk_scr x j → g2 x j = h x j)) (zI v) (mm_z h dh nx ns) :=
    fun v h1 h2 => ⟨h1, h, dh, rfl, h2⟩
  have mfin : ∀ v w : Int, w = v → (fun (r2 : mm_V) (h2 : mm_H) => r2 = zI v ∧ ∃ g2, h2 = mm_z g2 dh nx ns ∧ kk_core (b + 1) g2 dh ∧ ∀ x j, kk_scr x j → g2 x j = h x j) (zI w) (mm_z (mm_up h (40, 0, 0) 0 0) dh nx ns) :=
    fun v w e => ⟨by rw [e], _, rfl, kk_coreS hb hc0, fun x j hs => kk_scr0 hs⟩
  rw [r_12_e (hx := hx)]
  refine s55 hx (kk_nmC hc) ht.1 ht.2 (fun s hs => ?_) (fun hs => ?_)
  · have hsT := mm_T13 hs.1
    have hs13 := hs.1
    rw [mm_pR, r_12_0_3a (hty0 := hsT) (hx := hx)]
    refine s56 hsT hx (fun h1n h2n => ?_) (fun hn0 => ?_)
    · have hnN : mm_isN n := ⟨by omega, h1n.2⟩
      have NWn := kk_NWC hc hsT h1n
      have h3n : 0 < h (24, s, n) 0 := by
        have := NWn.1.1
        omega
      rw [mm_pR, r_12_0_8b (htx6 := hsT) (hty0 := hsT) (hny0 := hnN) (hx := hx)]
      refine s56 hsT hx (fun h1k h2k => ?_) (fun hk0 => ?_)
      · have hkN : mm_isN k := ⟨by omega, h1k.2⟩
        have NWk := kk_NWC hc hsT h1k
        have h3k : 0 < h (24, s, k) 0 := by
          have := NWk.1.1
          omega
        rw [mm_pR, r_12_0_13d (htx6 := hsT) (htx7 := hsT) (hnx7 := hnN) (hty0 := hsT) (hny0 := hkN) (hx := hx)]
        refine s58 hx (fun wl => ?_) (fun wl => ?_)
        · rw [mm_pI, r_12_2_3 (htx6 := hsT) (htx7 := hsT) (hnx7 := hnN) (htx8 := hsT) (hnx8 := hkN) (hx := hx), if_neg (by decide)]
          refine s58 hx (fun wq => ?_) (fun wq => ?_)
          · rw [mm_pI, r_12_2_7 (htx6 := hsT) (htx7 := hsT) (hnx7 := hnN) (htx8 := hsT) (hnx8 := hkN) (hx := hx), if_neg (by decide)]
            refine s53t hx (kk_nmC hc) (fun s5 s50 s51 hs5 => ?_) (fun hs5 => ?_)
            · have e5 := (kk_tp1 hs5 hs).symm
              subst e5
              have hD : mm_isD s := ⟨s50, s51⟩
              have hno := kk_tpp hs
              rw [mm_pR, r_12_4_3a (htx6 := hsT) (htx7 := hsT) (hnx7 := hnN) (htx8 := hsT) (hnx8 := hkN) (hty0 := hD) (hx := hx)]
              by_cases kdn : h (24, s, n) 0 = 2
              · rw [if_pos kdn]
                by_cases kdk : h (24, s, k) 0 = 2
                · rw [if_pos kdk]
                  refine s61 hsT hnN hx (fun wn => ?_) (fun wn => ?_)
                  · rw [mm_pI, r_12_6_3 (htx6 := hsT) (htx7 := hsT) (hnx7 := hnN) (htx8 := hsT) (hnx8 := hkN) (htx9 := hD) (hx := hx), if_neg (by decide)]
                    refine s61 hsT hkN hx (fun wk => ?_) (fun wk => ?_)
                    · rw [mm_pI, r_12_6_7 (htx6 := hsT) (htx7 := hsT) (hnx7 := hnN) (htx9 := hD) (hx := hx), if_neg (by decide)]
                      have srtn := NWn.2.2.2.2.2.2.2.2.2.2.2.1
                      refine s99 hsT hnN hx NWn.2.1 srtn (fun p p0 p1 el => ?_) (fun ab => ?_)
                      · have hp : 0 ≤ p ∧ p < h (24, s, n) 6 := ⟨p0, p1⟩
                        obtain ⟨m, em⟩ : ∃ m, h (26, s, n) p = m := ⟨_, rfl⟩
                        have mr := (NWn.2.2.2.2.2.2.2.2.2.2.2.2.2.1 p p0 p1).2
                        rw [em] at mr ⊢
                        have m1 := mr.1
                        have km := mr.2
                        have NWs : ∀ m2, 1 ≤ m2 → m2 < 37 → kk_NW h s m2 := fun m2 a0 a1 => kk_NWC hc hsT ⟨a0, a1⟩
                        have T := kk_TWC hc hsT
                        rw [mm_pI, r_12_8_3 (htx6 := hsT) (htx7 := hsT) (hnx7 := hnN) (htx9 := hD) (hx := hx), if_neg (by omega)]
                        by_cases same : n = k ∧ l = q
                        · rw [if_pos same.1, if_pos same.2]
                          rw [r_12_12 (htx9 := hD) (hx := hx)]
                          refine s63t hx hc hD (fun _ _ _ _ => rfl) hc.1.1.2.2.2.2.2.2.2.1 (fun m2 a0 a1 => ⟨(NWs m2 a0 a1).2.2.2.2.2.1, (NWs m2 a0 a1).2.2.2.1, (NWs m2 a0 a1).2.2.2.2.2.2.1⟩) (fun g k1g k2g ek3 no => ?_)
                          rw [mm_pU, r_12_12_3 (hx := hx)]
                          refine ⟨⟨_, rfl, by omega, by omega⟩, g, dh, rfl, ?_⟩
                          have ek : ∀ x j, 40 ≤ x.1 → g x j = h x j := k2g
                          have lk : kk_lk h g := ⟨fun s2 _ _ => no s2, fun k k0 k9 => ek _ _ (by simp)⟩
                          have f29 : mm_up g (40, 0, 0) 0 0 (40, 0, 0) 29 = h (1, 0, 0) 12 := (mm_upj (by decide)).trans ((ek _ _ (by simp)).trans (kk_cal hc).1.symm)
                          have f41n : mm_up g (40, 0, 0) 0 0 (41, 0, 0) (36 * s + n - 1) = h (24, s, n) 0 := by rw [mm_upf (by decide)]; exact (ek _ _ (by simp)).trans (kk_nf hc (by omega) h1n).1
                          have f44n : mm_up g (40, 0, 0) 0 0 (44, 0, 0) (36 * s + n - 1) = h (24, s, n) 6 := by rw [mm_upf (by decide)]; exact (ek _ _ (by simp)).trans (kk_nf hc (by omega) h1n).2.1
                          have f49n : mm_up g (40, 0, 0) 0 0 (49, 0, 0) (36 * s + n - 1) = h (24, s, n) 11 := by rw [mm_upf (by decide)]; exact (ek _ _ (by simp)).trans (kk_nf hc (by omega) h1n).2.2.1
                          have f42n : mm_up g (40, 0, 0) 0 0 (42, 0, 0) (36 * s + n - 1) = h (24, s, n) 1 := by rw [mm_upf (by decide)]; exact (ek _ _ (by simp)).trans ((kk_nf hc (by omega) h1n).2.2.2 h2n).1
                          have f47n : mm_up g (40, 0, 0) 0 0 (47, 0, 0) (36 * s + n - 1) = h (24, s, n) 2 := by rw [mm_upf (by decide)]; exact (ek _ _ (by simp)).trans ((kk_nf hc (by omega) h1n).2.2.2 h2n).2.1
                          have f48n : mm_up g (40, 0, 0) 0 0 (48, 0, 0) (36 * s + n - 1) = h (24, s, n) 3 := by rw [mm_upf (by decide)]; exact (ek _ _ (by simp)).trans ((kk_nf hc (by omega) h1n).2.2.2 h2n).2.2
                          have f41k : mm_up g (40, 0, 0) 0 0 (41, 0, 0) (36 * s + k - 1) = h (24, s, k) 0 := by rw [mm_upf (by decide)]; exact (ek _ _ (by simp)).trans (kk_nf hc (by omega) h1k).1
                          have f44k : mm_up g (40, 0, 0) 0 0 (44, 0, 0) (36 * s + k - 1) = h (24, s, k) 6 := by rw [mm_upf (by decide)]; exact (ek _ _ (by simp)).trans (kk_nf hc (by omega) h1k).2.1
                          have f49k : mm_up g (40, 0, 0) 0 0 (49, 0, 0) (36 * s + k - 1) = h (24, s, k) 11 := by rw [mm_upf (by decide)]; exact (ek _ _ (by simp)).trans (kk_nf hc (by omega) h1k).2.2.1
                          have f42k : mm_up g (40, 0, 0) 0 0 (42, 0, 0) (36 * s + k - 1) = h (24, s, k) 1 := by rw [mm_upf (by decide)]; exact (ek _ _ (by simp)).trans ((kk_nf hc (by omega) h1k).2.2.2 h2k).1
                          have f47k : mm_up g (40, 0, 0) 0 0 (47, 0, 0) (36 * s + k - 1) = h (24, s, k) 2 := by rw [mm_upf (by decide)]; exact (ek _ _ (by simp)).trans ((kk_nf hc (by omega) h1k).2.2.2 h2k).2.1
                          have f48k : mm_up g (40, 0, 0) 0 0 (48, 0, 0) (36 * s + k - 1) = h (24, s, k) 3 := by rw [mm_upf (by decide)]; exact (ek _ _ (by simp)).trans ((kk_nf hc (by omega) h1k).2.2.2 h2k).2.2
                          rw [r_227_e (hy := hy)]
                          refine m181y hy hc (kk_lku (by decide) lk) ht hs ?_
                          rw [mm_pI, r_227_0_6 (hy := hy)]
                          refine m210y hy (by omega) h1n (by rw [f41n]; exact h3n) ?_
                          rw [mm_pI, r_227_0_11 (hy := hy), if_neg (by decide)]
                          refine m176y hy (by omega) h1k (by rw [f41k]; exact h3k) ?_
                          rw [mm_pI, r_227_0_16 (hy := hy), if_neg (by decide)]
                          refine m174y hy (by omega) ?_
                          rw [mm_pI, r_227_2_5 (hy := hy), if_neg (by decide)]
                          refine m174y hy (by omega) ?_
                          rw [mm_pI, r_227_2_11 (hy := hy), if_neg (by decide)]
                          rw [if_pos s51]
                          refine m211y hy (by omega) h1n f41n kdn ?_
                          rw [mm_pI, r_227_4_7 (hy := hy), if_neg (by decide)]
                          refine m211y hy (by omega) h1k f41k kdk ?_
                          rw [mm_pI, r_227_4_12 (hy := hy), if_neg (by decide)]
                          refine m204y hy (by omega) h1n f29 f47n f48n wn ?_
                          rw [mm_pI, r_227_6_4 (hy := hy), if_neg (by decide)]
                          refine m204y hy (by omega) h1k f29 f47k f48k wk ?_
                          rw [mm_pI, r_227_6_9 (hy := hy), if_neg (by decide)]
                          have mG : ∀ (x : mm_Id) j, 40 ≤ x.1 → ¬ (x = (40, 0, 0) ∧ j = 0) → mm_up g (40, 0, 0) 0 0 x j = h x j := fun x j a1 a2 => (mm_upne' a2).trans (ek x j a1)
                          refine m227p (k := k) (q := q) hy hc hs13 h1n h1k mG hp el em (fun x9 x10 o2 h9 ho2 => ?_)
                          have x0 : ¬ x10 < 0 := fun w => by
                            rcases ho2 with ⟨_, _, w5⟩ | ⟨w5, _⟩
                            · exact w5 m ⟨p, by rw [← same.1]; exact hp, by rw [← same.1, el]; exact same.2, by rw [← same.1]; exact em⟩
                            · omega
                          rw [r_227_11 (hy := hy), if_pos same.1, if_pos same.2, r_227_13 (hy := hy), if_neg (by decide), r_227_14 (hy := hy), if_neg x0, if_neg (by decide), r_227_16 (hy := hy), if_neg x0, r_227_17 (hy := hy), if_neg (by decide), r_227_20 (hy := hy)]
                          have M : ∀ f : Nat, kk_mf f → 40 ≤ f ∧ f ≠ 40 := fun f hf => by unfold kk_mf at hf; omega
                          refine kk_mvT (s := s) (C := fun _ => False) hy hb hc ⟨s50, s51⟩ hno (fun _ _ _ _ _ => rfl) (fun _ _ _ => rfl) hc.1.1.2.2.2.2.2.2.2.1 NWs T (fun _ w => w.elim) (fun _ _ _ _ => ⟨fun _ _ _ _ => rfl, fun _ _ _ _ => rfl⟩) (fun y j a0 a1 a2 => mG y j a0 a2) (fun _ w => w.elim) (fun _ _ _ => mG _ _ (by simp) (by simp)) (fun x _ x0 x1 => ⟨fun f hf _ => mG _ _ (M f hf).1 (by rintro ⟨z, _⟩; simp at z; exact (M f hf).2 z), fun _ _ _ => mG _ _ (by simp) (by simp), fun _ _ _ => ⟨mG _ _ (by simp) (by simp), mG _ _ (by simp) (by simp)⟩, fun _ _ _ => mG _ _ (by simp) (by simp)⟩) (fun x _ x0 x1 => ⟨(kk_EmC hc hs13 mG ⟨x0, x1⟩).2.1.symm, fun e e0 e1 => ⟨((kk_EmC hc hs13 mG ⟨x0, x1⟩).2.2.1 e e0 e1).1.symm, ((kk_EmC hc hs13 mG ⟨x0, x1⟩).2.2.1 e e0 e1).2.symm⟩⟩) (hc.1.2.2.1.2.2.2.2.2.2.2.2.2.2.2.1 s hs13.1 hs13.2 hno) (fun _ w => w.elim) (fun x _ x0 x1 k1 k5 => kk_h19 hc s x s50 s51 x0 x1 k1 k5) k1g k2g ek3 (fun x j v => mm_upne' (by rintro ⟨z, _⟩; rw [z] at v; simp at v)) (fun g2 q1 q2 => ?_)
                          rw [mm_pU, r_227_20_2 (hy := hy)]
                          exact ⟨rfl, g2, rfl, q1, q2⟩
                        · rw [kk_i2 same, r_12_10 (htx6 := hsT) (htx7 := hsT) (hnx7 := hnN) (htx9 := hD) (hx := hx)]
                          refine s69 hx hc hs13 h1k kdk m1 km (fun z0 hit => ?_) (fun nh o o1 oE orr => ?_) (fun nh ab2 nk full => ?_) (fun nh o ho hk2 hfull => ?_)
                          · rw [mm_pI, r_12_10_7 (htx6 := hsT) (htx7 := hsT) (hnx7 := hnN) (htx9 := hD) (hx := hx), if_pos (by decide)]
                            refine fin (-3) ⟨_, rfl, by omega, by omega⟩ ?_
                            have ek : ∀ (x : mm_Id) (j : Int), 40 ≤ x.1 → h x j = h x j := fun _ _ _ => rfl
                            have lk := kk_lkr h
                            have f29 : mm_up h (40, 0, 0) 0 0 (40, 0, 0) 29 = h (1, 0, 0) 12 := (mm_upj (by decide)).trans ((ek _ _ (by simp)).trans (kk_cal hc).1.symm)
                            have f41n : mm_up h (40, 0, 0) 0 0 (41, 0, 0) (36 * s + n - 1) = h (24, s, n) 0 := by rw [mm_upf (by decide)]; exact (ek _ _ (by simp)).trans (kk_nf hc (by omega) h1n).1
                            have f44n : mm_up h (40, 0, 0) 0 0 (44, 0, 0) (36 * s + n - 1) = h (24, s, n) 6 := by rw [mm_upf (by decide)]; exact (ek _ _ (by simp)).trans (kk_nf hc (by omega) h1n).2.1
                            have f49n : mm_up h (40, 0, 0) 0 0 (49, 0, 0) (36 * s + n - 1) = h (24, s, n) 11 := by rw [mm_upf (by decide)]; exact (ek _ _ (by simp)).trans (kk_nf hc (by omega) h1n).2.2.1
                            have f42n : mm_up h (40, 0, 0) 0 0 (42, 0, 0) (36 * s + n - 1) = h (24, s, n) 1 := by rw [mm_upf (by decide)]; exact (ek _ _ (by simp)).trans ((kk_nf hc (by omega) h1n).2.2.2 h2n).1
                            have f47n : mm_up h (40, 0, 0) 0 0 (47, 0, 0) (36 * s + n - 1) = h (24, s, n) 2 := by rw [mm_upf (by decide)]; exact (ek _ _ (by simp)).trans ((kk_nf hc (by omega) h1n).2.2.2 h2n).2.1
                            have f48n : mm_up h (40, 0, 0) 0 0 (48, 0, 0) (36 * s + n - 1) = h (24, s, n) 3 := by rw [mm_upf (by decide)]; exact (ek _ _ (by simp)).trans ((kk_nf hc (by omega) h1n).2.2.2 h2n).2.2
                            have f41k : mm_up h (40, 0, 0) 0 0 (41, 0, 0) (36 * s + k - 1) = h (24, s, k) 0 := by rw [mm_upf (by decide)]; exact (ek _ _ (by simp)).trans (kk_nf hc (by omega) h1k).1
                            have f44k : mm_up h (40, 0, 0) 0 0 (44, 0, 0) (36 * s + k - 1) = h (24, s, k) 6 := by rw [mm_upf (by decide)]; exact (ek _ _ (by simp)).trans (kk_nf hc (by omega) h1k).2.1
                            have f49k : mm_up h (40, 0, 0) 0 0 (49, 0, 0) (36 * s + k - 1) = h (24, s, k) 11 := by rw [mm_upf (by decide)]; exact (ek _ _ (by simp)).trans (kk_nf hc (by omega) h1k).2.2.1
                            have f42k : mm_up h (40, 0, 0) 0 0 (42, 0, 0) (36 * s + k - 1) = h (24, s, k) 1 := by rw [mm_upf (by decide)]; exact (ek _ _ (by simp)).trans ((kk_nf hc (by omega) h1k).2.2.2 h2k).1
                            have f47k : mm_up h (40, 0, 0) 0 0 (47, 0, 0) (36 * s + k - 1) = h (24, s, k) 2 := by rw [mm_upf (by decide)]; exact (ek _ _ (by simp)).trans ((kk_nf hc (by omega) h1k).2.2.2 h2k).2.1
                            have f48k : mm_up h (40, 0, 0) 0 0 (48, 0, 0) (36 * s + k - 1) = h (24, s, k) 3 := by rw [mm_upf (by decide)]; exact (ek _ _ (by simp)).trans ((kk_nf hc (by omega) h1k).2.2.2 h2k).2.2
                            rw [r_227_e (hy := hy)]
                            refine m181y hy hc (kk_lku (by decide) lk) ht hs ?_
                            rw [mm_pI, r_227_0_6 (hy := hy)]
                            refine m210y hy (by omega) h1n (by rw [f41n]; exact h3n) ?_
                            rw [mm_pI, r_227_0_11 (hy := hy), if_neg (by decide)]
                            refine m176y hy (by omega) h1k (by rw [f41k]; exact h3k) ?_
                            rw [mm_pI, r_227_0_16 (hy := hy), if_neg (by decide)]
                            refine m174y hy (by omega) ?_
                            rw [mm_pI, r_227_2_5 (hy := hy), if_neg (by decide)]
                            refine m174y hy (by omega) ?_
                            rw [mm_pI, r_227_2_11 (hy := hy), if_neg (by decide)]
                            rw [if_pos s51]
                            refine m211y hy (by omega) h1n f41n kdn ?_
                            rw [mm_pI, r_227_4_7 (hy := hy), if_neg (by decide)]
                            refine m211y hy (by omega) h1k f41k kdk ?_
                            rw [mm_pI, r_227_4_12 (hy := hy), if_neg (by decide)]
                            refine m204y hy (by omega) h1n f29 f47n f48n wn ?_
                            rw [mm_pI, r_227_6_4 (hy := hy), if_neg (by decide)]
                            refine m204y hy (by omega) h1k f29 f47k f48k wk ?_
                            rw [mm_pI, r_227_6_9 (hy := hy), if_neg (by decide)]
                            have mG : ∀ (x : mm_Id) j, 40 ≤ x.1 → ¬ (x = (40, 0, 0) ∧ j = 0) → mm_up h (40, 0, 0) 0 0 x j = h x j := fun x j a1 a2 => (mm_upne' a2).trans (ek x j a1)
                            refine m227p (k := k) (q := q) hy hc hs13 h1n h1k mG hp el em (fun x9 x10 o2 h9 ho2 => ?_)
                            rw [r_227_11 (hy := hy), kk_i2 same, r_227_12 (hy := hy)]
                            refine m227w (h := h) (ko := h (24, s, o2) 0) hy (by omega) NWs T h1k kdk m1 (fun d hd => (kk_EmC hc hs13 mG hd).2.1) (fun d hd e e0 e1 => ((kk_EmC hc hs13 mG hd).2.2.1 e e0 e1).2) h9 (fun x0 => ?_) (fun z w => ?_) (fun nh2 x0 w => ?_) (fun nh2 x0 w1 w2 => ?_) (fun nh2 w1 w2 => ?_)
                            · rcases ho2 with ⟨w, _⟩ | ⟨w1, w2, w3⟩
                              · omega
                              · have r := (NWk.2.2.2.2.2.2.2.2.2.2.2.2.2.1 x10 w1.1 w1.2).2
                                rw [w3] at r
                                exact ⟨r.1, (mG _ _ (by simp) (by simp)).trans (kk_nf hc (by omega) r.1).1⟩
                            · exact mfin _ _ rfl
                            · exact absurd hit (nh2 z0)
                            · exact absurd hit (nh2 z0)
                            · exact absurd hit (nh2 z0)
                          · rw [mm_pI, r_12_10_7 (htx6 := hsT) (htx7 := hsT) (hnx7 := hnN) (htx9 := hD) (hx := hx), if_pos (by decide)]
                            refine fin (-3) ⟨_, rfl, by omega, by omega⟩ ?_
                            have ek : ∀ (x : mm_Id) (j : Int), 40 ≤ x.1 → h x j = h x j := fun _ _ _ => rfl
                            have lk := kk_lkr h
                            have f29 : mm_up h (40, 0, 0) 0 0 (40, 0, 0) 29 = h (1, 0, 0) 12 := (mm_upj (by decide)).trans ((ek _ _ (by simp)).trans (kk_cal hc).1.symm)
                            have f41n : mm_up h (40, 0, 0) 0 0 (41, 0, 0) (36 * s + n - 1) = h (24, s, n) 0 := by rw [mm_upf (by decide)]; exact (ek _ _ (by simp)).trans (kk_nf hc (by omega) h1n).1
                            have f44n : mm_up h (40, 0, 0) 0 0 (44, 0, 0) (36 * s + n - 1) = h (24, s, n) 6 := by rw [mm_upf (by decide)]; exact (ek _ _ (by simp)).trans (kk_nf hc (by omega) h1n).2.1
                            have f49n : mm_up h (40, 0, 0) 0 0 (49, 0, 0) (36 * s + n - 1) = h (24, s, n) 11 := by rw [mm_upf (by decide)]; exact (ek _ _ (by simp)).trans (kk_nf hc (by omega) h1n).2.2.1
                            have f42n : mm_up h (40, 0, 0) 0 0 (42, 0, 0) (36 * s + n - 1) = h (24, s, n) 1 := by rw [mm_upf (by decide)]; exact (ek _ _ (by simp)).trans ((kk_nf hc (by omega) h1n).2.2.2 h2n).1
                            have f47n : mm_up h (40, 0, 0) 0 0 (47, 0, 0) (36 * s + n - 1) = h (24, s, n) 2 := by rw [mm_upf (by decide)]; exact (ek _ _ (by simp)).trans ((kk_nf hc (by omega) h1n).2.2.2 h2n).2.1
                            have f48n : mm_up h (40, 0, 0) 0 0 (48, 0, 0) (36 * s + n - 1) = h (24, s, n) 3 := by rw [mm_upf (by decide)]; exact (ek _ _ (by simp)).trans ((kk_nf hc (by omega) h1n).2.2.2 h2n).2.2
                            have f41k : mm_up h (40, 0, 0) 0 0 (41, 0, 0) (36 * s + k - 1) = h (24, s, k) 0 := by rw [mm_upf (by decide)]; exact (ek _ _ (by simp)).trans (kk_nf hc (by omega) h1k).1
                            have f44k : mm_up h (40, 0, 0) 0 0 (44, 0, 0) (36 * s + k - 1) = h (24, s, k) 6 := by rw [mm_upf (by decide)]; exact (ek _ _ (by simp)).trans (kk_nf hc (by omega) h1k).2.1
                            have f49k : mm_up h (40, 0, 0) 0 0 (49, 0, 0) (36 * s + k - 1) = h (24, s, k) 11 := by rw [mm_upf (by decide)]; exact (ek _ _ (by simp)).trans (kk_nf hc (by omega) h1k).2.2.1
                            have f42k : mm_up h (40, 0, 0) 0 0 (42, 0, 0) (36 * s + k - 1) = h (24, s, k) 1 := by rw [mm_upf (by decide)]; exact (ek _ _ (by simp)).trans ((kk_nf hc (by omega) h1k).2.2.2 h2k).1
                            have f47k : mm_up h (40, 0, 0) 0 0 (47, 0, 0) (36 * s + k - 1) = h (24, s, k) 2 := by rw [mm_upf (by decide)]; exact (ek _ _ (by simp)).trans ((kk_nf hc (by omega) h1k).2.2.2 h2k).2.1
                            have f48k : mm_up h (40, 0, 0) 0 0 (48, 0, 0) (36 * s + k - 1) = h (24, s, k) 3 := by rw [mm_upf (by decide)]; exact (ek _ _ (by simp)).trans ((kk_nf hc (by omega) h1k).2.2.2 h2k).2.2
                            rw [r_227_e (hy := hy)]
                            refine m181y hy hc (kk_lku (by decide) lk) ht hs ?_
                            rw [mm_pI, r_227_0_6 (hy := hy)]
                            refine m210y hy (by omega) h1n (by rw [f41n]; exact h3n) ?_
                            rw [mm_pI, r_227_0_11 (hy := hy), if_neg (by decide)]
                            refine m176y hy (by omega) h1k (by rw [f41k]; exact h3k) ?_
                            rw [mm_pI, r_227_0_16 (hy := hy), if_neg (by decide)]
                            refine m174y hy (by omega) ?_
                            rw [mm_pI, r_227_2_5 (hy := hy), if_neg (by decide)]
                            refine m174y hy (by omega) ?_
                            rw [mm_pI, r_227_2_11 (hy := hy), if_neg (by decide)]
                            rw [if_pos s51]
                            refine m211y hy (by omega) h1n f41n kdn ?_
                            rw [mm_pI, r_227_4_7 (hy := hy), if_neg (by decide)]
                            refine m211y hy (by omega) h1k f41k kdk ?_
                            rw [mm_pI, r_227_4_12 (hy := hy), if_neg (by decide)]
                            refine m204y hy (by omega) h1n f29 f47n f48n wn ?_
                            rw [mm_pI, r_227_6_4 (hy := hy), if_neg (by decide)]
                            refine m204y hy (by omega) h1k f29 f47k f48k wk ?_
                            rw [mm_pI, r_227_6_9 (hy := hy), if_neg (by decide)]
                            have mG : ∀ (x : mm_Id) j, 40 ≤ x.1 → ¬ (x = (40, 0, 0) ∧ j = 0) → mm_up h (40, 0, 0) 0 0 x j = h x j := fun x j a1 a2 => (mm_upne' a2).trans (ek x j a1)
                            refine m227p (k := k) (q := q) hy hc hs13 h1n h1k mG hp el em (fun x9 x10 o2 h9 ho2 => ?_)
                            rw [r_227_11 (hy := hy), kk_i2 same, r_227_12 (hy := hy)]
                            refine m227w (h := h) (ko := h (24, s, o2) 0) hy (by omega) NWs T h1k kdk m1 (fun d hd => (kk_EmC hc hs13 mG hd).2.1) (fun d hd e e0 e1 => ((kk_EmC hc hs13 mG hd).2.2.1 e e0 e1).2) h9 (fun x0 => ?_) (fun z w => ?_) (fun nh2 x0 w => ?_) (fun nh2 x0 w1 w2 => ?_) (fun nh2 w1 w2 => ?_)
                            · rcases ho2 with ⟨w, _⟩ | ⟨w1, w2, w3⟩
                              · omega
                              · have r := (NWk.2.2.2.2.2.2.2.2.2.2.2.2.2.1 x10 w1.1 w1.2).2
                                rw [w3] at r
                                exact ⟨r.1, (mG _ _ (by simp) (by simp)).trans (kk_nf hc (by omega) r.1).1⟩
                            · exact absurd w (nh z)
                            · exact mfin _ _ rfl
                            · exact absurd oE (by
                                rcases ho2 with ⟨_, _, w5⟩ | ⟨w5, _⟩
                                · exact w5 _
                                · omega)
                            · rcases ho2 with ⟨_, _, w5⟩ | ⟨w5, w6, w7⟩
                              · exact absurd oE (w5 _)
                              · have oo : o2 = o := kk_E1 NWk.2.2.2.2.2.2.2.2.2.2.2.1 ⟨x10, w5, w6, w7⟩ oE
                                have W := w1 w5.1
                                rw [oo] at W
                                rcases orr with u | u
                                · exact absurd u W.1
                                · exact absurd u W.2
                          · rw [mm_pI, r_12_10_7 (htx6 := hsT) (htx7 := hsT) (hnx7 := hnN) (htx9 := hD) (hx := hx), if_pos (by decide)]
                            refine fin (-4) ⟨_, rfl, by omega, by omega⟩ ?_
                            have ek : ∀ (x : mm_Id) (j : Int), 40 ≤ x.1 → h x j = h x j := fun _ _ _ => rfl
                            have lk := kk_lkr h
                            have f29 : mm_up h (40, 0, 0) 0 0 (40, 0, 0) 29 = h (1, 0, 0) 12 := (mm_upj (by decide)).trans ((ek _ _ (by simp)).trans (kk_cal hc).1.symm)
                            have f41n : mm_up h (40, 0, 0) 0 0 (41, 0, 0) (36 * s + n - 1) = h (24, s, n) 0 := by rw [mm_upf (by decide)]; exact (ek _ _ (by simp)).trans (kk_nf hc (by omega) h1n).1
                            have f44n : mm_up h (40, 0, 0) 0 0 (44, 0, 0) (36 * s + n - 1) = h (24, s, n) 6 := by rw [mm_upf (by decide)]; exact (ek _ _ (by simp)).trans (kk_nf hc (by omega) h1n).2.1
                            have f49n : mm_up h (40, 0, 0) 0 0 (49, 0, 0) (36 * s + n - 1) = h (24, s, n) 11 := by rw [mm_upf (by decide)]; exact (ek _ _ (by simp)).trans (kk_nf hc (by omega) h1n).2.2.1
                            have f42n : mm_up h (40, 0, 0) 0 0 (42, 0, 0) (36 * s + n - 1) = h (24, s, n) 1 := by rw [mm_upf (by decide)]; exact (ek _ _ (by simp)).trans ((kk_nf hc (by omega) h1n).2.2.2 h2n).1
                            have f47n : mm_up h (40, 0, 0) 0 0 (47, 0, 0) (36 * s + n - 1) = h (24, s, n) 2 := by rw [mm_upf (by decide)]; exact (ek _ _ (by simp)).trans ((kk_nf hc (by omega) h1n).2.2.2 h2n).2.1
                            have f48n : mm_up h (40, 0, 0) 0 0 (48, 0, 0) (36 * s + n - 1) = h (24, s, n) 3 := by rw [mm_upf (by decide)]; exact (ek _ _ (by simp)).trans ((kk_nf hc (by omega) h1n).2.2.2 h2n).2.2
                            have f41k : mm_up h (40, 0, 0) 0 0 (41, 0, 0) (36 * s + k - 1) = h (24, s, k) 0 := by rw [mm_upf (by decide)]; exact (ek _ _ (by simp)).trans (kk_nf hc (by omega) h1k).1
                            have f44k : mm_up h (40, 0, 0) 0 0 (44, 0, 0) (36 * s + k - 1) = h (24, s, k) 6 := by rw [mm_upf (by decide)]; exact (ek _ _ (by simp)).trans (kk_nf hc (by omega) h1k).2.1
                            have f49k : mm_up h (40, 0, 0) 0 0 (49, 0, 0) (36 * s + k - 1) = h (24, s, k) 11 := by rw [mm_upf (by decide)]; exact (ek _ _ (by simp)).trans (kk_nf hc (by omega) h1k).2.2.1
                            have f42k : mm_up h (40, 0, 0) 0 0 (42, 0, 0) (36 * s + k - 1) = h (24, s, k) 1 := by rw [mm_upf (by decide)]; exact (ek _ _ (by simp)).trans ((kk_nf hc (by omega) h1k).2.2.2 h2k).1
                            have f47k : mm_up h (40, 0, 0) 0 0 (47, 0, 0) (36 * s + k - 1) = h (24, s, k) 2 := by rw [mm_upf (by decide)]; exact (ek _ _ (by simp)).trans ((kk_nf hc (by omega) h1k).2.2.2 h2k).2.1
                            have f48k : mm_up h (40, 0, 0) 0 0 (48, 0, 0) (36 * s + k - 1) = h (24, s, k) 3 := by rw [mm_upf (by decide)]; exact (ek _ _ (by simp)).trans ((kk_nf hc (by omega) h1k).2.2.2 h2k).2.2
                            rw [r_227_e (hy := hy)]
                            refine m181y hy hc (kk_lku (by decide) lk) ht hs ?_
                            rw [mm_pI, r_227_0_6 (hy := hy)]
                            refine m210y hy (by omega) h1n (by rw [f41n]; exact h3n) ?_
                            rw [mm_pI, r_227_0_11 (hy := hy), if_neg (by decide)]
                            refine m176y hy (by omega) h1k (by rw [f41k]; exact h3k) ?_
                            rw [mm_pI, r_227_0_16 (hy := hy), if_neg (by decide)]
                            refine m174y hy (by omega) ?_
                            rw [mm_pI, r_227_2_5 (hy := hy), if_neg (by decide)]
                            refine m174y hy (by omega) ?_
                            rw [mm_pI, r_227_2_11 (hy := hy), if_neg (by decide)]
                            rw [if_pos s51]
                            refine m211y hy (by omega) h1n f41n kdn ?_
                            rw [mm_pI, r_227_4_7 (hy := hy), if_neg (by decide)]
                            refine m211y hy (by omega) h1k f41k kdk ?_
                            rw [mm_pI, r_227_4_12 (hy := hy), if_neg (by decide)]
                            refine m204y hy (by omega) h1n f29 f47n f48n wn ?_
                            rw [mm_pI, r_227_6_4 (hy := hy), if_neg (by decide)]
                            refine m204y hy (by omega) h1k f29 f47k f48k wk ?_
                            rw [mm_pI, r_227_6_9 (hy := hy), if_neg (by decide)]
                            have mG : ∀ (x : mm_Id) j, 40 ≤ x.1 → ¬ (x = (40, 0, 0) ∧ j = 0) → mm_up h (40, 0, 0) 0 0 x j = h x j := fun x j a1 a2 => (mm_upne' a2).trans (ek x j a1)
                            refine m227p (k := k) (q := q) hy hc hs13 h1n h1k mG hp el em (fun x9 x10 o2 h9 ho2 => ?_)
                            rw [r_227_11 (hy := hy), kk_i2 same, r_227_12 (hy := hy)]
                            refine m227w (h := h) (ko := h (24, s, o2) 0) hy (by omega) NWs T h1k kdk m1 (fun d hd => (kk_EmC hc hs13 mG hd).2.1) (fun d hd e e0 e1 => ((kk_EmC hc hs13 mG hd).2.2.1 e e0 e1).2) h9 (fun x0 => ?_) (fun z w => ?_) (fun nh2 x0 w => ?_) (fun nh2 x0 w1 w2 => ?_) (fun nh2 w1 w2 => ?_)
                            · rcases ho2 with ⟨w, _⟩ | ⟨w1, w2, w3⟩
                              · omega
                              · have r := (NWk.2.2.2.2.2.2.2.2.2.2.2.2.2.1 x10 w1.1 w1.2).2
                                rw [w3] at r
                                exact ⟨r.1, (mG _ _ (by simp) (by simp)).trans (kk_nf hc (by omega) r.1).1⟩
                            · exact absurd w (nh z)
                            · rcases ho2 with ⟨w5, _⟩ | ⟨w5, w6, w7⟩
                              · omega
                              · exact absurd ⟨x10, w5, w6, w7⟩ (ab2 o2)
                            · exact mfin _ _ rfl
                            · rcases ho2 with ⟨w5, _⟩ | ⟨w5, w6, w7⟩
                              · rcases w2 w5 with u | u
                                · exact absurd u nk
                                · have := NWk.2.1
                                  omega
                              · exact absurd ⟨x10, w5, w6, w7⟩ (ab2 o2)
                          · rw [mm_pI, r_12_10_7 (htx6 := hsT) (htx7 := hsT) (hnx7 := hnN) (htx9 := hD) (hx := hx), if_neg (by decide)]
                            sorry
                      · rw [mm_pI, r_12_8_3 (htx6 := hsT) (htx7 := hsT) (hnx7 := hnN) (htx9 := hD) (hx := hx), if_pos rfl]
                        refine fin (-1) ⟨_, rfl, by omega, by omega⟩ ?_
                        have ek : ∀ (x : mm_Id) (j : Int), 40 ≤ x.1 → h x j = h x j := fun _ _ _ => rfl
                        have lk := kk_lkr h
                        have f29 : mm_up h (40, 0, 0) 0 0 (40, 0, 0) 29 = h (1, 0, 0) 12 := (mm_upj (by decide)).trans ((ek _ _ (by simp)).trans (kk_cal hc).1.symm)
                        have f41n : mm_up h (40, 0, 0) 0 0 (41, 0, 0) (36 * s + n - 1) = h (24, s, n) 0 := by rw [mm_upf (by decide)]; exact (ek _ _ (by simp)).trans (kk_nf hc (by omega) h1n).1
                        have f44n : mm_up h (40, 0, 0) 0 0 (44, 0, 0) (36 * s + n - 1) = h (24, s, n) 6 := by rw [mm_upf (by decide)]; exact (ek _ _ (by simp)).trans (kk_nf hc (by omega) h1n).2.1
                        have f49n : mm_up h (40, 0, 0) 0 0 (49, 0, 0) (36 * s + n - 1) = h (24, s, n) 11 := by rw [mm_upf (by decide)]; exact (ek _ _ (by simp)).trans (kk_nf hc (by omega) h1n).2.2.1
                        have f42n : mm_up h (40, 0, 0) 0 0 (42, 0, 0) (36 * s + n - 1) = h (24, s, n) 1 := by rw [mm_upf (by decide)]; exact (ek _ _ (by simp)).trans ((kk_nf hc (by omega) h1n).2.2.2 h2n).1
                        have f47n : mm_up h (40, 0, 0) 0 0 (47, 0, 0) (36 * s + n - 1) = h (24, s, n) 2 := by rw [mm_upf (by decide)]; exact (ek _ _ (by simp)).trans ((kk_nf hc (by omega) h1n).2.2.2 h2n).2.1
                        have f48n : mm_up h (40, 0, 0) 0 0 (48, 0, 0) (36 * s + n - 1) = h (24, s, n) 3 := by rw [mm_upf (by decide)]; exact (ek _ _ (by simp)).trans ((kk_nf hc (by omega) h1n).2.2.2 h2n).2.2
                        have f41k : mm_up h (40, 0, 0) 0 0 (41, 0, 0) (36 * s + k - 1) = h (24, s, k) 0 := by rw [mm_upf (by decide)]; exact (ek _ _ (by simp)).trans (kk_nf hc (by omega) h1k).1
                        have f44k : mm_up h (40, 0, 0) 0 0 (44, 0, 0) (36 * s + k - 1) = h (24, s, k) 6 := by rw [mm_upf (by decide)]; exact (ek _ _ (by simp)).trans (kk_nf hc (by omega) h1k).2.1
                        have f49k : mm_up h (40, 0, 0) 0 0 (49, 0, 0) (36 * s + k - 1) = h (24, s, k) 11 := by rw [mm_upf (by decide)]; exact (ek _ _ (by simp)).trans (kk_nf hc (by omega) h1k).2.2.1
                        have f42k : mm_up h (40, 0, 0) 0 0 (42, 0, 0) (36 * s + k - 1) = h (24, s, k) 1 := by rw [mm_upf (by decide)]; exact (ek _ _ (by simp)).trans ((kk_nf hc (by omega) h1k).2.2.2 h2k).1
                        have f47k : mm_up h (40, 0, 0) 0 0 (47, 0, 0) (36 * s + k - 1) = h (24, s, k) 2 := by rw [mm_upf (by decide)]; exact (ek _ _ (by simp)).trans ((kk_nf hc (by omega) h1k).2.2.2 h2k).2.1
                        have f48k : mm_up h (40, 0, 0) 0 0 (48, 0, 0) (36 * s + k - 1) = h (24, s, k) 3 := by rw [mm_upf (by decide)]; exact (ek _ _ (by simp)).trans ((kk_nf hc (by omega) h1k).2.2.2 h2k).2.2
                        rw [r_227_e (hy := hy)]
                        refine m181y hy hc (kk_lku (by decide) lk) ht hs ?_
                        rw [mm_pI, r_227_0_6 (hy := hy)]
                        refine m210y hy (by omega) h1n (by rw [f41n]; exact h3n) ?_
                        rw [mm_pI, r_227_0_11 (hy := hy), if_neg (by decide)]
                        refine m176y hy (by omega) h1k (by rw [f41k]; exact h3k) ?_
                        rw [mm_pI, r_227_0_16 (hy := hy), if_neg (by decide)]
                        refine m174y hy (by omega) ?_
                        rw [mm_pI, r_227_2_5 (hy := hy), if_neg (by decide)]
                        refine m174y hy (by omega) ?_
                        rw [mm_pI, r_227_2_11 (hy := hy), if_neg (by decide)]
                        rw [if_pos s51]
                        refine m211y hy (by omega) h1n f41n kdn ?_
                        rw [mm_pI, r_227_4_7 (hy := hy), if_neg (by decide)]
                        refine m211y hy (by omega) h1k f41k kdk ?_
                        rw [mm_pI, r_227_4_12 (hy := hy), if_neg (by decide)]
                        refine m204y hy (by omega) h1n f29 f47n f48n wn ?_
                        rw [mm_pI, r_227_6_4 (hy := hy), if_neg (by decide)]
                        refine m204y hy (by omega) h1k f29 f47k f48k wk ?_
                        rw [mm_pI, r_227_6_9 (hy := hy), if_neg (by decide)]
                        have mG : ∀ (x : mm_Id) j, 40 ≤ x.1 → ¬ (x = (40, 0, 0) ∧ j = 0) → mm_up h (40, 0, 0) 0 0 x j = h x j := fun x j a1 a2 => (mm_upne' a2).trans (ek x j a1)
                        refine m184n hy (by omega) h1n (kk_EmC hc hs13 mG h1n).2.1 NWn.2.1 (fun e e0 e1 => by rw [((kk_EmC hc hs13 mG h1n).2.2.1 e e0 e1).1]; exact ab e e0 e1) ?_
                        rw [mm_pI, r_227_8_5 (hy := hy), if_pos (by decide)]
                        exact mfin _ _ rfl
                    · rw [mm_pI, r_12_6_7 (htx6 := hsT) (htx7 := hsT) (hnx7 := hnN) (htx9 := hD) (hx := hx), if_pos rfl, r_12_7 (hx := hx)]
                      refine fin (-5) ⟨_, rfl, by omega, by omega⟩ ?_
                      have ek : ∀ (x : mm_Id) (j : Int), 40 ≤ x.1 → h x j = h x j := fun _ _ _ => rfl
                      have lk := kk_lkr h
                      have f29 : mm_up h (40, 0, 0) 0 0 (40, 0, 0) 29 = h (1, 0, 0) 12 := (mm_upj (by decide)).trans ((ek _ _ (by simp)).trans (kk_cal hc).1.symm)
                      have f41n : mm_up h (40, 0, 0) 0 0 (41, 0, 0) (36 * s + n - 1) = h (24, s, n) 0 := by rw [mm_upf (by decide)]; exact (ek _ _ (by simp)).trans (kk_nf hc (by omega) h1n).1
                      have f44n : mm_up h (40, 0, 0) 0 0 (44, 0, 0) (36 * s + n - 1) = h (24, s, n) 6 := by rw [mm_upf (by decide)]; exact (ek _ _ (by simp)).trans (kk_nf hc (by omega) h1n).2.1
                      have f49n : mm_up h (40, 0, 0) 0 0 (49, 0, 0) (36 * s + n - 1) = h (24, s, n) 11 := by rw [mm_upf (by decide)]; exact (ek _ _ (by simp)).trans (kk_nf hc (by omega) h1n).2.2.1
                      have f42n : mm_up h (40, 0, 0) 0 0 (42, 0, 0) (36 * s + n - 1) = h (24, s, n) 1 := by rw [mm_upf (by decide)]; exact (ek _ _ (by simp)).trans ((kk_nf hc (by omega) h1n).2.2.2 h2n).1
                      have f47n : mm_up h (40, 0, 0) 0 0 (47, 0, 0) (36 * s + n - 1) = h (24, s, n) 2 := by rw [mm_upf (by decide)]; exact (ek _ _ (by simp)).trans ((kk_nf hc (by omega) h1n).2.2.2 h2n).2.1
                      have f48n : mm_up h (40, 0, 0) 0 0 (48, 0, 0) (36 * s + n - 1) = h (24, s, n) 3 := by rw [mm_upf (by decide)]; exact (ek _ _ (by simp)).trans ((kk_nf hc (by omega) h1n).2.2.2 h2n).2.2
                      have f41k : mm_up h (40, 0, 0) 0 0 (41, 0, 0) (36 * s + k - 1) = h (24, s, k) 0 := by rw [mm_upf (by decide)]; exact (ek _ _ (by simp)).trans (kk_nf hc (by omega) h1k).1
                      have f44k : mm_up h (40, 0, 0) 0 0 (44, 0, 0) (36 * s + k - 1) = h (24, s, k) 6 := by rw [mm_upf (by decide)]; exact (ek _ _ (by simp)).trans (kk_nf hc (by omega) h1k).2.1
                      have f49k : mm_up h (40, 0, 0) 0 0 (49, 0, 0) (36 * s + k - 1) = h (24, s, k) 11 := by rw [mm_upf (by decide)]; exact (ek _ _ (by simp)).trans (kk_nf hc (by omega) h1k).2.2.1
                      have f42k : mm_up h (40, 0, 0) 0 0 (42, 0, 0) (36 * s + k - 1) = h (24, s, k) 1 := by rw [mm_upf (by decide)]; exact (ek _ _ (by simp)).trans ((kk_nf hc (by omega) h1k).2.2.2 h2k).1
                      have f47k : mm_up h (40, 0, 0) 0 0 (47, 0, 0) (36 * s + k - 1) = h (24, s, k) 2 := by rw [mm_upf (by decide)]; exact (ek _ _ (by simp)).trans ((kk_nf hc (by omega) h1k).2.2.2 h2k).2.1
                      have f48k : mm_up h (40, 0, 0) 0 0 (48, 0, 0) (36 * s + k - 1) = h (24, s, k) 3 := by rw [mm_upf (by decide)]; exact (ek _ _ (by simp)).trans ((kk_nf hc (by omega) h1k).2.2.2 h2k).2.2
                      rw [r_227_e (hy := hy)]
                      refine m181y hy hc (kk_lku (by decide) lk) ht hs ?_
                      rw [mm_pI, r_227_0_6 (hy := hy)]
                      refine m210y hy (by omega) h1n (by rw [f41n]; exact h3n) ?_
                      rw [mm_pI, r_227_0_11 (hy := hy), if_neg (by decide)]
                      refine m176y hy (by omega) h1k (by rw [f41k]; exact h3k) ?_
                      rw [mm_pI, r_227_0_16 (hy := hy), if_neg (by decide)]
                      refine m174y hy (by omega) ?_
                      rw [mm_pI, r_227_2_5 (hy := hy), if_neg (by decide)]
                      refine m174y hy (by omega) ?_
                      rw [mm_pI, r_227_2_11 (hy := hy), if_neg (by decide)]
                      rw [if_pos s51]
                      refine m211y hy (by omega) h1n f41n kdn ?_
                      rw [mm_pI, r_227_4_7 (hy := hy), if_neg (by decide)]
                      refine m211y hy (by omega) h1k f41k kdk ?_
                      rw [mm_pI, r_227_4_12 (hy := hy), if_neg (by decide)]
                      refine m204y hy (by omega) h1n f29 f47n f48n wn ?_
                      rw [mm_pI, r_227_6_4 (hy := hy), if_neg (by decide)]
                      refine m204n hy (by omega) h1k f29 f47k f48k wk ?_
                      rw [mm_pI, r_227_6_9 (hy := hy), if_pos rfl, r_227_7 (hy := hy)]
                      exact mfin _ _ rfl
                  · rw [mm_pI, r_12_6_3 (htx6 := hsT) (htx7 := hsT) (hnx7 := hnN) (htx8 := hsT) (hnx8 := hkN) (htx9 := hD) (hx := hx), if_pos rfl, r_12_7 (hx := hx)]
                    refine fin (-5) ⟨_, rfl, by omega, by omega⟩ ?_
                    have ek : ∀ (x : mm_Id) (j : Int), 40 ≤ x.1 → h x j = h x j := fun _ _ _ => rfl
                    have lk := kk_lkr h
                    have f29 : mm_up h (40, 0, 0) 0 0 (40, 0, 0) 29 = h (1, 0, 0) 12 := (mm_upj (by decide)).trans ((ek _ _ (by simp)).trans (kk_cal hc).1.symm)
                    have f41n : mm_up h (40, 0, 0) 0 0 (41, 0, 0) (36 * s + n - 1) = h (24, s, n) 0 := by rw [mm_upf (by decide)]; exact (ek _ _ (by simp)).trans (kk_nf hc (by omega) h1n).1
                    have f44n : mm_up h (40, 0, 0) 0 0 (44, 0, 0) (36 * s + n - 1) = h (24, s, n) 6 := by rw [mm_upf (by decide)]; exact (ek _ _ (by simp)).trans (kk_nf hc (by omega) h1n).2.1
                    have f49n : mm_up h (40, 0, 0) 0 0 (49, 0, 0) (36 * s + n - 1) = h (24, s, n) 11 := by rw [mm_upf (by decide)]; exact (ek _ _ (by simp)).trans (kk_nf hc (by omega) h1n).2.2.1
                    have f42n : mm_up h (40, 0, 0) 0 0 (42, 0, 0) (36 * s + n - 1) = h (24, s, n) 1 := by rw [mm_upf (by decide)]; exact (ek _ _ (by simp)).trans ((kk_nf hc (by omega) h1n).2.2.2 h2n).1
                    have f47n : mm_up h (40, 0, 0) 0 0 (47, 0, 0) (36 * s + n - 1) = h (24, s, n) 2 := by rw [mm_upf (by decide)]; exact (ek _ _ (by simp)).trans ((kk_nf hc (by omega) h1n).2.2.2 h2n).2.1
                    have f48n : mm_up h (40, 0, 0) 0 0 (48, 0, 0) (36 * s + n - 1) = h (24, s, n) 3 := by rw [mm_upf (by decide)]; exact (ek _ _ (by simp)).trans ((kk_nf hc (by omega) h1n).2.2.2 h2n).2.2
                    have f41k : mm_up h (40, 0, 0) 0 0 (41, 0, 0) (36 * s + k - 1) = h (24, s, k) 0 := by rw [mm_upf (by decide)]; exact (ek _ _ (by simp)).trans (kk_nf hc (by omega) h1k).1
                    have f44k : mm_up h (40, 0, 0) 0 0 (44, 0, 0) (36 * s + k - 1) = h (24, s, k) 6 := by rw [mm_upf (by decide)]; exact (ek _ _ (by simp)).trans (kk_nf hc (by omega) h1k).2.1
                    have f49k : mm_up h (40, 0, 0) 0 0 (49, 0, 0) (36 * s + k - 1) = h (24, s, k) 11 := by rw [mm_upf (by decide)]; exact (ek _ _ (by simp)).trans (kk_nf hc (by omega) h1k).2.2.1
                    have f42k : mm_up h (40, 0, 0) 0 0 (42, 0, 0) (36 * s + k - 1) = h (24, s, k) 1 := by rw [mm_upf (by decide)]; exact (ek _ _ (by simp)).trans ((kk_nf hc (by omega) h1k).2.2.2 h2k).1
                    have f47k : mm_up h (40, 0, 0) 0 0 (47, 0, 0) (36 * s + k - 1) = h (24, s, k) 2 := by rw [mm_upf (by decide)]; exact (ek _ _ (by simp)).trans ((kk_nf hc (by omega) h1k).2.2.2 h2k).2.1
                    have f48k : mm_up h (40, 0, 0) 0 0 (48, 0, 0) (36 * s + k - 1) = h (24, s, k) 3 := by rw [mm_upf (by decide)]; exact (ek _ _ (by simp)).trans ((kk_nf hc (by omega) h1k).2.2.2 h2k).2.2
                    rw [r_227_e (hy := hy)]
                    refine m181y hy hc (kk_lku (by decide) lk) ht hs ?_
                    rw [mm_pI, r_227_0_6 (hy := hy)]
                    refine m210y hy (by omega) h1n (by rw [f41n]; exact h3n) ?_
                    rw [mm_pI, r_227_0_11 (hy := hy), if_neg (by decide)]
                    refine m176y hy (by omega) h1k (by rw [f41k]; exact h3k) ?_
                    rw [mm_pI, r_227_0_16 (hy := hy), if_neg (by decide)]
                    refine m174y hy (by omega) ?_
                    rw [mm_pI, r_227_2_5 (hy := hy), if_neg (by decide)]
                    refine m174y hy (by omega) ?_
                    rw [mm_pI, r_227_2_11 (hy := hy), if_neg (by decide)]
                    rw [if_pos s51]
                    refine m211y hy (by omega) h1n f41n kdn ?_
                    rw [mm_pI, r_227_4_7 (hy := hy), if_neg (by decide)]
                    refine m211y hy (by omega) h1k f41k kdk ?_
                    rw [mm_pI, r_227_4_12 (hy := hy), if_neg (by decide)]
                    refine m204n hy (by omega) h1n f29 f47n f48n wn ?_
                    rw [mm_pI, r_227_6_4 (hy := hy), if_pos rfl, r_227_7 (hy := hy)]
                    exact mfin _ _ rfl
                · rw [if_neg kdk, r_12_5 (hx := hx)]
                  refine fin (-3) ⟨_, rfl, by omega, by omega⟩ ?_
                  have ek : ∀ (x : mm_Id) (j : Int), 40 ≤ x.1 → h x j = h x j := fun _ _ _ => rfl
                  have lk := kk_lkr h
                  have f29 : mm_up h (40, 0, 0) 0 0 (40, 0, 0) 29 = h (1, 0, 0) 12 := (mm_upj (by decide)).trans ((ek _ _ (by simp)).trans (kk_cal hc).1.symm)
                  have f41n : mm_up h (40, 0, 0) 0 0 (41, 0, 0) (36 * s + n - 1) = h (24, s, n) 0 := by rw [mm_upf (by decide)]; exact (ek _ _ (by simp)).trans (kk_nf hc (by omega) h1n).1
                  have f44n : mm_up h (40, 0, 0) 0 0 (44, 0, 0) (36 * s + n - 1) = h (24, s, n) 6 := by rw [mm_upf (by decide)]; exact (ek _ _ (by simp)).trans (kk_nf hc (by omega) h1n).2.1
                  have f49n : mm_up h (40, 0, 0) 0 0 (49, 0, 0) (36 * s + n - 1) = h (24, s, n) 11 := by rw [mm_upf (by decide)]; exact (ek _ _ (by simp)).trans (kk_nf hc (by omega) h1n).2.2.1
                  have f42n : mm_up h (40, 0, 0) 0 0 (42, 0, 0) (36 * s + n - 1) = h (24, s, n) 1 := by rw [mm_upf (by decide)]; exact (ek _ _ (by simp)).trans ((kk_nf hc (by omega) h1n).2.2.2 h2n).1
                  have f47n : mm_up h (40, 0, 0) 0 0 (47, 0, 0) (36 * s + n - 1) = h (24, s, n) 2 := by rw [mm_upf (by decide)]; exact (ek _ _ (by simp)).trans ((kk_nf hc (by omega) h1n).2.2.2 h2n).2.1
                  have f48n : mm_up h (40, 0, 0) 0 0 (48, 0, 0) (36 * s + n - 1) = h (24, s, n) 3 := by rw [mm_upf (by decide)]; exact (ek _ _ (by simp)).trans ((kk_nf hc (by omega) h1n).2.2.2 h2n).2.2
                  have f41k : mm_up h (40, 0, 0) 0 0 (41, 0, 0) (36 * s + k - 1) = h (24, s, k) 0 := by rw [mm_upf (by decide)]; exact (ek _ _ (by simp)).trans (kk_nf hc (by omega) h1k).1
                  have f44k : mm_up h (40, 0, 0) 0 0 (44, 0, 0) (36 * s + k - 1) = h (24, s, k) 6 := by rw [mm_upf (by decide)]; exact (ek _ _ (by simp)).trans (kk_nf hc (by omega) h1k).2.1
                  have f49k : mm_up h (40, 0, 0) 0 0 (49, 0, 0) (36 * s + k - 1) = h (24, s, k) 11 := by rw [mm_upf (by decide)]; exact (ek _ _ (by simp)).trans (kk_nf hc (by omega) h1k).2.2.1
                  have f42k : mm_up h (40, 0, 0) 0 0 (42, 0, 0) (36 * s + k - 1) = h (24, s, k) 1 := by rw [mm_upf (by decide)]; exact (ek _ _ (by simp)).trans ((kk_nf hc (by omega) h1k).2.2.2 h2k).1
                  have f47k : mm_up h (40, 0, 0) 0 0 (47, 0, 0) (36 * s + k - 1) = h (24, s, k) 2 := by rw [mm_upf (by decide)]; exact (ek _ _ (by simp)).trans ((kk_nf hc (by omega) h1k).2.2.2 h2k).2.1
                  have f48k : mm_up h (40, 0, 0) 0 0 (48, 0, 0) (36 * s + k - 1) = h (24, s, k) 3 := by rw [mm_upf (by decide)]; exact (ek _ _ (by simp)).trans ((kk_nf hc (by omega) h1k).2.2.2 h2k).2.2
                  rw [r_227_e (hy := hy)]
                  refine m181y hy hc (kk_lku (by decide) lk) ht hs ?_
                  rw [mm_pI, r_227_0_6 (hy := hy)]
                  refine m210y hy (by omega) h1n (by rw [f41n]; exact h3n) ?_
                  rw [mm_pI, r_227_0_11 (hy := hy), if_neg (by decide)]
                  refine m176y hy (by omega) h1k (by rw [f41k]; exact h3k) ?_
                  rw [mm_pI, r_227_0_16 (hy := hy), if_neg (by decide)]
                  refine m174y hy (by omega) ?_
                  rw [mm_pI, r_227_2_5 (hy := hy), if_neg (by decide)]
                  refine m174y hy (by omega) ?_
                  rw [mm_pI, r_227_2_11 (hy := hy), if_neg (by decide)]
                  rw [if_pos s51]
                  refine m211y hy (by omega) h1n f41n kdn ?_
                  rw [mm_pI, r_227_4_7 (hy := hy), if_neg (by decide)]
                  refine m211n hy (by omega) h1k f41k kdk ?_
                  rw [mm_pI, r_227_4_12 (hy := hy), if_pos rfl, r_227_5 (hy := hy)]
                  exact mfin _ _ rfl
              · rw [if_neg kdn, r_12_5 (hx := hx)]
                refine fin (-3) ⟨_, rfl, by omega, by omega⟩ ?_
                have ek : ∀ (x : mm_Id) (j : Int), 40 ≤ x.1 → h x j = h x j := fun _ _ _ => rfl
                have lk := kk_lkr h
                have f29 : mm_up h (40, 0, 0) 0 0 (40, 0, 0) 29 = h (1, 0, 0) 12 := (mm_upj (by decide)).trans ((ek _ _ (by simp)).trans (kk_cal hc).1.symm)
                have f41n : mm_up h (40, 0, 0) 0 0 (41, 0, 0) (36 * s + n - 1) = h (24, s, n) 0 := by rw [mm_upf (by decide)]; exact (ek _ _ (by simp)).trans (kk_nf hc (by omega) h1n).1
                have f44n : mm_up h (40, 0, 0) 0 0 (44, 0, 0) (36 * s + n - 1) = h (24, s, n) 6 := by rw [mm_upf (by decide)]; exact (ek _ _ (by simp)).trans (kk_nf hc (by omega) h1n).2.1
                have f49n : mm_up h (40, 0, 0) 0 0 (49, 0, 0) (36 * s + n - 1) = h (24, s, n) 11 := by rw [mm_upf (by decide)]; exact (ek _ _ (by simp)).trans (kk_nf hc (by omega) h1n).2.2.1
                have f42n : mm_up h (40, 0, 0) 0 0 (42, 0, 0) (36 * s + n - 1) = h (24, s, n) 1 := by rw [mm_upf (by decide)]; exact (ek _ _ (by simp)).trans ((kk_nf hc (by omega) h1n).2.2.2 h2n).1
                have f47n : mm_up h (40, 0, 0) 0 0 (47, 0, 0) (36 * s + n - 1) = h (24, s, n) 2 := by rw [mm_upf (by decide)]; exact (ek _ _ (by simp)).trans ((kk_nf hc (by omega) h1n).2.2.2 h2n).2.1
                have f48n : mm_up h (40, 0, 0) 0 0 (48, 0, 0) (36 * s + n - 1) = h (24, s, n) 3 := by rw [mm_upf (by decide)]; exact (ek _ _ (by simp)).trans ((kk_nf hc (by omega) h1n).2.2.2 h2n).2.2
                have f41k : mm_up h (40, 0, 0) 0 0 (41, 0, 0) (36 * s + k - 1) = h (24, s, k) 0 := by rw [mm_upf (by decide)]; exact (ek _ _ (by simp)).trans (kk_nf hc (by omega) h1k).1
                have f44k : mm_up h (40, 0, 0) 0 0 (44, 0, 0) (36 * s + k - 1) = h (24, s, k) 6 := by rw [mm_upf (by decide)]; exact (ek _ _ (by simp)).trans (kk_nf hc (by omega) h1k).2.1
                have f49k : mm_up h (40, 0, 0) 0 0 (49, 0, 0) (36 * s + k - 1) = h (24, s, k) 11 := by rw [mm_upf (by decide)]; exact (ek _ _ (by simp)).trans (kk_nf hc (by omega) h1k).2.2.1
                have f42k : mm_up h (40, 0, 0) 0 0 (42, 0, 0) (36 * s + k - 1) = h (24, s, k) 1 := by rw [mm_upf (by decide)]; exact (ek _ _ (by simp)).trans ((kk_nf hc (by omega) h1k).2.2.2 h2k).1
                have f47k : mm_up h (40, 0, 0) 0 0 (47, 0, 0) (36 * s + k - 1) = h (24, s, k) 2 := by rw [mm_upf (by decide)]; exact (ek _ _ (by simp)).trans ((kk_nf hc (by omega) h1k).2.2.2 h2k).2.1
                have f48k : mm_up h (40, 0, 0) 0 0 (48, 0, 0) (36 * s + k - 1) = h (24, s, k) 3 := by rw [mm_upf (by decide)]; exact (ek _ _ (by simp)).trans ((kk_nf hc (by omega) h1k).2.2.2 h2k).2.2
                rw [r_227_e (hy := hy)]
                refine m181y hy hc (kk_lku (by decide) lk) ht hs ?_
                rw [mm_pI, r_227_0_6 (hy := hy)]
                refine m210y hy (by omega) h1n (by rw [f41n]; exact h3n) ?_
                rw [mm_pI, r_227_0_11 (hy := hy), if_neg (by decide)]
                refine m176y hy (by omega) h1k (by rw [f41k]; exact h3k) ?_
                rw [mm_pI, r_227_0_16 (hy := hy), if_neg (by decide)]
                refine m174y hy (by omega) ?_
                rw [mm_pI, r_227_2_5 (hy := hy), if_neg (by decide)]
                refine m174y hy (by omega) ?_
                rw [mm_pI, r_227_2_11 (hy := hy), if_neg (by decide)]
                rw [if_pos s51]
                refine m211n hy (by omega) h1n f41n kdn ?_
                rw [mm_pI, r_227_4_7 (hy := hy), if_pos rfl, r_227_5 (hy := hy)]
                exact mfin _ _ rfl
            · have s5 : 5 ≤ s := by
                by_cases z : s < 5
                · exact absurd hs (hs5 s z)
                · omega
              rw [mm_pR, r_12_4_3 (htx6 := hsT) (htx7 := hsT) (hnx7 := hnN) (htx8 := hsT) (hnx8 := hkN) (hx := hx), r_12_5 (hx := hx)]
              refine fin (-3) ⟨_, rfl, by omega, by omega⟩ ?_
              have ek : ∀ (x : mm_Id) (j : Int), 40 ≤ x.1 → h x j = h x j := fun _ _ _ => rfl
              have lk := kk_lkr h
              have f29 : mm_up h (40, 0, 0) 0 0 (40, 0, 0) 29 = h (1, 0, 0) 12 := (mm_upj (by decide)).trans ((ek _ _ (by simp)).trans (kk_cal hc).1.symm)
              have f41n : mm_up h (40, 0, 0) 0 0 (41, 0, 0) (36 * s + n - 1) = h (24, s, n) 0 := by rw [mm_upf (by decide)]; exact (ek _ _ (by simp)).trans (kk_nf hc (by omega) h1n).1
              have f44n : mm_up h (40, 0, 0) 0 0 (44, 0, 0) (36 * s + n - 1) = h (24, s, n) 6 := by rw [mm_upf (by decide)]; exact (ek _ _ (by simp)).trans (kk_nf hc (by omega) h1n).2.1
              have f49n : mm_up h (40, 0, 0) 0 0 (49, 0, 0) (36 * s + n - 1) = h (24, s, n) 11 := by rw [mm_upf (by decide)]; exact (ek _ _ (by simp)).trans (kk_nf hc (by omega) h1n).2.2.1
              have f42n : mm_up h (40, 0, 0) 0 0 (42, 0, 0) (36 * s + n - 1) = h (24, s, n) 1 := by rw [mm_upf (by decide)]; exact (ek _ _ (by simp)).trans ((kk_nf hc (by omega) h1n).2.2.2 h2n).1
              have f47n : mm_up h (40, 0, 0) 0 0 (47, 0, 0) (36 * s + n - 1) = h (24, s, n) 2 := by rw [mm_upf (by decide)]; exact (ek _ _ (by simp)).trans ((kk_nf hc (by omega) h1n).2.2.2 h2n).2.1
              have f48n : mm_up h (40, 0, 0) 0 0 (48, 0, 0) (36 * s + n - 1) = h (24, s, n) 3 := by rw [mm_upf (by decide)]; exact (ek _ _ (by simp)).trans ((kk_nf hc (by omega) h1n).2.2.2 h2n).2.2
              have f41k : mm_up h (40, 0, 0) 0 0 (41, 0, 0) (36 * s + k - 1) = h (24, s, k) 0 := by rw [mm_upf (by decide)]; exact (ek _ _ (by simp)).trans (kk_nf hc (by omega) h1k).1
              have f44k : mm_up h (40, 0, 0) 0 0 (44, 0, 0) (36 * s + k - 1) = h (24, s, k) 6 := by rw [mm_upf (by decide)]; exact (ek _ _ (by simp)).trans (kk_nf hc (by omega) h1k).2.1
              have f49k : mm_up h (40, 0, 0) 0 0 (49, 0, 0) (36 * s + k - 1) = h (24, s, k) 11 := by rw [mm_upf (by decide)]; exact (ek _ _ (by simp)).trans (kk_nf hc (by omega) h1k).2.2.1
              have f42k : mm_up h (40, 0, 0) 0 0 (42, 0, 0) (36 * s + k - 1) = h (24, s, k) 1 := by rw [mm_upf (by decide)]; exact (ek _ _ (by simp)).trans ((kk_nf hc (by omega) h1k).2.2.2 h2k).1
              have f47k : mm_up h (40, 0, 0) 0 0 (47, 0, 0) (36 * s + k - 1) = h (24, s, k) 2 := by rw [mm_upf (by decide)]; exact (ek _ _ (by simp)).trans ((kk_nf hc (by omega) h1k).2.2.2 h2k).2.1
              have f48k : mm_up h (40, 0, 0) 0 0 (48, 0, 0) (36 * s + k - 1) = h (24, s, k) 3 := by rw [mm_upf (by decide)]; exact (ek _ _ (by simp)).trans ((kk_nf hc (by omega) h1k).2.2.2 h2k).2.2
              rw [r_227_e (hy := hy)]
              refine m181y hy hc (kk_lku (by decide) lk) ht hs ?_
              rw [mm_pI, r_227_0_6 (hy := hy)]
              refine m210y hy (by omega) h1n (by rw [f41n]; exact h3n) ?_
              rw [mm_pI, r_227_0_11 (hy := hy), if_neg (by decide)]
              refine m176y hy (by omega) h1k (by rw [f41k]; exact h3k) ?_
              rw [mm_pI, r_227_0_16 (hy := hy), if_neg (by decide)]
              refine m174y hy (by omega) ?_
              rw [mm_pI, r_227_2_5 (hy := hy), if_neg (by decide)]
              refine m174y hy (by omega) ?_
              rw [mm_pI, r_227_2_11 (hy := hy), if_neg (by decide)]
              rw [if_neg (show ¬ s < 5 by omega), r_227_5 (hy := hy)]
              exact mfin _ _ rfl
          · rw [mm_pI, r_12_2_7 (htx6 := hsT) (htx7 := hsT) (hnx7 := hnN) (htx8 := hsT) (hnx8 := hkN) (hx := hx), if_pos rfl, r_12_3 (hx := hx)]
            refine fin (-2) ⟨_, rfl, by omega, by omega⟩ ?_
            have ek : ∀ (x : mm_Id) (j : Int), 40 ≤ x.1 → h x j = h x j := fun _ _ _ => rfl
            have lk := kk_lkr h
            have f29 : mm_up h (40, 0, 0) 0 0 (40, 0, 0) 29 = h (1, 0, 0) 12 := (mm_upj (by decide)).trans ((ek _ _ (by simp)).trans (kk_cal hc).1.symm)
            have f41n : mm_up h (40, 0, 0) 0 0 (41, 0, 0) (36 * s + n - 1) = h (24, s, n) 0 := by rw [mm_upf (by decide)]; exact (ek _ _ (by simp)).trans (kk_nf hc (by omega) h1n).1
            have f44n : mm_up h (40, 0, 0) 0 0 (44, 0, 0) (36 * s + n - 1) = h (24, s, n) 6 := by rw [mm_upf (by decide)]; exact (ek _ _ (by simp)).trans (kk_nf hc (by omega) h1n).2.1
            have f49n : mm_up h (40, 0, 0) 0 0 (49, 0, 0) (36 * s + n - 1) = h (24, s, n) 11 := by rw [mm_upf (by decide)]; exact (ek _ _ (by simp)).trans (kk_nf hc (by omega) h1n).2.2.1
            have f42n : mm_up h (40, 0, 0) 0 0 (42, 0, 0) (36 * s + n - 1) = h (24, s, n) 1 := by rw [mm_upf (by decide)]; exact (ek _ _ (by simp)).trans ((kk_nf hc (by omega) h1n).2.2.2 h2n).1
            have f47n : mm_up h (40, 0, 0) 0 0 (47, 0, 0) (36 * s + n - 1) = h (24, s, n) 2 := by rw [mm_upf (by decide)]; exact (ek _ _ (by simp)).trans ((kk_nf hc (by omega) h1n).2.2.2 h2n).2.1
            have f48n : mm_up h (40, 0, 0) 0 0 (48, 0, 0) (36 * s + n - 1) = h (24, s, n) 3 := by rw [mm_upf (by decide)]; exact (ek _ _ (by simp)).trans ((kk_nf hc (by omega) h1n).2.2.2 h2n).2.2
            have f41k : mm_up h (40, 0, 0) 0 0 (41, 0, 0) (36 * s + k - 1) = h (24, s, k) 0 := by rw [mm_upf (by decide)]; exact (ek _ _ (by simp)).trans (kk_nf hc (by omega) h1k).1
            have f44k : mm_up h (40, 0, 0) 0 0 (44, 0, 0) (36 * s + k - 1) = h (24, s, k) 6 := by rw [mm_upf (by decide)]; exact (ek _ _ (by simp)).trans (kk_nf hc (by omega) h1k).2.1
            have f49k : mm_up h (40, 0, 0) 0 0 (49, 0, 0) (36 * s + k - 1) = h (24, s, k) 11 := by rw [mm_upf (by decide)]; exact (ek _ _ (by simp)).trans (kk_nf hc (by omega) h1k).2.2.1
            have f42k : mm_up h (40, 0, 0) 0 0 (42, 0, 0) (36 * s + k - 1) = h (24, s, k) 1 := by rw [mm_upf (by decide)]; exact (ek _ _ (by simp)).trans ((kk_nf hc (by omega) h1k).2.2.2 h2k).1
            have f47k : mm_up h (40, 0, 0) 0 0 (47, 0, 0) (36 * s + k - 1) = h (24, s, k) 2 := by rw [mm_upf (by decide)]; exact (ek _ _ (by simp)).trans ((kk_nf hc (by omega) h1k).2.2.2 h2k).2.1
            have f48k : mm_up h (40, 0, 0) 0 0 (48, 0, 0) (36 * s + k - 1) = h (24, s, k) 3 := by rw [mm_upf (by decide)]; exact (ek _ _ (by simp)).trans ((kk_nf hc (by omega) h1k).2.2.2 h2k).2.2
            rw [r_227_e (hy := hy)]
            refine m181y hy hc (kk_lku (by decide) lk) ht hs ?_
            rw [mm_pI, r_227_0_6 (hy := hy)]
            refine m210y hy (by omega) h1n (by rw [f41n]; exact h3n) ?_
            rw [mm_pI, r_227_0_11 (hy := hy), if_neg (by decide)]
            refine m176y hy (by omega) h1k (by rw [f41k]; exact h3k) ?_
            rw [mm_pI, r_227_0_16 (hy := hy), if_neg (by decide)]
            refine m174y hy (by omega) ?_
            rw [mm_pI, r_227_2_5 (hy := hy), if_neg (by decide)]
            refine m174n hy wq ?_
            rw [mm_pI, r_227_2_11 (hy := hy), if_pos rfl, r_227_3 (hy := hy)]
            exact mfin _ _ rfl
        · rw [mm_pI, r_12_2_3 (htx6 := hsT) (htx7 := hsT) (hnx7 := hnN) (htx8 := hsT) (hnx8 := hkN) (hx := hx), if_pos rfl, r_12_3 (hx := hx)]
          refine fin (-2) ⟨_, rfl, by omega, by omega⟩ ?_
          have ek : ∀ (x : mm_Id) (j : Int), 40 ≤ x.1 → h x j = h x j := fun _ _ _ => rfl
          have lk := kk_lkr h
          have f29 : mm_up h (40, 0, 0) 0 0 (40, 0, 0) 29 = h (1, 0, 0) 12 := (mm_upj (by decide)).trans ((ek _ _ (by simp)).trans (kk_cal hc).1.symm)
          have f41n : mm_up h (40, 0, 0) 0 0 (41, 0, 0) (36 * s + n - 1) = h (24, s, n) 0 := by rw [mm_upf (by decide)]; exact (ek _ _ (by simp)).trans (kk_nf hc (by omega) h1n).1
          have f44n : mm_up h (40, 0, 0) 0 0 (44, 0, 0) (36 * s + n - 1) = h (24, s, n) 6 := by rw [mm_upf (by decide)]; exact (ek _ _ (by simp)).trans (kk_nf hc (by omega) h1n).2.1
          have f49n : mm_up h (40, 0, 0) 0 0 (49, 0, 0) (36 * s + n - 1) = h (24, s, n) 11 := by rw [mm_upf (by decide)]; exact (ek _ _ (by simp)).trans (kk_nf hc (by omega) h1n).2.2.1
          have f42n : mm_up h (40, 0, 0) 0 0 (42, 0, 0) (36 * s + n - 1) = h (24, s, n) 1 := by rw [mm_upf (by decide)]; exact (ek _ _ (by simp)).trans ((kk_nf hc (by omega) h1n).2.2.2 h2n).1
          have f47n : mm_up h (40, 0, 0) 0 0 (47, 0, 0) (36 * s + n - 1) = h (24, s, n) 2 := by rw [mm_upf (by decide)]; exact (ek _ _ (by simp)).trans ((kk_nf hc (by omega) h1n).2.2.2 h2n).2.1
          have f48n : mm_up h (40, 0, 0) 0 0 (48, 0, 0) (36 * s + n - 1) = h (24, s, n) 3 := by rw [mm_upf (by decide)]; exact (ek _ _ (by simp)).trans ((kk_nf hc (by omega) h1n).2.2.2 h2n).2.2
          have f41k : mm_up h (40, 0, 0) 0 0 (41, 0, 0) (36 * s + k - 1) = h (24, s, k) 0 := by rw [mm_upf (by decide)]; exact (ek _ _ (by simp)).trans (kk_nf hc (by omega) h1k).1
          have f44k : mm_up h (40, 0, 0) 0 0 (44, 0, 0) (36 * s + k - 1) = h (24, s, k) 6 := by rw [mm_upf (by decide)]; exact (ek _ _ (by simp)).trans (kk_nf hc (by omega) h1k).2.1
          have f49k : mm_up h (40, 0, 0) 0 0 (49, 0, 0) (36 * s + k - 1) = h (24, s, k) 11 := by rw [mm_upf (by decide)]; exact (ek _ _ (by simp)).trans (kk_nf hc (by omega) h1k).2.2.1
          have f42k : mm_up h (40, 0, 0) 0 0 (42, 0, 0) (36 * s + k - 1) = h (24, s, k) 1 := by rw [mm_upf (by decide)]; exact (ek _ _ (by simp)).trans ((kk_nf hc (by omega) h1k).2.2.2 h2k).1
          have f47k : mm_up h (40, 0, 0) 0 0 (47, 0, 0) (36 * s + k - 1) = h (24, s, k) 2 := by rw [mm_upf (by decide)]; exact (ek _ _ (by simp)).trans ((kk_nf hc (by omega) h1k).2.2.2 h2k).2.1
          have f48k : mm_up h (40, 0, 0) 0 0 (48, 0, 0) (36 * s + k - 1) = h (24, s, k) 3 := by rw [mm_upf (by decide)]; exact (ek _ _ (by simp)).trans ((kk_nf hc (by omega) h1k).2.2.2 h2k).2.2
          rw [r_227_e (hy := hy)]
          refine m181y hy hc (kk_lku (by decide) lk) ht hs ?_
          rw [mm_pI, r_227_0_6 (hy := hy)]
          refine m210y hy (by omega) h1n (by rw [f41n]; exact h3n) ?_
          rw [mm_pI, r_227_0_11 (hy := hy), if_neg (by decide)]
          refine m176y hy (by omega) h1k (by rw [f41k]; exact h3k) ?_
          rw [mm_pI, r_227_0_16 (hy := hy), if_neg (by decide)]
          refine m174n hy wl ?_
          rw [mm_pI, r_227_2_5 (hy := hy), if_pos rfl, r_227_3 (hy := hy)]
          exact mfin _ _ rfl
      · rw [mm_pR, r_12_0_13c (htx6 := hsT) (htx7 := hsT) (hnx7 := hnN) (hx := hx), r_12_1 (hx := hx)]
        refine fin (-1) ⟨_, rfl, by omega, by omega⟩ ?_
        have ek : ∀ (x : mm_Id) (j : Int), 40 ≤ x.1 → h x j = h x j := fun _ _ _ => rfl
        have lk := kk_lkr h
        have f29 : mm_up h (40, 0, 0) 0 0 (40, 0, 0) 29 = h (1, 0, 0) 12 := (mm_upj (by decide)).trans ((ek _ _ (by simp)).trans (kk_cal hc).1.symm)
        have f41n : mm_up h (40, 0, 0) 0 0 (41, 0, 0) (36 * s + n - 1) = h (24, s, n) 0 := by rw [mm_upf (by decide)]; exact (ek _ _ (by simp)).trans (kk_nf hc (by omega) h1n).1
        have f44n : mm_up h (40, 0, 0) 0 0 (44, 0, 0) (36 * s + n - 1) = h (24, s, n) 6 := by rw [mm_upf (by decide)]; exact (ek _ _ (by simp)).trans (kk_nf hc (by omega) h1n).2.1
        have f49n : mm_up h (40, 0, 0) 0 0 (49, 0, 0) (36 * s + n - 1) = h (24, s, n) 11 := by rw [mm_upf (by decide)]; exact (ek _ _ (by simp)).trans (kk_nf hc (by omega) h1n).2.2.1
        have f42n : mm_up h (40, 0, 0) 0 0 (42, 0, 0) (36 * s + n - 1) = h (24, s, n) 1 := by rw [mm_upf (by decide)]; exact (ek _ _ (by simp)).trans ((kk_nf hc (by omega) h1n).2.2.2 h2n).1
        have f47n : mm_up h (40, 0, 0) 0 0 (47, 0, 0) (36 * s + n - 1) = h (24, s, n) 2 := by rw [mm_upf (by decide)]; exact (ek _ _ (by simp)).trans ((kk_nf hc (by omega) h1n).2.2.2 h2n).2.1
        have f48n : mm_up h (40, 0, 0) 0 0 (48, 0, 0) (36 * s + n - 1) = h (24, s, n) 3 := by rw [mm_upf (by decide)]; exact (ek _ _ (by simp)).trans ((kk_nf hc (by omega) h1n).2.2.2 h2n).2.2
        rw [r_227_e (hy := hy)]
        refine m181y hy hc (kk_lku (by decide) lk) ht hs ?_
        rw [mm_pI, r_227_0_6 (hy := hy)]
        refine m210y hy (by omega) h1n (by rw [f41n]; exact h3n) ?_
        rw [mm_pI, r_227_0_11 (hy := hy), if_neg (by decide)]
        refine m176z hy (by omega) (fun w => hk0 ((kk_isn hc (by omega)).2 ⟨w.1, by rw [mm_upf (by decide)] at w; exact w.2⟩)) ?_
        rw [mm_pI, r_227_0_16 (hy := hy), if_pos rfl, r_227_1 (hy := hy)]
        exact mfin _ _ rfl
    · rw [mm_pR, r_12_0_8a (htx6 := hsT) (hx := hx)]
      refine s56 hsT hx (fun h1k _ => ?_) (fun _ => ?_)
      · rw [mm_pR, r_12_0_13b (htx6 := hsT) (hty0 := hsT) (hny0 := ⟨by omega, h1k.2⟩) (hx := hx), r_12_1 (hx := hx)]
        refine fin (-1) ⟨_, rfl, by omega, by omega⟩ ?_
        have ek : ∀ (x : mm_Id) (j : Int), 40 ≤ x.1 → h x j = h x j := fun _ _ _ => rfl
        have lk := kk_lkr h
        rw [r_227_e (hy := hy)]
        refine m181y hy hc (kk_lku (by decide) lk) ht hs ?_
        rw [mm_pI, r_227_0_6 (hy := hy)]
        refine m210z hy (by omega) (fun w => hn0 ((kk_isn hc (by omega)).2 ⟨w.1, by rw [mm_upf (by decide)] at w; exact w.2⟩)) ?_
        rw [mm_pI, r_227_0_11 (hy := hy), if_pos rfl, r_227_1 (hy := hy)]
        exact mfin _ _ rfl
      · rw [mm_pR, r_12_0_13a (htx6 := hsT) (hx := hx), r_12_1 (hx := hx)]
        refine fin (-1) ⟨_, rfl, by omega, by omega⟩ ?_
        have ek : ∀ (x : mm_Id) (j : Int), 40 ≤ x.1 → h x j = h x j := fun _ _ _ => rfl
        have lk := kk_lkr h
        rw [r_227_e (hy := hy)]
        refine m181y hy hc (kk_lku (by decide) lk) ht hs ?_
        rw [mm_pI, r_227_0_6 (hy := hy)]
        refine m210z hy (by omega) (fun w => hn0 ((kk_isn hc (by omega)).2 ⟨w.1, by rw [mm_upf (by decide)] at w; exact w.2⟩)) ?_
        rw [mm_pI, r_227_0_11 (hy := hy), if_pos rfl, r_227_1 (hy := hy)]
        exact mfin _ _ rfl
  · rw [mm_pR, r_12_0_3 (hx := hx)]
    refine s56n hx ?_
    rw [mm_pR, r_12_0_8 (hx := hx)]
    refine s56n hx ?_
    rw [mm_pR, r_12_0_13 (hx := hx), r_12_1 (hx := hx)]
    refine fin (-1) ⟨_, rfl, by omega, by omega⟩ ?_
    have ek : ∀ (x : mm_Id) (j : Int), 40 ≤ x.1 → h x j = h x j := fun _ _ _ => rfl
    have lk := kk_lkr h
    rw [r_227_e (hy := hy)]
    refine m181n hy hc (kk_lku (by decide) lk) ht hs ?_
    rw [mm_pI, r_227_0_6 (hy := hy)]
    refine m210n hy ?_
    rw [mm_pI, r_227_0_11 (hy := hy), if_pos rfl, r_227_1 (hy := hy)]
    exact mfin _ _ rfl

