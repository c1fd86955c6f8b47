/-! the calls of both: link -/
theorem kk_acT {t : Int} {a g : mm_Id → Int → Int} (c : kk_acC t a g) {f : Nat} {t2 n j : Int} (hf : 24 ≤ f ∧ f ≤ 30) (h2 : ¬ (13 ≤ t2 ∧ t2 < 18)) : g (f, t2, n) j = a (f, t2, n) j := by
  rcases c with ⟨_, c⟩ | ⟨_, c⟩
  · rw [c, mm_upf (by omega), mm_upf (by omega)]
  · rw [c.2.2.2.2 _ _ (by show f < 40; omega) (kk_ctn (by omega)) (by rintro ⟨i, hi, _, q⟩; unfold kk_tr at q; simp at q; omega) (by rintro ⟨i, _, q, _⟩; simp at q; omega) (by rintro ⟨q, _⟩; simp at q; omega), mm_upf (by omega), mm_upf (by omega)]
section
variable {g : mm_Id → Int → Int} {dh : Int → Int} {nx ns : Int} {Q : mm_V → mm_H → Prop}
theorem m176y (hy : 10581 ≤ nx) {s n : Int} (hs : 0 ≤ s ∧ s < 29) (h1 : 1 ≤ n ∧ n < 37) (h2 : 0 < g (41, 0, 0) (36 * s + n - 1)) (K : Q (zI 1) (mm_z g dh nx ns)) : mm_Cl 176 [zR (40, 0, 0), zI s, zI n] (mm_z g dh nx ns) Q := m176 hy hs (fun _ _ => K) (fun q => absurd ⟨h1, h2⟩ q)
theorem m176z (hy : 10581 ≤ nx) {s n : Int} (hs : 0 ≤ s ∧ s < 29) (h2 : ¬ ((1 ≤ n ∧ n < 37) ∧ 0 < g (41, 0, 0) (36 * s + n - 1))) (K : Q (zI 0) (mm_z g dh nx ns)) : mm_Cl 176 [zR (40, 0, 0), zI s, zI n] (mm_z g dh nx ns) Q := m176 hy hs (fun a b => absurd ⟨a, b⟩ h2) (fun _ => K)
end
/-- entries counted there, told by uses here -/
theorem kk_efu {b : Int} {h G : mm_Id → Int → Int} {dh : Int → Int} (hc : kk_core b h dh) {s n : Int} (hs : 0 ≤ s ∧ s < 13) (eG : ∀ (f : Nat) j, f = 44 ∨ f = 46 → G (f, 0, 0) j = h (f, 0, 0) j) : kk_ef G s n = kk_ec h s n := by
  rw [kk_efc (fun d _ _ => eG 44 _ (Or.inl rfl)) (fun j => eG 46 j (Or.inr rfl))]
  exact (kk_ecf (fun n n0 n1 => kk_NRC hc (by omega) ⟨n0, n1⟩) (fun n n0 n1 => (kk_NWC hc (mm_T13 hs) ⟨n0, n1⟩).2.1.1) n).symm

theorem c_10 {b : Int} {h : mm_Id → Int → Int} {dh : Int → Int} {nx ns : Int} (hy : 10581 ≤ nx) (hc : kk_core b h dh) (hb : b + 1 ≤ 1000000) {t n k l : Int} (ht : -2147483648 ≤ t ∧ t < 2147483648) (hn : -2147483648 ≤ n ∧ n < 2147483648) (hk : -2147483648 ≤ k ∧ k < 2147483648) (hl : -2147483648 ≤ l ∧ l < 2147483648) : kk_call 10 223 [zI t, zI n, zI k, zI l] b h dh nx ns kk_SI := by
  unfold kk_call
  have hx : 5275 ≤ nx := by omega
  have hc0 : kk_core b (mm_up h (40, 0, 0) 0 0) dh := kk_core0 hc
  have fin : ∀ v, kk_SI (zI v) → mm_Cl 223 [zR (40, 0, 0), zI t, zI n, zI k, zI l] (mm_z h dh nx ns) (fun (r2 : mm_V) (h2 : mm_H) => r2 = zI v ∧ ∃ g2, h2 = mm_z g2 dh nx ns ∧ kk_core (b + 1) g2 dh ∧ ∀ x j, kk_scr x j → g2 x j = h x j) →
      (fun (r : mm_V) (h1 : mm_H) => kk_SI r ∧ ∃ g dh1, h1 = mm_z g dh1 nx ns ∧ mm_Cl 223 [zR (40, 0, 0), zI t, zI n, zI k, zI l] (mm_z g dh1 nx ns) (fun r2 h2 => r2 = r ∧ ∃ g2, h2 = mm_z g2 dh1 nx ns ∧ kk_core (b + 1) g2 dh1 ∧ ∀ x j, kk_scr x j → g2 x j = h x j)) (zI v) (mm_z h dh nx ns) :=
    fun v h1 h2 => ⟨h1, h, dh, rfl, h2⟩
  have mfin : ∀ v w : Int, w = v → (fun (r2 : mm_V) (h2 : mm_H) => r2 = zI v ∧ ∃ g2, h2 = mm_z g2 dh nx ns ∧ kk_core (b + 1) g2 dh ∧ ∀ x j, kk_scr x j → g2 x j = h x j) (zI w) (mm_z (mm_up h (40, 0, 0) 0 0) dh nx ns) :=
    fun v w e => ⟨by rw [e], _, rfl, kk_coreS hb hc0, fun x j hs => kk_scr0 hs⟩
  rw [r_10_e (hx := hx)]
  refine s55 hx (kk_nmC hc) ht.1 ht.2 (fun s hs => ?_) (fun hs => ?_)
  · have hsT := mm_T13 hs.1
    have hs13 := hs.1
    rw [mm_pR, r_10_0_3a (hty0 := hsT) (hx := hx)]
    refine s56 hsT hx (fun h1n h2n => ?_) (fun hn0 => ?_)
    · have hnN : mm_isN n := ⟨by omega, h1n.2⟩
      have NWn := kk_NWC hc hsT h1n
      have h3n : 0 < h (24, s, n) 0 := by
        have := NWn.1.1
        omega
      rw [mm_pR, r_10_0_8b (htx5 := hsT) (hty0 := hsT) (hny0 := hnN) (hx := hx)]
      refine s56 hsT hx (fun h1k h2k => ?_) (fun hk0 => ?_)
      · have hkN : mm_isN k := ⟨by omega, h1k.2⟩
        have NWk := kk_NWC hc hsT h1k
        have NRk := kk_NRC hc (t := s) (n := k) (by omega) h1k
        have h3k : 0 < h (24, s, k) 0 := by
          have := NWk.1.1
          omega
        rw [mm_pR, r_10_0_13c (htx6 := hsT) (hnx6 := hnN) (hty0 := hsT) (hny0 := hkN) (hx := hx)]
        refine s58 hx (fun w1 => ?_) (fun w1 => ?_)
        · rw [mm_pI, r_10_2_3 (htx6 := hsT) (hnx6 := hnN) (htx7 := hsT) (hnx7 := hkN) (hx := hx), if_neg (by decide)]
          refine s53t hx (kk_nmC hc) (fun s5 s50 s51 hs5 => ?_) (fun hs5 => ?_)
          · have e5 := (kk_tp1 hs5 hs).symm
            subst e5
            have hD : mm_isD s := ⟨s50, s51⟩
            have hno := kk_tpp hs
            rw [mm_pR, r_10_3_3a (htx6 := hsT) (hnx6 := hnN) (htx7 := hsT) (hnx7 := hkN) (hty0 := hD) (hx := hx)]
            by_cases kf : h (24, s, n) 0 = 1
            · rw [if_pos kf]
              by_cases kd : h (24, s, k) 0 = 2
              · rw [if_pos kd]
                refine s61 hsT hkN hx (fun w => ?_) (fun w => ?_)
                · rw [mm_pI, r_10_5_3 (htx6 := hsT) (hnx6 := hnN) (htx7 := hsT) (hnx7 := hkN) (htx8 := hD) (hx := hx), if_neg (by decide)]
                  refine s99 hsT hkN hx NWk.2.1 NWk.2.2.2.2.2.2.2.2.2.2.2.1 (fun p p0 p1 p2 => ?_) (fun ab => ?_)
                  · have := (NWk.2.2.2.2.2.2.2.2.2.2.2.2.2.1 p p0 p1).2.1
                    rw [mm_pI, r_10_6_3 (htx6 := hsT) (hnx6 := hnN) (htx7 := hsT) (hnx7 := hkN) (htx8 := hD) (hx := hx), if_neg (by omega)]
                    refine fin (-3) ⟨_, rfl, by omega, by omega⟩ ?_
                    have ek : ∀ (x : mm_Id) (j : Int), 40 ≤ x.1 → h x j = h x j := fun _ _ _ => rfl
                    have lk := kk_lkr h
                    have f29 : mm_up h (40, 0, 0) 0 0 (40, 0, 0) 29 = h (1, 0, 0) 12 := (mm_upj (by decide)).trans ((ek _ _ (by simp)).trans (kk_cal hc).1.symm)
                    have f41n : mm_up h (40, 0, 0) 0 0 (41, 0, 0) (36 * s + n - 1) = h (24, s, n) 0 := by rw [mm_upf (by decide)]; exact (ek _ _ (by simp)).trans (kk_nf hc (by omega) h1n).1
                    have f44n : mm_up h (40, 0, 0) 0 0 (44, 0, 0) (36 * s + n - 1) = h (24, s, n) 6 := by rw [mm_upf (by decide)]; exact (ek _ _ (by simp)).trans (kk_nf hc (by omega) h1n).2.1
                    have f49n : mm_up h (40, 0, 0) 0 0 (49, 0, 0) (36 * s + n - 1) = h (24, s, n) 11 := by rw [mm_upf (by decide)]; exact (ek _ _ (by simp)).trans (kk_nf hc (by omega) h1n).2.2.1
                    have f42n : mm_up h (40, 0, 0) 0 0 (42, 0, 0) (36 * s + n - 1) = h (24, s, n) 1 := by rw [mm_upf (by decide)]; exact (ek _ _ (by simp)).trans ((kk_nf hc (by omega) h1n).2.2.2 h2n).1
                    have f47n : mm_up h (40, 0, 0) 0 0 (47, 0, 0) (36 * s + n - 1) = h (24, s, n) 2 := by rw [mm_upf (by decide)]; exact (ek _ _ (by simp)).trans ((kk_nf hc (by omega) h1n).2.2.2 h2n).2.1
                    have f48n : mm_up h (40, 0, 0) 0 0 (48, 0, 0) (36 * s + n - 1) = h (24, s, n) 3 := by rw [mm_upf (by decide)]; exact (ek _ _ (by simp)).trans ((kk_nf hc (by omega) h1n).2.2.2 h2n).2.2
                    have f41k : mm_up h (40, 0, 0) 0 0 (41, 0, 0) (36 * s + k - 1) = h (24, s, k) 0 := by rw [mm_upf (by decide)]; exact (ek _ _ (by simp)).trans (kk_nf hc (by omega) h1k).1
                    have f44k : mm_up h (40, 0, 0) 0 0 (44, 0, 0) (36 * s + k - 1) = h (24, s, k) 6 := by rw [mm_upf (by decide)]; exact (ek _ _ (by simp)).trans (kk_nf hc (by omega) h1k).2.1
                    have f49k : mm_up h (40, 0, 0) 0 0 (49, 0, 0) (36 * s + k - 1) = h (24, s, k) 11 := by rw [mm_upf (by decide)]; exact (ek _ _ (by simp)).trans (kk_nf hc (by omega) h1k).2.2.1
                    have f42k : mm_up h (40, 0, 0) 0 0 (42, 0, 0) (36 * s + k - 1) = h (24, s, k) 1 := by rw [mm_upf (by decide)]; exact (ek _ _ (by simp)).trans ((kk_nf hc (by omega) h1k).2.2.2 h2k).1
                    have f47k : mm_up h (40, 0, 0) 0 0 (47, 0, 0) (36 * s + k - 1) = h (24, s, k) 2 := by rw [mm_upf (by decide)]; exact (ek _ _ (by simp)).trans ((kk_nf hc (by omega) h1k).2.2.2 h2k).2.1
                    have f48k : mm_up h (40, 0, 0) 0 0 (48, 0, 0) (36 * s + k - 1) = h (24, s, k) 3 := by rw [mm_upf (by decide)]; exact (ek _ _ (by simp)).trans ((kk_nf hc (by omega) h1k).2.2.2 h2k).2.2
                    rw [r_223_e (hy := hy)]
                    refine m181y hy hc (kk_lku (by decide) lk) ht hs ?_
                    rw [mm_pI, r_223_0_6 (hy := hy)]
                    refine m210y hy (by omega) h1n (by rw [f41n]; exact h3n) ?_
                    rw [mm_pI, r_223_0_11 (hy := hy), if_neg (by decide)]
                    refine m176y hy (by omega) h1k (by rw [f41k]; exact h3k) ?_
                    rw [mm_pI, r_223_0_16 (hy := hy), if_neg (by decide)]
                    refine m174y hy (by omega) ?_
                    rw [mm_pI, r_223_2_5 (hy := hy), if_neg (by decide)]
                    rw [if_pos s51]
                    refine m177y hy (by omega) h1n f41n kf ?_
                    rw [mm_pI, r_223_3_7 (hy := hy), if_neg (by decide)]
                    refine m211y hy (by omega) h1k f41k kd ?_
                    rw [mm_pI, r_223_3_12 (hy := hy), if_neg (by decide)]
                    refine m204y hy (by omega) h1k f29 f47k f48k w ?_
                    rw [mm_pI, r_223_5_4 (hy := hy), if_neg (by decide)]
                    have nm : ∀ i, 0 ≤ i → i < h (24, s, k) 6 → mm_up h (40, 0, 0) 0 0 (45, 0, 0) (24 * (36 * s + k - 1) + i) = h (25, s, k) i := fun i i0 i1 => (mm_upf (by decide)).trans ((ek _ _ (by simp)).trans (NRk.2.2.2.2.1 i i0 i1).1.symm)
                    refine m184y hy (by omega) h1k f44k NWk.2.1 ⟨p, ⟨p0, p1⟩, by rw [nm p p0 p1]; exact p2⟩ (fun e e0 e1 e2 => ?_) (p := p)
                    rw [mm_pI, r_223_6_5 (hy := hy), if_neg (by omega)]
                    exact mfin _ _ rfl
                  · rw [mm_pI, r_10_6_3 (htx6 := hsT) (hnx6 := hnN) (htx7 := hsT) (hnx7 := hkN) (htx8 := hD) (hx := hx), if_pos rfl]
                    have u9 := (kk_TWC hc hsT).2.2.1 n h1n.1 h1n.2 kf
                    have uE := (kk_TWC hc hsT).1 n h1n.1 h1n.2 h2n
                    have unn := kk_ecnn h s n
                    have full : (¬ h (24, s, n) 5 < 9 ∨ ¬ h (24, s, k) 6 < 24) → mm_Wp 10 (mm_blk 10 8) [zR (1, 0, 0), zI t, zI n, zI k, zI l, zR (22, s, 0), zR (24, s, n), zR (24, s, k), zR (31, s, 0)] [] (mm_z h dh nx ns) (fun (r : mm_V) (h1 : mm_H) => kk_SI r ∧ ∃ g dh1, h1 = mm_z g dh1 nx ns ∧ mm_Cl 223 [zR (40, 0, 0), zI t, zI n, zI k, zI l] (mm_z g dh1 nx ns) (fun r2 h2 => r2 = r ∧ ∃ g2, h2 = mm_z g2 dh1 nx ns ∧ kk_core (b + 1) g2 dh1 ∧ ∀ x j, kk_scr x j → g2 x j = h x j)) := fun w4 => by
                      have := NWk.2.1
                      rw [r_10_8 (hx := hx)]
                      refine fin (-4) ⟨_, rfl, by omega, by omega⟩ ?_
                      have ek : ∀ (x : mm_Id) (j : Int), 40 ≤ x.1 → h x j = h x j := fun _ _ _ => rfl
                      have lk := kk_lkr h
                      have f29 : mm_up h (40, 0, 0) 0 0 (40, 0, 0) 29 = h (1, 0, 0) 12 := (mm_upj (by decide)).trans ((ek _ _ (by simp)).trans (kk_cal hc).1.symm)
                      have f41n : mm_up h (40, 0, 0) 0 0 (41, 0, 0) (36 * s + n - 1) = h (24, s, n) 0 := by rw [mm_upf (by decide)]; exact (ek _ _ (by simp)).trans (kk_nf hc (by omega) h1n).1
                      have f44n : mm_up h (40, 0, 0) 0 0 (44, 0, 0) (36 * s + n - 1) = h (24, s, n) 6 := by rw [mm_upf (by decide)]; exact (ek _ _ (by simp)).trans (kk_nf hc (by omega) h1n).2.1
                      have f49n : mm_up h (40, 0, 0) 0 0 (49, 0, 0) (36 * s + n - 1) = h (24, s, n) 11 := by rw [mm_upf (by decide)]; exact (ek _ _ (by simp)).trans (kk_nf hc (by omega) h1n).2.2.1
                      have f42n : mm_up h (40, 0, 0) 0 0 (42, 0, 0) (36 * s + n - 1) = h (24, s, n) 1 := by rw [mm_upf (by decide)]; exact (ek _ _ (by simp)).trans ((kk_nf hc (by omega) h1n).2.2.2 h2n).1
                      have f47n : mm_up h (40, 0, 0) 0 0 (47, 0, 0) (36 * s + n - 1) = h (24, s, n) 2 := by rw [mm_upf (by decide)]; exact (ek _ _ (by simp)).trans ((kk_nf hc (by omega) h1n).2.2.2 h2n).2.1
                      have f48n : mm_up h (40, 0, 0) 0 0 (48, 0, 0) (36 * s + n - 1) = h (24, s, n) 3 := by rw [mm_upf (by decide)]; exact (ek _ _ (by simp)).trans ((kk_nf hc (by omega) h1n).2.2.2 h2n).2.2
                      have f41k : mm_up h (40, 0, 0) 0 0 (41, 0, 0) (36 * s + k - 1) = h (24, s, k) 0 := by rw [mm_upf (by decide)]; exact (ek _ _ (by simp)).trans (kk_nf hc (by omega) h1k).1
                      have f44k : mm_up h (40, 0, 0) 0 0 (44, 0, 0) (36 * s + k - 1) = h (24, s, k) 6 := by rw [mm_upf (by decide)]; exact (ek _ _ (by simp)).trans (kk_nf hc (by omega) h1k).2.1
                      have f49k : mm_up h (40, 0, 0) 0 0 (49, 0, 0) (36 * s + k - 1) = h (24, s, k) 11 := by rw [mm_upf (by decide)]; exact (ek _ _ (by simp)).trans (kk_nf hc (by omega) h1k).2.2.1
                      have f42k : mm_up h (40, 0, 0) 0 0 (42, 0, 0) (36 * s + k - 1) = h (24, s, k) 1 := by rw [mm_upf (by decide)]; exact (ek _ _ (by simp)).trans ((kk_nf hc (by omega) h1k).2.2.2 h2k).1
                      have f47k : mm_up h (40, 0, 0) 0 0 (47, 0, 0) (36 * s + k - 1) = h (24, s, k) 2 := by rw [mm_upf (by decide)]; exact (ek _ _ (by simp)).trans ((kk_nf hc (by omega) h1k).2.2.2 h2k).2.1
                      have f48k : mm_up h (40, 0, 0) 0 0 (48, 0, 0) (36 * s + k - 1) = h (24, s, k) 3 := by rw [mm_upf (by decide)]; exact (ek _ _ (by simp)).trans ((kk_nf hc (by omega) h1k).2.2.2 h2k).2.2
                      rw [r_223_e (hy := hy)]
                      refine m181y hy hc (kk_lku (by decide) lk) ht hs ?_
                      rw [mm_pI, r_223_0_6 (hy := hy)]
                      refine m210y hy (by omega) h1n (by rw [f41n]; exact h3n) ?_
                      rw [mm_pI, r_223_0_11 (hy := hy), if_neg (by decide)]
                      refine m176y hy (by omega) h1k (by rw [f41k]; exact h3k) ?_
                      rw [mm_pI, r_223_0_16 (hy := hy), if_neg (by decide)]
                      refine m174y hy (by omega) ?_
                      rw [mm_pI, r_223_2_5 (hy := hy), if_neg (by decide)]
                      rw [if_pos s51]
                      refine m177y hy (by omega) h1n f41n kf ?_
                      rw [mm_pI, r_223_3_7 (hy := hy), if_neg (by decide)]
                      refine m211y hy (by omega) h1k f41k kd ?_
                      rw [mm_pI, r_223_3_12 (hy := hy), if_neg (by decide)]
                      refine m204y hy (by omega) h1k f29 f47k f48k w ?_
                      rw [mm_pI, r_223_5_4 (hy := hy), if_neg (by decide)]
                      have nm : ∀ i, 0 ≤ i → i < h (24, s, k) 6 → mm_up h (40, 0, 0) 0 0 (45, 0, 0) (24 * (36 * s + k - 1) + i) = h (25, s, k) i := fun i i0 i1 => (mm_upf (by decide)).trans ((ek _ _ (by simp)).trans (NRk.2.2.2.2.1 i i0 i1).1.symm)
                      refine m184n hy (by omega) h1k f44k NWk.2.1 (fun e e0 e1 => by rw [nm e e0 e1]; exact ab e e0 e1) ?_
                      rw [mm_pI, r_223_6_5 (hy := hy), if_pos (by decide)]
                      have ef : kk_ef (mm_up h (40, 0, 0) 0 0) s n = h (24, s, n) 5 := by
                        rw [kk_efu hc hs13 (fun f j hf => mm_upf (by omega))]
                        exact ((kk_TWC hc hsT).1 n h1n.1 h1n.2 h2n).symm
                      refine m188 hy (by omega) (fun d d0 d1 => by
                        have w := (kk_MWC hc (s := s) (n := d) (by omega) ⟨d0, d1⟩).1.2.1
                        rw [mm_upf (by decide)]; exact w) ?_
                      rw [mm_pI, r_223_7_4 (hy := hy), ef]
                      have b8 : mm_Wp 223 (mm_blk 223 8) [zR (40, 0, 0), zI t, zI n, zI k, zI l, zI s, zI (h (24, s, n) 5)] [] (mm_z (mm_up h (40, 0, 0) 0 0) dh nx ns) (fun (r2 : mm_V) (h2 : mm_H) => r2 = zI (-4) ∧ ∃ g2, h2 = mm_z g2 dh nx ns ∧ kk_core (b + 1) g2 dh ∧ ∀ x j, kk_scr x j → g2 x j = h x j) := by
                        rw [r_223_8 (hy := hy)]
                        exact mfin _ _ rfl
                      by_cases u9 : h (24, s, n) 5 = 9
                      · rw [if_pos u9]; exact b8
                      · rw [if_neg u9]
                        refine m175 hy (by omega) h1k ?_
                        have c24 : h (24, s, k) 6 = 24 := by omega
                        rw [mm_pI, r_223_7_13 (hy := hy), f44k, if_pos c24]
                        exact ⟨by omega, b8⟩
                    by_cases u9' : h (24, s, n) 5 < 9
                    · rw [if_pos u9']
                      by_cases c24 : h (24, s, k) 6 < 24
                      · rw [if_pos c24]
                        have ck := NWk.2.1
                        refine s100 hsT hkN hx ⟨ck.1, c24⟩ (fun p p0 p1 p2 p3 => ?_)
                        rw [mm_pU]
                        obtain ⟨hcc, hh⟩ : ∃ hcc, hcc = mm_up (mm_up (mm_up (mm_up (mm_shu h (25, s, k) (26, s, k) p (h (24, s, k) 6)) (24, s, k) 6 (h (24, s, k) 6 + 1)) (25, s, k) p l) (26, s, k) p n) (24, s, n) 5 (h (24, s, n) 5 + 1) := ⟨_, rfl⟩
                        have sX := fun i => kk_shuX (f := h) (X := (25, s, k)) (Y := (26, s, k)) (W := (24, s, k)) (p := p) (c := h (24, s, k) 6) (x := l) (m := n) (j := 6) (v := h (24, s, k) 6 + 1) (o := 0) (by simp) (by simp) i
                        have sY := fun i => kk_shuY (f := h) (X := (25, s, k)) (Y := (26, s, k)) (W := (24, s, k)) (p := p) (c := h (24, s, k) 6) (x := l) (m := n) (j := 6) (v := h (24, s, k) 6 + 1) (o := 0) (by simp) (by simp) i
                        have sW := kk_shuW (f := h) (X := (25, s, k)) (Y := (26, s, k)) (W := (24, s, k)) (p := p) (c := h (24, s, k) 6) (x := l) (m := n) (j := 6) (v := h (24, s, k) 6 + 1) (o := 0) (by simp) (by simp)
                        have sO := fun y j (a1 : ¬ (y = (24, s, k) ∧ j = 6)) (a2 : y ≠ (25, s, k)) (a3 : y ≠ (26, s, k)) => kk_shuO (f := h) (X := (25, s, k)) (Y := (26, s, k)) (W := (24, s, k)) (z := y) (i := j) (p := p) (c := h (24, s, k) 6) (x := l) (m := n) (j := 6) (v := h (24, s, k) 6 + 1) (o := 0) (fun q => a2 q.1) (fun q => a3 q.1) a1 p1
                        simp only [Int.zero_add] at sX sY sW sO
                        rw [kk_shuC (by simp) (by simp), r_10_9_4 (htx6 := hsT) (hnx6 := hnN) (htx8 := hD) (hx := hx), sO (24, s, n) 5 (by simp) (by simp) (by simp), mm_wi (z := h (24, s, n) 5 + 1) (by omega) (by omega), ← hh]
                        have c25 : ∀ i, hcc (25, s, k) i = kk_ins (h (25, s, k)) p (h (24, s, k) 6) l i := fun i => by rw [hh, mm_upf (by decide)]; exact sX i
                        have c26 : ∀ i, hcc (26, s, k) i = kk_ins (h (26, s, k)) p (h (24, s, k) 6) n i := fun i => by rw [hh, mm_upf (by decide)]; exact sY i
                        have c6 : hcc (24, s, k) 6 = h (24, s, k) 6 + 1 := by rw [hh, mm_upj (by decide)]; exact sW
                        have c5 : hcc (24, s, n) 5 = h (24, s, n) 5 + 1 := by rw [hh, mm_ups]
                        have cO : ∀ y j, ¬ (y = (24, s, k) ∧ j = 6) → y ≠ (25, s, k) → y ≠ (26, s, k) → ¬ (y = (24, s, n) ∧ j = 5) → hcc y j = h y j := fun y j a1 a2 a3 a4 => by rw [hh, mm_upne' a4]; exact sO y j a1 a2 a3
                        have cF : ∀ (f : Nat) t2 m j, ¬ ((f = 25 ∨ f = 26) ∧ t2 = s ∧ m = k) → ¬ (f = 24 ∧ t2 = s ∧ m = k ∧ j = 6) → ¬ (f = 24 ∧ t2 = s ∧ m = n ∧ j = 5) → hcc (f, t2, m) j = h (f, t2, m) j := fun f t2 m j a1 a2 a3 => cO _ _ (by rintro ⟨q, q2⟩; simp at q; exact a2 ⟨q.1, q.2.1, q.2.2, q2⟩) (by intro q; simp at q; exact a1 ⟨Or.inl q.1, q.2⟩) (by intro q; simp at q; exact a1 ⟨Or.inr q.1, q.2⟩) (by rintro ⟨q, q2⟩; simp at q; exact a3 ⟨q.1, q.2.1, q.2.2, q2⟩)
                        have NWs : ∀ m, 1 ≤ m → m < 37 → kk_NW h s m := fun m m0 m1 => kk_NWC hc hsT ⟨m0, m1⟩
                        have kn : n ≠ k := fun q => by rw [q] at kf; omega
                        have rt : h (24, s, 1) 0 = 2 := hc.1.2.2.1.2.2.2.2.2.2.2.2.2.2.2.1 s hs13.1 hs13.2 hno
                        have hn2 : 2 ≤ n := by
                          by_cases q : n = 1
                          · rw [q] at kf; omega
                          · omega
                        have hi : p < h (24, s, k) 6 → l < h (25, s, k) p := fun q => by
                          have a1 := p3 q
                          have a2 := ab p p0 q
                          omega
                        have uE := (kk_TWC hc hsT).1 n h1n.1 h1n.2 h2n
                        obtain ⟨SC, _, _⟩ := kk_enter (g := hcc) (H := fun _ => False) ⟨NWs, kk_TWH (kk_TWC hc hsT)⟩ h1k kd c24 ⟨p0, p1⟩ p2 hi (by omega) ⟨hn2, h1n.2⟩ h2n (fun q => absurd kf q) (fun _ => by omega) (fun q => by omega) (fun i _ _ => c25 i) (fun i _ _ => c26 i) c6 c5 (by rw [if_pos kf]; exact cF _ _ _ _ (by omega) (by omega) (by omega)) (fun f m j f0 f1 a1 a2 a3 => cF f s m j (fun q => a1 ⟨q.1, q.2.2⟩) (fun q => a2 ⟨q.1, q.2.2.1, q.2.2.2⟩) (fun q => a3 ⟨q.1, q.2.2.1, Or.inr q.2.2.2⟩)) (fun j => cF _ _ _ _ (by omega) (by omega) (by omega))
                        have fcc : ∀ y j, y.1 < 40 → ¬ kk_ts s y j → hcc y j = h y j := fun y j _ v => cO y j (by rintro ⟨q, _⟩; rw [q] at v; exact v (kk_tsN (by decide) h1k)) (by intro q; rw [q] at v; exact v (kk_tsN (by decide) h1k)) (by intro q; rw [q] at v; exact v (kk_tsN (by decide) h1k)) (by rintro ⟨q, _⟩; rw [q] at v; exact v (kk_tsN (by decide) h1n))
                        have hR : kk_R hcc := kk_Rcong (fun _ _ _ => cF _ _ _ _ (by omega) (by omega) (by omega)) (cF _ _ _ _ (by omega) (by omega) (by omega)) (cF _ _ _ _ (by omega) (by omega) (by omega)) (fun _ => cF _ _ _ _ (by omega) (by omega) (by omega)) (fun _ => cF _ _ _ _ (by omega) (by omega) (by omega)) (fun _ => cF _ _ _ _ (by omega) (by omega) (by omega)) hc.1.1.2.2.2.2.2.2.2.1
                        refine s63t hx hc hD fcc hR (fun m m0 m1 => ⟨(SC.1 m m0 m1).2.2.2.2.2.1, (SC.1 m m0 m1).2.2.2.1, (SC.1 m m0 m1).2.2.2.2.2.2.1⟩) (fun g k1 k2 ek3 no => ?_)
                        rw [mm_pU, r_10_9_13 (htx6 := hsT) (hnx6 := hnN) (hx := hx), kk_acT k1 (by decide) (by omega), c5]
                        refine ⟨⟨_, rfl, by omega, by omega⟩, g, dh, rfl, ?_⟩
                        have ek : ∀ x j, 40 ≤ x.1 → g x j = h x j := fun x j q => by
                          rw [k2 x j q]
                          exact cO x j (by rintro ⟨q6, _⟩; rw [q6] at q; simp at q) (by intro q6; rw [q6] at q; simp at q) (by intro q6; rw [q6] at q; simp at q) (by rintro ⟨q6, _⟩; rw [q6] at q; simp at q)
                        have lk : kk_lk h g := ⟨fun s2 _ _ => no s2, fun k k0 k9 => ek _ _ (by simp)⟩
                        have f29 : mm_up g (40, 0, 0) 0 0 (40, 0, 0) 29 = h (1, 0, 0) 12 := (mm_upj (by decide)).trans ((ek _ _ (by simp)).trans (kk_cal hc).1.symm)
                        have f41n : mm_up g (40, 0, 0) 0 0 (41, 0, 0) (36 * s + n - 1) = h (24, s, n) 0 := by rw [mm_upf (by decide)]; exact (ek _ _ (by simp)).trans (kk_nf hc (by omega) h1n).1
                        have f44n : mm_up g (40, 0, 0) 0 0 (44, 0, 0) (36 * s + n - 1) = h (24, s, n) 6 := by rw [mm_upf (by decide)]; exact (ek _ _ (by simp)).trans (kk_nf hc (by omega) h1n).2.1
                        have f49n : mm_up g (40, 0, 0) 0 0 (49, 0, 0) (36 * s + n - 1) = h (24, s, n) 11 := by rw [mm_upf (by decide)]; exact (ek _ _ (by simp)).trans (kk_nf hc (by omega) h1n).2.2.1
                        have f42n : mm_up g (40, 0, 0) 0 0 (42, 0, 0) (36 * s + n - 1) = h (24, s, n) 1 := by rw [mm_upf (by decide)]; exact (ek _ _ (by simp)).trans ((kk_nf hc (by omega) h1n).2.2.2 h2n).1
                        have f47n : mm_up g (40, 0, 0) 0 0 (47, 0, 0) (36 * s + n - 1) = h (24, s, n) 2 := by rw [mm_upf (by decide)]; exact (ek _ _ (by simp)).trans ((kk_nf hc (by omega) h1n).2.2.2 h2n).2.1
                        have f48n : mm_up g (40, 0, 0) 0 0 (48, 0, 0) (36 * s + n - 1) = h (24, s, n) 3 := by rw [mm_upf (by decide)]; exact (ek _ _ (by simp)).trans ((kk_nf hc (by omega) h1n).2.2.2 h2n).2.2
                        have f41k : mm_up g (40, 0, 0) 0 0 (41, 0, 0) (36 * s + k - 1) = h (24, s, k) 0 := by rw [mm_upf (by decide)]; exact (ek _ _ (by simp)).trans (kk_nf hc (by omega) h1k).1
                        have f44k : mm_up g (40, 0, 0) 0 0 (44, 0, 0) (36 * s + k - 1) = h (24, s, k) 6 := by rw [mm_upf (by decide)]; exact (ek _ _ (by simp)).trans (kk_nf hc (by omega) h1k).2.1
                        have f49k : mm_up g (40, 0, 0) 0 0 (49, 0, 0) (36 * s + k - 1) = h (24, s, k) 11 := by rw [mm_upf (by decide)]; exact (ek _ _ (by simp)).trans (kk_nf hc (by omega) h1k).2.2.1
                        have f42k : mm_up g (40, 0, 0) 0 0 (42, 0, 0) (36 * s + k - 1) = h (24, s, k) 1 := by rw [mm_upf (by decide)]; exact (ek _ _ (by simp)).trans ((kk_nf hc (by omega) h1k).2.2.2 h2k).1
                        have f47k : mm_up g (40, 0, 0) 0 0 (47, 0, 0) (36 * s + k - 1) = h (24, s, k) 2 := by rw [mm_upf (by decide)]; exact (ek _ _ (by simp)).trans ((kk_nf hc (by omega) h1k).2.2.2 h2k).2.1
                        have f48k : mm_up g (40, 0, 0) 0 0 (48, 0, 0) (36 * s + k - 1) = h (24, s, k) 3 := by rw [mm_upf (by decide)]; exact (ek _ _ (by simp)).trans ((kk_nf hc (by omega) h1k).2.2.2 h2k).2.2
                        rw [r_223_e (hy := hy)]
                        refine m181y hy hc (kk_lku (by decide) lk) ht hs ?_
                        rw [mm_pI, r_223_0_6 (hy := hy)]
                        refine m210y hy (by omega) h1n (by rw [f41n]; exact h3n) ?_
                        rw [mm_pI, r_223_0_11 (hy := hy), if_neg (by decide)]
                        refine m176y hy (by omega) h1k (by rw [f41k]; exact h3k) ?_
                        rw [mm_pI, r_223_0_16 (hy := hy), if_neg (by decide)]
                        refine m174y hy (by omega) ?_
                        rw [mm_pI, r_223_2_5 (hy := hy), if_neg (by decide)]
                        rw [if_pos s51]
                        refine m177y hy (by omega) h1n f41n kf ?_
                        rw [mm_pI, r_223_3_7 (hy := hy), if_neg (by decide)]
                        refine m211y hy (by omega) h1k f41k kd ?_
                        rw [mm_pI, r_223_3_12 (hy := hy), if_neg (by decide)]
                        refine m204y hy (by omega) h1k f29 f47k f48k w ?_
                        rw [mm_pI, r_223_5_4 (hy := hy), if_neg (by decide)]
                        have nm : ∀ i, 0 ≤ i → i < h (24, s, k) 6 → mm_up g (40, 0, 0) 0 0 (45, 0, 0) (24 * (36 * s + k - 1) + i) = h (25, s, k) i := fun i i0 i1 => (mm_upf (by decide)).trans ((ek _ _ (by simp)).trans (NRk.2.2.2.2.1 i i0 i1).1.symm)
                        refine m184n hy (by omega) h1k f44k NWk.2.1 (fun e e0 e1 => by rw [nm e e0 e1]; exact ab e e0 e1) ?_
                        rw [mm_pI, r_223_6_5 (hy := hy), if_pos (by decide)]
                        have ef : kk_ef (mm_up g (40, 0, 0) 0 0) s n = h (24, s, n) 5 := by
                          rw [kk_efu hc hs13 (fun f j hf => by rw [mm_upf (by omega)]; exact ek _ _ (by show 40 ≤ f; omega))]
                          exact ((kk_TWC hc hsT).1 n h1n.1 h1n.2 h2n).symm
                        refine m188 hy (by omega) (fun d d0 d1 => by
                          have w := (kk_MWC hc (s := s) (n := d) (by omega) ⟨d0, d1⟩).1.2.1
                          rw [mm_upf (by decide), ek _ _ (by simp)]; exact w) ?_
                        rw [mm_pI, r_223_7_4 (hy := hy), ef]
                        rw [if_neg (by omega)]
                        refine m175 hy (by omega) h1k ?_
                        rw [mm_pI, r_223_7_13 (hy := hy), f44k, if_neg (by omega)]
                        refine ⟨by omega, ?_⟩
                        refine m186 hy (by omega) h1k (by rw [f44k]; omega) (fun q q0 q1 q2 q3 => ?_)
                        rw [f44k] at q1 q2 ⊢
                        rw [mm_pU, r_223_9_6 (hy := hy), kk_shuC (by simp) (by simp)]
                        have srt := NWk.2.2.2.2.2.2.2.2.2.2.2.1
                        have pq : p = q := kk_pl3 srt (fun i i0 i1 => ab i i0 i1) p0 p1 p2 p3 q0 q1 (fun i i0 i1 => by rw [← nm i (by omega) i1]; exact q2 i i0 i1) (fun v => by rw [← nm (q - 1) (by omega) (by omega)]; exact q3 v)
                        subst pq
                        obtain ⟨D, hDD⟩ : ∃ D, D = 36 * s + k - 1 := ⟨_, rfl⟩
                        rw [← hDD]
                        have tX := fun i => kk_shuX (f := mm_up g (40, 0, 0) 0 0) (X := (45, 0, 0)) (Y := (46, 0, 0)) (W := (44, 0, 0)) (p := p) (c := h (24, s, k) 6) (x := l) (m := n) (j := D) (v := h (24, s, k) 6 + 1) (o := 24 * D) (by simp) (by simp) i
                        have tY := fun i => kk_shuY (f := mm_up g (40, 0, 0) 0 0) (X := (45, 0, 0)) (Y := (46, 0, 0)) (W := (44, 0, 0)) (p := p) (c := h (24, s, k) 6) (x := l) (m := n) (j := D) (v := h (24, s, k) 6 + 1) (o := 24 * D) (by simp) (by simp) i
                        have tW := kk_shuW (f := mm_up g (40, 0, 0) 0 0) (X := (45, 0, 0)) (Y := (46, 0, 0)) (W := (44, 0, 0)) (p := p) (c := h (24, s, k) 6) (x := l) (m := n) (j := D) (v := h (24, s, k) 6 + 1) (o := 24 * D) (by simp) (by simp)
                        have tO := fun y j (w1 : ¬ (y = (44, 0, 0) ∧ j = D)) (w2 : ¬ ((y = (45, 0, 0) ∨ y = (46, 0, 0)) ∧ 24 * D ≤ j ∧ j < 24 * D + 24)) => kk_shuO (f := mm_up g (40, 0, 0) 0 0) (X := (45, 0, 0)) (Y := (46, 0, 0)) (W := (44, 0, 0)) (z := y) (i := j) (p := p) (c := h (24, s, k) 6) (x := l) (m := n) (j := D) (v := h (24, s, k) 6 + 1) (o := 24 * D) (fun q => w2 ⟨Or.inl q.1, by omega⟩) (fun q => w2 ⟨Or.inr q.1, by omega⟩) w1 p1
                        obtain ⟨gm, hgm⟩ : ∃ gm, gm = mm_up (mm_up (mm_up (mm_shu (mm_up g (40, 0, 0) 0 0) (45, 0, 0) (46, 0, 0) (24 * D + p) (24 * D + h (24, s, k) 6)) (44, 0, 0) D (h (24, s, k) 6 + 1)) (45, 0, 0) (24 * D + p) l) (46, 0, 0) (24 * D + p) n := ⟨_, rfl⟩
                        rw [← hgm] at tX tY tW tO ⊢
                        have gO : ∀ y j, 40 ≤ y.1 → ¬ (y = (40, 0, 0) ∧ j = 0) → ¬ (y = (44, 0, 0) ∧ j = D) → ¬ ((y = (45, 0, 0) ∨ y = (46, 0, 0)) ∧ 24 * D ≤ j ∧ j < 24 * D + 24) → gm y j = h y j := fun y j a0 a1 a2 a3 => by
                          rw [tO y j a2 a3, mm_upne' a1]; exact ek y j a0
                        have sxD : ∀ y j, (y = (44, 0, 0) ∧ j = D) ∨ ((y = (45, 0, 0) ∨ y = (46, 0, 0)) ∧ 24 * D ≤ j ∧ j < 24 * D + 24) → kk_mx (36 * s + k - 1) y j := fun y j v => by
                          rcases v with v | v
                          · exact Or.inl ⟨by rw [v.1]; exact kk_f44, by omega⟩
                          · exact Or.inr (Or.inr (Or.inl ⟨by rcases v.1 with u | u <;> rw [u] <;> simp, by omega, by omega⟩))
                        have eo : ∀ m, 1 ≤ m → m < 37 → m ≠ k → ∀ y j, kk_mx (36 * s + m - 1) y j → gm y j = h y j := fun m m0 m1 mk y j v => by
                          have r := kk_mxr v
                          have d := kk_mxd (a := 36 * s + m - 1) (b := 36 * s + k - 1) (by omega) v
                          exact gO y j (by omega) (by rintro ⟨q, _⟩; rw [q] at r; simp at r) (fun q => d (sxD y j (Or.inl q))) (fun q => d (sxD y j (Or.inr q)))
                        have gf : ∀ (f : Nat) j, 41 ≤ f → f ≠ 44 → f ≠ 45 → f ≠ 46 → gm (f, 0, 0) j = h (f, 0, 0) j := fun f j f0 f4 f5 f6 => gO _ _ (by show 40 ≤ f; omega) (by rintro ⟨q, _⟩; simp at q; omega) (by rintro ⟨q, _⟩; simp at q; omega) (by rintro ⟨q, _⟩; simp at q; omega)
                        obtain ⟨Z, hZ⟩ : ∃ Z, Z = mm_up (kk_mix hcc gm) (31, s, 0) 6 1 := ⟨_, rfl⟩
                        have zC : ∀ (f : Nat) t2 m j, f < 40 → f ≠ 31 → Z (f, t2, m) j = hcc (f, t2, m) j := fun f t2 m j f0 f1 => by rw [hZ, mm_upf f1, kk_mixC f0]
                        have eh : ∀ (y : mm_Id) j, y.1 = 34 ∨ y.1 = 35 ∨ y.1 = 62 ∨ y.1 = 63 ∨ y.1 = 64 → Z y j = h y j := fun y j v => by
                          rw [hZ, mm_upne' (by rintro ⟨q, _⟩; rw [q] at v; simp at v)]
                          by_cases u : y.1 < 40
                          · rw [kk_mixC u]; exact cO y j (by rintro ⟨q, _⟩; rw [q] at v; simp at v) (by intro q; rw [q] at v; simp at v) (by intro q; rw [q] at v; simp at v) (by rintro ⟨q, _⟩; rw [q] at v; simp at v)
                          · rw [kk_mixM (by omega)]; exact gO y j (by omega) (by rintro ⟨q, _⟩; rw [q] at v; simp at v) (by rintro ⟨q, _⟩; rw [q] at v; simp at v) (by rintro ⟨q, _⟩; rcases q with q | q <;> rw [q] at v <;> simp at v)
                        have dd := kk_d17s (s := s) (Z := Z) hc eh (fun s2 => by
                          unfold kk_no
                          rw [hZ, mm_upj (by decide), mm_upf (by decide), kk_mixC (by simp), kk_mixC (by simp), cF _ _ _ _ (by omega) (by omega) (by omega), cF _ _ _ _ (by omega) (by omega) (by omega)]) (fun t2 m j q => by rw [zC _ _ _ _ (by decide) (by decide)]; exact cF _ _ _ _ (by omega) (by omega) (by omega)) (fun m m0 m1 v _ => by rw [zC _ _ _ _ (by decide) (by decide), cF _ _ _ _ (by omega) (by omega) (by omega)]; exact v) (fun m m0 m1 v v5 => by
                          rw [zC _ _ _ _ (by decide) (by decide), cF _ _ _ _ (by omega) (by omega) (by omega)] at v
                          rw [zC _ _ _ _ (by decide) (by decide)] at v5
                          have mn : m ≠ n := fun q => by
                            rw [q, c5] at v5
                            have := kk_ecnn h s n
                            omega
                          rw [cF _ _ _ _ (by omega) (by omega) (by omega)] at v5
                          exact kk_h19 hc s m s50 s51 m0 m1 v v5)
                        have WM := kk_stW (C := fun _ => False) hc ⟨s50, s51⟩ hno fcc hR SC.1 (kk_THW SC.2 (fun _ _ _ _ q => q.1)) (fun _ q => absurd q id) (fun m _ m0 m1 => ⟨fun j j4 j5 j6 => cF _ _ _ _ (by omega) (by omega) (by omega), fun f j f0 f1 => cF _ _ _ _ (by omega) (by omega) (by omega)⟩)
                          (fun y j a0 v => by
                            have v2 := kk_tsM a0 v
                            exact gO y j a0 v2.2.1 (fun q => v2.1 ⟨k, h1k.1, h1k.2, sxD y j (Or.inl q)⟩) (fun q => v2.1 ⟨k, h1k.1, h1k.2, sxD y j (Or.inr q)⟩)) (fun _ q => absurd q id) (fun m m0 m1 => gf 53 _ (by decide) (by decide) (by decide) (by decide))
                          (fun m _ m0 m1 => ⟨fun f hf h4 => by
                            have hf2 := hf
                            unfold kk_mf at hf2
                            exact gf f _ (by omega) h4 (by omega) (by omega), fun p p0 p1 => gf 43 _ (by decide) (by decide) (by decide) (by decide), fun e e0 e1 => ⟨gf 50 _ (by decide) (by decide) (by decide) (by decide), gf 51 _ (by decide) (by decide) (by decide) (by decide)⟩, fun e e0 e1 => gf 52 _ (by decide) (by decide) (by decide) (by decide)⟩)
                          (fun m _ m0 m1 => by
                            have Nm := kk_NRC hc (t := s) (n := m) (by omega) ⟨m0, m1⟩
                            have Wm := NWs m m0 m1
                            by_cases q : m = k
                            · subst q
                              rw [c6, ← hDD]
                              refine ⟨tW.symm, fun e e0 e1 => ?_⟩
                              rw [c25, c26, tX e, tY e]
                              exact ⟨kk_insc (fun i i0 i1 => (nm i i0 i1).symm.trans (by rw [hDD])) p0 p1 e0 e1, kk_insc (fun i i0 i1 => by
                                rw [mm_upf (by decide), ek _ _ (by simp), hDD]
                                exact (Nm.2.2.2.2.1 i i0 i1).2) p0 p1 e0 e1⟩
                            · rw [cF 24 s m 6 (by omega) (by omega) (by omega), eo m m0 m1 q _ _ (Or.inl ⟨kk_f44, rfl⟩)]
                              refine ⟨Nm.2.1, fun e e0 e1 => ?_⟩
                              have := Wm.2.1
                              rw [cF 25 s m e (by omega) (by omega) (by omega), cF 26 s m e (by omega) (by omega) (by omega), eo m m0 m1 q _ _ (kk_m45 (Or.inl rfl) ⟨e0, by omega⟩), eo m m0 m1 q _ _ (kk_m45 (Or.inr rfl) ⟨e0, by omega⟩)]
                              exact Nm.2.2.2.2.1 e e0 e1) (by rw [cF _ _ _ _ (by omega) (by omega) (by omega)]; exact rt) hZ dd.1 dd.2.1 dd.2.2
                        refine m209W hy hZ WM.1 WM.2 (fun g2 m1 m2 m3 => ?_)
                        have cG : ∀ x j, x.1 < 40 → gm x j = g x j := fun x j v => by
                          rw [tO x j (by rintro ⟨q6, _⟩; rw [q6] at v; simp at v) (by rintro ⟨q6, _⟩; rcases q6 with q6 | q6 <;> rw [q6] at v <;> simp at v)]
                          exact kk_clU v (by simp)
                        have sG : ∀ x j, kk_scr x j → gm x j = g x j := fun x j v => by
                          rw [tO x j (by rintro ⟨q6, _⟩; rw [q6] at v; simp [kk_scr] at v) (by rintro ⟨q6, _⟩; rcases q6 with q6 | q6 <;> rw [q6] at v <;> simp [kk_scr] at v)]
                          exact kk_scrU v (Or.inr ⟨rfl, by omega⟩)
                        rw [mm_pU, r_223_9_8 (hy := hy), mm_wi (by omega) (by omega)]
                        refine ⟨rfl, g2, rfl, kk_actend (gx := g) hb hZ WM.1 WM.2 k1 m1 (fun x j v => by rw [m2 x j v]; exact cG x j v) m3 sG (fun x j v => ?_)⟩
                        rcases kk_scrC v with q5 | q5
                        · exact ek x j q5
                        · exact ek3 x j q5.1 q5.2
                      · rw [if_neg c24]; exact full (Or.inr c24)
                    · rw [if_neg u9']; exact full (Or.inl u9')
                · rw [mm_pI, r_10_5_3 (htx6 := hsT) (hnx6 := hnN) (htx7 := hsT) (hnx7 := hkN) (htx8 := hD) (hx := hx), if_pos rfl]
                  refine fin (-5) ⟨_, rfl, by omega, by omega⟩ ?_
                  have ek : ∀ (x : mm_Id) (j : Int), 40 ≤ x.1 → h x j = h x j := fun _ _ _ => rfl
                  have lk := kk_lkr h
                  have f29 : mm_up h (40, 0, 0) 0 0 (40, 0, 0) 29 = h (1, 0, 0) 12 := (mm_upj (by decide)).trans ((ek _ _ (by simp)).trans (kk_cal hc).1.symm)
                  have f41n : mm_up h (40, 0, 0) 0 0 (41, 0, 0) (36 * s + n - 1) = h (24, s, n) 0 := by rw [mm_upf (by decide)]; exact (ek _ _ (by simp)).trans (kk_nf hc (by omega) h1n).1
                  have f44n : mm_up h (40, 0, 0) 0 0 (44, 0, 0) (36 * s + n - 1) = h (24, s, n) 6 := by rw [mm_upf (by decide)]; exact (ek _ _ (by simp)).trans (kk_nf hc (by omega) h1n).2.1
                  have f49n : mm_up h (40, 0, 0) 0 0 (49, 0, 0) (36 * s + n - 1) = h (24, s, n) 11 := by rw [mm_upf (by decide)]; exact (ek _ _ (by simp)).trans (kk_nf hc (by omega) h1n).2.2.1
                  have f42n : mm_up h (40, 0, 0) 0 0 (42, 0, 0) (36 * s + n - 1) = h (24, s, n) 1 := by rw [mm_upf (by decide)]; exact (ek _ _ (by simp)).trans ((kk_nf hc (by omega) h1n).2.2.2 h2n).1
                  have f47n : mm_up h (40, 0, 0) 0 0 (47, 0, 0) (36 * s + n - 1) = h (24, s, n) 2 := by rw [mm_upf (by decide)]; exact (ek _ _ (by simp)).trans ((kk_nf hc (by omega) h1n).2.2.2 h2n).2.1
                  have f48n : mm_up h (40, 0, 0) 0 0 (48, 0, 0) (36 * s + n - 1) = h (24, s, n) 3 := by rw [mm_upf (by decide)]; exact (ek _ _ (by simp)).trans ((kk_nf hc (by omega) h1n).2.2.2 h2n).2.2
                  have f41k : mm_up h (40, 0, 0) 0 0 (41, 0, 0) (36 * s + k - 1) = h (24, s, k) 0 := by rw [mm_upf (by decide)]; exact (ek _ _ (by simp)).trans (kk_nf hc (by omega) h1k).1
                  have f44k : mm_up h (40, 0, 0) 0 0 (44, 0, 0) (36 * s + k - 1) = h (24, s, k) 6 := by rw [mm_upf (by decide)]; exact (ek _ _ (by simp)).trans (kk_nf hc (by omega) h1k).2.1
                  have f49k : mm_up h (40, 0, 0) 0 0 (49, 0, 0) (36 * s + k - 1) = h (24, s, k) 11 := by rw [mm_upf (by decide)]; exact (ek _ _ (by simp)).trans (kk_nf hc (by omega) h1k).2.2.1
                  have f42k : mm_up h (40, 0, 0) 0 0 (42, 0, 0) (36 * s + k - 1) = h (24, s, k) 1 := by rw [mm_upf (by decide)]; exact (ek _ _ (by simp)).trans ((kk_nf hc (by omega) h1k).2.2.2 h2k).1
                  have f47k : mm_up h (40, 0, 0) 0 0 (47, 0, 0) (36 * s + k - 1) = h (24, s, k) 2 := by rw [mm_upf (by decide)]; exact (ek _ _ (by simp)).trans ((kk_nf hc (by omega) h1k).2.2.2 h2k).2.1
                  have f48k : mm_up h (40, 0, 0) 0 0 (48, 0, 0) (36 * s + k - 1) = h (24, s, k) 3 := by rw [mm_upf (by decide)]; exact (ek _ _ (by simp)).trans ((kk_nf hc (by omega) h1k).2.2.2 h2k).2.2
                  rw [r_223_e (hy := hy)]
                  refine m181y hy hc (kk_lku (by decide) lk) ht hs ?_
                  rw [mm_pI, r_223_0_6 (hy := hy)]
                  refine m210y hy (by omega) h1n (by rw [f41n]; exact h3n) ?_
                  rw [mm_pI, r_223_0_11 (hy := hy), if_neg (by decide)]
                  refine m176y hy (by omega) h1k (by rw [f41k]; exact h3k) ?_
                  rw [mm_pI, r_223_0_16 (hy := hy), if_neg (by decide)]
                  refine m174y hy (by omega) ?_
                  rw [mm_pI, r_223_2_5 (hy := hy), if_neg (by decide)]
                  rw [if_pos s51]
                  refine m177y hy (by omega) h1n f41n kf ?_
                  rw [mm_pI, r_223_3_7 (hy := hy), if_neg (by decide)]
                  refine m211y hy (by omega) h1k f41k kd ?_
                  rw [mm_pI, r_223_3_12 (hy := hy), if_neg (by decide)]
                  refine m204n hy (by omega) h1k f29 f47k f48k w ?_
                  rw [mm_pI, r_223_5_4 (hy := hy), if_pos rfl]
                  exact mfin _ _ rfl
              · rw [if_neg kd]
                rw [r_10_4 (hx := hx)]
                refine fin (-3) ⟨_, rfl, by omega, by omega⟩ ?_
                have ek : ∀ (x : mm_Id) (j : Int), 40 ≤ x.1 → h x j = h x j := fun _ _ _ => rfl
                have lk := kk_lkr h
                have f29 : mm_up h (40, 0, 0) 0 0 (40, 0, 0) 29 = h (1, 0, 0) 12 := (mm_upj (by decide)).trans ((ek _ _ (by simp)).trans (kk_cal hc).1.symm)
                have f41n : mm_up h (40, 0, 0) 0 0 (41, 0, 0) (36 * s + n - 1) = h (24, s, n) 0 := by rw [mm_upf (by decide)]; exact (ek _ _ (by simp)).trans (kk_nf hc (by omega) h1n).1
                have f44n : mm_up h (40, 0, 0) 0 0 (44, 0, 0) (36 * s + n - 1) = h (24, s, n) 6 := by rw [mm_upf (by decide)]; exact (ek _ _ (by simp)).trans (kk_nf hc (by omega) h1n).2.1
                have f49n : mm_up h (40, 0, 0) 0 0 (49, 0, 0) (36 * s + n - 1) = h (24, s, n) 11 := by rw [mm_upf (by decide)]; exact (ek _ _ (by simp)).trans (kk_nf hc (by omega) h1n).2.2.1
                have f42n : mm_up h (40, 0, 0) 0 0 (42, 0, 0) (36 * s + n - 1) = h (24, s, n) 1 := by rw [mm_upf (by decide)]; exact (ek _ _ (by simp)).trans ((kk_nf hc (by omega) h1n).2.2.2 h2n).1
                have f47n : mm_up h (40, 0, 0) 0 0 (47, 0, 0) (36 * s + n - 1) = h (24, s, n) 2 := by rw [mm_upf (by decide)]; exact (ek _ _ (by simp)).trans ((kk_nf hc (by omega) h1n).2.2.2 h2n).2.1
                have f48n : mm_up h (40, 0, 0) 0 0 (48, 0, 0) (36 * s + n - 1) = h (24, s, n) 3 := by rw [mm_upf (by decide)]; exact (ek _ _ (by simp)).trans ((kk_nf hc (by omega) h1n).2.2.2 h2n).2.2
                have f41k : mm_up h (40, 0, 0) 0 0 (41, 0, 0) (36 * s + k - 1) = h (24, s, k) 0 := by rw [mm_upf (by decide)]; exact (ek _ _ (by simp)).trans (kk_nf hc (by omega) h1k).1
                have f44k : mm_up h (40, 0, 0) 0 0 (44, 0, 0) (36 * s + k - 1) = h (24, s, k) 6 := by rw [mm_upf (by decide)]; exact (ek _ _ (by simp)).trans (kk_nf hc (by omega) h1k).2.1
                have f49k : mm_up h (40, 0, 0) 0 0 (49, 0, 0) (36 * s + k - 1) = h (24, s, k) 11 := by rw [mm_upf (by decide)]; exact (ek _ _ (by simp)).trans (kk_nf hc (by omega) h1k).2.2.1
                have f42k : mm_up h (40, 0, 0) 0 0 (42, 0, 0) (36 * s + k - 1) = h (24, s, k) 1 := by rw [mm_upf (by decide)]; exact (ek _ _ (by simp)).trans ((kk_nf hc (by omega) h1k).2.2.2 h2k).1
                have f47k : mm_up h (40, 0, 0) 0 0 (47, 0, 0) (36 * s + k - 1) = h (24, s, k) 2 := by rw [mm_upf (by decide)]; exact (ek _ _ (by simp)).trans ((kk_nf hc (by omega) h1k).2.2.2 h2k).2.1
                have f48k : mm_up h (40, 0, 0) 0 0 (48, 0, 0) (36 * s + k - 1) = h (24, s, k) 3 := by rw [mm_upf (by decide)]; exact (ek _ _ (by simp)).trans ((kk_nf hc (by omega) h1k).2.2.2 h2k).2.2
                rw [r_223_e (hy := hy)]
                refine m181y hy hc (kk_lku (by decide) lk) ht hs ?_
                rw [mm_pI, r_223_0_6 (hy := hy)]
                refine m210y hy (by omega) h1n (by rw [f41n]; exact h3n) ?_
                rw [mm_pI, r_223_0_11 (hy := hy), if_neg (by decide)]
                refine m176y hy (by omega) h1k (by rw [f41k]; exact h3k) ?_
                rw [mm_pI, r_223_0_16 (hy := hy), if_neg (by decide)]
                refine m174y hy (by omega) ?_
                rw [mm_pI, r_223_2_5 (hy := hy), if_neg (by decide)]
                rw [if_pos s51]
                refine m177y hy (by omega) h1n f41n kf ?_
                rw [mm_pI, r_223_3_7 (hy := hy), if_neg (by decide)]
                refine m211n hy (by omega) h1k f41k kd ?_
                rw [mm_pI, r_223_3_12 (hy := hy), if_pos rfl, r_223_4 (hy := hy)]
                exact mfin _ _ rfl
            · rw [if_neg kf]
              rw [r_10_4 (hx := hx)]
              refine fin (-3) ⟨_, rfl, by omega, by omega⟩ ?_
              have ek : ∀ (x : mm_Id) (j : Int), 40 ≤ x.1 → h x j = h x j := fun _ _ _ => rfl
              have lk := kk_lkr h
              have f29 : mm_up h (40, 0, 0) 0 0 (40, 0, 0) 29 = h (1, 0, 0) 12 := (mm_upj (by decide)).trans ((ek _ _ (by simp)).trans (kk_cal hc).1.symm)
              have f41n : mm_up h (40, 0, 0) 0 0 (41, 0, 0) (36 * s + n - 1) = h (24, s, n) 0 := by rw [mm_upf (by decide)]; exact (ek _ _ (by simp)).trans (kk_nf hc (by omega) h1n).1
              have f44n : mm_up h (40, 0, 0) 0 0 (44, 0, 0) (36 * s + n - 1) = h (24, s, n) 6 := by rw [mm_upf (by decide)]; exact (ek _ _ (by simp)).trans (kk_nf hc (by omega) h1n).2.1
              have f49n : mm_up h (40, 0, 0) 0 0 (49, 0, 0) (36 * s + n - 1) = h (24, s, n) 11 := by rw [mm_upf (by decide)]; exact (ek _ _ (by simp)).trans (kk_nf hc (by omega) h1n).2.2.1
              have f42n : mm_up h (40, 0, 0) 0 0 (42, 0, 0) (36 * s + n - 1) = h (24, s, n) 1 := by rw [mm_upf (by decide)]; exact (ek _ _ (by simp)).trans ((kk_nf hc (by omega) h1n).2.2.2 h2n).1
              have f47n : mm_up h (40, 0, 0) 0 0 (47, 0, 0) (36 * s + n - 1) = h (24, s, n) 2 := by rw [mm_upf (by decide)]; exact (ek _ _ (by simp)).trans ((kk_nf hc (by omega) h1n).2.2.2 h2n).2.1
              have f48n : mm_up h (40, 0, 0) 0 0 (48, 0, 0) (36 * s + n - 1) = h (24, s, n) 3 := by rw [mm_upf (by decide)]; exact (ek _ _ (by simp)).trans ((kk_nf hc (by omega) h1n).2.2.2 h2n).2.2
              have f41k : mm_up h (40, 0, 0) 0 0 (41, 0, 0) (36 * s + k - 1) = h (24, s, k) 0 := by rw [mm_upf (by decide)]; exact (ek _ _ (by simp)).trans (kk_nf hc (by omega) h1k).1
              have f44k : mm_up h (40, 0, 0) 0 0 (44, 0, 0) (36 * s + k - 1) = h (24, s, k) 6 := by rw [mm_upf (by decide)]; exact (ek _ _ (by simp)).trans (kk_nf hc (by omega) h1k).2.1
              have f49k : mm_up h (40, 0, 0) 0 0 (49, 0, 0) (36 * s + k - 1) = h (24, s, k) 11 := by rw [mm_upf (by decide)]; exact (ek _ _ (by simp)).trans (kk_nf hc (by omega) h1k).2.2.1
              have f42k : mm_up h (40, 0, 0) 0 0 (42, 0, 0) (36 * s + k - 1) = h (24, s, k) 1 := by rw [mm_upf (by decide)]; exact (ek _ _ (by simp)).trans ((kk_nf hc (by omega) h1k).2.2.2 h2k).1
              have f47k : mm_up h (40, 0, 0) 0 0 (47, 0, 0) (36 * s + k - 1) = h (24, s, k) 2 := by rw [mm_upf (by decide)]; exact (ek _ _ (by simp)).trans ((kk_nf hc (by omega) h1k).2.2.2 h2k).2.1
              have f48k : mm_up h (40, 0, 0) 0 0 (48, 0, 0) (36 * s + k - 1) = h (24, s, k) 3 := by rw [mm_upf (by decide)]; exact (ek _ _ (by simp)).trans ((kk_nf hc (by omega) h1k).2.2.2 h2k).2.2
              rw [r_223_e (hy := hy)]
              refine m181y hy hc (kk_lku (by decide) lk) ht hs ?_
              rw [mm_pI, r_223_0_6 (hy := hy)]
              refine m210y hy (by omega) h1n (by rw [f41n]; exact h3n) ?_
              rw [mm_pI, r_223_0_11 (hy := hy), if_neg (by decide)]
              refine m176y hy (by omega) h1k (by rw [f41k]; exact h3k) ?_
              rw [mm_pI, r_223_0_16 (hy := hy), if_neg (by decide)]
              refine m174y hy (by omega) ?_
              rw [mm_pI, r_223_2_5 (hy := hy), if_neg (by decide)]
              rw [if_pos s51]
              refine m177n hy (by omega) h1n f41n kf ?_
              rw [mm_pI, r_223_3_7 (hy := hy), if_pos rfl, r_223_4 (hy := hy)]
              exact mfin _ _ rfl
          · have s5 : 5 ≤ s := by
              by_cases z : s < 5
              · exact absurd hs (hs5 s z)
              · omega
            rw [mm_pR, r_10_3_3 (htx6 := hsT) (hnx6 := hnN) (htx7 := hsT) (hnx7 := hkN) (hx := hx)]
            rw [r_10_4 (hx := hx)]
            refine fin (-3) ⟨_, rfl, by omega, by omega⟩ ?_
            have ek : ∀ (x : mm_Id) (j : Int), 40 ≤ x.1 → h x j = h x j := fun _ _ _ => rfl
            have lk := kk_lkr h
            have f29 : mm_up h (40, 0, 0) 0 0 (40, 0, 0) 29 = h (1, 0, 0) 12 := (mm_upj (by decide)).trans ((ek _ _ (by simp)).trans (kk_cal hc).1.symm)
            have f41n : mm_up h (40, 0, 0) 0 0 (41, 0, 0) (36 * s + n - 1) = h (24, s, n) 0 := by rw [mm_upf (by decide)]; exact (ek _ _ (by simp)).trans (kk_nf hc (by omega) h1n).1
            have f44n : mm_up h (40, 0, 0) 0 0 (44, 0, 0) (36 * s + n - 1) = h (24, s, n) 6 := by rw [mm_upf (by decide)]; exact (ek _ _ (by simp)).trans (kk_nf hc (by omega) h1n).2.1
            have f49n : mm_up h (40, 0, 0) 0 0 (49, 0, 0) (36 * s + n - 1) = h (24, s, n) 11 := by rw [mm_upf (by decide)]; exact (ek _ _ (by simp)).trans (kk_nf hc (by omega) h1n).2.2.1
            have f42n : mm_up h (40, 0, 0) 0 0 (42, 0, 0) (36 * s + n - 1) = h (24, s, n) 1 := by rw [mm_upf (by decide)]; exact (ek _ _ (by simp)).trans ((kk_nf hc (by omega) h1n).2.2.2 h2n).1
            have f47n : mm_up h (40, 0, 0) 0 0 (47, 0, 0) (36 * s + n - 1) = h (24, s, n) 2 := by rw [mm_upf (by decide)]; exact (ek _ _ (by simp)).trans ((kk_nf hc (by omega) h1n).2.2.2 h2n).2.1
            have f48n : mm_up h (40, 0, 0) 0 0 (48, 0, 0) (36 * s + n - 1) = h (24, s, n) 3 := by rw [mm_upf (by decide)]; exact (ek _ _ (by simp)).trans ((kk_nf hc (by omega) h1n).2.2.2 h2n).2.2
            have f41k : mm_up h (40, 0, 0) 0 0 (41, 0, 0) (36 * s + k - 1) = h (24, s, k) 0 := by rw [mm_upf (by decide)]; exact (ek _ _ (by simp)).trans (kk_nf hc (by omega) h1k).1
            have f44k : mm_up h (40, 0, 0) 0 0 (44, 0, 0) (36 * s + k - 1) = h (24, s, k) 6 := by rw [mm_upf (by decide)]; exact (ek _ _ (by simp)).trans (kk_nf hc (by omega) h1k).2.1
            have f49k : mm_up h (40, 0, 0) 0 0 (49, 0, 0) (36 * s + k - 1) = h (24, s, k) 11 := by rw [mm_upf (by decide)]; exact (ek _ _ (by simp)).trans (kk_nf hc (by omega) h1k).2.2.1
            have f42k : mm_up h (40, 0, 0) 0 0 (42, 0, 0) (36 * s + k - 1) = h (24, s, k) 1 := by rw [mm_upf (by decide)]; exact (ek _ _ (by simp)).trans ((kk_nf hc (by omega) h1k).2.2.2 h2k).1
            have f47k : mm_up h (40, 0, 0) 0 0 (47, 0, 0) (36 * s + k - 1) = h (24, s, k) 2 := by rw [mm_upf (by decide)]; exact (ek _ _ (by simp)).trans ((kk_nf hc (by omega) h1k).2.2.2 h2k).2.1
            have f48k : mm_up h (40, 0, 0) 0 0 (48, 0, 0) (36 * s + k - 1) = h (24, s, k) 3 := by rw [mm_upf (by decide)]; exact (ek _ _ (by simp)).trans ((kk_nf hc (by omega) h1k).2.2.2 h2k).2.2
            rw [r_223_e (hy := hy)]
            refine m181y hy hc (kk_lku (by decide) lk) ht hs ?_
            rw [mm_pI, r_223_0_6 (hy := hy)]
            refine m210y hy (by omega) h1n (by rw [f41n]; exact h3n) ?_
            rw [mm_pI, r_223_0_11 (hy := hy), if_neg (by decide)]
            refine m176y hy (by omega) h1k (by rw [f41k]; exact h3k) ?_
            rw [mm_pI, r_223_0_16 (hy := hy), if_neg (by decide)]
            refine m174y hy (by omega) ?_
            rw [mm_pI, r_223_2_5 (hy := hy), if_neg (by decide)]
            rw [if_neg (show ¬ s < 5 by omega), r_223_4 (hy := hy)]
            exact mfin _ _ rfl
        · rw [mm_pI, r_10_2_3 (htx6 := hsT) (hnx6 := hnN) (htx7 := hsT) (hnx7 := hkN) (hx := hx), if_pos rfl]
          refine fin (-2) ⟨_, rfl, by omega, by omega⟩ ?_
          have ek : ∀ (x : mm_Id) (j : Int), 40 ≤ x.1 → h x j = h x j := fun _ _ _ => rfl
          have lk := kk_lkr h
          have f29 : mm_up h (40, 0, 0) 0 0 (40, 0, 0) 29 = h (1, 0, 0) 12 := (mm_upj (by decide)).trans ((ek _ _ (by simp)).trans (kk_cal hc).1.symm)
          have f41n : mm_up h (40, 0, 0) 0 0 (41, 0, 0) (36 * s + n - 1) = h (24, s, n) 0 := by rw [mm_upf (by decide)]; exact (ek _ _ (by simp)).trans (kk_nf hc (by omega) h1n).1
          have f44n : mm_up h (40, 0, 0) 0 0 (44, 0, 0) (36 * s + n - 1) = h (24, s, n) 6 := by rw [mm_upf (by decide)]; exact (ek _ _ (by simp)).trans (kk_nf hc (by omega) h1n).2.1
          have f49n : mm_up h (40, 0, 0) 0 0 (49, 0, 0) (36 * s + n - 1) = h (24, s, n) 11 := by rw [mm_upf (by decide)]; exact (ek _ _ (by simp)).trans (kk_nf hc (by omega) h1n).2.2.1
          have f42n : mm_up h (40, 0, 0) 0 0 (42, 0, 0) (36 * s + n - 1) = h (24, s, n) 1 := by rw [mm_upf (by decide)]; exact (ek _ _ (by simp)).trans ((kk_nf hc (by omega) h1n).2.2.2 h2n).1
          have f47n : mm_up h (40, 0, 0) 0 0 (47, 0, 0) (36 * s + n - 1) = h (24, s, n) 2 := by rw [mm_upf (by decide)]; exact (ek _ _ (by simp)).trans ((kk_nf hc (by omega) h1n).2.2.2 h2n).2.1
          have f48n : mm_up h (40, 0, 0) 0 0 (48, 0, 0) (36 * s + n - 1) = h (24, s, n) 3 := by rw [mm_upf (by decide)]; exact (ek _ _ (by simp)).trans ((kk_nf hc (by omega) h1n).2.2.2 h2n).2.2
          have f41k : mm_up h (40, 0, 0) 0 0 (41, 0, 0) (36 * s + k - 1) = h (24, s, k) 0 := by rw [mm_upf (by decide)]; exact (ek _ _ (by simp)).trans (kk_nf hc (by omega) h1k).1
          have f44k : mm_up h (40, 0, 0) 0 0 (44, 0, 0) (36 * s + k - 1) = h (24, s, k) 6 := by rw [mm_upf (by decide)]; exact (ek _ _ (by simp)).trans (kk_nf hc (by omega) h1k).2.1
          have f49k : mm_up h (40, 0, 0) 0 0 (49, 0, 0) (36 * s + k - 1) = h (24, s, k) 11 := by rw [mm_upf (by decide)]; exact (ek _ _ (by simp)).trans (kk_nf hc (by omega) h1k).2.2.1
          have f42k : mm_up h (40, 0, 0) 0 0 (42, 0, 0) (36 * s + k - 1) = h (24, s, k) 1 := by rw [mm_upf (by decide)]; exact (ek _ _ (by simp)).trans ((kk_nf hc (by omega) h1k).2.2.2 h2k).1
          have f47k : mm_up h (40, 0, 0) 0 0 (47, 0, 0) (36 * s + k - 1) = h (24, s, k) 2 := by rw [mm_upf (by decide)]; exact (ek _ _ (by simp)).trans ((kk_nf hc (by omega) h1k).2.2.2 h2k).2.1
          have f48k : mm_up h (40, 0, 0) 0 0 (48, 0, 0) (36 * s + k - 1) = h (24, s, k) 3 := by rw [mm_upf (by decide)]; exact (ek _ _ (by simp)).trans ((kk_nf hc (by omega) h1k).2.2.2 h2k).2.2
          rw [r_223_e (hy := hy)]
          refine m181y hy hc (kk_lku (by decide) lk) ht hs ?_
          rw [mm_pI, r_223_0_6 (hy := hy)]
          refine m210y hy (by omega) h1n (by rw [f41n]; exact h3n) ?_
          rw [mm_pI, r_223_0_11 (hy := hy), if_neg (by decide)]
          refine m176y hy (by omega) h1k (by rw [f41k]; exact h3k) ?_
          rw [mm_pI, r_223_0_16 (hy := hy), if_neg (by decide)]
          refine m174n hy w1 ?_
          rw [mm_pI, r_223_2_5 (hy := hy), if_pos rfl]
          exact mfin _ _ rfl
      · rw [mm_pR, r_10_0_13b (htx6 := hsT) (hnx6 := hnN) (hx := hx), r_10_1 (hx := hx)]
        refine fin (-1) ⟨_, rfl, by omega, by omega⟩ ?_
        have ek : ∀ (x : mm_Id) (j : Int), 40 ≤ x.1 → h x j = h x j := fun _ _ _ => rfl
        have lk := kk_lkr h
        have f29 : mm_up h (40, 0, 0) 0 0 (40, 0, 0) 29 = h (1, 0, 0) 12 := (mm_upj (by decide)).trans ((ek _ _ (by simp)).trans (kk_cal hc).1.symm)
        have f41n : mm_up h (40, 0, 0) 0 0 (41, 0, 0) (36 * s + n - 1) = h (24, s, n) 0 := by rw [mm_upf (by decide)]; exact (ek _ _ (by simp)).trans (kk_nf hc (by omega) h1n).1
        have f44n : mm_up h (40, 0, 0) 0 0 (44, 0, 0) (36 * s + n - 1) = h (24, s, n) 6 := by rw [mm_upf (by decide)]; exact (ek _ _ (by simp)).trans (kk_nf hc (by omega) h1n).2.1
        have f49n : mm_up h (40, 0, 0) 0 0 (49, 0, 0) (36 * s + n - 1) = h (24, s, n) 11 := by rw [mm_upf (by decide)]; exact (ek _ _ (by simp)).trans (kk_nf hc (by omega) h1n).2.2.1
        have f42n : mm_up h (40, 0, 0) 0 0 (42, 0, 0) (36 * s + n - 1) = h (24, s, n) 1 := by rw [mm_upf (by decide)]; exact (ek _ _ (by simp)).trans ((kk_nf hc (by omega) h1n).2.2.2 h2n).1
        have f47n : mm_up h (40, 0, 0) 0 0 (47, 0, 0) (36 * s + n - 1) = h (24, s, n) 2 := by rw [mm_upf (by decide)]; exact (ek _ _ (by simp)).trans ((kk_nf hc (by omega) h1n).2.2.2 h2n).2.1
        have f48n : mm_up h (40, 0, 0) 0 0 (48, 0, 0) (36 * s + n - 1) = h (24, s, n) 3 := by rw [mm_upf (by decide)]; exact (ek _ _ (by simp)).trans ((kk_nf hc (by omega) h1n).2.2.2 h2n).2.2
        rw [r_223_e (hy := hy)]
        refine m181y hy hc (kk_lku (by decide) lk) ht hs ?_
        rw [mm_pI, r_223_0_6 (hy := hy)]
        refine m210y hy (by omega) h1n (by rw [f41n]; exact h3n) ?_
        rw [mm_pI, r_223_0_11 (hy := hy), if_neg (by decide)]
        refine m176z hy (by omega) (fun w => hk0 ((kk_isn hc (by omega)).2 ⟨w.1, by rw [mm_upf (by decide)] at w; exact w.2⟩)) ?_
        rw [mm_pI, r_223_0_16 (hy := hy), if_pos rfl, r_223_1 (hy := hy)]
        exact mfin _ _ rfl
    · rw [mm_pR, r_10_0_8a (htx5 := hsT) (hx := hx)]
      refine s56 hsT hx (fun h1k h2k => ?_) (fun hk0 => ?_)
      · have hkN : mm_isN k := ⟨by omega, h1k.2⟩
        rw [mm_pR, r_10_0_13a (hty0 := hsT) (hny0 := hkN) (hx := hx), r_10_1 (hx := hx)]
        refine fin (-1) ⟨_, rfl, by omega, by omega⟩ ?_
        have ek : ∀ (x : mm_Id) (j : Int), 40 ≤ x.1 → h x j = h x j := fun _ _ _ => rfl
        have lk := kk_lkr h
        rw [r_223_e (hy := hy)]
        refine m181y hy hc (kk_lku (by decide) lk) ht hs ?_
        rw [mm_pI, r_223_0_6 (hy := hy)]
        refine m210z hy (by omega) (fun w => hn0 ((kk_isn hc (by omega)).2 ⟨w.1, by rw [mm_upf (by decide)] at w; exact w.2⟩)) ?_
        rw [mm_pI, r_223_0_11 (hy := hy), if_pos rfl, r_223_1 (hy := hy)]
        exact mfin _ _ rfl
      · rw [mm_pR, r_10_0_13 (hx := hx), r_10_1 (hx := hx)]
        refine fin (-1) ⟨_, rfl, by omega, by omega⟩ ?_
        have ek : ∀ (x : mm_Id) (j : Int), 40 ≤ x.1 → h x j = h x j := fun _ _ _ => rfl
        have lk := kk_lkr h
        rw [r_223_e (hy := hy)]
        refine m181y hy hc (kk_lku (by decide) lk) ht hs ?_
        rw [mm_pI, r_223_0_6 (hy := hy)]
        refine m210z hy (by omega) (fun w => hn0 ((kk_isn hc (by omega)).2 ⟨w.1, by rw [mm_upf (by decide)] at w; exact w.2⟩)) ?_
        rw [mm_pI, r_223_0_11 (hy := hy), if_pos rfl, r_223_1 (hy := hy)]
        exact mfin _ _ rfl
  · rw [mm_pR, r_10_0_3 (hx := hx)]
    refine s56n hx ?_
    rw [mm_pR, r_10_0_8 (hx := hx)]
    refine s56n hx ?_
    rw [mm_pR, r_10_0_13 (hx := hx), r_10_1 (hx := hx)]
    refine fin (-1) ⟨_, rfl, by omega, by omega⟩ ?_
    have ek : ∀ (x : mm_Id) (j : Int), 40 ≤ x.1 → h x j = h x j := fun _ _ _ => rfl
    have lk := kk_lkr h
    rw [r_223_e (hy := hy)]
    refine m181n hy hc (kk_lku (by decide) lk) ht hs ?_
    rw [mm_pI, r_223_0_6 (hy := hy)]
    refine m210n hy ?_
    rw [mm_pI, r_223_0_11 (hy := hy), if_pos rfl, r_223_1 (hy := hy)]
    exact mfin _ _ rfl


