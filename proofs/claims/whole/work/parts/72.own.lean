/-! the calls of both: own -/
theorem kk_ub1 {b : Int} {h G : mm_Id → Int → Int} {dh : Int → Int} (hW : kk_W b h dh) {s n k : Int} (hs : 0 ≤ s ∧ s < 13) (hn : 1 ≤ n ∧ n < 37) (e41 : ∀ j, G (41, 0, 0) j = h (41, 0, 0) j) (e43 : ∀ j, G (43, 0, 0) j = h (43, 0, 0) j) (e47 : ∀ j, j ≠ 36 * s + n - 1 → G (47, 0, 0) j = h (47, 0, 0) j) (e47n : G (47, 0, 0) (36 * s + n - 1) = k) :
    kk_ub G s k = kk_ub h s k + (if h (47, 0, 0) (36 * s + n - 1) = k then 0 else h (24, s, n) 9) := by
  have N := hW.1.1 s n hs.1 hs.2 hn.1 hn.2
  have NW := hW.1.2.1 s n (mm_T13 hs) hn.1 hn.2
  have M := hW.1.2.2.2.2.1 s n hs.1 (by omega) hn.1 hn.2
  unfold kk_ub kk_S
  rw [sm_1I (f := fun i => mm_sm (fun p => if (h (41, 0, 0) (36 * s + (i + 1) - 1) = 1 ∧ h (47, 0, 0) (36 * s + (i + 1) - 1) = k) ∧ 0 < h (43, 0, 0) (36 * (36 * s + (i + 1) - 1) + p) then 1 else 0) 36) 36 (n - 1) (by omega) (by omega) (fun i i0 i1 ne => ?_)]
  · have e : n - 1 + 1 = n := by omega
    simp only [e, e41, e43, e47n, and_true]
    by_cases z : h (47, 0, 0) (36 * s + n - 1) = k
    · rw [if_pos z]
      simp only [z, and_true]
      omega
    · rw [if_neg z]
      have z0 : mm_sm (fun p => if (h (41, 0, 0) (36 * s + n - 1) = 1 ∧ h (47, 0, 0) (36 * s + n - 1) = k) ∧ 0 < h (43, 0, 0) (36 * (36 * s + n - 1) + p) then 1 else 0) 36 = 0 := sm_0I _ (fun p _ _ => if_neg (fun q => z q.1.2))
      rw [z0, NW.2.2.2.2.2.2.1]
      by_cases f : h (41, 0, 0) (36 * s + n - 1) = 1
      · rw [kk_nzm N (fun p p0 p1 => (M.2.2.2 p p0 p1).1.1)]
        have : mm_sm (fun p => if h (41, 0, 0) (36 * s + n - 1) = 1 ∧ 0 < h (43, 0, 0) (36 * (36 * s + n - 1) + p) then 1 else 0) 36 = mm_sm (fun p => if 0 < h (43, 0, 0) (36 * (36 * s + n - 1) + p) then 1 else 0) 36 := sm_cgI _ (fun p _ _ => by
          by_cases y : 0 < h (43, 0, 0) (36 * (36 * s + n - 1) + p)
          · rw [if_pos ⟨f, y⟩, if_pos y]
          · rw [if_neg (fun q => y q.2), if_neg y])
        rw [this]
        omega
      · have f2 : h (24, s, n) 0 ≠ 1 := by rw [N.1]; exact f
        rw [kk_nz0 (fun p p0 p1 => NW.2.2.2.2.2.2.2.1 f2 p p0 p1)]
        have : mm_sm (fun p => if h (41, 0, 0) (36 * s + n - 1) = 1 ∧ 0 < h (43, 0, 0) (36 * (36 * s + n - 1) + p) then 1 else 0) 36 = 0 := sm_0I _ (fun p _ _ => if_neg (fun q => f q.1))
        rw [this]
        omega
  · refine sm_cgI _ (fun p _ _ => ?_)
    rw [e41, e43, e47 _ (by omega)]

theorem c_15 {b : Int} {h : mm_Id → Int → Int} {dh : Int → Int} {nx ns : Int} (hy : 5306 ≤ nx) (hc : kk_core b h dh) (hb : b + 1 ≤ 1000000) {t n k : Int} (ht : -2147483648 ≤ t ∧ t < 2147483648) (hn : -2147483648 ≤ n ∧ n < 2147483648) (hk : -2147483648 ≤ k ∧ k < 2147483648) : kk_call 15 230 [zI t, zI n, zI k] b h dh nx ns kk_SI := by
  unfold kk_call
  have hx : 5275 ≤ nx := by omega
  have hc0 : kk_core b (mm_up h (40, 0, 0) 0 0) dh := kk_core0 hc
  have fin : ∀ v, kk_SI (zI v) → mm_Cl 230 [zR (40, 0, 0), zI t, zI n, zI k] (mm_z h dh nx ns) (fun (r2 : mm_V) (h2 : mm_H) => r2 = zI v ∧ ∃ g2, h2 = mm_z g2 dh nx ns ∧ kk_core (b + 1) g2 dh ∧ ∀ x j, kk_scr x j → g2 x j = h x j) →
      (fun (r : mm_V) (h1 : mm_H) => kk_SI r ∧ ∃ g dh1, h1 = mm_z g dh1 nx ns ∧ mm_Cl 230 [zR (40, 0, 0), zI t, zI n, zI k] (mm_z g dh1 nx ns) (fun r2 h2 => r2 = r ∧ ∃ g2, h2 = mm_z g2 dh1 nx ns ∧ kk_core (b + 1) g2 dh1 ∧ ∀ x j, kk_scr x j → g2 x j = h x j)) (zI v) (mm_z h dh nx ns) :=
    fun v h1 h2 => ⟨h1, h, dh, rfl, h2⟩
  have mfin : ∀ v w : Int, w = v → (fun (r2 : mm_V) (h2 : mm_H) => r2 = zI v ∧ ∃ g2, h2 = mm_z g2 dh nx ns ∧ kk_core (b + 1) g2 dh ∧ ∀ x j, kk_scr x j → g2 x j = h x j) (zI w) (mm_z (mm_up h (40, 0, 0) 0 0) dh nx ns) :=
    fun v w e => ⟨by rw [e], _, rfl, kk_coreS hb hc0, fun x j hs => kk_scr0 hs⟩
  rw [r_15_e (hx := hx)]
  refine s55 hx (kk_nmC hc) ht.1 ht.2 (fun s hs => ?_) (fun hs => ?_)
  · have hsT := mm_T13 hs.1
    have hs13 := hs.1
    rw [mm_pR, r_15_0_4a (hty0 := hsT) (hx := hx)]
    refine s56 hsT hx (fun h1n h2n => ?_) (fun hn0 => ?_)
    · have hnN : mm_isN n := ⟨by omega, h1n.2⟩
      have NWn := kk_NWC hc hsT h1n
      have h3n : 0 < h (24, s, n) 0 := by
        have := NWn.1.1
        omega
      rw [mm_pR, r_15_0_6a (hty0 := hsT) (hny0 := hnN) (hx := hx)]
      refine s59 hx (fun w1 => ?_) (fun w1 => ?_)
      · rw [mm_pI, r_15_1_3 (htx4 := hsT) (hnx4 := hnN) (hx := hx), if_neg (by decide)]
        refine s53t hx (kk_nmC hc) (fun s5 s50 s51 hs5 => ?_) (fun hs5 => ?_)
        · have e5 := (kk_tp1 hs5 hs).symm
          subst e5
          have hD : mm_isD s := ⟨s50, s51⟩
          have hno := kk_tpp hs
          have e7 := kk_dsC hc s50 s51 hno
          rw [mm_pR, r_15_2_3a (htx4 := hsT) (hnx4 := hnN) (hty0 := hD) (hx := hx)]
          split
          · rename_i c0
            have b9 := kk_b9 hc hsT n h1n.1 h1n.2
            have ubE := kk_ubE hc.1 (t := s) (u := k) hs13
            have ok : ∀ v7, (h (24, s, n) 2 = k ∨ h (24, s, n) 9 ≤ 0 ∨ ¬ h (32, s, 0) k < kk_ub h s k + h (24, s, n) 9) → mm_Wp 15 (mm_blk 15 7) [zR (1, 0, 0), zI t, zI n, zI k, zR (24, s, n), zR (31, s, 0), zI (h (24, s, n) 2), v7] [] (mm_z h dh nx ns) (fun (r : mm_V) (h1 : mm_H) => kk_SI r ∧ ∃ g dh1, h1 = mm_z g dh1 nx ns ∧ mm_Cl 230 [zR (40, 0, 0), zI t, zI n, zI k] (mm_z g dh1 nx ns) (fun r2 h2 => r2 = r ∧ ∃ g2, h2 = mm_z g2 dh1 nx ns ∧ kk_core (b + 1) g2 dh1 ∧ ∀ x j, kk_scr x j → g2 x j = h x j)) := fun v7 w => by
              have WZ : ∀ gq : mm_Id → Int → Int, (∀ x j, 40 ≤ x.1 → x.1 ≠ 56 → ¬ (x = (40, 0, 0) ∧ j = 0) → gq x j = h x j) → kk_W b (mm_up (kk_mix (mm_up h (24, s, n) 2 k) (mm_up gq (47, 0, 0) (36 * s + n - 1) k)) (31, s, 0) 6 1) dh ∧ kk_KP (mm_up (kk_mix (mm_up h (24, s, n) 2 k) (mm_up gq (47, 0, 0) (36 * s + n - 1) k)) (31, s, 0) 6 1) := fun gq eq => by
                obtain ⟨Z, hZ⟩ : ∃ Z, Z = mm_up (kk_mix (mm_up h (24, s, n) 2 k) (mm_up gq (47, 0, 0) (36 * s + n - 1) k)) (31, s, 0) 6 1 := ⟨_, rfl⟩
                rw [← hZ]
                have E1 : ∀ x j, ¬ (x = (31, s, 0) ∧ j = 6) → ¬ (x = (24, s, n) ∧ j = 2) → ¬ (x = (47, 0, 0) ∧ j = 36 * s + n - 1) → ¬ (x = (40, 0, 0) ∧ j = 0) → x.1 ≠ 56 → Z x j = h x j := fun x j q1 q2 q3 q4 q5 => by
                  rw [hZ, mm_upne' q1]
                  by_cases q : x.1 < 40
                  · rw [kk_mixC q, mm_upne' q2]
                  · rw [kk_mixM (by omega), mm_upne' q3, eq x j (by omega) q5 q4]
                have E : ∀ x j, ¬ kk_nx s n x j → Z x j = h x j := fun x j w => E1 x j (fun q => w (by simp [kk_nx, q])) (fun q => w (by simp [kk_nx, q])) (fun q => w (by simp [kk_nx, q])) (fun q => w (by simp [kk_nx, q])) (fun q => w (by simp [kk_nx, q]))
                have zc : Z (24, s, n) 2 = k := by rw [hZ, mm_upf (by decide), kk_mixC (by simp), mm_ups]
                have zm : Z (47, 0, 0) (36 * s + n - 1) = k := by rw [hZ, mm_upf (by decide), kk_mixM (by simp), mm_ups]
                have N := kk_NRC hc (t := s) (n := n) (by omega) h1n
                have e11 : Z (24, s, n) 11 = h (24, s, n) 11 := E1 _ _ (by simp) (by simp) (by simp) (by simp) (by simp)
                have e28 : ∀ i, Z (28, s, n) i = h (28, s, n) i := fun i => E1 _ _ (by simp) (by simp) (by simp) (by simp) (by simp)
                have e29 : ∀ i, Z (29, s, n) i = h (29, s, n) i := fun i => E1 _ _ (by simp) (by simp) (by simp) (by simp) (by simp)
                have e49 : Z (49, 0, 0) (36 * s + n - 1) = h (49, 0, 0) (36 * s + n - 1) := E1 _ _ (by simp) (by simp) (by simp) (by simp) (by simp)
                have e50 : ∀ i, Z (50, 0, 0) i = h (50, 0, 0) i := fun i => E1 _ _ (by simp) (by simp) (by simp) (by simp) (by simp)
                have e51 : ∀ i, Z (51, 0, 0) i = h (51, 0, 0) i := fun i => E1 _ _ (by simp) (by simp) (by simp) (by simp) (by simp)
                refine kk_WN hc ⟨s50, s51⟩ hno h1n E (by rw [hZ, mm_ups]) (kk_NRn E N (fun z => ?_) (fun z => ?_) ?_ ?_) (kk_NWn E NWn ?_ ?_ ?_ ?_ ?_ ?_)
                · rw [zc, zm]
                · rw [E1 (24, s, n) 3 (by simp) (by simp) (by simp) (by simp) (by simp), E1 (48, 0, 0) _ (by simp) (by simp) (by simp) (by simp) (by simp)]; exact (N.2.2.2.1 z).2.2.1
                · rw [e11, e49]; exact N.2.2.1
                · rw [e11]
                  intro e e0 e1
                  rw [e28, e29, e50, e51]
                  exact N.2.2.2.2.2.1 e e0 e1
                · rw [zc]; omega
                · rw [E1 (24, s, n) 3 (by simp) (by simp) (by simp) (by simp) (by simp)]; exact NWn.2.2.2.2.2.2.2.2.2.1
                · rw [e11]; exact NWn.2.2.2.1
                · rw [e11]; exact NWn.2.2.2.2.1
                · rw [e11]
                  intro i j i0 ij jc
                  rw [e28, e28]
                  exact NWn.2.2.2.2.2.2.2.2.2.2.2.2.1 i j i0 ij jc
                · rw [e11]
                  intro i i0 i1
                  rw [e28, e29]
                  exact NWn.2.2.2.2.2.2.2.2.2.2.2.2.2.2.1 i i0 i1
              rw [r_15_7 (htx4 := hsT) (hnx4 := hnN) (htx5 := hD) (hx := hx)]
              have WZ0 := WZ h (fun _ _ _ _ _ => rfl)
              refine s63W hx hD rfl WZ0.1 WZ0.2 (fun g k1 k2 k3 => ?_)
              rw [mm_pU, r_15_7_6 (hx := hx)]
              have r2 := NWn.2.2.2.2.2.2.2.2.1
              refine ⟨⟨_, rfl, by omega, by omega⟩, g, dh, rfl, ?_⟩
              have ek : ∀ x j, 40 ≤ x.1 → g x j = h x j := fun x j q => by rw [k2 x j q]; exact kk_moU q (by simp)
              have ek3 : ∀ x j, 8 ≤ x.1 → x.1 ≤ 13 → g x j = h x j := fun x j q1 q2 => by rw [k3 x j q1 q2]; exact mm_upne' (by rintro ⟨q6, _⟩; rw [q6] at q2; simp at q2)
              have lk : kk_lk h g := ⟨fun s2 _ _ => by rw [kk_acno k1 s2]; unfold kk_no; rw [mm_upne' (by simp), mm_upne' (by simp)], fun k k0 k9 => ek _ _ (by simp)⟩
              have f29 : mm_up g (40, 0, 0) 0 0 (40, 0, 0) 29 = h (1, 0, 0) 12 := (mm_upj (by decide)).trans ((ek _ _ (by simp)).trans (kk_cal hc).1.symm)
              have f41n : mm_up g (40, 0, 0) 0 0 (41, 0, 0) (36 * s + n - 1) = h (24, s, n) 0 := by rw [mm_upf (by decide)]; exact (ek _ _ (by simp)).trans (kk_nf hc (by omega) h1n).1
              have f44n : mm_up g (40, 0, 0) 0 0 (44, 0, 0) (36 * s + n - 1) = h (24, s, n) 6 := by rw [mm_upf (by decide)]; exact (ek _ _ (by simp)).trans (kk_nf hc (by omega) h1n).2.1
              have f49n : mm_up g (40, 0, 0) 0 0 (49, 0, 0) (36 * s + n - 1) = h (24, s, n) 11 := by rw [mm_upf (by decide)]; exact (ek _ _ (by simp)).trans (kk_nf hc (by omega) h1n).2.2.1
              have f42n : mm_up g (40, 0, 0) 0 0 (42, 0, 0) (36 * s + n - 1) = h (24, s, n) 1 := by rw [mm_upf (by decide)]; exact (ek _ _ (by simp)).trans ((kk_nf hc (by omega) h1n).2.2.2 h2n).1
              have f47n : mm_up g (40, 0, 0) 0 0 (47, 0, 0) (36 * s + n - 1) = h (24, s, n) 2 := by rw [mm_upf (by decide)]; exact (ek _ _ (by simp)).trans ((kk_nf hc (by omega) h1n).2.2.2 h2n).2.1
              have f48n : mm_up g (40, 0, 0) 0 0 (48, 0, 0) (36 * s + n - 1) = h (24, s, n) 3 := by rw [mm_upf (by decide)]; exact (ek _ _ (by simp)).trans ((kk_nf hc (by omega) h1n).2.2.2 h2n).2.2
              rw [r_230_e (hy := hy)]
              refine m181y hy hc (kk_lku (by decide) lk) ht hs ?_
              rw [mm_pI, r_230_0_6 (hy := hy)]
              refine m210y hy (by omega) h1n (by rw [f41n]; exact h3n) ?_
              rw [mm_pI, r_230_0_11 (hy := hy), if_neg (by decide)]
              refine m174y hy (by omega) ?_
              rw [mm_pI, r_230_1_5 (hy := hy), if_neg (by decide), if_pos (by omega), f29, if_pos c0]
              refine m175 hy (by omega) h1n ?_
              rw [mm_pI, r_230_4_3 (hy := hy)]
              refine ⟨by omega, m205 hy (by omega) ?_⟩
              rw [mm_pI, r_230_4_13 (hy := hy)]
              refine ⟨by omega, m205 hy (by omega) ?_⟩
              have u0 : kk_ub (mm_up g (40, 0, 0) 0 0) s k = kk_ub h s k := kk_ube (fun x j q => (mm_upne' (by rintro ⟨q3, _⟩; rw [q3] at q; simp at q)).trans (ek x j (by omega)))
              have u1 : kk_ub (mm_up (mm_up g (40, 0, 0) 0 0) (47, 0, 0) (36 * s + n - 1) k) s k = kk_ub h s k + (if h (47, 0, 0) (36 * s + n - 1) = k then 0 else h (24, s, n) 9) := kk_ub1 hc.1 hs13 h1n (fun j => ((mm_upf (by decide)).trans (mm_upf (by decide))).trans (ek _ _ (by simp))) (fun j => ((mm_upf (by decide)).trans (mm_upf (by decide))).trans (ek _ _ (by simp))) (fun j q => ((mm_upj q).trans (mm_upf (by decide))).trans (ek _ _ (by simp))) mm_ups
              rw [((kk_nf hc (by omega) h1n).2.2.2 h2n).2.1] at u1
              have l61 : mm_up (mm_up g (40, 0, 0) 0 0) (47, 0, 0) (36 * s + n - 1) k (61, 0, 0) (8 * s + k) = h (32, s, 0) k := ((mm_upf (by decide)).trans (mm_upf (by decide))).trans <| (ek _ _ (by simp)).trans (e7.2.2 k (by omega) (by omega)).1.symm
              rw [mm_pI, r_230_4_23 (hy := hy), u0, u1]
              have fm : mm_Wp 230 (mm_blk 230 5) [zR (40, 0, 0), zI t, zI n, zI k, zI s, zI (36 * s + n - 1), zI (mm_up g (40, 0, 0) 0 0 (47, 0, 0) (36 * s + n - 1)), zI (kk_ub h s k)] [] (mm_z (mm_up (mm_up g (40, 0, 0) 0 0) (47, 0, 0) (36 * s + n - 1) k) dh nx ns) (fun (r2 : mm_V) (h2 : mm_H) => r2 = zI (h (24, s, n) 2) ∧ ∃ g2, h2 = mm_z g2 dh nx ns ∧ kk_core (b + 1) g2 dh ∧ ∀ x j, kk_scr x j → g2 x j = h x j) := by
                rw [r_230_5 (hy := hy)]
                have WM := WZ (mm_up g (40, 0, 0) 0 0) (fun x j q _ q3 => by rw [mm_upne' q3]; exact ek x j q)
                have cq : ∀ x j, x.1 < 40 → (mm_up g (40, 0, 0) 0 0) x j = g x j := (fun x j q => kk_clU q (by simp))
                have sq : ∀ x j, kk_scr x j → (mm_up g (40, 0, 0) 0 0) x j = g x j := (fun x j q => kk_scrU q (Or.inr ⟨rfl, by omega⟩))
                refine m209W hy rfl WM.1 WM.2 (fun g2 m1 m2 m3 => ?_)
                rw [mm_pU, r_230_5_2 (hy := hy)]
                refine ⟨by rw [f47n], g2, rfl, kk_actend (gx := g) hb rfl WM.1 WM.2 k1 m1 (fun x j q => by rw [m2 x j q, kk_clU q (by simp)]; exact cq x j q) m3 (fun x j q => by rw [kk_scrU q (Or.inl (by simp))]; exact sq x j q) (fun x j q => ?_)⟩
                rcases kk_scrC q with q5 | q5
                · exact ek x j q5
                · exact ek3 x j q5.1 q5.2
              by_cases c2 : kk_ub h s k < kk_ub h s k + (if h (24, s, n) 2 = k then 0 else h (24, s, n) 9)
              · rw [if_pos c2]
                refine m206 hy (by omega) (by omega) (fun c3 => ?_) (fun c3 => ?_)
                · rw [mm_pI, r_230_4_29 (hy := hy), if_neg (by decide)]
                  exact fm
                · rw [l61, u1] at c3
                  by_cases z : h (24, s, n) 2 = k
                  · rw [if_pos z] at c2; omega
                  · rw [if_neg z] at c2 c3; omega
              · rw [if_neg c2]
                exact fm
            have k5 : (k = h (24, s, n) 2 ∨ h (24, s, n) 9 ≤ 0) → mm_Wp 15 (mm_blk 15 5) [zR (1, 0, 0), zI t, zI n, zI k, zR (24, s, n), zR (31, s, 0), zI (h (24, s, n) 2), zU] [] (mm_z h dh nx ns) (fun (r : mm_V) (h1 : mm_H) => kk_SI r ∧ ∃ g dh1, h1 = mm_z g dh1 nx ns ∧ mm_Cl 230 [zR (40, 0, 0), zI t, zI n, zI k] (mm_z g dh1 nx ns) (fun r2 h2 => r2 = r ∧ ∃ g2, h2 = mm_z g2 dh1 nx ns ∧ kk_core (b + 1) g2 dh1 ∧ ∀ x j, kk_scr x j → g2 x j = h x j)) := fun w => by
              rw [r_15_5 (htx4 := hsT) (hnx4 := hnN) (htx5 := hD) (hx := hx), r_15_6 (htx4 := hsT) (hnx4 := hnN) (htx5 := hD) (hx := hx), if_pos rfl]
              exact ok _ (by omega)
            split
            · rename_i c1
              exact k5 (Or.inl c1)
            · rename_i c1
              split
              · rename_i c2
                rw [r_15_6 (htx4 := hsT) (hnx4 := hnN) (htx5 := hD) (hx := hx), if_neg (by decide)]
                refine s162 hsT hx (kk_b9 hc hsT) ?_
                have ub36 := kk_S36 (f := fun n => if h (24, s, n) 2 = k then h (24, s, n) 9 else 0) (lo := 0) (hi := 36) (fun m m0 m1 => by
                  have := kk_b9 hc hsT m m0 m1
                  split <;> omega)
                rw [ubE] at ub36
                rw [mm_pI, r_15_6_7 (htx4 := hsT) (hnx4 := hnN) (htx5 := hD) (hx := hx), ubE, mm_wi (by omega) (by omega)]
                refine ⟨by omega, ?_⟩
                split
                · rename_i c3
                  refine fin (-4) ⟨_, rfl, by omega, by omega⟩ ?_
                  have ek : ∀ (x : mm_Id) (j : Int), 40 ≤ x.1 → h x j = h x j := fun _ _ _ => rfl
                  have lk := kk_lkr h
                  have f29 : mm_up h (40, 0, 0) 0 0 (40, 0, 0) 29 = h (1, 0, 0) 12 := (mm_upj (by decide)).trans ((ek _ _ (by simp)).trans (kk_cal hc).1.symm)
                  have f41n : mm_up h (40, 0, 0) 0 0 (41, 0, 0) (36 * s + n - 1) = h (24, s, n) 0 := by rw [mm_upf (by decide)]; exact (ek _ _ (by simp)).trans (kk_nf hc (by omega) h1n).1
                  have f44n : mm_up h (40, 0, 0) 0 0 (44, 0, 0) (36 * s + n - 1) = h (24, s, n) 6 := by rw [mm_upf (by decide)]; exact (ek _ _ (by simp)).trans (kk_nf hc (by omega) h1n).2.1
                  have f49n : mm_up h (40, 0, 0) 0 0 (49, 0, 0) (36 * s + n - 1) = h (24, s, n) 11 := by rw [mm_upf (by decide)]; exact (ek _ _ (by simp)).trans (kk_nf hc (by omega) h1n).2.2.1
                  have f42n : mm_up h (40, 0, 0) 0 0 (42, 0, 0) (36 * s + n - 1) = h (24, s, n) 1 := by rw [mm_upf (by decide)]; exact (ek _ _ (by simp)).trans ((kk_nf hc (by omega) h1n).2.2.2 h2n).1
                  have f47n : mm_up h (40, 0, 0) 0 0 (47, 0, 0) (36 * s + n - 1) = h (24, s, n) 2 := by rw [mm_upf (by decide)]; exact (ek _ _ (by simp)).trans ((kk_nf hc (by omega) h1n).2.2.2 h2n).2.1
                  have f48n : mm_up h (40, 0, 0) 0 0 (48, 0, 0) (36 * s + n - 1) = h (24, s, n) 3 := by rw [mm_upf (by decide)]; exact (ek _ _ (by simp)).trans ((kk_nf hc (by omega) h1n).2.2.2 h2n).2.2
                  rw [r_230_e (hy := hy)]
                  refine m181y hy hc (kk_lku (by decide) lk) ht hs ?_
                  rw [mm_pI, r_230_0_6 (hy := hy)]
                  refine m210y hy (by omega) h1n (by rw [f41n]; exact h3n) ?_
                  rw [mm_pI, r_230_0_11 (hy := hy), if_neg (by decide)]
                  refine m174y hy (by omega) ?_
                  rw [mm_pI, r_230_1_5 (hy := hy), if_neg (by decide), if_pos (by omega), f29, if_pos c0]
                  refine m175 hy (by omega) h1n ?_
                  rw [mm_pI, r_230_4_3 (hy := hy)]
                  refine ⟨by omega, m205 hy (by omega) ?_⟩
                  rw [mm_pI, r_230_4_13 (hy := hy)]
                  refine ⟨by omega, m205 hy (by omega) ?_⟩
                  have u0 : kk_ub (mm_up h (40, 0, 0) 0 0) s k = kk_ub h s k := kk_ube (fun x j q => (mm_upne' (by rintro ⟨q3, _⟩; rw [q3] at q; simp at q)).trans (ek x j (by omega)))
                  have u1 : kk_ub (mm_up (mm_up h (40, 0, 0) 0 0) (47, 0, 0) (36 * s + n - 1) k) s k = kk_ub h s k + (if h (47, 0, 0) (36 * s + n - 1) = k then 0 else h (24, s, n) 9) := kk_ub1 hc.1 hs13 h1n (fun j => ((mm_upf (by decide)).trans (mm_upf (by decide))).trans (ek _ _ (by simp))) (fun j => ((mm_upf (by decide)).trans (mm_upf (by decide))).trans (ek _ _ (by simp))) (fun j q => ((mm_upj q).trans (mm_upf (by decide))).trans (ek _ _ (by simp))) mm_ups
                  rw [((kk_nf hc (by omega) h1n).2.2.2 h2n).2.1] at u1
                  have l61 : mm_up (mm_up h (40, 0, 0) 0 0) (47, 0, 0) (36 * s + n - 1) k (61, 0, 0) (8 * s + k) = h (32, s, 0) k := ((mm_upf (by decide)).trans (mm_upf (by decide))).trans <| (ek _ _ (by simp)).trans (e7.2.2 k (by omega) (by omega)).1.symm
                  rw [mm_pI, r_230_4_23 (hy := hy), u0, u1]
                  have z : ¬ h (24, s, n) 2 = k := fun q => c1 q.symm
                  rw [if_neg z] at u1
                  rw [if_neg z, if_pos (by omega)]
                  refine m206 hy (by omega) (by omega) (fun c4 => ?_) (fun c4 => ?_)
                  · rw [l61, u1] at c4
                    exact absurd c3 c4
                  · rw [mm_pI, r_230_4_29 (hy := hy), if_pos rfl, mm_upup, mm_upself]
                    exact ⟨by omega, mfin _ _ rfl⟩
                · rename_i c3
                  exact ok _ (Or.inr (Or.inr c3))
              · rename_i c2
                exact k5 (Or.inr (by omega))
          · rename_i c0
            refine fin (-5) ⟨_, rfl, by omega, by omega⟩ ?_
            have ek : ∀ (x : mm_Id) (j : Int), 40 ≤ x.1 → h x j = h x j := fun _ _ _ => rfl
            have lk := kk_lkr h
            have f29 : mm_up h (40, 0, 0) 0 0 (40, 0, 0) 29 = h (1, 0, 0) 12 := (mm_upj (by decide)).trans ((ek _ _ (by simp)).trans (kk_cal hc).1.symm)
            have f41n : mm_up h (40, 0, 0) 0 0 (41, 0, 0) (36 * s + n - 1) = h (24, s, n) 0 := by rw [mm_upf (by decide)]; exact (ek _ _ (by simp)).trans (kk_nf hc (by omega) h1n).1
            have f44n : mm_up h (40, 0, 0) 0 0 (44, 0, 0) (36 * s + n - 1) = h (24, s, n) 6 := by rw [mm_upf (by decide)]; exact (ek _ _ (by simp)).trans (kk_nf hc (by omega) h1n).2.1
            have f49n : mm_up h (40, 0, 0) 0 0 (49, 0, 0) (36 * s + n - 1) = h (24, s, n) 11 := by rw [mm_upf (by decide)]; exact (ek _ _ (by simp)).trans (kk_nf hc (by omega) h1n).2.2.1
            have f42n : mm_up h (40, 0, 0) 0 0 (42, 0, 0) (36 * s + n - 1) = h (24, s, n) 1 := by rw [mm_upf (by decide)]; exact (ek _ _ (by simp)).trans ((kk_nf hc (by omega) h1n).2.2.2 h2n).1
            have f47n : mm_up h (40, 0, 0) 0 0 (47, 0, 0) (36 * s + n - 1) = h (24, s, n) 2 := by rw [mm_upf (by decide)]; exact (ek _ _ (by simp)).trans ((kk_nf hc (by omega) h1n).2.2.2 h2n).2.1
            have f48n : mm_up h (40, 0, 0) 0 0 (48, 0, 0) (36 * s + n - 1) = h (24, s, n) 3 := by rw [mm_upf (by decide)]; exact (ek _ _ (by simp)).trans ((kk_nf hc (by omega) h1n).2.2.2 h2n).2.2
            rw [r_230_e (hy := hy)]
            refine m181y hy hc (kk_lku (by decide) lk) ht hs ?_
            rw [mm_pI, r_230_0_6 (hy := hy)]
            refine m210y hy (by omega) h1n (by rw [f41n]; exact h3n) ?_
            rw [mm_pI, r_230_0_11 (hy := hy), if_neg (by decide)]
            refine m174y hy (by omega) ?_
            rw [mm_pI, r_230_1_5 (hy := hy), if_neg (by decide), if_pos (by omega), f29, if_neg c0]
            exact mfin _ _ rfl
        · have s5 : 5 ≤ s := by
            by_cases z : s < 5
            · exact absurd hs (hs5 s z)
            · omega
          rw [mm_pR, r_15_2_3 (htx4 := hsT) (hnx4 := hnN) (hx := hx)]
          refine fin (-3) ⟨_, rfl, by omega, by omega⟩ ?_
          have ek : ∀ (x : mm_Id) (j : Int), 40 ≤ x.1 → h x j = h x j := fun _ _ _ => rfl
          have lk := kk_lkr h
          have f29 : mm_up h (40, 0, 0) 0 0 (40, 0, 0) 29 = h (1, 0, 0) 12 := (mm_upj (by decide)).trans ((ek _ _ (by simp)).trans (kk_cal hc).1.symm)
          have f41n : mm_up h (40, 0, 0) 0 0 (41, 0, 0) (36 * s + n - 1) = h (24, s, n) 0 := by rw [mm_upf (by decide)]; exact (ek _ _ (by simp)).trans (kk_nf hc (by omega) h1n).1
          have f44n : mm_up h (40, 0, 0) 0 0 (44, 0, 0) (36 * s + n - 1) = h (24, s, n) 6 := by rw [mm_upf (by decide)]; exact (ek _ _ (by simp)).trans (kk_nf hc (by omega) h1n).2.1
          have f49n : mm_up h (40, 0, 0) 0 0 (49, 0, 0) (36 * s + n - 1) = h (24, s, n) 11 := by rw [mm_upf (by decide)]; exact (ek _ _ (by simp)).trans (kk_nf hc (by omega) h1n).2.2.1
          have f42n : mm_up h (40, 0, 0) 0 0 (42, 0, 0) (36 * s + n - 1) = h (24, s, n) 1 := by rw [mm_upf (by decide)]; exact (ek _ _ (by simp)).trans ((kk_nf hc (by omega) h1n).2.2.2 h2n).1
          have f47n : mm_up h (40, 0, 0) 0 0 (47, 0, 0) (36 * s + n - 1) = h (24, s, n) 2 := by rw [mm_upf (by decide)]; exact (ek _ _ (by simp)).trans ((kk_nf hc (by omega) h1n).2.2.2 h2n).2.1
          have f48n : mm_up h (40, 0, 0) 0 0 (48, 0, 0) (36 * s + n - 1) = h (24, s, n) 3 := by rw [mm_upf (by decide)]; exact (ek _ _ (by simp)).trans ((kk_nf hc (by omega) h1n).2.2.2 h2n).2.2
          rw [r_230_e (hy := hy)]
          refine m181y hy hc (kk_lku (by decide) lk) ht hs ?_
          rw [mm_pI, r_230_0_6 (hy := hy)]
          refine m210y hy (by omega) h1n (by rw [f41n]; exact h3n) ?_
          rw [mm_pI, r_230_0_11 (hy := hy), if_neg (by decide)]
          refine m174y hy (by omega) ?_
          rw [mm_pI, r_230_1_5 (hy := hy), if_neg (by decide), if_neg (by omega)]
          exact mfin _ _ rfl
      · rw [mm_pI, r_15_1_3 (htx4 := hsT) (hnx4 := hnN) (hx := hx), if_pos rfl]
        refine fin (-2) ⟨_, rfl, by omega, by omega⟩ ?_
        have ek : ∀ (x : mm_Id) (j : Int), 40 ≤ x.1 → h x j = h x j := fun _ _ _ => rfl
        have lk := kk_lkr h
        have f29 : mm_up h (40, 0, 0) 0 0 (40, 0, 0) 29 = h (1, 0, 0) 12 := (mm_upj (by decide)).trans ((ek _ _ (by simp)).trans (kk_cal hc).1.symm)
        have f41n : mm_up h (40, 0, 0) 0 0 (41, 0, 0) (36 * s + n - 1) = h (24, s, n) 0 := by rw [mm_upf (by decide)]; exact (ek _ _ (by simp)).trans (kk_nf hc (by omega) h1n).1
        have f44n : mm_up h (40, 0, 0) 0 0 (44, 0, 0) (36 * s + n - 1) = h (24, s, n) 6 := by rw [mm_upf (by decide)]; exact (ek _ _ (by simp)).trans (kk_nf hc (by omega) h1n).2.1
        have f49n : mm_up h (40, 0, 0) 0 0 (49, 0, 0) (36 * s + n - 1) = h (24, s, n) 11 := by rw [mm_upf (by decide)]; exact (ek _ _ (by simp)).trans (kk_nf hc (by omega) h1n).2.2.1
        have f42n : mm_up h (40, 0, 0) 0 0 (42, 0, 0) (36 * s + n - 1) = h (24, s, n) 1 := by rw [mm_upf (by decide)]; exact (ek _ _ (by simp)).trans ((kk_nf hc (by omega) h1n).2.2.2 h2n).1
        have f47n : mm_up h (40, 0, 0) 0 0 (47, 0, 0) (36 * s + n - 1) = h (24, s, n) 2 := by rw [mm_upf (by decide)]; exact (ek _ _ (by simp)).trans ((kk_nf hc (by omega) h1n).2.2.2 h2n).2.1
        have f48n : mm_up h (40, 0, 0) 0 0 (48, 0, 0) (36 * s + n - 1) = h (24, s, n) 3 := by rw [mm_upf (by decide)]; exact (ek _ _ (by simp)).trans ((kk_nf hc (by omega) h1n).2.2.2 h2n).2.2
        rw [r_230_e (hy := hy)]
        refine m181y hy hc (kk_lku (by decide) lk) ht hs ?_
        rw [mm_pI, r_230_0_6 (hy := hy)]
        refine m210y hy (by omega) h1n (by rw [f41n]; exact h3n) ?_
        rw [mm_pI, r_230_0_11 (hy := hy), if_neg (by decide)]
        refine m174n hy (by omega) ?_
        rw [mm_pI, r_230_1_5 (hy := hy), if_pos rfl]
        exact mfin _ _ rfl
    · rw [mm_pR, r_15_0_6 (hx := hx)]
      refine fin (-1) ⟨_, rfl, by omega, by omega⟩ ?_
      have ek : ∀ (x : mm_Id) (j : Int), 40 ≤ x.1 → h x j = h x j := fun _ _ _ => rfl
      have lk := kk_lkr h
      rw [r_230_e (hy := hy)]
      refine m181y hy hc (kk_lku (by decide) lk) ht hs ?_
      rw [mm_pI, r_230_0_6 (hy := hy)]
      refine m210z hy (by omega) (fun w => hn0 ((kk_isn hc (by omega)).2 ⟨w.1, by rw [mm_upf (by decide)] at w; exact w.2⟩)) ?_
      rw [mm_pI, r_230_0_11 (hy := hy), if_pos rfl]
      exact mfin _ _ rfl
  · rw [mm_pR, r_15_0_4 (hx := hx)]
    refine s56n hx ?_
    rw [mm_pR, r_15_0_6 (hx := hx)]
    refine fin (-1) ⟨_, rfl, by omega, by omega⟩ ?_
    have ek : ∀ (x : mm_Id) (j : Int), 40 ≤ x.1 → h x j = h x j := fun _ _ _ => rfl
    have lk := kk_lkr h
    rw [r_230_e (hy := hy)]
    refine m181n hy hc (kk_lku (by decide) lk) ht hs ?_
    rw [mm_pI, r_230_0_6 (hy := hy)]
    refine m210n hy ?_
    rw [mm_pI, r_230_0_11 (hy := hy), if_pos rfl]
    exact mfin _ _ rfl

