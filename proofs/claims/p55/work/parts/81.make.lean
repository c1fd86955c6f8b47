/-! the calls of both: make, makeLink -/
section
variable {hi h : mm_Id → Int → Int} {dh dh0 : Int → Int} {nx ns b : Int} {Q : mm_V → mm_H → Prop}
theorem s63t (hx : 5275 ≤ nx) {s : Int} (hc : kk_core b h dh0) (hD : mm_isD s) (E : ∀ x j, x.1 < 40 → ¬ kk_ts s x j → hi x j = h x j) (R : kk_R hi) (nw : ∀ n, 1 ≤ n → n < 37 → kk_nw hi s n)
    (K : ∀ g, kk_acC s hi g → (∀ x j, 40 ≤ x.1 → g x j = hi x j) → (∀ x j, 8 ≤ x.1 → x.1 ≤ 13 → g x j = h x j) → (∀ s2, kk_no g s2 = kk_no h s2) → Q zU (mm_z g dh nx ns)) : mm_Cl 63 [zR (1, 0, 0), zR (31, s, 0)] (mm_z hi dh nx ns) Q := by
  have ec : ∀ (f : Nat) t m j, (f = 1 ∨ f = 22 ∨ f = 33 ∨ f = 31 ∧ j ≠ 6 ∨ 8 ≤ f ∧ f ≤ 13 ∨ (24 ≤ f ∧ f ≤ 30) ∧ t ≠ s) → hi (f, t, m) j = h (f, t, m) j := fun f t m j q => E _ _ (by show f < 40; omega) (fun w => by
    rcases kk_tsr w with w | w | w | w | w | w <;> simp at w <;> omega)
  have a := kk_ac hc
  refine s63 hx hD R (fun t n t0 t1 n0 n1 => ?_) (fun t t0 t1 => ?_) (by rw [ec 1 _ _ _ (by omega)]; omega) (fun g k1 k2 k3 => K g k1 k2 (fun x j q1 q2 => ?_) (fun s2 => ?_))
  · by_cases q : t = s
    · rw [q]; exact nw n n0 n1
    · have w := hc.1.1.2.1 t n (by unfold mm_isT; omega) n0 n1
      unfold kk_nw
      rw [ec 24 _ _ _ (by omega), ec 24 _ _ _ (by omega), ec 24 _ _ _ (by omega), kk_nzc (g := h (27, t, n)) (fun p _ _ => ec 27 _ _ _ (by omega))]
      exact ⟨w.2.2.2.2.2.1, w.2.2.2.1, w.2.2.2.2.2.2.1⟩
  · have w := hc.1.1.2.2.2.2.2.2.2.2.2.1 t (by unfold mm_isT; omega)
    unfold kk_as at w
    rw [if_neg (by omega)] at w
    rw [ec 22 _ _ _ (by omega)]
    exact w
  · rw [k3 x j q1 q2]
    exact E x j (by omega) (fun w => by rcases kk_tsr w with w | w | w | w | w | w <;> omega)
  · rw [kk_acno k1]
    unfold kk_no
    rw [ec 31 _ _ _ (by omega), ec 33 _ _ _ (by omega)]
end

theorem kk_first {P : Int → Prop} (al : ¬ ∀ j : Int, 1 ≤ j → j < 37 → ¬ P j) : ∃ m : Int, 1 ≤ m ∧ m < 37 ∧ P m ∧ ∀ j, 1 ≤ j → j < m → ¬ P j := by
  have G : ∀ d : Nat, ∀ j : Int, 37 - j = d → 1 ≤ j → (∀ i, 1 ≤ i → i < j → ¬ P i) → ∃ m : Int, 1 ≤ m ∧ m < 37 ∧ P m ∧ ∀ j, 1 ≤ j → j < m → ¬ P j := by
    intro d
    induction d with
    | zero => intro j e j0 q; exact absurd (fun i i0 i1 => q i i0 (by omega)) al
    | succ d ih =>
      intro j e j0 q
      by_cases z : P j
      · exact ⟨j, j0, by omega, z, q⟩
      · refine ih (j + 1) (by omega) (by omega) (fun i i0 i1 => ?_)
        by_cases y : i = j
        · rw [y]; exact z
        · exact q i i0 (by omega)
  exact G 36 1 (by omega) (by omega) (fun i i0 i1 => by omega)

theorem c_1 {b : Int} {h : mm_Id → Int → Int} {dh : Int → Int} {nx ns : Int} (hy : 10581 ≤ nx) (hc : kk_core b h dh) (hb : b + 1 ≤ 1000000) {t n k l : Int} (ht : -2147483648 ≤ t ∧ t < 2147483648) (hn : -2147483648 ≤ n ∧ n < 2147483648) (hk : -2147483648 ≤ k ∧ k < 2147483648) (hl : -2147483648 ≤ l ∧ l < 2147483648) : kk_call 1 212 [zI t, zI n, zI k, zI l] b h dh nx ns kk_SI := by
  unfold kk_call
  have hx : 5275 ≤ nx := by omega
  have hc0 : kk_core b (mm_up h (40, 0, 0) 0 0) dh := kk_core0 hc
  have fin : ∀ v, kk_SI (zI v) → mm_Cl 212 [zR (40, 0, 0), zI t, zI n, zI k, zI l] (mm_z h dh nx ns) (fun (r2 : mm_V) (h2 : mm_H) => r2 = zI v ∧ ∃ g2, h2 = mm_z g2 dh nx ns ∧ kk_core (b + 1) g2 dh ∧ ∀ x j, kk_scr x j → g2 x j = h x j) →
      (fun (r : mm_V) (h1 : mm_H) => kk_SI r ∧ ∃ g dh1, h1 = mm_z g dh1 nx ns ∧ mm_Cl 212 [zR (40, 0, 0), zI t, zI n, zI k, zI l] (mm_z g dh1 nx ns) (fun r2 h2 => r2 = r ∧ ∃ g2, h2 = mm_z g2 dh1 nx ns ∧ kk_core (b + 1) g2 dh1 ∧ ∀ x j, kk_scr x j → g2 x j = h x j)) (zI v) (mm_z h dh nx ns) :=
    fun v h1 h2 => ⟨h1, h, dh, rfl, h2⟩
  have mfin : ∀ v w : Int, w = v → (fun (r2 : mm_V) (h2 : mm_H) => r2 = zI v ∧ ∃ g2, h2 = mm_z g2 dh nx ns ∧ kk_core (b + 1) g2 dh ∧ ∀ x j, kk_scr x j → g2 x j = h x j) (zI w) (mm_z (mm_up h (40, 0, 0) 0 0) dh nx ns) :=
    fun v w e => ⟨by rw [e], _, rfl, kk_coreS hb hc0, fun x j hs => kk_scr0 hs⟩
  rw [r_1_e (hx := hx)]
  refine s55 hx (kk_nmC hc) ht.1 ht.2 (fun s hs => ?_) (fun hs => ?_)
  · have hsT := mm_T13 hs.1
    have hs13 := hs.1
    rw [mm_pR, r_1_0_4a (hty0 := hsT) (hx := hx)]
    refine s56 hsT hx (fun h1n h2n => ?_) (fun hn0 => ?_)
    · have hnN : mm_isN n := ⟨by omega, h1n.2⟩
      have NWn := kk_NWC hc hsT h1n
      have h3n : 0 < h (24, s, n) 0 := by
        have := NWn.1.1
        omega
      rw [mm_pR, r_1_0_6a (hty0 := hsT) (hny0 := hnN) (hx := hx)]
      have NRn := kk_NRC hc (t := s) (n := n) (by omega) h1n
      have kpos : ∀ j, 1 ≤ j → j < 37 → h (24, s, j) 0 ≠ 0 → 0 < h (24, s, j) 0 := fun j j0 j1 q => by
        have := (kk_NWC hc hsT ⟨j0, j1⟩).1.1
        omega
      have bad : ¬ ((1 ≤ k ∧ k ≤ 1000000) ∧ 1 ≤ l ∧ l ≤ 2) → mm_Wp 1 (mm_blk 1 2) [zR (1, 0, 0), zI t, zI n, zI k, zI l, zR (24, s, n), zU, zU] [] (mm_z h dh nx ns) (fun (r : mm_V) (h1 : mm_H) => kk_SI r ∧ ∃ g dh1, h1 = mm_z g dh1 nx ns ∧ mm_Cl 212 [zR (40, 0, 0), zI t, zI n, zI k, zI l] (mm_z g dh1 nx ns) (fun r2 h2 => r2 = r ∧ ∃ g2, h2 = mm_z g2 dh1 nx ns ∧ kk_core (b + 1) g2 dh1 ∧ ∀ x j, kk_scr x j → g2 x j = h x j)) := fun w => by
        rw [r_1_2 (hx := hx)]
        refine fin (-2) ⟨_, rfl, by omega, by omega⟩ ?_
        have ek : ∀ (x : mm_Id) (j : Int), 40 ≤ x.1 → h x j = h x j := fun _ _ _ => rfl
        have lk := kk_lkr h
        have f29 : mm_up h (40, 0, 0) 0 0 (40, 0, 0) 29 = h (1, 0, 0) 12 := (mm_upj (by decide)).trans ((ek _ _ (by simp)).trans (kk_cal hc).1.symm)
        have f41n : mm_up h (40, 0, 0) 0 0 (41, 0, 0) (36 * s + n - 1) = h (24, s, n) 0 := by rw [mm_upf (by decide)]; exact (ek _ _ (by simp)).trans (kk_nf hc (by omega) h1n).1
        have f44n : mm_up h (40, 0, 0) 0 0 (44, 0, 0) (36 * s + n - 1) = h (24, s, n) 6 := by rw [mm_upf (by decide)]; exact (ek _ _ (by simp)).trans (kk_nf hc (by omega) h1n).2.1
        have f49n : mm_up h (40, 0, 0) 0 0 (49, 0, 0) (36 * s + n - 1) = h (24, s, n) 11 := by rw [mm_upf (by decide)]; exact (ek _ _ (by simp)).trans (kk_nf hc (by omega) h1n).2.2.1
        have f42n : mm_up h (40, 0, 0) 0 0 (42, 0, 0) (36 * s + n - 1) = h (24, s, n) 1 := by rw [mm_upf (by decide)]; exact (ek _ _ (by simp)).trans ((kk_nf hc (by omega) h1n).2.2.2 h2n).1
        have f47n : mm_up h (40, 0, 0) 0 0 (47, 0, 0) (36 * s + n - 1) = h (24, s, n) 2 := by rw [mm_upf (by decide)]; exact (ek _ _ (by simp)).trans ((kk_nf hc (by omega) h1n).2.2.2 h2n).2.1
        have f48n : mm_up h (40, 0, 0) 0 0 (48, 0, 0) (36 * s + n - 1) = h (24, s, n) 3 := by rw [mm_upf (by decide)]; exact (ek _ _ (by simp)).trans ((kk_nf hc (by omega) h1n).2.2.2 h2n).2.2
        rw [r_212_e (hy := hy)]
        refine m181y hy hc (kk_lku (by decide) lk) ht hs ?_
        rw [mm_pI, r_212_0_6 (hy := hy)]
        refine m210y hy (by omega) h1n (by rw [f41n]; exact h3n) ?_
        rw [mm_pI, r_212_0_11 (hy := hy), if_neg (by decide)]
        by_cases w1 : 1 ≤ k ∧ k ≤ 1000000
        · refine m174y hy w1 ?_
          rw [mm_pI, r_212_1_5 (hy := hy), if_neg (by decide)]
          refine m174n hy (fun q => w ⟨w1, q⟩) ?_
          rw [mm_pI, r_212_1_11 (hy := hy), if_pos rfl, r_212_2 (hy := hy)]
          exact mfin _ _ rfl
        · refine m174n hy w1 ?_
          rw [mm_pI, r_212_1_5 (hy := hy), if_pos rfl, r_212_2 (hy := hy)]
          exact mfin _ _ rfl
      refine s58 hx (fun w1 => ?_) (fun w1 => ?_)
      · rw [mm_pI, r_1_1_3 (hx := hx), if_neg (by decide)]
        split
        · exact bad (by omega)
        · split
          · exact bad (by omega)
          · refine s53t hx (kk_nmC hc) (fun s5 s50 s51 hs5 => ?_) (fun hs5 => ?_)
            · have e5 := (kk_tp1 hs5 hs).symm
              subst e5
              have hD : mm_isD s := ⟨s50, s51⟩
              have hno := kk_tpp hs
              rw [mm_pR, r_1_3_3a (hvx5 := rfl) (hty0 := hD) (hx := hx)]
              refine s67 hx hD h1n h2n NWn (fun kd => ?_) (fun kd w => ?_) (fun kd w p p0 p1 p2 => ?_) (fun kd w ab w4 => ?_) ?_
              · rw [mm_pI, r_1_4_6 (htx6 := hD) (hx := hx), if_neg (by decide), r_1_5 (hx := hx)]
                refine fin (-3) ⟨_, rfl, by omega, by omega⟩ ?_
                have ek : ∀ (x : mm_Id) (j : Int), 40 ≤ x.1 → h x j = h x j := fun _ _ _ => rfl
                have lk := kk_lkr h
                have f29 : mm_up h (40, 0, 0) 0 0 (40, 0, 0) 29 = h (1, 0, 0) 12 := (mm_upj (by decide)).trans ((ek _ _ (by simp)).trans (kk_cal hc).1.symm)
                have f41n : mm_up h (40, 0, 0) 0 0 (41, 0, 0) (36 * s + n - 1) = h (24, s, n) 0 := by rw [mm_upf (by decide)]; exact (ek _ _ (by simp)).trans (kk_nf hc (by omega) h1n).1
                have f44n : mm_up h (40, 0, 0) 0 0 (44, 0, 0) (36 * s + n - 1) = h (24, s, n) 6 := by rw [mm_upf (by decide)]; exact (ek _ _ (by simp)).trans (kk_nf hc (by omega) h1n).2.1
                have f49n : mm_up h (40, 0, 0) 0 0 (49, 0, 0) (36 * s + n - 1) = h (24, s, n) 11 := by rw [mm_upf (by decide)]; exact (ek _ _ (by simp)).trans (kk_nf hc (by omega) h1n).2.2.1
                have f42n : mm_up h (40, 0, 0) 0 0 (42, 0, 0) (36 * s + n - 1) = h (24, s, n) 1 := by rw [mm_upf (by decide)]; exact (ek _ _ (by simp)).trans ((kk_nf hc (by omega) h1n).2.2.2 h2n).1
                have f47n : mm_up h (40, 0, 0) 0 0 (47, 0, 0) (36 * s + n - 1) = h (24, s, n) 2 := by rw [mm_upf (by decide)]; exact (ek _ _ (by simp)).trans ((kk_nf hc (by omega) h1n).2.2.2 h2n).2.1
                have f48n : mm_up h (40, 0, 0) 0 0 (48, 0, 0) (36 * s + n - 1) = h (24, s, n) 3 := by rw [mm_upf (by decide)]; exact (ek _ _ (by simp)).trans ((kk_nf hc (by omega) h1n).2.2.2 h2n).2.2
                rw [r_212_e (hy := hy)]
                refine m181y hy hc (kk_lku (by decide) lk) ht hs ?_
                rw [mm_pI, r_212_0_6 (hy := hy)]
                refine m210y hy (by omega) h1n (by rw [f41n]; exact h3n) ?_
                rw [mm_pI, r_212_0_11 (hy := hy), if_neg (by decide)]
                refine m174y hy (by omega) ?_
                rw [mm_pI, r_212_1_5 (hy := hy), if_neg (by decide)]
                refine m174y hy (by omega) ?_
                rw [mm_pI, r_212_1_11 (hy := hy), if_neg (by decide)]
                rw [r_213_e (hy := hy), if_pos s51]
                refine m211n hy (by omega) h1n f41n kd ?_
                rw [mm_pI, r_213_0_7 (hy := hy), if_pos rfl, r_213_1 (hy := hy)]
                rw [mm_pI, r_212_3_7 (hy := hy)]
                exact mfin _ _ rfl
              · rw [mm_pI, r_1_4_6 (htx6 := hD) (hx := hx), if_neg (by decide), r_1_5 (hx := hx)]
                refine fin (-5) ⟨_, rfl, by omega, by omega⟩ ?_
                have ek : ∀ (x : mm_Id) (j : Int), 40 ≤ x.1 → h x j = h x j := fun _ _ _ => rfl
                have lk := kk_lkr h
                have f29 : mm_up h (40, 0, 0) 0 0 (40, 0, 0) 29 = h (1, 0, 0) 12 := (mm_upj (by decide)).trans ((ek _ _ (by simp)).trans (kk_cal hc).1.symm)
                have f41n : mm_up h (40, 0, 0) 0 0 (41, 0, 0) (36 * s + n - 1) = h (24, s, n) 0 := by rw [mm_upf (by decide)]; exact (ek _ _ (by simp)).trans (kk_nf hc (by omega) h1n).1
                have f44n : mm_up h (40, 0, 0) 0 0 (44, 0, 0) (36 * s + n - 1) = h (24, s, n) 6 := by rw [mm_upf (by decide)]; exact (ek _ _ (by simp)).trans (kk_nf hc (by omega) h1n).2.1
                have f49n : mm_up h (40, 0, 0) 0 0 (49, 0, 0) (36 * s + n - 1) = h (24, s, n) 11 := by rw [mm_upf (by decide)]; exact (ek _ _ (by simp)).trans (kk_nf hc (by omega) h1n).2.2.1
                have f42n : mm_up h (40, 0, 0) 0 0 (42, 0, 0) (36 * s + n - 1) = h (24, s, n) 1 := by rw [mm_upf (by decide)]; exact (ek _ _ (by simp)).trans ((kk_nf hc (by omega) h1n).2.2.2 h2n).1
                have f47n : mm_up h (40, 0, 0) 0 0 (47, 0, 0) (36 * s + n - 1) = h (24, s, n) 2 := by rw [mm_upf (by decide)]; exact (ek _ _ (by simp)).trans ((kk_nf hc (by omega) h1n).2.2.2 h2n).2.1
                have f48n : mm_up h (40, 0, 0) 0 0 (48, 0, 0) (36 * s + n - 1) = h (24, s, n) 3 := by rw [mm_upf (by decide)]; exact (ek _ _ (by simp)).trans ((kk_nf hc (by omega) h1n).2.2.2 h2n).2.2
                rw [r_212_e (hy := hy)]
                refine m181y hy hc (kk_lku (by decide) lk) ht hs ?_
                rw [mm_pI, r_212_0_6 (hy := hy)]
                refine m210y hy (by omega) h1n (by rw [f41n]; exact h3n) ?_
                rw [mm_pI, r_212_0_11 (hy := hy), if_neg (by decide)]
                refine m174y hy (by omega) ?_
                rw [mm_pI, r_212_1_5 (hy := hy), if_neg (by decide)]
                refine m174y hy (by omega) ?_
                rw [mm_pI, r_212_1_11 (hy := hy), if_neg (by decide)]
                rw [r_213_e (hy := hy), if_pos s51]
                refine m211y hy (by omega) h1n f41n kd ?_
                rw [mm_pI, r_213_0_7 (hy := hy), if_neg (by decide)]
                refine m204n hy (by omega) h1n f29 f47n f48n w ?_
                rw [mm_pI, r_213_2_4 (hy := hy), if_pos rfl]
                rw [mm_pI, r_212_3_7 (hy := hy)]
                exact mfin _ _ rfl
              · rw [mm_pI, r_1_4_6 (htx6 := hD) (hx := hx), if_neg (by decide), r_1_5 (hx := hx)]
                refine fin (-3) ⟨_, rfl, by omega, by omega⟩ ?_
                have ek : ∀ (x : mm_Id) (j : Int), 40 ≤ x.1 → h x j = h x j := fun _ _ _ => rfl
                have lk := kk_lkr h
                have f29 : mm_up h (40, 0, 0) 0 0 (40, 0, 0) 29 = h (1, 0, 0) 12 := (mm_upj (by decide)).trans ((ek _ _ (by simp)).trans (kk_cal hc).1.symm)
                have f41n : mm_up h (40, 0, 0) 0 0 (41, 0, 0) (36 * s + n - 1) = h (24, s, n) 0 := by rw [mm_upf (by decide)]; exact (ek _ _ (by simp)).trans (kk_nf hc (by omega) h1n).1
                have f44n : mm_up h (40, 0, 0) 0 0 (44, 0, 0) (36 * s + n - 1) = h (24, s, n) 6 := by rw [mm_upf (by decide)]; exact (ek _ _ (by simp)).trans (kk_nf hc (by omega) h1n).2.1
                have f49n : mm_up h (40, 0, 0) 0 0 (49, 0, 0) (36 * s + n - 1) = h (24, s, n) 11 := by rw [mm_upf (by decide)]; exact (ek _ _ (by simp)).trans (kk_nf hc (by omega) h1n).2.2.1
                have f42n : mm_up h (40, 0, 0) 0 0 (42, 0, 0) (36 * s + n - 1) = h (24, s, n) 1 := by rw [mm_upf (by decide)]; exact (ek _ _ (by simp)).trans ((kk_nf hc (by omega) h1n).2.2.2 h2n).1
                have f47n : mm_up h (40, 0, 0) 0 0 (47, 0, 0) (36 * s + n - 1) = h (24, s, n) 2 := by rw [mm_upf (by decide)]; exact (ek _ _ (by simp)).trans ((kk_nf hc (by omega) h1n).2.2.2 h2n).2.1
                have f48n : mm_up h (40, 0, 0) 0 0 (48, 0, 0) (36 * s + n - 1) = h (24, s, n) 3 := by rw [mm_upf (by decide)]; exact (ek _ _ (by simp)).trans ((kk_nf hc (by omega) h1n).2.2.2 h2n).2.2
                rw [r_212_e (hy := hy)]
                refine m181y hy hc (kk_lku (by decide) lk) ht hs ?_
                rw [mm_pI, r_212_0_6 (hy := hy)]
                refine m210y hy (by omega) h1n (by rw [f41n]; exact h3n) ?_
                rw [mm_pI, r_212_0_11 (hy := hy), if_neg (by decide)]
                refine m174y hy (by omega) ?_
                rw [mm_pI, r_212_1_5 (hy := hy), if_neg (by decide)]
                refine m174y hy (by omega) ?_
                rw [mm_pI, r_212_1_11 (hy := hy), if_neg (by decide)]
                rw [r_213_e (hy := hy), if_pos s51]
                refine m211y hy (by omega) h1n f41n kd ?_
                rw [mm_pI, r_213_0_7 (hy := hy), if_neg (by decide)]
                refine m204y hy (by omega) h1n f29 f47n f48n w ?_
                rw [mm_pI, r_213_2_4 (hy := hy), if_neg (by decide)]
                have nm : ∀ i, 0 ≤ i → i < h (24, s, n) 6 → mm_up h (40, 0, 0) 0 0 (45, 0, 0) (24 * (36 * s + n - 1) + i) = h (25, s, n) i := fun i i0 i1 => (mm_upf (by decide)).trans ((ek _ _ (by simp)).trans (NRn.2.2.2.2.1 i i0 i1).1.symm)
                refine m184y hy (by omega) h1n f44n NWn.2.1 ⟨p, ⟨p0, p1⟩, by rw [nm p p0 p1]; exact p2⟩ (fun e e0 e1 e2 => ?_) (p := p)
                rw [mm_pI, r_213_3_5 (hy := hy), if_neg (by omega)]
                rw [mm_pI, r_212_3_7 (hy := hy)]
                exact mfin _ _ rfl
              · rw [mm_pI, r_1_4_6 (htx6 := hD) (hx := hx), if_neg (by decide), r_1_5 (hx := hx)]
                refine fin (-4) ⟨_, rfl, by omega, by omega⟩ ?_
                have ek : ∀ (x : mm_Id) (j : Int), 40 ≤ x.1 → h x j = h x j := fun _ _ _ => rfl
                have lk := kk_lkr h
                have f29 : mm_up h (40, 0, 0) 0 0 (40, 0, 0) 29 = h (1, 0, 0) 12 := (mm_upj (by decide)).trans ((ek _ _ (by simp)).trans (kk_cal hc).1.symm)
                have f41n : mm_up h (40, 0, 0) 0 0 (41, 0, 0) (36 * s + n - 1) = h (24, s, n) 0 := by rw [mm_upf (by decide)]; exact (ek _ _ (by simp)).trans (kk_nf hc (by omega) h1n).1
                have f44n : mm_up h (40, 0, 0) 0 0 (44, 0, 0) (36 * s + n - 1) = h (24, s, n) 6 := by rw [mm_upf (by decide)]; exact (ek _ _ (by simp)).trans (kk_nf hc (by omega) h1n).2.1
                have f49n : mm_up h (40, 0, 0) 0 0 (49, 0, 0) (36 * s + n - 1) = h (24, s, n) 11 := by rw [mm_upf (by decide)]; exact (ek _ _ (by simp)).trans (kk_nf hc (by omega) h1n).2.2.1
                have f42n : mm_up h (40, 0, 0) 0 0 (42, 0, 0) (36 * s + n - 1) = h (24, s, n) 1 := by rw [mm_upf (by decide)]; exact (ek _ _ (by simp)).trans ((kk_nf hc (by omega) h1n).2.2.2 h2n).1
                have f47n : mm_up h (40, 0, 0) 0 0 (47, 0, 0) (36 * s + n - 1) = h (24, s, n) 2 := by rw [mm_upf (by decide)]; exact (ek _ _ (by simp)).trans ((kk_nf hc (by omega) h1n).2.2.2 h2n).2.1
                have f48n : mm_up h (40, 0, 0) 0 0 (48, 0, 0) (36 * s + n - 1) = h (24, s, n) 3 := by rw [mm_upf (by decide)]; exact (ek _ _ (by simp)).trans ((kk_nf hc (by omega) h1n).2.2.2 h2n).2.2
                rw [r_212_e (hy := hy)]
                refine m181y hy hc (kk_lku (by decide) lk) ht hs ?_
                rw [mm_pI, r_212_0_6 (hy := hy)]
                refine m210y hy (by omega) h1n (by rw [f41n]; exact h3n) ?_
                rw [mm_pI, r_212_0_11 (hy := hy), if_neg (by decide)]
                refine m174y hy (by omega) ?_
                rw [mm_pI, r_212_1_5 (hy := hy), if_neg (by decide)]
                refine m174y hy (by omega) ?_
                rw [mm_pI, r_212_1_11 (hy := hy), if_neg (by decide)]
                rw [r_213_e (hy := hy), if_pos s51]
                refine m211y hy (by omega) h1n f41n kd ?_
                rw [mm_pI, r_213_0_7 (hy := hy), if_neg (by decide)]
                refine m204y hy (by omega) h1n f29 f47n f48n w ?_
                rw [mm_pI, r_213_2_4 (hy := hy), if_neg (by decide)]
                have nm : ∀ i, 0 ≤ i → i < h (24, s, n) 6 → mm_up h (40, 0, 0) 0 0 (45, 0, 0) (24 * (36 * s + n - 1) + i) = h (25, s, n) i := fun i i0 i1 => (mm_upf (by decide)).trans ((ek _ _ (by simp)).trans (NRn.2.2.2.2.1 i i0 i1).1.symm)
                have f41 : ∀ j, 1 ≤ j → j < 37 → mm_up h (40, 0, 0) 0 0 (41, 0, 0) (36 * s + j - 1) = h (24, s, j) 0 := fun j j0 j1 => (mm_upf (by decide)).trans ((ek _ _ (by simp)).trans (kk_nf hc (by omega) ⟨j0, j1⟩).1)
                refine m184n hy (by omega) h1n f44n NWn.2.1 (fun e e0 e1 => by rw [nm e e0 e1]; exact ab e e0 e1) ?_
                rw [mm_pI, r_213_3_5 (hy := hy), if_pos (by decide)]
                by_cases al : ∀ j, 1 ≤ j → j < 37 → h (24, s, j) 0 ≠ 0
                · refine m213f hy ⟨s50, s51⟩ (m := 37) (by omega) (fun j j0 j1 => by rw [f41 j j0 j1]; exact kpos j j0 j1 (al j j0 j1)) (fun q => by omega) ?_
                  rw [r_213_6 (hy := hy)]
                  refine m175 hy (by omega) h1n ?_
                  rw [mm_pI, r_213_6_5 (hy := hy), f44n]
                  refine ⟨by omega, ?_⟩
                  split
                  · rw [r_213_7 (hy := hy)]
                    rw [mm_pI, r_212_3_7 (hy := hy)]
                    exact mfin _ _ rfl
                  · rw [if_pos (by decide), r_213_7 (hy := hy)]
                    rw [mm_pI, r_212_3_7 (hy := hy)]
                    exact mfin _ _ rfl
                · obtain ⟨m, m0, m1, m2, m3⟩ := kk_first (P := fun j => h (24, s, j) 0 = 0) al
                  have c24 : h (24, s, n) 6 = 24 := by
                    have := NWn.2.1
                    rcases w4 with q | q
                    · omega
                    · exact absurd m2 (q m m0 m1)
                  refine m213f hy ⟨s50, s51⟩ (m := m) (by omega) (fun j j0 j1 => by rw [f41 j j0 (by omega)]; exact kpos j j0 (by omega) (m3 j j0 j1)) (fun q => by rw [f41 m m0 m1]; omega) ?_
                  rw [r_213_6 (hy := hy)]
                  refine m175 hy (by omega) h1n ?_
                  rw [mm_pI, r_213_6_5 (hy := hy), f44n, if_pos c24, r_213_7 (hy := hy)]
                  refine ⟨by omega, ?_⟩
                  rw [mm_pI, r_212_3_7 (hy := hy)]
                  exact mfin _ _ rfl
              · intro kd w ab c24 m m0 m1 m2 m3 p p0 p1 p2 p3 hcc c0 ce c6 fcc
                rw [mm_pI, r_1_4_6 (htx6 := hD) (hx := hx), if_pos (by omega)]
                have dm : n ≠ m := fun q => by rw [q] at kd; omega
                have fc5 : ∀ y j, ¬ (y = (24, s, m) ∧ kk_F j) → y ≠ (25, s, n) → y ≠ (26, s, n) → ¬ (y = (24, s, n) ∧ j = 6) → y ≠ (30, s, m) → hcc y j = h y j := fun y j a1 a2 a3 a4 _ => fcc y j a1 a2 a3 a4
                have EE : ∀ x j, x.1 < 40 → ¬ kk_ts s x j → hcc x j = h x j := fun x j _ v => by
                  refine fcc x j ?_ ?_ ?_ ?_
                  · rintro ⟨q, _⟩; rw [q] at v; exact v (Or.inl ⟨by simp, by simp, rfl, m0, m1⟩)
                  · intro q; rw [q] at v; exact v (Or.inl ⟨by simp, by simp, rfl, h1n⟩)
                  · intro q; rw [q] at v; exact v (Or.inl ⟨by simp, by simp, rfl, h1n⟩)
                  · rintro ⟨q, _⟩; rw [q] at v; exact v (Or.inl ⟨by simp, by simp, rfl, h1n⟩)
                have F9 : ¬ kk_F 9 := by simp [kk_F]
                have e27 : ∀ t2 m2 j, hcc (27, t2, m2) j = h (27, t2, m2) j := fun t2 m2 j => fcc _ _ (by simp) (by simp) (by simp) (by simp)
                have hR : kk_R hcc := kk_Rcong e27 (fcc _ _ (by simp) (by simp) (by simp) (by simp)) (fcc _ _ (by simp) (by simp) (by simp) (by simp)) (fun _ => fcc _ _ (by simp) (by simp) (by simp) (by simp)) (fun _ => fcc _ _ (by simp) (by simp) (by simp) (by simp)) (fun _ => fcc _ _ (by simp) (by simp) (by simp) (by simp)) hc.1.1.2.2.2.2.2.2.2.1
                have hnw : ∀ n2, 1 ≤ n2 → n2 < 37 → kk_nw hcc s n2 := fun n2 n20 n21 => by
                  have W := kk_NWC hc hsT ⟨n20, n21⟩
                  have e9 : hcc (24, s, n2) 9 = kk_nz (hcc (27, s, n2)) := by
                    rw [fcc _ _ (fun q => F9 q.2) (by simp) (by simp) (by simp), W.2.2.2.2.2.2.1]
                    exact (kk_nzc (fun p _ _ => e27 _ _ p)).symm
                  by_cases q : n2 = m
                  · subst q
                    exact ⟨Or.inl c0.2.2.2.2.2.2.2.2, by rw [c0.2.2.2.2.2.2.2.1]; omega, e9⟩
                  · refine ⟨?_, ?_, e9⟩
                    · rw [fcc _ _ (by simp; omega) (by simp) (by simp) (by simp)]; exact W.2.2.2.2.2.1
                    · rw [fcc _ _ (by simp; omega) (by simp) (by simp) (by simp)]; exact W.2.2.2.1
                refine s63t hx hc hD EE hR hnw (fun g k1 k2 ek3 no => ?_)
                rw [mm_pU, r_1_4_12 (hx := hx), r_1_5 (hx := hx)]
                refine ⟨⟨_, rfl, by omega, by omega⟩, g, dh, rfl, ?_⟩
                have ek : ∀ x j, 40 ≤ x.1 → g x j = h x j := fun x j q => by
                  rw [k2 x j q]
                  exact fcc x j (by rintro ⟨q6, _⟩; rw [q6] at q; simp at q) (by intro q6; rw [q6] at q; simp at q) (by intro q6; rw [q6] at q; simp at q) (by rintro ⟨q6, _⟩; rw [q6] at q; simp at q)
                have lk : kk_lk h g := ⟨fun s2 _ _ => no s2, fun k k0 k9 => ek _ _ (by simp)⟩
                have f29 : mm_up g (40, 0, 0) 0 0 (40, 0, 0) 29 = h (1, 0, 0) 12 := (mm_upj (by decide)).trans ((ek _ _ (by simp)).trans (kk_cal hc).1.symm)
                have f41n : mm_up g (40, 0, 0) 0 0 (41, 0, 0) (36 * s + n - 1) = h (24, s, n) 0 := by rw [mm_upf (by decide)]; exact (ek _ _ (by simp)).trans (kk_nf hc (by omega) h1n).1
                have f44n : mm_up g (40, 0, 0) 0 0 (44, 0, 0) (36 * s + n - 1) = h (24, s, n) 6 := by rw [mm_upf (by decide)]; exact (ek _ _ (by simp)).trans (kk_nf hc (by omega) h1n).2.1
                have f49n : mm_up g (40, 0, 0) 0 0 (49, 0, 0) (36 * s + n - 1) = h (24, s, n) 11 := by rw [mm_upf (by decide)]; exact (ek _ _ (by simp)).trans (kk_nf hc (by omega) h1n).2.2.1
                have f42n : mm_up g (40, 0, 0) 0 0 (42, 0, 0) (36 * s + n - 1) = h (24, s, n) 1 := by rw [mm_upf (by decide)]; exact (ek _ _ (by simp)).trans ((kk_nf hc (by omega) h1n).2.2.2 h2n).1
                have f47n : mm_up g (40, 0, 0) 0 0 (47, 0, 0) (36 * s + n - 1) = h (24, s, n) 2 := by rw [mm_upf (by decide)]; exact (ek _ _ (by simp)).trans ((kk_nf hc (by omega) h1n).2.2.2 h2n).2.1
                have f48n : mm_up g (40, 0, 0) 0 0 (48, 0, 0) (36 * s + n - 1) = h (24, s, n) 3 := by rw [mm_upf (by decide)]; exact (ek _ _ (by simp)).trans ((kk_nf hc (by omega) h1n).2.2.2 h2n).2.2
                rw [r_212_e (hy := hy)]
                refine m181y hy hc (kk_lku (by decide) lk) ht hs ?_
                rw [mm_pI, r_212_0_6 (hy := hy)]
                refine m210y hy (by omega) h1n (by rw [f41n]; exact h3n) ?_
                rw [mm_pI, r_212_0_11 (hy := hy), if_neg (by decide)]
                refine m174y hy (by omega) ?_
                rw [mm_pI, r_212_1_5 (hy := hy), if_neg (by decide)]
                refine m174y hy (by omega) ?_
                rw [mm_pI, r_212_1_11 (hy := hy), if_neg (by decide)]
                rw [r_213_e (hy := hy), if_pos s51]
                refine m211y hy (by omega) h1n f41n kd ?_
                rw [mm_pI, r_213_0_7 (hy := hy), if_neg (by decide)]
                refine m204y hy (by omega) h1n f29 f47n f48n w ?_
                rw [mm_pI, r_213_2_4 (hy := hy), if_neg (by decide)]
                have nm : ∀ i, 0 ≤ i → i < h (24, s, n) 6 → mm_up g (40, 0, 0) 0 0 (45, 0, 0) (24 * (36 * s + n - 1) + i) = h (25, s, n) i := fun i i0 i1 => (mm_upf (by decide)).trans ((ek _ _ (by simp)).trans (NRn.2.2.2.2.1 i i0 i1).1.symm)
                have f41 : ∀ j, 1 ≤ j → j < 37 → mm_up g (40, 0, 0) 0 0 (41, 0, 0) (36 * s + j - 1) = h (24, s, j) 0 := fun j j0 j1 => (mm_upf (by decide)).trans ((ek _ _ (by simp)).trans (kk_nf hc (by omega) ⟨j0, j1⟩).1)
                refine m184n hy (by omega) h1n f44n NWn.2.1 (fun e e0 e1 => by rw [nm e e0 e1]; exact ab e e0 e1) ?_
                rw [mm_pI, r_213_3_5 (hy := hy), if_pos (by decide)]
                refine m213f hy ⟨s50, s51⟩ (m := m) (by omega) (fun j j0 j1 => by rw [f41 j j0 (by omega)]; exact kpos j j0 (by omega) (m3 j j0 j1)) (fun q => by rw [f41 m m0 m1]; omega) ?_
                have g30 : mm_up g (40, 0, 0) 0 0 (40, 0, 0) 30 = h (40, 0, 0) 30 := (mm_upj (by decide)).trans (ek _ _ (by simp))
                have ph := kk_pth hc
                refine m213g hy ⟨s50, s51⟩ h1n ⟨m0, m1⟩ dm f44n (by have := NWn.2.1; omega) (Or.inl rfl) (by rw [g30]; omega) (fun q gm q0 q1 q2 q3 e0 e43 e52 e6 em fmm => ?_)
                have fM : ∀ y j, 40 ≤ y.1 → y.1 ≠ 56 → ¬ (y = (40, 0, 0) ∧ j = 0) → ¬ kk_mx (36 * s + m - 1) y j → ¬ (y = (44, 0, 0) ∧ j = 36 * s + n - 1) → ¬ ((y = (45, 0, 0) ∨ y = (46, 0, 0)) ∧ 24 * (36 * s + n - 1) ≤ j ∧ j < 24 * (36 * s + n - 1) + 24) → gm y j = h y j := fun y j a0 a1 a2 a3 a4 a5 => by
                  rw [fmm y j a3 a4 a5, mm_upne' a2]; exact ek y j a0
                have b45 : ∀ (f : Nat), f = 45 ∨ f = 46 → (fun i => mm_up g (40, 0, 0) 0 0 (f, 0, 0) (24 * (36 * s + n - 1) + i)) = fun i => h (f, 0, 0) (24 * (36 * s + n - 1) + i) := fun f hf => funext fun i => (mm_upf (by omega)).trans (ek _ _ (by show 40 ≤ f; omega))
                have g29 : mm_up g (40, 0, 0) 0 0 (40, 0, 0) 29 = h (40, 0, 0) 29 := (mm_upj (by decide)).trans (ek _ _ (by simp))
                rw [g30, g29] at e0
                rw [g30] at e52
                rw [b45 45 (Or.inl rfl), b45 46 (Or.inr rfl)] at em
                have WM := kk_mkW hc ⟨s50, s51⟩ hno h1n kd rfl c24 ⟨m0, m1⟩ m2 ab (by omega) (by omega) (Or.inl rfl) (if_neg (by omega)).symm (fun q => by omega) c0 (fun q => by omega) p0 p1 p2 p3 ce c6 fc5 e0 e43 (fun q => by omega) q0 q1 (fun i i0 i1 => by rw [(NRn.2.2.2.2.1 i (by omega) i1).1.symm, ← nm i (by omega) i1]; exact q2 i i0 i1) (fun v => by rw [(NRn.2.2.2.2.1 (q - 1) (by omega) (by omega)).1.symm, ← nm (q - 1) (by omega) (by omega)]; exact q3 v) e6 em fM rfl
                refine m209W hy rfl WM.1 WM.2 (fun g2 a1 a2 a3 => ⟨rfl, g2, rfl, ?_⟩)
                have cG : ∀ x j, x.1 < 40 → gm x j = g x j := fun x j v => by
                  rw [fmm x j (fun u => by have := kk_mxr u; omega) (by rintro ⟨q6, _⟩; rw [q6] at v; simp at v) (by rintro ⟨q6, _⟩; rcases q6 with q6 | q6 <;> rw [q6] at v <;> simp at v)]
                  exact kk_clU v (by simp)
                have sG : ∀ x j, kk_scr x j → gm x j = g x j := fun x j v => by
                  rw [fmm x j (fun u => by have := kk_mxr u; unfold kk_scr at v; rcases v with v | v | ⟨v, _⟩ | v <;> first | omega | (rw [v] at this; simp at this)) (by rintro ⟨q6, _⟩; rw [q6] at v; simp [kk_scr] at v) (by rintro ⟨q6, _⟩; rcases q6 with q6 | q6 <;> rw [q6] at v <;> simp [kk_scr] at v)]
                  exact kk_scrU v (Or.inr ⟨rfl, by omega⟩)
                rw [mm_pI, r_212_3_7 (hy := hy)]
                refine ⟨rfl, g2, rfl, kk_actend (gx := g) hb rfl WM.1 WM.2 k1 a1 (fun x j v => by rw [a2 x j v]; exact cG x j v) a3 sG (fun x j v => ?_)⟩
                rcases kk_scrC v with q5 | q5
                · exact ek x j q5
                · exact ek3 x j q5.1 q5.2
            · have s5 : 5 ≤ s := by
                by_cases z : s < 5
                · exact absurd hs (hs5 s z)
                · omega
              rw [mm_pR, r_1_3_3 (hvx5 := rfl) (hx := hx)]
              refine fin (-3) ⟨_, rfl, by omega, by omega⟩ ?_
              have ek : ∀ (x : mm_Id) (j : Int), 40 ≤ x.1 → h x j = h x j := fun _ _ _ => rfl
              have lk := kk_lkr h
              have f29 : mm_up h (40, 0, 0) 0 0 (40, 0, 0) 29 = h (1, 0, 0) 12 := (mm_upj (by decide)).trans ((ek _ _ (by simp)).trans (kk_cal hc).1.symm)
              have f41n : mm_up h (40, 0, 0) 0 0 (41, 0, 0) (36 * s + n - 1) = h (24, s, n) 0 := by rw [mm_upf (by decide)]; exact (ek _ _ (by simp)).trans (kk_nf hc (by omega) h1n).1
              have f44n : mm_up h (40, 0, 0) 0 0 (44, 0, 0) (36 * s + n - 1) = h (24, s, n) 6 := by rw [mm_upf (by decide)]; exact (ek _ _ (by simp)).trans (kk_nf hc (by omega) h1n).2.1
              have f49n : mm_up h (40, 0, 0) 0 0 (49, 0, 0) (36 * s + n - 1) = h (24, s, n) 11 := by rw [mm_upf (by decide)]; exact (ek _ _ (by simp)).trans (kk_nf hc (by omega) h1n).2.2.1
              have f42n : mm_up h (40, 0, 0) 0 0 (42, 0, 0) (36 * s + n - 1) = h (24, s, n) 1 := by rw [mm_upf (by decide)]; exact (ek _ _ (by simp)).trans ((kk_nf hc (by omega) h1n).2.2.2 h2n).1
              have f47n : mm_up h (40, 0, 0) 0 0 (47, 0, 0) (36 * s + n - 1) = h (24, s, n) 2 := by rw [mm_upf (by decide)]; exact (ek _ _ (by simp)).trans ((kk_nf hc (by omega) h1n).2.2.2 h2n).2.1
              have f48n : mm_up h (40, 0, 0) 0 0 (48, 0, 0) (36 * s + n - 1) = h (24, s, n) 3 := by rw [mm_upf (by decide)]; exact (ek _ _ (by simp)).trans ((kk_nf hc (by omega) h1n).2.2.2 h2n).2.2
              rw [r_212_e (hy := hy)]
              refine m181y hy hc (kk_lku (by decide) lk) ht hs ?_
              rw [mm_pI, r_212_0_6 (hy := hy)]
              refine m210y hy (by omega) h1n (by rw [f41n]; exact h3n) ?_
              rw [mm_pI, r_212_0_11 (hy := hy), if_neg (by decide)]
              refine m174y hy (by omega) ?_
              rw [mm_pI, r_212_1_5 (hy := hy), if_neg (by decide)]
              refine m174y hy (by omega) ?_
              rw [mm_pI, r_212_1_11 (hy := hy), if_neg (by decide)]
              rw [r_213_e (hy := hy), if_neg (show ¬ s < 5 by omega), r_213_1 (hy := hy)]
              rw [mm_pI, r_212_3_7 (hy := hy)]
              exact mfin _ _ rfl
      · rw [mm_pI, r_1_1_3 (hx := hx), if_pos rfl]
        exact bad (by omega)
    · rw [mm_pR, r_1_0_6 (hx := hx)]
      refine fin (-1) ⟨_, rfl, by omega, by omega⟩ ?_
      have ek : ∀ (x : mm_Id) (j : Int), 40 ≤ x.1 → h x j = h x j := fun _ _ _ => rfl
      have lk := kk_lkr h
      rw [r_212_e (hy := hy)]
      refine m181y hy hc (kk_lku (by decide) lk) ht hs ?_
      rw [mm_pI, r_212_0_6 (hy := hy)]
      refine m210z hy (by omega) (fun w => hn0 ((kk_isn hc (by omega)).2 ⟨w.1, by rw [mm_upf (by decide)] at w; exact w.2⟩)) ?_
      rw [mm_pI, r_212_0_11 (hy := hy), if_pos rfl]
      exact mfin _ _ rfl
  · rw [mm_pR, r_1_0_4 (hx := hx)]
    refine s56n hx ?_
    rw [mm_pR, r_1_0_6 (hx := hx)]
    refine fin (-1) ⟨_, rfl, by omega, by omega⟩ ?_
    have ek : ∀ (x : mm_Id) (j : Int), 40 ≤ x.1 → h x j = h x j := fun _ _ _ => rfl
    have lk := kk_lkr h
    rw [r_212_e (hy := hy)]
    refine m181n hy hc (kk_lku (by decide) lk) ht hs ?_
    rw [mm_pI, r_212_0_6 (hy := hy)]
    refine m210n hy ?_
    rw [mm_pI, r_212_0_11 (hy := hy), if_pos rfl]
    exact mfin _ _ rfl


