/-! the reference's questions where the answer is known; rights, own -/
section
variable {g : mm_Id → Int → Int} {dh : Int → Int} {nx ns : Int} {Q : mm_V → mm_H → Prop}
theorem m203y (hy : 5306 ≤ nx) {s n r c o m : Int} (hs : 0 ≤ s ∧ s < 29) (hn : 1 ≤ n ∧ n < 37) (e1 : g (40, 0, 0) 29 = c) (e2 : g (47, 0, 0) (36 * s + n - 1) = o) (e3 : g (48, 0, 0) (36 * s + n - 1) = m) (w : kk_may c o m r) (K : Q (zI 1) (mm_z g dh nx ns)) : mm_Cl 203 [zR (40, 0, 0), zI s, zI n, zI r] (mm_z g dh nx ns) Q := m203 hy hs hn (fun _ => K) (fun q => absurd (by rw [e1, e2, e3]; exact w) q)
theorem m203n (hy : 5306 ≤ nx) {s n r c o m : Int} (hs : 0 ≤ s ∧ s < 29) (hn : 1 ≤ n ∧ n < 37) (e1 : g (40, 0, 0) 29 = c) (e2 : g (47, 0, 0) (36 * s + n - 1) = o) (e3 : g (48, 0, 0) (36 * s + n - 1) = m) (w : ¬ kk_may c o m r) (K : Q (zI 0) (mm_z g dh nx ns)) : mm_Cl 203 [zR (40, 0, 0), zI s, zI n, zI r] (mm_z g dh nx ns) Q := m203 hy hs hn (fun q => absurd (by rw [e1, e2, e3] at q; exact q) w) (fun _ => K)
theorem m204y (hy : 5306 ≤ nx) {s n c o m : Int} (hs : 0 ≤ s ∧ s < 29) (hn : 1 ≤ n ∧ n < 37) (e1 : g (40, 0, 0) 29 = c) (e2 : g (47, 0, 0) (36 * s + n - 1) = o) (e3 : g (48, 0, 0) (36 * s + n - 1) = m) (w : kk_mc c o m) (K : Q (zI 1) (mm_z g dh nx ns)) : mm_Cl 204 [zR (40, 0, 0), zI s, zI n] (mm_z g dh nx ns) Q := m204 hy hs hn (fun _ => K) (fun q => absurd (by rw [e1, e2, e3]; exact w) q)
theorem m204n (hy : 5306 ≤ nx) {s n c o m : Int} (hs : 0 ≤ s ∧ s < 29) (hn : 1 ≤ n ∧ n < 37) (e1 : g (40, 0, 0) 29 = c) (e2 : g (47, 0, 0) (36 * s + n - 1) = o) (e3 : g (48, 0, 0) (36 * s + n - 1) = m) (w : ¬ kk_mc c o m) (K : Q (zI 0) (mm_z g dh nx ns)) : mm_Cl 204 [zR (40, 0, 0), zI s, zI n] (mm_z g dh nx ns) Q := m204 hy hs hn (fun q => absurd (by rw [e1, e2, e3] at q; exact q) w) (fun _ => K)
theorem m231y (hy : 5306 ≤ nx) {k c o : Int} (hk : 0 ≤ k ∧ k < 1044) (e1 : g (40, 0, 0) 29 = c) (e2 : g (47, 0, 0) k = o) (w : c = 0 ∨ c = o) (K : Q (zI 1) (mm_z g dh nx ns)) : mm_Cl 231 [zR (40, 0, 0), zI k] (mm_z g dh nx ns) Q := m231 hy hk (fun _ => K) (fun q => absurd (by rw [e1, e2]; exact w) q)
theorem m231n (hy : 5306 ≤ nx) {k c o : Int} (hk : 0 ≤ k ∧ k < 1044) (e1 : g (40, 0, 0) 29 = c) (e2 : g (47, 0, 0) k = o) (w : ¬ (c = 0 ∨ c = o)) (K : Q (zI 0) (mm_z g dh nx ns)) : mm_Cl 231 [zR (40, 0, 0), zI k] (mm_z g dh nx ns) Q := m231 hy hk (fun q => absurd (by rw [e1, e2] at q; exact q) w) (fun _ => K)
theorem m211y (hy : 5306 ≤ nx) {s n o : Int} (hs : 0 ≤ s ∧ s < 29) (hn : 1 ≤ n ∧ n < 37) (e1 : g (41, 0, 0) (36 * s + n - 1) = o) (w : o = 2) (K : Q (zI 1) (mm_z g dh nx ns)) : mm_Cl 211 [zR (40, 0, 0), zI s, zI n] (mm_z g dh nx ns) Q := m211 hy hs hn (fun v hv => by rw [e1, if_pos w] at hv; rw [hv]; exact K)
theorem m211n (hy : 5306 ≤ nx) {s n o : Int} (hs : 0 ≤ s ∧ s < 29) (hn : 1 ≤ n ∧ n < 37) (e1 : g (41, 0, 0) (36 * s + n - 1) = o) (w : ¬ o = 2) (K : Q (zI 0) (mm_z g dh nx ns)) : mm_Cl 211 [zR (40, 0, 0), zI s, zI n] (mm_z g dh nx ns) Q := m211 hy hs hn (fun v hv => by rw [e1, if_neg w] at hv; rw [hv]; exact K)
theorem m177y (hy : 5306 ≤ nx) {s n o : Int} (hs : 0 ≤ s ∧ s < 29) (hn : 1 ≤ n ∧ n < 37) (e1 : g (41, 0, 0) (36 * s + n - 1) = o) (w : o = 1) (K : Q (zI 1) (mm_z g dh nx ns)) : mm_Cl 177 [zR (40, 0, 0), zI s, zI n] (mm_z g dh nx ns) Q := m177 hy hs hn (fun v hv => by rw [e1, if_pos w] at hv; rw [hv]; exact K)
theorem m177n (hy : 5306 ≤ nx) {s n o : Int} (hs : 0 ≤ s ∧ s < 29) (hn : 1 ≤ n ∧ n < 37) (e1 : g (41, 0, 0) (36 * s + n - 1) = o) (w : ¬ o = 1) (K : Q (zI 0) (mm_z g dh nx ns)) : mm_Cl 177 [zR (40, 0, 0), zI s, zI n] (mm_z g dh nx ns) Q := m177 hy hs hn (fun v hv => by rw [e1, if_neg w] at hv; rw [hv]; exact K)
theorem m206 (hy : 5306 ≤ nx) {s u : Int} (hs : 0 ≤ s ∧ s < 26) (hu : 0 ≤ u ∧ u < 8) (K1 : ¬ g (61, 0, 0) (8 * s + u) < kk_ub g s u → Q (zI 1) (mm_z g dh nx ns)) (K0 : g (61, 0, 0) (8 * s + u) < kk_ub g s u → Q (zI 0) (mm_z g dh nx ns)) : mm_Cl 206 [zR (40, 0, 0), zI s, zI u] (mm_z g dh nx ns) Q := by
  rw [r_206_e (hy := hy)]
  refine m205 hy (by omega) ?_
  rw [mm_pI, r_206_0_4 (hy := hy), mm_wi (z := 8 * s) (by omega) (by omega), mm_wi (z := 8 * s + u) (by omega) (by omega)]
  refine ⟨by omega, ?_⟩
  split
  · rename_i c
    rw [r_206_2 (hy := hy)]
    exact ⟨Or.inl rfl, K0 c⟩
  · rename_i c
    rw [r_206_2 (hy := hy)]
    exact ⟨Or.inr rfl, K1 c⟩
end
section
variable {b : Int} {h : mm_Id → Int → Int} {dh : Int → Int}
/-- a node's cells there, told by those here -/
theorem kk_nf (hc : kk_core b h dh) {s n : Int} (hs : 0 ≤ s ∧ s < 18) (hn : 1 ≤ n ∧ n < 37) : h (41, 0, 0) (36 * s + n - 1) = h (24, s, n) 0 ∧ h (44, 0, 0) (36 * s + n - 1) = h (24, s, n) 6 ∧ h (49, 0, 0) (36 * s + n - 1) = h (24, s, n) 11 ∧ (h (24, s, n) 0 ≠ 0 → h (42, 0, 0) (36 * s + n - 1) = h (24, s, n) 1 ∧ h (47, 0, 0) (36 * s + n - 1) = h (24, s, n) 2 ∧ h (48, 0, 0) (36 * s + n - 1) = h (24, s, n) 3) := by
  have N := kk_NRC hc hs hn
  exact ⟨N.1.symm, N.2.1.symm, N.2.2.1.symm, fun z => ⟨(N.2.2.2.1 z).1.symm, (N.2.2.2.1 z).2.1.symm, (N.2.2.2.1 z).2.2.1.symm⟩⟩
theorem kk_NRn {g : mm_Id → Int → Int} {s n : Int} (E : ∀ x j, ¬ kk_nx s n x j → g x j = h x j) (N : kk_NR h s n) (x2 : h (24, s, n) 0 ≠ 0 → g (24, s, n) 2 = g (47, 0, 0) (36 * s + n - 1)) (x3 : h (24, s, n) 0 ≠ 0 → g (24, s, n) 3 = g (48, 0, 0) (36 * s + n - 1)) (x11 : g (24, s, n) 11 = g (49, 0, 0) (36 * s + n - 1))
    (xk : ∀ e, 0 ≤ e → e < g (24, s, n) 11 → g (28, s, n) e = g (50, 0, 0) (4 * (36 * s + n - 1) + e) ∧ g (29, s, n) e = g (51, 0, 0) (4 * (36 * s + n - 1) + e)) : kk_NR g s n := by
  obtain ⟨a0, a6, a11, af, ae, ak, ast, ap⟩ := N
  have c24 : ∀ j, j ≠ 2 → j ≠ 3 → j ≠ 11 → g (24, s, n) j = h (24, s, n) j := fun j j2 j3 j11 => E _ _ (by simp [kk_nx]; omega)
  have c25 : ∀ j, g (25, s, n) j = h (25, s, n) j := fun j => E _ _ (by simp [kk_nx])
  have c26 : ∀ j, g (26, s, n) j = h (26, s, n) j := fun j => E _ _ (by simp [kk_nx])
  have c27 : ∀ j, g (27, s, n) j = h (27, s, n) j := fun j => E _ _ (by simp [kk_nx])
  have c30 : ∀ j, g (30, s, n) j = h (30, s, n) j := fun j => E _ _ (by simp [kk_nx])
  have c16 : ∀ j, g (16, 0, 0) j = h (16, 0, 0) j := fun j => E _ _ (by simp [kk_nx])
  have m : ∀ (f : Nat) j, (f = 41 ∨ f = 42 ∨ f = 43 ∨ f = 44 ∨ f = 45 ∨ f = 46 ∨ f = 52 ∨ f = 53 ∨ f = 54) → g (f, 0, 0) j = h (f, 0, 0) j := fun f j hf => E _ _ (by simp [kk_nx]; omega)
  refine ⟨?_, ?_, x11, fun k => ?_, ?_, xk, ?_, fun p p0 p1 => ?_⟩
  · rw [c24 0 (by decide) (by decide) (by decide), m 41 _ (by decide)]; exact a0
  · rw [c24 6 (by decide) (by decide) (by decide), m 44 _ (by decide)]; exact a6
  · rw [c24 0 (by decide) (by decide) (by decide)] at k
    rw [c24 1 (by decide) (by decide) (by decide), c24 14 (by decide) (by decide) (by decide), m 42 _ (by decide), m 53 _ (by decide)]
    exact ⟨(af k).1, x2 k, x3 k, (af k).2.2.2⟩
  · rw [c24 6 (by decide) (by decide) (by decide)]
    intro e e0 e1
    rw [c25, c26, m 45 _ (by decide), m 46 _ (by decide)]
    exact ae e e0 e1
  · rw [c24 0 (by decide) (by decide) (by decide), c24 1 (by decide) (by decide) (by decide)]
    intro k e e0 e1
    rw [c30, m 52 _ (by decide)]
    exact ast k e e0 e1
  · rw [c27, m 43 _ (by decide)]
    refine ⟨(ap p p0 p1).1, fun z i i0 i1 => ?_⟩
    rw [c16, m 54 _ (by decide)]
    exact (ap p p0 p1).2 z i i0 i1
theorem kk_NWn {g : mm_Id → Int → Int} {s n : Int} (E : ∀ x j, ¬ kk_nx s n x j → g x j = h x j) (W : kk_NW h s n) (r2 : 0 ≤ g (24, s, n) 2 ∧ g (24, s, n) 2 < 8) (r3 : 0 ≤ g (24, s, n) 3 ∧ g (24, s, n) 3 < 64) (r11 : 0 ≤ g (24, s, n) 11 ∧ g (24, s, n) 11 ≤ 4)
    (r0 : h (24, s, n) 0 = 0 → g (24, s, n) 11 = 0) (rs : mm_srt (g (28, s, n)) (g (24, s, n) 11)) (rv : ∀ i, 0 ≤ i → i < g (24, s, n) 11 → (1 ≤ g (28, s, n) i ∧ g (28, s, n) i ≤ 99) ∧ -9223372036854775808 ≤ g (29, s, n) i ∧ g (29, s, n) i < 9223372036854775808) : kk_NW g s n := by
  refine kk_NWz (fun f j f0 f1 f28 f29 q => E _ _ (by simp [kk_nx]; omega)) (fun i i0 i1 => ?_) (fun _ _ _ _ _ _ => E _ _ (by simp [kk_nx])) r2 r3 r11 r0 rs rv W
  rw [E _ 0 (by simp [kk_nx])]
  exact (W.2.2.2.2.2.2.2.2.2.2.2.2.2.1 i i0 i1).2.2
end

theorem c_16 {b : Int} {h : mm_Id → Int → Int} {dh : Int → Int} {nx ns : Int} (hy : 5306 ≤ nx) (hc : kk_core b h dh) (hb : b + 1 ≤ 1000000) {t n k : Int} (ht : -2147483648 ≤ t ∧ t < 2147483648) (hn : -2147483648 ≤ n ∧ n < 2147483648) (hk : -2147483648 ≤ k ∧ k < 2147483648) : kk_call 16 232 [zI t, zI n, zI k] b h dh nx ns kk_SI := by
  unfold kk_call
  have hx : 5275 ≤ nx := by omega
  have hc0 : kk_core b (mm_up h (40, 0, 0) 0 0) dh := kk_core0 hc
  have fin : ∀ v, kk_SI (zI v) → mm_Cl 232 [zR (40, 0, 0), zI t, zI n, zI k] (mm_z h dh nx ns) (fun (r2 : mm_V) (h2 : mm_H) => r2 = zI v ∧ ∃ g2, h2 = mm_z g2 dh nx ns ∧ kk_core (b + 1) g2 dh ∧ ∀ x j, kk_scr x j → g2 x j = h x j) →
      (fun (r : mm_V) (h1 : mm_H) => kk_SI r ∧ ∃ g dh1, h1 = mm_z g dh1 nx ns ∧ mm_Cl 232 [zR (40, 0, 0), zI t, zI n, zI k] (mm_z g dh1 nx ns) (fun r2 h2 => r2 = r ∧ ∃ g2, h2 = mm_z g2 dh1 nx ns ∧ kk_core (b + 1) g2 dh1 ∧ ∀ x j, kk_scr x j → g2 x j = h x j)) (zI v) (mm_z h dh nx ns) :=
    fun v h1 h2 => ⟨h1, h, dh, rfl, h2⟩
  have mfin : ∀ v w : Int, w = v → (fun (r2 : mm_V) (h2 : mm_H) => r2 = zI v ∧ ∃ g2, h2 = mm_z g2 dh nx ns ∧ kk_core (b + 1) g2 dh ∧ ∀ x j, kk_scr x j → g2 x j = h x j) (zI w) (mm_z (mm_up h (40, 0, 0) 0 0) dh nx ns) :=
    fun v w e => ⟨by rw [e], _, rfl, kk_coreS hb hc0, fun x j hs => kk_scr0 hs⟩
  rw [r_16_e (hx := hx)]
  refine s55 hx (kk_nmC hc) ht.1 ht.2 (fun s hs => ?_) (fun hs => ?_)
  · have hsT := mm_T13 hs.1
    have hs13 := hs.1
    rw [mm_pR, r_16_0_4a (hty0 := hsT) (hx := hx)]
    refine s56 hsT hx (fun h1n h2n => ?_) (fun hn0 => ?_)
    · have hnN : mm_isN n := ⟨by omega, h1n.2⟩
      have NWn := kk_NWC hc hsT h1n
      have h3n : 0 < h (24, s, n) 0 := by
        have := NWn.1.1
        omega
      rw [mm_pR, r_16_0_6a (hty0 := hsT) (hny0 := hnN) (hx := hx)]
      have bad : ¬ (0 ≤ k ∧ k ≤ 63) → mm_Wp 16 (mm_blk 16 2) [zR (1, 0, 0), zI t, zI n, zI k, zR (24, s, n), zU, zU] [] (mm_z h dh nx ns) (fun (r : mm_V) (h1 : mm_H) => kk_SI r ∧ ∃ g dh1, h1 = mm_z g dh1 nx ns ∧ mm_Cl 232 [zR (40, 0, 0), zI t, zI n, zI k] (mm_z g dh1 nx ns) (fun r2 h2 => r2 = r ∧ ∃ g2, h2 = mm_z g2 dh1 nx ns ∧ kk_core (b + 1) g2 dh1 ∧ ∀ x j, kk_scr x j → g2 x j = h x j)) := fun w => by
        rw [r_16_2 (hx := hx)]
        refine fin (-2) ⟨_, rfl, by omega, by omega⟩ ?_
        have ek : ∀ (x : mm_Id) (j : Int), 40 ≤ x.1 → h x j = h x j := fun _ _ _ => rfl
        have lk := kk_lkr h
        have f29 : mm_up h (40, 0, 0) 0 0 (40, 0, 0) 29 = h (1, 0, 0) 12 := (mm_upj (by decide)).trans ((ek _ _ (by simp)).trans (kk_cal hc).1.symm)
        have f41n : mm_up h (40, 0, 0) 0 0 (41, 0, 0) (36 * s + n - 1) = h (24, s, n) 0 := by rw [mm_upf (by decide)]; exact (ek _ _ (by simp)).trans (kk_nf hc (by omega) h1n).1
        have f44n : mm_up h (40, 0, 0) 0 0 (44, 0, 0) (36 * s + n - 1) = h (24, s, n) 6 := by rw [mm_upf (by decide)]; exact (ek _ _ (by simp)).trans (kk_nf hc (by omega) h1n).2.1
        have f49n : mm_up h (40, 0, 0) 0 0 (49, 0, 0) (36 * s + n - 1) = h (24, s, n) 11 := by rw [mm_upf (by decide)]; exact (ek _ _ (by simp)).trans (kk_nf hc (by omega) h1n).2.2.1
        have f42n : mm_up h (40, 0, 0) 0 0 (42, 0, 0) (36 * s + n - 1) = h (24, s, n) 1 := by rw [mm_upf (by decide)]; exact (ek _ _ (by simp)).trans ((kk_nf hc (by omega) h1n).2.2.2 h2n).1
        have f47n : mm_up h (40, 0, 0) 0 0 (47, 0, 0) (36 * s + n - 1) = h (24, s, n) 2 := by rw [mm_upf (by decide)]; exact (ek _ _ (by simp)).trans ((kk_nf hc (by omega) h1n).2.2.2 h2n).2.1
        have f48n : mm_up h (40, 0, 0) 0 0 (48, 0, 0) (36 * s + n - 1) = h (24, s, n) 3 := by rw [mm_upf (by decide)]; exact (ek _ _ (by simp)).trans ((kk_nf hc (by omega) h1n).2.2.2 h2n).2.2
        rw [r_232_e (hy := hy)]
        refine m181y hy hc (kk_lku (by decide) lk) ht hs ?_
        rw [mm_pI, r_232_0_6 (hy := hy)]
        refine m210y hy (by omega) h1n (by rw [f41n]; exact h3n) ?_
        rw [mm_pI, r_232_0_11 (hy := hy), if_neg (by decide)]
        refine m174n hy w ?_
        rw [mm_pI, r_232_1_5 (hy := hy), if_pos rfl]
        exact mfin _ _ rfl
      split
      · exact bad (by omega)
      · split
        · exact bad (by omega)
        · refine s53t hx (kk_nmC hc) (fun s5 s50 s51 hs5 => ?_) (fun hs5 => ?_)
          · have e5 := (kk_tp1 hs5 hs).symm
            subst e5
            have hD : mm_isD s := ⟨s50, s51⟩
            have hno := kk_tpp hs
            rw [mm_pR, r_16_3_3a (htx4 := hsT) (hnx4 := hnN) (hty0 := hD) (hx := hx)]
            refine s62 hsT hnN hx (fun w => ?_) (fun w => ?_)
            · have WZ : ∀ gq : mm_Id → Int → Int, (∀ x j, 40 ≤ x.1 → x.1 ≠ 56 → ¬ (x = (40, 0, 0) ∧ j = 0) → gq x j = h x j) → kk_W b (mm_up (kk_mix (mm_up h (24, s, n) 3 k) (mm_up gq (48, 0, 0) (36 * s + n - 1) k)) (31, s, 0) 6 1) dh ∧ kk_KP (mm_up (kk_mix (mm_up h (24, s, n) 3 k) (mm_up gq (48, 0, 0) (36 * s + n - 1) k)) (31, s, 0) 6 1) := fun gq eq => by
                obtain ⟨Z, hZ⟩ : ∃ Z, Z = mm_up (kk_mix (mm_up h (24, s, n) 3 k) (mm_up gq (48, 0, 0) (36 * s + n - 1) k)) (31, s, 0) 6 1 := ⟨_, rfl⟩
                rw [← hZ]
                have E1 : ∀ x j, ¬ (x = (31, s, 0) ∧ j = 6) → ¬ (x = (24, s, n) ∧ j = 3) → ¬ (x = (48, 0, 0) ∧ j = 36 * s + n - 1) → ¬ (x = (40, 0, 0) ∧ j = 0) → x.1 ≠ 56 → Z x j = h x j := fun x j q1 q2 q3 q4 q5 => by
                  rw [hZ, mm_upne' q1]
                  by_cases q : x.1 < 40
                  · rw [kk_mixC q, mm_upne' q2]
                  · rw [kk_mixM (by omega), mm_upne' q3, eq x j (by omega) q5 q4]
                have E : ∀ x j, ¬ kk_nx s n x j → Z x j = h x j := fun x j w => E1 x j (fun q => w (by simp [kk_nx, q])) (fun q => w (by simp [kk_nx, q])) (fun q => w (by simp [kk_nx, q])) (fun q => w (by simp [kk_nx, q])) (fun q => w (by simp [kk_nx, q]))
                have zc : Z (24, s, n) 3 = k := by rw [hZ, mm_upf (by decide), kk_mixC (by simp), mm_ups]
                have zm : Z (48, 0, 0) (36 * s + n - 1) = k := by rw [hZ, mm_upf (by decide), kk_mixM (by simp), mm_ups]
                have N := kk_NRC hc (t := s) (n := n) (by omega) h1n
                have e11 : Z (24, s, n) 11 = h (24, s, n) 11 := E1 _ _ (by simp) (by simp) (by simp) (by simp) (by simp)
                have e28 : ∀ i, Z (28, s, n) i = h (28, s, n) i := fun i => E1 _ _ (by simp) (by simp) (by simp) (by simp) (by simp)
                have e29 : ∀ i, Z (29, s, n) i = h (29, s, n) i := fun i => E1 _ _ (by simp) (by simp) (by simp) (by simp) (by simp)
                have e49 : Z (49, 0, 0) (36 * s + n - 1) = h (49, 0, 0) (36 * s + n - 1) := E1 _ _ (by simp) (by simp) (by simp) (by simp) (by simp)
                have e50 : ∀ i, Z (50, 0, 0) i = h (50, 0, 0) i := fun i => E1 _ _ (by simp) (by simp) (by simp) (by simp) (by simp)
                have e51 : ∀ i, Z (51, 0, 0) i = h (51, 0, 0) i := fun i => E1 _ _ (by simp) (by simp) (by simp) (by simp) (by simp)
                refine kk_WN hc ⟨s50, s51⟩ hno h1n E (by rw [hZ, mm_ups]) (kk_NRn E N (fun z => ?_) (fun z => ?_) ?_ ?_) (kk_NWn E NWn ?_ ?_ ?_ ?_ ?_ ?_)
                · rw [E1 (24, s, n) 2 (by simp) (by simp) (by simp) (by simp) (by simp), E1 (47, 0, 0) _ (by simp) (by simp) (by simp) (by simp) (by simp)]; exact (N.2.2.2.1 z).2.1
                · rw [zc, zm]
                · rw [e11, e49]; exact N.2.2.1
                · rw [e11]
                  intro e e0 e1
                  rw [e28, e29, e50, e51]
                  exact N.2.2.2.2.2.1 e e0 e1
                · rw [E1 (24, s, n) 2 (by simp) (by simp) (by simp) (by simp) (by simp)]; exact NWn.2.2.2.2.2.2.2.2.1
                · rw [zc]; omega
                · rw [e11]; exact NWn.2.2.2.1
                · rw [e11]; exact NWn.2.2.2.2.1
                · rw [e11]
                  intro i j i0 ij jc
                  rw [e28, e28]
                  exact NWn.2.2.2.2.2.2.2.2.2.2.2.2.1 i j i0 ij jc
                · rw [e11]
                  intro i i0 i1
                  rw [e28, e29]
                  exact NWn.2.2.2.2.2.2.2.2.2.2.2.2.2.2.1 i i0 i1
              rw [mm_pI, r_16_4_3 (htx4 := hsT) (hnx4 := hnN) (htx5 := hD) (hx := hx), if_neg (by decide)]
              have WZ0 := WZ h (fun _ _ _ _ _ => rfl)
              refine s63W hx hD rfl WZ0.1 WZ0.2 (fun g k1 k2 k3 => ?_)
              rw [mm_pU, r_16_5_9 (hx := hx)]
              have r3 := NWn.2.2.2.2.2.2.2.2.2.1
              refine ⟨⟨_, rfl, by omega, by omega⟩, g, dh, rfl, ?_⟩
              have ek : ∀ x j, 40 ≤ x.1 → g x j = h x j := fun x j q => by rw [k2 x j q]; exact kk_moU q (by simp)
              have ek3 : ∀ x j, 8 ≤ x.1 → x.1 ≤ 13 → g x j = h x j := fun x j q1 q2 => by rw [k3 x j q1 q2]; exact mm_upne' (by rintro ⟨q6, _⟩; rw [q6] at q2; simp at q2)
              have lk : kk_lk h g := ⟨fun s2 _ _ => by rw [kk_acno k1 s2]; unfold kk_no; rw [mm_upne' (by simp), mm_upne' (by simp)], fun k k0 k9 => ek _ _ (by simp)⟩
              have f29 : mm_up g (40, 0, 0) 0 0 (40, 0, 0) 29 = h (1, 0, 0) 12 := (mm_upj (by decide)).trans ((ek _ _ (by simp)).trans (kk_cal hc).1.symm)
              have f41n : mm_up g (40, 0, 0) 0 0 (41, 0, 0) (36 * s + n - 1) = h (24, s, n) 0 := by rw [mm_upf (by decide)]; exact (ek _ _ (by simp)).trans (kk_nf hc (by omega) h1n).1
              have f44n : mm_up g (40, 0, 0) 0 0 (44, 0, 0) (36 * s + n - 1) = h (24, s, n) 6 := by rw [mm_upf (by decide)]; exact (ek _ _ (by simp)).trans (kk_nf hc (by omega) h1n).2.1
              have f49n : mm_up g (40, 0, 0) 0 0 (49, 0, 0) (36 * s + n - 1) = h (24, s, n) 11 := by rw [mm_upf (by decide)]; exact (ek _ _ (by simp)).trans (kk_nf hc (by omega) h1n).2.2.1
              have f42n : mm_up g (40, 0, 0) 0 0 (42, 0, 0) (36 * s + n - 1) = h (24, s, n) 1 := by rw [mm_upf (by decide)]; exact (ek _ _ (by simp)).trans ((kk_nf hc (by omega) h1n).2.2.2 h2n).1
              have f47n : mm_up g (40, 0, 0) 0 0 (47, 0, 0) (36 * s + n - 1) = h (24, s, n) 2 := by rw [mm_upf (by decide)]; exact (ek _ _ (by simp)).trans ((kk_nf hc (by omega) h1n).2.2.2 h2n).2.1
              have f48n : mm_up g (40, 0, 0) 0 0 (48, 0, 0) (36 * s + n - 1) = h (24, s, n) 3 := by rw [mm_upf (by decide)]; exact (ek _ _ (by simp)).trans ((kk_nf hc (by omega) h1n).2.2.2 h2n).2.2
              rw [r_232_e (hy := hy)]
              refine m181y hy hc (kk_lku (by decide) lk) ht hs ?_
              rw [mm_pI, r_232_0_6 (hy := hy)]
              refine m210y hy (by omega) h1n (by rw [f41n]; exact h3n) ?_
              rw [mm_pI, r_232_0_11 (hy := hy), if_neg (by decide)]
              refine m174y hy (by omega) ?_
              rw [mm_pI, r_232_1_5 (hy := hy), if_neg (by decide), if_pos (by omega)]
              refine m175 hy (by omega) h1n ?_
              rw [mm_pI, r_232_3_3 (hy := hy) (hvx4 := rfl)]
              refine m231y hy (by omega) f29 f47n w ?_
              rw [mm_pI, r_232_3_7 (hy := hy), if_neg (by decide)]
              refine ⟨by omega, by omega, ?_⟩
              have WM := WZ (mm_up g (40, 0, 0) 0 0) (fun x j q _ q3 => by rw [mm_upne' q3]; exact ek x j q)
              have cq : ∀ x j, x.1 < 40 → (mm_up g (40, 0, 0) 0 0) x j = g x j := (fun x j q => kk_clU q (by simp))
              have sq : ∀ x j, kk_scr x j → (mm_up g (40, 0, 0) 0 0) x j = g x j := (fun x j q => kk_scrU q (Or.inr ⟨rfl, by omega⟩))
              refine m209W hy rfl WM.1 WM.2 (fun g2 m1 m2 m3 => ?_)
              rw [mm_pU, r_232_4_12 (hy := hy)]
              refine ⟨by rw [f48n], g2, rfl, kk_actend (gx := g) hb rfl WM.1 WM.2 k1 m1 (fun x j q => by rw [m2 x j q, kk_clU q (by simp)]; exact cq x j q) m3 (fun x j q => by rw [kk_scrU q (Or.inl (by simp))]; exact sq x j q) (fun x j q => ?_)⟩
              rcases kk_scrC q with q5 | q5
              · exact ek x j q5
              · exact ek3 x j q5.1 q5.2
            · rw [mm_pI, r_16_4_3 (htx4 := hsT) (hnx4 := hnN) (htx5 := hD) (hx := hx), if_pos rfl]
              refine fin (-5) ⟨_, rfl, by omega, by omega⟩ ?_
              have ek : ∀ (x : mm_Id) (j : Int), 40 ≤ x.1 → h x j = h x j := fun _ _ _ => rfl
              have lk := kk_lkr h
              have f29 : mm_up h (40, 0, 0) 0 0 (40, 0, 0) 29 = h (1, 0, 0) 12 := (mm_upj (by decide)).trans ((ek _ _ (by simp)).trans (kk_cal hc).1.symm)
              have f41n : mm_up h (40, 0, 0) 0 0 (41, 0, 0) (36 * s + n - 1) = h (24, s, n) 0 := by rw [mm_upf (by decide)]; exact (ek _ _ (by simp)).trans (kk_nf hc (by omega) h1n).1
              have f44n : mm_up h (40, 0, 0) 0 0 (44, 0, 0) (36 * s + n - 1) = h (24, s, n) 6 := by rw [mm_upf (by decide)]; exact (ek _ _ (by simp)).trans (kk_nf hc (by omega) h1n).2.1
              have f49n : mm_up h (40, 0, 0) 0 0 (49, 0, 0) (36 * s + n - 1) = h (24, s, n) 11 := by rw [mm_upf (by decide)]; exact (ek _ _ (by simp)).trans (kk_nf hc (by omega) h1n).2.2.1
              have f42n : mm_up h (40, 0, 0) 0 0 (42, 0, 0) (36 * s + n - 1) = h (24, s, n) 1 := by rw [mm_upf (by decide)]; exact (ek _ _ (by simp)).trans ((kk_nf hc (by omega) h1n).2.2.2 h2n).1
              have f47n : mm_up h (40, 0, 0) 0 0 (47, 0, 0) (36 * s + n - 1) = h (24, s, n) 2 := by rw [mm_upf (by decide)]; exact (ek _ _ (by simp)).trans ((kk_nf hc (by omega) h1n).2.2.2 h2n).2.1
              have f48n : mm_up h (40, 0, 0) 0 0 (48, 0, 0) (36 * s + n - 1) = h (24, s, n) 3 := by rw [mm_upf (by decide)]; exact (ek _ _ (by simp)).trans ((kk_nf hc (by omega) h1n).2.2.2 h2n).2.2
              rw [r_232_e (hy := hy)]
              refine m181y hy hc (kk_lku (by decide) lk) ht hs ?_
              rw [mm_pI, r_232_0_6 (hy := hy)]
              refine m210y hy (by omega) h1n (by rw [f41n]; exact h3n) ?_
              rw [mm_pI, r_232_0_11 (hy := hy), if_neg (by decide)]
              refine m174y hy (by omega) ?_
              rw [mm_pI, r_232_1_5 (hy := hy), if_neg (by decide), if_pos (by omega)]
              refine m175 hy (by omega) h1n ?_
              rw [mm_pI, r_232_3_3 (hy := hy) (hvx4 := rfl)]
              refine m231n hy (by omega) f29 f47n w ?_
              rw [mm_pI, r_232_3_7 (hy := hy), if_pos rfl]
              exact mfin _ _ rfl
          · have s5 : 5 ≤ s := by
              by_cases z : s < 5
              · exact absurd hs (hs5 s z)
              · omega
            rw [mm_pR, r_16_3_3 (htx4 := hsT) (hnx4 := hnN) (hx := hx)]
            refine fin (-3) ⟨_, rfl, by omega, by omega⟩ ?_
            have ek : ∀ (x : mm_Id) (j : Int), 40 ≤ x.1 → h x j = h x j := fun _ _ _ => rfl
            have lk := kk_lkr h
            have f29 : mm_up h (40, 0, 0) 0 0 (40, 0, 0) 29 = h (1, 0, 0) 12 := (mm_upj (by decide)).trans ((ek _ _ (by simp)).trans (kk_cal hc).1.symm)
            have f41n : mm_up h (40, 0, 0) 0 0 (41, 0, 0) (36 * s + n - 1) = h (24, s, n) 0 := by rw [mm_upf (by decide)]; exact (ek _ _ (by simp)).trans (kk_nf hc (by omega) h1n).1
            have f44n : mm_up h (40, 0, 0) 0 0 (44, 0, 0) (36 * s + n - 1) = h (24, s, n) 6 := by rw [mm_upf (by decide)]; exact (ek _ _ (by simp)).trans (kk_nf hc (by omega) h1n).2.1
            have f49n : mm_up h (40, 0, 0) 0 0 (49, 0, 0) (36 * s + n - 1) = h (24, s, n) 11 := by rw [mm_upf (by decide)]; exact (ek _ _ (by simp)).trans (kk_nf hc (by omega) h1n).2.2.1
            have f42n : mm_up h (40, 0, 0) 0 0 (42, 0, 0) (36 * s + n - 1) = h (24, s, n) 1 := by rw [mm_upf (by decide)]; exact (ek _ _ (by simp)).trans ((kk_nf hc (by omega) h1n).2.2.2 h2n).1
            have f47n : mm_up h (40, 0, 0) 0 0 (47, 0, 0) (36 * s + n - 1) = h (24, s, n) 2 := by rw [mm_upf (by decide)]; exact (ek _ _ (by simp)).trans ((kk_nf hc (by omega) h1n).2.2.2 h2n).2.1
            have f48n : mm_up h (40, 0, 0) 0 0 (48, 0, 0) (36 * s + n - 1) = h (24, s, n) 3 := by rw [mm_upf (by decide)]; exact (ek _ _ (by simp)).trans ((kk_nf hc (by omega) h1n).2.2.2 h2n).2.2
            rw [r_232_e (hy := hy)]
            refine m181y hy hc (kk_lku (by decide) lk) ht hs ?_
            rw [mm_pI, r_232_0_6 (hy := hy)]
            refine m210y hy (by omega) h1n (by rw [f41n]; exact h3n) ?_
            rw [mm_pI, r_232_0_11 (hy := hy), if_neg (by decide)]
            refine m174y hy (by omega) ?_
            rw [mm_pI, r_232_1_5 (hy := hy), if_neg (by decide), if_neg (by omega)]
            exact mfin _ _ rfl
    · rw [mm_pR, r_16_0_6 (hx := hx)]
      refine fin (-1) ⟨_, rfl, by omega, by omega⟩ ?_
      have ek : ∀ (x : mm_Id) (j : Int), 40 ≤ x.1 → h x j = h x j := fun _ _ _ => rfl
      have lk := kk_lkr h
      rw [r_232_e (hy := hy)]
      refine m181y hy hc (kk_lku (by decide) lk) ht hs ?_
      rw [mm_pI, r_232_0_6 (hy := hy)]
      refine m210z hy (by omega) (fun w => hn0 ((kk_isn hc (by omega)).2 ⟨w.1, by rw [mm_upf (by decide)] at w; exact w.2⟩)) ?_
      rw [mm_pI, r_232_0_11 (hy := hy), if_pos rfl]
      exact mfin _ _ rfl
  · rw [mm_pR, r_16_0_4 (hx := hx)]
    refine s56n hx ?_
    rw [mm_pR, r_16_0_6 (hx := hx)]
    refine fin (-1) ⟨_, rfl, by omega, by omega⟩ ?_
    have ek : ∀ (x : mm_Id) (j : Int), 40 ≤ x.1 → h x j = h x j := fun _ _ _ => rfl
    have lk := kk_lkr h
    rw [r_232_e (hy := hy)]
    refine m181n hy hc (kk_lku (by decide) lk) ht hs ?_
    rw [mm_pI, r_232_0_6 (hy := hy)]
    refine m210n hy ?_
    rw [mm_pI, r_232_0_11 (hy := hy), if_pos rfl]
    exact mfin _ _ rfl

