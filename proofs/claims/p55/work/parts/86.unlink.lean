/-! the calls of both: unlink -/
theorem kk_ece {h G : mm_Id → Int → Int} {t : Int} (e : ∀ d, 1 ≤ d → d < 37 → h (24, t, d) 6 = G (44, 0, 0) (36 * t + d - 1) ∧ ∀ i, 0 ≤ i → i < h (24, t, d) 6 → h (26, t, d) i = G (46, 0, 0) (24 * (36 * t + d - 1) + i)) (m : Int) : kk_ef G t m = kk_ec h t m := by
  refine kk_Sc _ (fun d d0 d1 => ?_)
  have q := e d d0 (by omega)
  unfold kk_ed kk_e1
  rw [q.1]
  refine sm_cgI _ (fun i i0 i1 => ?_)
  rw [q.2 i i0 (by omega)]
section
variable {g : mm_Id → Int → Int} {dh : Int → Int} {nx ns : Int} {Q : mm_V → mm_H → Prop}
/-- an entry taken out there, and what it meant, where that is no file -/
theorem m224 (hy : 10581 ≤ nx) {s n e m c k0 : Int} (hs : 0 ≤ s ∧ s < 29) (hn : 1 ≤ n ∧ n < 37) (ec : g (44, 0, 0) (36 * s + n - 1) = c) (hc : c ≤ 24) (he : 0 ≤ e ∧ e < c) (em : g (46, 0, 0) (24 * (36 * s + n - 1) + e) = m) (hm : 1 ≤ m ∧ m < 37) (ek : g (41, 0, 0) (36 * s + m - 1) = k0)
    (K : ∀ G, (k0 ≠ 1 → kk_mz G (36 * s + m - 1)) → (∀ y j, ¬ (k0 ≠ 1 ∧ kk_cx (36 * s + m - 1) y j) → G y j = mm_shd (mm_up g (44, 0, 0) (36 * s + n - 1) (c - 1)) (45, 0, 0) (46, 0, 0) (24 * (36 * s + n - 1) + e) (24 * (36 * s + n - 1) + (c - 1)) y j) → Q zU (mm_z G dh nx ns)) : mm_Cl 224 [zR (40, 0, 0), zI s, zI n, zI e] (mm_z g dh nx ns) Q := by
  rw [r_224_e (hy := hy)]
  refine m185 hy hs hn (by omega) ?_
  rw [mm_pI, r_224_0_5 (hy := hy), em]
  refine m187 hy hs hn (by omega) (by omega) ?_
  rw [mm_pU, r_224_0_11 (hy := hy), ec]
  obtain ⟨G, hG⟩ : ∃ G, G = mm_shd (mm_up g (44, 0, 0) (36 * s + n - 1) (c - 1)) (45, 0, 0) (46, 0, 0) (24 * (36 * s + n - 1) + e) (24 * (36 * s + n - 1) + (c - 1)) := ⟨_, rfl⟩
  rw [← hG] at K ⊢
  have G41 : G (41, 0, 0) (36 * s + m - 1) = k0 := by rw [hG, kk_shdO (by simp) (by simp) (by simp)]; exact ek
  by_cases z : k0 = 1
  · refine m177y hy hs hm G41 z ?_
    rw [mm_pI, r_224_0_15 (hy := hy), if_neg (by decide), r_224_1 (hy := hy)]
    exact K G (fun q => absurd z q) (fun _ _ _ => rfl)
  · refine m177n hy hs hm G41 z ?_
    rw [mm_pI, r_224_0_15 (hy := hy), if_pos rfl]
    refine m175 hy hs hm ?_
    rw [mm_pI, r_224_0_20 (hy := hy)]
    refine m180 hy (by omega) (fun h2 a1 a2 a3 => ?_)
    rw [mm_pU, r_224_0_21 (hy := hy), r_224_1 (hy := hy)]
    exact K h2 (fun _ => ⟨a1, a2⟩) (fun y j q => a3 y j (fun w => q ⟨z, Or.inl w⟩) (fun w => q ⟨z, Or.inr w⟩))
end

theorem c_11 {b : Int} {h : mm_Id → Int → Int} {dh : Int → Int} {nx ns : Int} (hy : 10581 ≤ nx) (hc : kk_core b h dh) (hb : b + 1 ≤ 1000000) {t n k : Int} (ht : -2147483648 ≤ t ∧ t < 2147483648) (hn : -2147483648 ≤ n ∧ n < 2147483648) (hk : -2147483648 ≤ k ∧ k < 2147483648) : kk_call 11 225 [zI t, zI n, zI k] b h dh nx ns kk_SI := by
  unfold kk_call
  have hx : 5275 ≤ nx := by omega
  have hc0 : kk_core b (mm_up h (40, 0, 0) 0 0) dh := kk_core0 hc
  have fin : ∀ v, kk_SI (zI v) → mm_Cl 225 [zR (40, 0, 0), zI t, zI n, zI k] (mm_z h dh nx ns) (fun (r2 : mm_V) (h2 : mm_H) => r2 = zI v ∧ ∃ g2, h2 = mm_z g2 dh nx ns ∧ kk_core (b + 1) g2 dh ∧ ∀ x j, kk_scr x j → g2 x j = h x j) →
      (fun (r : mm_V) (h1 : mm_H) => kk_SI r ∧ ∃ g dh1, h1 = mm_z g dh1 nx ns ∧ mm_Cl 225 [zR (40, 0, 0), zI t, zI n, zI k] (mm_z g dh1 nx ns) (fun r2 h2 => r2 = r ∧ ∃ g2, h2 = mm_z g2 dh1 nx ns ∧ kk_core (b + 1) g2 dh1 ∧ ∀ x j, kk_scr x j → g2 x j = h x j)) (zI v) (mm_z h dh nx ns) :=
    fun v h1 h2 => ⟨h1, h, dh, rfl, h2⟩
  have mfin : ∀ v w : Int, w = v → (fun (r2 : mm_V) (h2 : mm_H) => r2 = zI v ∧ ∃ g2, h2 = mm_z g2 dh nx ns ∧ kk_core (b + 1) g2 dh ∧ ∀ x j, kk_scr x j → g2 x j = h x j) (zI w) (mm_z (mm_up h (40, 0, 0) 0 0) dh nx ns) :=
    fun v w e => ⟨by rw [e], _, rfl, kk_coreS hb hc0, fun x j hs => kk_scr0 hs⟩
  rw [r_11_e (hx := hx)]
  refine s55 hx (kk_nmC hc) ht.1 ht.2 (fun s hs => ?_) (fun hs => ?_)
  · have hsT := mm_T13 hs.1
    have hs13 := hs.1
    rw [mm_pR, r_11_0_3a (hty0 := hsT) (hx := hx)]
    refine s56 hsT hx (fun h1n h2n => ?_) (fun hn0 => ?_)
    · have hnN : mm_isN n := ⟨by omega, h1n.2⟩
      have NWn := kk_NWC hc hsT h1n
      have NRn := kk_NRC hc (t := s) (n := n) (by omega) h1n
      have h3n : 0 < h (24, s, n) 0 := by
        have := NWn.1.1
        omega
      rw [mm_pR, r_11_0_8b (htx4 := hsT) (hty0 := hsT) (hny0 := hnN) (hx := hx)]
      refine s58 hx (fun w1 => ?_) (fun w1 => ?_)
      · rw [mm_pI, r_11_1_3 (htx4 := hsT) (htx5 := hsT) (hnx5 := hnN) (hx := hx), if_neg (by decide)]
        refine s53t hx (kk_nmC hc) (fun s5 s50 s51 hs5 => ?_) (fun hs5 => ?_)
        · have e5 := (kk_tp1 hs5 hs).symm
          subst e5
          have hD : mm_isD s := ⟨s50, s51⟩
          have hno := kk_tpp hs
          rw [mm_pR, r_11_2_3a (htx4 := hsT) (htx5 := hsT) (hnx5 := hnN) (hty0 := hD) (hx := hx)]
          by_cases kd : h (24, s, n) 0 = 2
          · rw [if_pos kd]
            refine s61 hsT hnN hx (fun w => ?_) (fun w => ?_)
            · rw [mm_pI, r_11_4_3 (htx4 := hsT) (htx5 := hsT) (hnx5 := hnN) (htx6 := hD) (hx := hx), if_neg (by decide)]
              have srt := NWn.2.2.2.2.2.2.2.2.2.2.2.1
              refine s99 hsT hnN hx NWn.2.1 srt (fun p p0 p1 p2 => ?_) (fun ab => ?_)
              · obtain ⟨m, hm⟩ : ∃ m, h (26, s, n) p = m := ⟨_, rfl⟩
                have mr := (NWn.2.2.2.2.2.2.2.2.2.2.2.2.2.1 p p0 p1).2
                rw [hm] at mr
                have m1 := mr.1
                have km := mr.2
                have hmN : mm_isN m := ⟨by omega, m1.2⟩
                have NWs : ∀ m2, 1 ≤ m2 → m2 < 37 → kk_NW h s m2 := fun m2 a0 a1 => kk_NWC hc hsT ⟨a0, a1⟩
                rw [mm_pI, r_11_5_3 (htx4 := hsT) (htx5 := hsT) (hnx5 := hnN) (htx6 := hD) (hx := hx), hm]
                refine s56 hsT hx (fun _ _ => ?_) (fun q => absurd ⟨m1, km⟩ q)
                rw [mm_pR, r_11_5_8a (htx5 := hsT) (hnx5 := hnN) (htx6 := hD) (hty0 := hsT) (hny0 := hmN) (hx := hx)]
                have b7c : (h (24, s, m) 0 = 2 → ¬ 0 < h (24, s, m) 6) → mm_Wp 11 (mm_blk 11 7) [zR (1, 0, 0), zI t, zI n, zI k, zR (22, s, 0), zR (24, s, n), zR (31, s, 0), zI m, zR (24, s, m)] [] (mm_z h dh nx ns) (fun (r : mm_V) (h1 : mm_H) => kk_SI r ∧ ∃ g dh1, h1 = mm_z g dh1 nx ns ∧ mm_Cl 225 [zR (40, 0, 0), zI t, zI n, zI k] (mm_z g dh1 nx ns) (fun r2 h2 => r2 = r ∧ ∃ g2, h2 = mm_z g2 dh1 nx ns ∧ kk_core (b + 1) g2 dh1 ∧ ∀ x j, kk_scr x j → g2 x j = h x j)) := fun kc => by
                  rw [r_11_7 (htx5 := hsT) (hnx5 := hnN) (htx6 := hD) (htx8 := hsT) (hnx8 := hmN) (hx := hx)]
                  refine s101 hsT hnN hx NWn.2.1 srt (fun p' q0 q1 q2 => ?_) (fun ab => absurd p2 (ab p p0 p1))
                  have pe : p = p' := (kk_inj srt q0 q1 p0 p1 (by rw [q2, p2])).symm
                  subst pe
                  rw [mm_pU]
                  obtain ⟨hst, hh⟩ : ∃ hst, hst = mm_up (mm_shd (mm_up h (24, s, n) 6 (h (24, s, n) 6 - 1)) (25, s, n) (26, s, n) p (h (24, s, n) 6 - 1)) (24, s, m) 5 (h (24, s, m) 5 - 1) := ⟨_, rfl⟩
                  have sX := fun i => kk_shdX (f := h) (X := (25, s, n)) (Y := (26, s, n)) (W := (24, s, n)) (p := p) (c := h (24, s, n) 6 - 1) (j := 6) (v := h (24, s, n) 6 - 1) (o := 0) (by simp) i
                  have sY := fun i => kk_shdY (f := h) (X := (25, s, n)) (Y := (26, s, n)) (W := (24, s, n)) (p := p) (c := h (24, s, n) 6 - 1) (j := 6) (v := h (24, s, n) 6 - 1) (o := 0) (by simp) i
                  simp only [Int.zero_add] at sX sY
                  have s5 : mm_shd (mm_up h (24, s, n) 6 (h (24, s, n) 6 - 1)) (25, s, n) (26, s, n) p (h (24, s, n) 6 - 1) (24, s, m) 5 = h (24, s, m) 5 := kk_shdO (by simp) (by simp) (by simp)
                  have uE := (kk_TWC hc hsT).1 m m1.1 m1.2 km
                  have up1 : 1 ≤ h (24, s, m) 5 := by
                    have := kk_ecp (h := h) (m := m) h1n ⟨p0, p1⟩ hm
                    omega
                  have u9 : h (24, s, m) 5 ≤ 9 := by
                    have T := kk_TWC hc hsT
                    by_cases q : h (24, s, m) 0 = 1
                    · rw [uE]; exact T.2.2.1 m m1.1 m1.2 q
                    · have q2 : 2 ≤ m := by
                        by_cases z : m = 1
                        · have := T.2.2.2.1
                          rw [z] at uE up1
                          omega
                        · omega
                      have := (NWs m m1.1 m1.2).1
                      rw [uE, T.2.1 m q2 m1.2 (by omega)]
                      decide
                  rw [r_11_7_3 (htx6 := hD) (htx8 := hsT) (hnx8 := hmN) (hx := hx), s5, mm_wi (z := h (24, s, m) 5 - 1) (by omega) (by omega), ← hh]
                  have c25 : ∀ i, hst (25, s, n) i = kk_del (h (25, s, n)) p (h (24, s, n) 6 - 1) i := fun i => by rw [hh, mm_upf (by decide)]; exact sX i
                  have c26 : ∀ i, hst (26, s, n) i = kk_del (h (26, s, n)) p (h (24, s, n) 6 - 1) i := fun i => by rw [hh, mm_upf (by decide)]; exact sY i
                  have c6 : hst (24, s, n) 6 = h (24, s, n) 6 - 1 := by rw [hh, mm_upj (by decide)]; exact kk_shdW (by simp) (by simp)
                  have c5 : hst (24, s, m) 5 = h (24, s, m) 5 - 1 := by rw [hh, mm_ups]
                  have cF : ∀ (f : Nat) t2 m2 j, ¬ ((f = 25 ∨ f = 26) ∧ t2 = s ∧ m2 = n) → ¬ (f = 24 ∧ t2 = s ∧ m2 = n ∧ j = 6) → ¬ (f = 24 ∧ t2 = s ∧ m2 = m ∧ j = 5) → hst (f, t2, m2) j = h (f, t2, m2) j := fun f t2 m2 j a1 a2 a3 => by
                    rw [hh, mm_upne' (by rintro ⟨q, q2⟩; simp at q; exact a3 ⟨q.1, q.2.1, q.2.2, q2⟩)]
                    exact kk_shdO (by rintro ⟨q, _⟩; simp at q; exact a1 ⟨Or.inl q.1, q.2⟩) (by rintro ⟨q, _⟩; simp at q; exact a1 ⟨Or.inr q.1, q.2⟩) (by rintro ⟨q, q2⟩; simp at q; exact a2 ⟨q.1, q.2.1, q.2.2, q2⟩)
                  obtain ⟨SC, ecm, eco⟩ := kk_strike (g := hst) (H := fun _ => False) ⟨NWs, kk_TWH (kk_TWC hc hsT)⟩ h1n ⟨p0, p1⟩ hm (fun i _ _ => c25 i) (fun i _ _ => c26 i) c6 c5 (fun f m2 j f0 f1 a1 a2 a3 => cF f s m2 j (fun q => a1 ⟨q.1, q.2.2⟩) (fun q => a2 ⟨q.1, q.2.2.1, q.2.2.2⟩) (fun q => a3 ⟨q.1, q.2.2.1, q.2.2.2⟩)) (fun j => cF _ _ _ _ (by omega) (by omega) (by omega))
                  have rt : h (24, s, 1) 0 = 2 := hc.1.2.2.1.2.2.2.2.2.2.2.2.2.2.2.1 s hs13.1 hs13.2 hno
                  have hm2 : 2 ≤ m := by
                    by_cases z : m = 1
                    · have := (kk_TWC hc hsT).2.2.2.1
                      rw [z] at uE up1
                      omega
                    · omega
                  have k0s : ∀ m2, hst (24, s, m2) 0 = h (24, s, m2) 0 := fun m2 => cF 24 s m2 0 (by omega) (by omega) (by omega)
                  have hRs : kk_R hst := kk_Rcong (fun _ _ _ => cF _ _ _ _ (by omega) (by omega) (by omega)) (cF _ _ _ _ (by omega) (by omega) (by omega)) (cF _ _ _ _ (by omega) (by omega) (by omega)) (fun _ => cF _ _ _ _ (by omega) (by omega) (by omega)) (fun _ => cF _ _ _ _ (by omega) (by omega) (by omega)) (fun _ => cF _ _ _ _ (by omega) (by omega) (by omega)) hc.1.1.2.2.2.2.2.2.2.1
                  -- whether the node goes
                  obtain ⟨D, hDD⟩ : ∃ D : Prop, D ↔ (h (24, s, m) 5 = 1 ∧ ∀ i, 0 ≤ i → i < 8 → ¬ (dh i = s ∧ h (34, i, 0) 2 = m)) := ⟨_, Iff.rfl⟩
                  have nfD : h (24, s, m) 0 ≠ 1 → D := fun q => hDD.2 ⟨by
                    have := (NWs m m1.1 m1.2).1
                    rw [uE, (kk_TWC hc hsT).2.1 m hm2 m1.2 (by omega)], fun i i0 i1 w => by
                    have := ((kk_h17 hc i i0 i1).1 (by rw [w.1]; exact hD)).2.2.1
                    rw [w.1, w.2] at this
                    exact q this⟩
                  have c0m : h (24, s, m) 6 = 0 := by
                    by_cases q : h (24, s, m) 0 = 2
                    · have a := (NWs m m1.1 m1.2).2.1
                      have := kc q
                      omega
                    · exact (NWs m m1.1 m1.2).2.2.1 q
                  have mn : m ≠ n := fun q => by rw [q] at c0m; omega
                  have tail : ∀ hcc : mm_Id → Int → Int, kk_R hcc → (D → kk_cl hcc s m) → (∀ y j, ¬ kk_ct y j → ¬ (D ∧ 24 ≤ y.1 ∧ y.1 ≤ 30 ∧ y.2.1 = s ∧ y.2.2 = m) → hcc y j = hst y j) → mm_Wp 11 (bk_11_7.drop 13) [zR (1, 0, 0), zI t, zI n, zI k, zR (22, s, 0), zR (24, s, n), zR (31, s, 0), zI m, zR (24, s, m)] [] (mm_z hcc dh nx ns) (fun (r : mm_V) (h1 : mm_H) => kk_SI r ∧ ∃ g dh1, h1 = mm_z g dh1 nx ns ∧ mm_Cl 225 [zR (40, 0, 0), zI t, zI n, zI k] (mm_z g dh1 nx ns) (fun r2 h2 => r2 = r ∧ ∃ g2, h2 = mm_z g2 dh1 nx ns ∧ kk_core (b + 1) g2 dh1 ∧ ∀ x j, kk_scr x j → g2 x j = h x j)) := fun hcc hR hcl fr => by
                    have cG0 : ∀ (f : Nat) t2 m2 j, f ≠ 15 → f ≠ 17 → f ≠ 18 → f ≠ 19 → ¬ (D ∧ (24 ≤ f ∧ f ≤ 30) ∧ t2 = s ∧ m2 = m) → hcc (f, t2, m2) j = hst (f, t2, m2) j := fun f t2 m2 j a1 a2 a3 a4 a5 => fr _ _ (by unfold kk_ct; rintro (⟨q, _⟩ | q | q | q) <;> simp at q <;> omega) (fun q => a5 ⟨q.1, ⟨q.2.1, q.2.2.1⟩, q.2.2.2.1, q.2.2.2.2⟩)
                    have SCc : (∀ m2, 1 ≤ m2 → m2 < 37 → kk_NW hcc s m2) ∧ kk_TW hcc s := by
                      by_cases d : D
                      · obtain ⟨S, _⟩ := kk_clear (g := hcc) (m := m) SC ⟨hm2, m1.2⟩ (by rw [ecm, ← uE, (hDD.1 d).1]; rfl) (by rw [cF 24 s m 6 (by omega) (by omega) (by omega)]; exact c0m) (hcl d) (fun f m2 j f0 f1 q => cG0 f s m2 j (by omega) (by omega) (by omega) (by omega) (fun w => q w.2.2.2)) (fun j => cG0 16 0 0 j (by decide) (by decide) (by decide) (by decide) (by omega))
                        exact ⟨S.1, kk_THW S.2 (fun _ _ _ _ w => by rcases w with ⟨w1 | w1, w2⟩; exact w1; exact w2 w1)⟩
                      · have cp : ∀ m2, kk_cpd hcc s m2 hst s m2 := fun m2 => kk_cpdr (fun f j f0 f1 => cG0 f s m2 j (by omega) (by omega) (by omega) (by omega) (fun w => d w.1))
                        have T1 : kk_TW hst s := kk_THW SC.2 (fun m2 _ _ k2 w => by
                          rcases w with w | w
                          · exact w
                          · rw [w, k0s] at k2
                            exact d (nfD (by omega)))
                        exact ⟨fun m2 a0 a1 => kk_NWcp (fun m3 _ _ => cp m3) ⟨a0, a1⟩ (fun _ _ _ _ _ _ => cG0 16 0 0 _ (by decide) (by decide) (by decide) (by decide) (by omega)) (SC.1 m2 a0 a1), kk_TWcp (fun m3 _ _ => cp m3) SC.1 T1⟩
                    have fcc : ∀ y j, y.1 < 40 → ¬ kk_ts s y j → hcc y j = h y j := fun y j _ v => by
                      rw [fr y j (fun q => v (Or.inr (Or.inr (Or.inr (Or.inl q))))) (fun q => v (Or.inl ⟨q.2.1, q.2.2.1, q.2.2.2.1, by omega, by omega⟩)), hh, mm_upne' (by rintro ⟨q, _⟩; rw [q] at v; exact v (kk_tsN (by decide) m1))]
                      exact kk_shdO (by rintro ⟨q, _⟩; rw [q] at v; exact v (kk_tsN (by decide) h1n)) (by rintro ⟨q, _⟩; rw [q] at v; exact v (kk_tsN (by decide) h1n)) (by rintro ⟨q, _⟩; rw [q] at v; exact v (kk_tsN (by decide) h1n))
                    rw [r_11_7_13 (htx6 := hD) (hx := hx)]
                    refine s63t hx hc hD fcc hR (fun m2 a0 a1 => ⟨(SCc.1 m2 a0 a1).2.2.2.2.2.1, (SCc.1 m2 a0 a1).2.2.2.1, (SCc.1 m2 a0 a1).2.2.2.2.2.2.1⟩) (fun g k1' k2' ek3 no => ?_)
                    rw [mm_pU, r_11_7_16 (hx := hx)]
                    refine ⟨⟨_, rfl, by omega, by omega⟩, g, dh, rfl, ?_⟩
                    have hm40 : ∀ y j, 40 ≤ y.1 → hcc y j = h y j := fun y j q => by
                      rw [fr y j (by unfold kk_ct; rintro (⟨q6, _⟩ | q6 | q6 | q6) <;> rw [q6] at q <;> simp at q) (fun q6 => by omega), hh, mm_upne' (by rintro ⟨q6, _⟩; rw [q6] at q; simp at q)]
                      exact kk_shdO (by rintro ⟨q6, _⟩; rw [q6] at q; simp at q) (by rintro ⟨q6, _⟩; rw [q6] at q; simp at q) (by rintro ⟨q6, _⟩; rw [q6] at q; simp at q)
                    have ek : ∀ x j, 40 ≤ x.1 → g x j = h x j := fun x j q => by rw [k2' x j q]; exact hm40 x j q
                    have lk : kk_lk h g := ⟨fun s2 _ _ => no s2, fun k k0 k9 => ek _ _ (by simp)⟩
                    have f29 : mm_up g (40, 0, 0) 0 0 (40, 0, 0) 29 = h (1, 0, 0) 12 := (mm_upj (by decide)).trans ((ek _ _ (by simp)).trans (kk_cal hc).1.symm)
                    have f41n : mm_up g (40, 0, 0) 0 0 (41, 0, 0) (36 * s + n - 1) = h (24, s, n) 0 := by rw [mm_upf (by decide)]; exact (ek _ _ (by simp)).trans (kk_nf hc (by omega) h1n).1
                    have f44n : mm_up g (40, 0, 0) 0 0 (44, 0, 0) (36 * s + n - 1) = h (24, s, n) 6 := by rw [mm_upf (by decide)]; exact (ek _ _ (by simp)).trans (kk_nf hc (by omega) h1n).2.1
                    have f49n : mm_up g (40, 0, 0) 0 0 (49, 0, 0) (36 * s + n - 1) = h (24, s, n) 11 := by rw [mm_upf (by decide)]; exact (ek _ _ (by simp)).trans (kk_nf hc (by omega) h1n).2.2.1
                    have f42n : mm_up g (40, 0, 0) 0 0 (42, 0, 0) (36 * s + n - 1) = h (24, s, n) 1 := by rw [mm_upf (by decide)]; exact (ek _ _ (by simp)).trans ((kk_nf hc (by omega) h1n).2.2.2 h2n).1
                    have f47n : mm_up g (40, 0, 0) 0 0 (47, 0, 0) (36 * s + n - 1) = h (24, s, n) 2 := by rw [mm_upf (by decide)]; exact (ek _ _ (by simp)).trans ((kk_nf hc (by omega) h1n).2.2.2 h2n).2.1
                    have f48n : mm_up g (40, 0, 0) 0 0 (48, 0, 0) (36 * s + n - 1) = h (24, s, n) 3 := by rw [mm_upf (by decide)]; exact (ek _ _ (by simp)).trans ((kk_nf hc (by omega) h1n).2.2.2 h2n).2.2
                    rw [r_225_e (hy := hy)]
                    refine m181y hy hc (kk_lku (by decide) lk) ht hs ?_
                    rw [mm_pI, r_225_0_6 (hy := hy)]
                    refine m210y hy (by omega) h1n (by rw [f41n]; exact h3n) ?_
                    rw [mm_pI, r_225_0_11 (hy := hy), if_neg (by decide)]
                    refine m174y hy (by omega) ?_
                    rw [mm_pI, r_225_1_5 (hy := hy), if_neg (by decide)]
                    rw [if_pos s51]
                    refine m211y hy (by omega) h1n f41n kd ?_
                    rw [mm_pI, r_225_2_7 (hy := hy), if_neg (by decide)]
                    refine m204y hy (by omega) h1n f29 f47n f48n w ?_
                    rw [mm_pI, r_225_4_4 (hy := hy), if_neg (by decide)]
                    have nm : ∀ i, 0 ≤ i → i < h (24, s, n) 6 → mm_up g (40, 0, 0) 0 0 (45, 0, 0) (24 * (36 * s + n - 1) + i) = h (25, s, n) i := fun i i0 i1 => (mm_upf (by decide)).trans ((ek _ _ (by simp)).trans (NRn.2.2.2.2.1 i i0 i1).1.symm)
                    have nmm : mm_up g (40, 0, 0) 0 0 (46, 0, 0) (24 * (36 * s + n - 1) + p) = h (26, s, n) p := (mm_upf (by decide)).trans ((ek _ _ (by simp)).trans (NRn.2.2.2.2.1 p p0 p1).2.symm)
                    refine m184y hy (by omega) h1n f44n NWn.2.1 ⟨p, ⟨p0, p1⟩, by rw [nm p p0 p1]; exact p2⟩ (fun e e0 e1 e2 => ?_) (p := p)
                    have ep : p = e := (kk_inj srt e0 e1 p0 p1 (by rw [← nm e e0 e1, e2, p2])).symm
                    subst ep
                    rw [mm_pI, r_225_5_5 (hy := hy), if_neg (by omega)]
                    refine m185 hy (by omega) h1n (by have := NWn.2.1; omega) ?_
                    rw [mm_pI, r_225_6_5 (hy := hy), nmm, hm]
                    have f41m : mm_up g (40, 0, 0) 0 0 (41, 0, 0) (36 * s + m - 1) = h (24, s, m) 0 := (mm_upf (by decide)).trans ((ek _ _ (by simp)).trans (kk_nf hc (by omega) m1).1)
                    have f44m : mm_up g (40, 0, 0) 0 0 (44, 0, 0) (36 * s + m - 1) = h (24, s, m) 6 := (mm_upf (by decide)).trans ((ek _ _ (by simp)).trans (kk_nf hc (by omega) m1).2.1)
                    have b7 : mm_Wp 225 (mm_blk 225 7) [zR (40, 0, 0), zI t, zI n, zI k, zI s, zI p, zI m] [] (mm_z (mm_up g (40, 0, 0) 0 0) dh nx ns) (fun (r2 : mm_V) (h2 : mm_H) => r2 = zI m ∧ ∃ g2, h2 = mm_z g2 dh nx ns ∧ kk_core (b + 1) g2 dh ∧ ∀ x j, kk_scr x j → g2 x j = h x j) := by
                      rw [r_225_7 (hy := hy)]
                      obtain ⟨M, hM⟩ : ∃ M, M = 36 * s + m - 1 := ⟨_, rfl⟩
                      obtain ⟨DD, hDn⟩ : ∃ DD, DD = 36 * s + n - 1 := ⟨_, rfl⟩
                      refine m224 hy (by omega) h1n f44n NWn.2.1.2 ⟨p0, p1⟩ (nmm.trans hm) m1 f41m (fun G Gz Gf => ?_)
                      rw [← hM] at Gz Gf
                      rw [← hDn] at Gf
                      rw [mm_pU, r_225_7_5 (hy := hy)]
                      have tX := fun i => kk_shdX (f := mm_up g (40, 0, 0) 0 0) (X := (45, 0, 0)) (Y := (46, 0, 0)) (W := (44, 0, 0)) (p := p) (c := h (24, s, n) 6 - 1) (j := DD) (v := h (24, s, n) 6 - 1) (o := 24 * DD) (by simp) i
                      have tY := fun i => kk_shdY (f := mm_up g (40, 0, 0) 0 0) (X := (45, 0, 0)) (Y := (46, 0, 0)) (W := (44, 0, 0)) (p := p) (c := h (24, s, n) 6 - 1) (j := DD) (v := h (24, s, n) 6 - 1) (o := 24 * DD) (by simp) i
                      have ncx : ∀ y j, kk_cx M y j → kk_mx M y j := fun y j q => by
                        rcases q with ⟨q, q2⟩ | ⟨q, q2⟩
                        · exact Or.inl ⟨by rcases q with q | q | q | q <;> rw [q] <;> simp [kk_mf], q2⟩
                        · exact Or.inr (Or.inl ⟨by rw [q], q2⟩)
                      have MD : M ≠ DD := by omega
                      have G44 : G (44, 0, 0) DD = h (24, s, n) 6 - 1 := by rw [Gf _ _ (fun q => by rcases q.2 with ⟨_, q2⟩ | ⟨q2, _⟩; exact MD q2.symm; simp at q2)]; exact kk_shdW (by simp) (by simp)
                      have G45 : ∀ i, G (45, 0, 0) (24 * DD + i) = kk_del (fun i => mm_up g (40, 0, 0) 0 0 (45, 0, 0) (24 * DD + i)) p (h (24, s, n) 6 - 1) i := fun i => by rw [Gf _ _ (fun q => by rcases q.2 with ⟨q2, _⟩ | ⟨q2, _⟩ <;> simp at q2)]; exact tX i
                      have G46 : ∀ i, G (46, 0, 0) (24 * DD + i) = kk_del (fun i => mm_up g (40, 0, 0) 0 0 (46, 0, 0) (24 * DD + i)) p (h (24, s, n) 6 - 1) i := fun i => by rw [Gf _ _ (fun q => by rcases q.2 with ⟨q2, _⟩ | ⟨q2, _⟩ <;> simp at q2)]; exact tY i
                      have GO : ∀ y j, 40 ≤ y.1 → ¬ (y = (40, 0, 0) ∧ j = 0) → ¬ (h (24, s, m) 0 ≠ 1 ∧ kk_cx M y j) → ¬ (y = (44, 0, 0) ∧ j = DD) → ¬ ((y = (45, 0, 0) ∨ y = (46, 0, 0)) ∧ 24 * DD ≤ j ∧ j < 24 * DD + 24) → G y j = h y j := fun y j a0 a1 a2 a3 a4 => by
                        have c24 := NWn.2.1.2
                        rw [Gf y j a2, kk_shdO (fun q => a4 ⟨Or.inl q.1, by omega⟩) (fun q => a4 ⟨Or.inr q.1, by omega⟩) a3, mm_upne' a1]
                        exact ek y j a0
                      have GOm : ∀ m2, m2 ≠ n → ¬ (h (24, s, m) 0 ≠ 1 ∧ m2 = m) → 1 ≤ m2 → m2 < 37 → ∀ y j, kk_mx (36 * s + m2 - 1) y j → G y j = h y j := fun m2 q1 q2 a0 a1 y j v => by
                        have r := kk_mxr v
                        have dd := kk_mxd (a := 36 * s + m2 - 1) (b := DD) (by omega) v
                        refine GO y j (by omega) (by rintro ⟨z, _⟩; rw [z] at r; simp at r) (fun w => ?_) (fun w => dd (Or.inl ⟨by rw [w.1]; exact kk_f44, w.2⟩)) (fun w => dd (Or.inr (Or.inr (Or.inl ⟨by rcases w.1 with u | u <;> rw [u] <;> simp, w.2⟩))))
                        by_cases z : m2 = m
                        · exact q2 ⟨w.1, z⟩
                        · exact kk_mxd (a := 36 * s + m2 - 1) (b := M) (by omega) v (ncx _ _ w.2)
                      -- entries are the same as here
                      have ent : ∀ d, 1 ≤ d → d < 37 → hst (24, s, d) 6 = G (44, 0, 0) (36 * s + d - 1) ∧ ∀ i, 0 ≤ i → i < hst (24, s, d) 6 → hst (25, s, d) i = G (45, 0, 0) (24 * (36 * s + d - 1) + i) ∧ hst (26, s, d) i = G (46, 0, 0) (24 * (36 * s + d - 1) + i) := fun d a0 a1 => by
                        have Nd := kk_NRC hc (t := s) (n := d) (by omega) ⟨a0, a1⟩
                        have Wd := (NWs d a0 a1).2.1
                        by_cases q : d = n
                        · subst q
                          rw [c6, ← hDn]
                          refine ⟨G44.symm, fun i i0 i1 => ?_⟩
                          rw [c25, c26, G45, G46]
                          exact ⟨kk_delc (fun v v0 v1 => by rw [mm_upf (by decide), ek _ _ (by simp), hDn]; exact (Nd.2.2.2.2.1 v v0 (by omega)).1) i0 i1, kk_delc (fun v v0 v1 => by rw [mm_upf (by decide), ek _ _ (by simp), hDn]; exact (Nd.2.2.2.2.1 v v0 (by omega)).2) i0 i1⟩
                        · rw [cF 24 s d 6 (by omega) (by omega) (by omega)]
                          by_cases z : h (24, s, m) 0 ≠ 1 ∧ d = m
                          · have Gzz := Gz z.1
                            rw [z.2, c0m, ← hM, Gzz.1.2.2.1]
                            exact ⟨rfl, fun i i0 i1 => by omega⟩
                          · rw [GOm d q z a0 a1 _ _ (Or.inl ⟨kk_f44, rfl⟩)]
                            refine ⟨Nd.2.1, fun i i0 i1 => ?_⟩
                            rw [cF 25 s d i (by omega) (by omega) (by omega), cF 26 s d i (by omega) (by omega) (by omega), GOm d q z a0 a1 _ _ (kk_m45 (Or.inl rfl) ⟨i0, by omega⟩), GOm d q z a0 a1 _ _ (kk_m45 (Or.inr rfl) ⟨i0, by omega⟩)]
                            exact Nd.2.2.2.2.1 i i0 i1
                      have ef := fun m2 => kk_ece (h := hst) (G := G) (t := s) (fun d a0 a1 => ⟨(ent d a0 a1).1, fun i i0 i1 => ((ent d a0 a1).2 i i0 i1).2⟩) m2
                      have Gh : ∀ (f : Nat) j, 62 ≤ f → f ≤ 64 → G (f, 0, 0) j = h (f, 0, 0) j := fun f j f0 f1 => GO _ _ (by show 40 ≤ f; omega) (by rintro ⟨z, _⟩; simp at z; omega) (fun w => by have := kk_mxr (ncx _ _ w.2); simp at this; omega) (by rintro ⟨z, _⟩; simp at z; omega) (by rintro ⟨z, _⟩; simp at z; omega)
                      have op : ∀ m2, 1 ≤ m2 → (kk_op G s m2 ↔ ∃ j, (0 ≤ j ∧ j < 8) ∧ dh j = s ∧ h (34, j, 0) 2 = m2) := fun m2 a0 => by
                        unfold kk_op
                        constructor
                        · rintro ⟨i, i0, i1, q1, q2⟩
                          rw [Gh 63 _ (by decide) (by decide)] at q1
                          rw [Gh 62 _ (by decide) (by decide)] at q2
                          have Hi := kk_h17 hc (i - 1) (by omega) (by omega)
                          rw [show i - 1 + 1 = i by omega] at Hi
                          by_cases w : mm_isD (dh (i - 1))
                          · obtain ⟨w1, w2, w3, w4, _⟩ := Hi.1 w
                            exact ⟨i - 1, by omega, by omega, by omega⟩
                          · have := (Hi.2 w).1; omega
                        · rintro ⟨j, hj, q1, q2⟩
                          obtain ⟨w1, w2, w3, w4, _⟩ := (kk_h17 hc j hj.1 hj.2).1 (by rw [q1]; exact hD)
                          exact ⟨j + 1, by omega, by omega, by rw [Gh 63 _ (by decide) (by decide)]; omega, by rw [Gh 62 _ (by decide) (by decide)]; omega⟩
                      have sw : ∀ m2, 1 ≤ m2 → m2 < 37 → (kk_sw G s m2 ↔ m2 = m ∧ D ∧ h (24, s, m) 0 = 1) := fun m2 a0 a1 => by
                        unfold kk_sw
                        rw [ef, op m2 a0]
                        by_cases q : m2 = m
                        · subst q
                          rw [ecm, ← uE]
                          by_cases z : h (24, s, m2) 0 = 1
                          · rw [GOm m2 mn (fun w => w.1 z) a0 a1 _ _ (Or.inl ⟨kk_f41, rfl⟩), (kk_nf hc (by omega) ⟨a0, a1⟩).1]
                            constructor
                            · rintro ⟨b1, b2, b3⟩
                              exact ⟨rfl, hDD.2 ⟨by omega, fun i i0 i1 w => b3 ⟨i, ⟨i0, i1⟩, w⟩⟩, z⟩
                            · rintro ⟨_, d, _⟩
                              have d2 := hDD.1 d
                              exact ⟨z, by omega, fun ⟨j, hj, w⟩ => d2.2 j hj.1 hj.2 w⟩
                          · have Gzz := Gz z
                            rw [← hM, Gzz.1.1]
                            constructor
                            · rintro ⟨b1, _⟩; omega
                            · rintro ⟨_, _, w⟩; exact absurd w z
                        · rw [eco m2 q]
                          constructor
                          · rintro ⟨b1, b2, b3⟩
                            have k1 : h (24, s, m2) 0 = 1 := by
                              rw [← (kk_nf hc (by omega) ⟨a0, a1⟩).1]
                              by_cases z : m2 = n
                              · rw [z] at b1 ⊢
                                rw [← hDn] at b1 ⊢
                                rw [GO _ _ (by simp) (by simp) (fun w => by
                                  rcases w.2 with ⟨_, w2⟩ | ⟨w2, _⟩
                                  · exact MD w2.symm
                                  · simp at w2) (by simp) (by simp)] at b1
                                exact b1
                              · rw [GOm m2 z (fun w => q w.2) a0 a1 _ _ (Or.inl ⟨kk_f41, rfl⟩)] at b1
                                exact b1
                            have u0 : h (24, s, m2) 5 = 0 := by rw [(kk_TWC hc hsT).1 m2 a0 a1 (by omega)]; exact b2
                            exact absurd (kk_h19 hc s m2 s50 s51 a0 a1 k1 u0) b3
                          · rintro ⟨w, _⟩; exact absurd w q
                      have kk : ∀ d, 1 ≤ d → d < 37 → G (41, 0, 0) (36 * s + d - 1) = 0 ∨ G (41, 0, 0) (36 * s + d - 1) = h (24, s, d) 0 := fun d a0 a1 => by
                        by_cases z : h (24, s, m) 0 ≠ 1 ∧ d = m
                        · rw [z.2, ← hM]; exact Or.inl (Gz z.1).1.1
                        · right
                          rw [← (kk_nf hc (by omega) ⟨a0, a1⟩).1]
                          by_cases q : d = n
                          · rw [q, ← hDn]
                            exact GO _ _ (by simp) (by simp) (fun w => by
                              rcases w.2 with ⟨_, w2⟩ | ⟨w2, _⟩
                              · exact MD w2.symm
                              · simp at w2) (by simp) (by simp)
                          · exact GOm d q z a0 a1 _ _ (Or.inl ⟨kk_f41, rfl⟩)
                      refine m191 hy (by omega) (fun d a0 a1 => by rw [← (ent d a0 a1).1]; exact (SC.1 d a0 a1).2.1) (fun d a0 a1 q => by
                        rw [← (ent d a0 a1).1]
                        refine (SC.1 d a0 a1).2.2.1 ?_
                        rw [k0s]
                        rcases kk d a0 a1 with z | z <;> omega) (fun gm mz gmf => ?_)
                      rw [mm_pU, r_225_7_8 (hy := hy)]
                      have gM : ∀ y j, ¬ ((D ∧ h (24, s, m) 0 = 1) ∧ kk_cx M y j) → gm y j = G y j := fun y j q => gmf y j (by
                        rintro ⟨m2, a0, a1, q1, q2⟩
                        obtain ⟨z, d, d1⟩ := (sw m2 a0 a1).1 q1
                        rw [z, ← hM] at q2
                        exact q ⟨⟨d, d1⟩, q2⟩)
                      have gz : D → kk_mz gm M := fun d => by
                        by_cases z : h (24, s, m) 0 = 1
                        · have := mz m m1.1 m1.2 ((sw m m1.1 m1.2).2 ⟨rfl, d, z⟩)
                          rw [← hM] at this
                          exact this
                        · have a := Gz z
                          have g2 : ∀ y j, gm y j = G y j := fun y j => gM y j (fun w => z w.1.2)
                          exact ⟨⟨by rw [g2]; exact a.1.1, by rw [g2]; exact a.1.2.1, by rw [g2]; exact a.1.2.2.1, by rw [g2]; exact a.1.2.2.2⟩, fun p p0 p1 => by rw [g2]; exact a.2 p p0 p1⟩
                      have gO : ∀ y j, 40 ≤ y.1 → ¬ (y = (40, 0, 0) ∧ j = 0) → ¬ (D ∧ kk_cx M y j) → ¬ (y = (44, 0, 0) ∧ j = DD) → ¬ ((y = (45, 0, 0) ∨ y = (46, 0, 0)) ∧ 24 * DD ≤ j ∧ j < 24 * DD + 24) → gm y j = h y j := fun y j a0 a1 a2 a3 a4 => by
                        rw [gM y j (fun w => a2 ⟨w.1.1, w.2⟩)]
                        exact GO y j a0 a1 (fun w => a2 ⟨nfD w.1, w.2⟩) a3 a4
                      have gOm : ∀ m2, ¬ (D ∧ m2 = m) → 1 ≤ m2 → m2 < 37 → ∀ y j, kk_mx (36 * s + m2 - 1) y j → ¬ (m2 = n ∧ (y.1 = 44 ∨ y.1 = 45 ∨ y.1 = 46)) → gm y j = h y j := fun m2 q a0 a1 y j v v2 => by
                        have r := kk_mxr v
                        refine gO y j (by omega) (by rintro ⟨z, _⟩; rw [z] at r; simp at r) (fun w => ?_) (fun w => ?_) (fun w => ?_)
                        · by_cases z : m2 = m
                          · exact q ⟨w.1, z⟩
                          · exact kk_mxd (a := 36 * s + m2 - 1) (b := M) (by omega) v (ncx _ _ w.2)
                        · by_cases z : m2 = n
                          · exact v2 ⟨z, by rw [w.1]; simp⟩
                          · exact kk_mxd (a := 36 * s + m2 - 1) (b := DD) (by omega) v (Or.inl ⟨by rw [w.1]; exact kk_f44, w.2⟩)
                        · by_cases z : m2 = n
                          · exact v2 ⟨z, by rcases w.1 with u | u <;> rw [u] <;> simp⟩
                          · exact kk_mxd (a := 36 * s + m2 - 1) (b := DD) (by omega) v (Or.inr (Or.inr (Or.inl ⟨by rcases w.1 with u | u <;> rw [u] <;> simp, w.2⟩)))
                      have gent : ∀ d, ¬ (D ∧ d = m) → 1 ≤ d → d < 37 → ∀ y j, kk_mx (36 * s + d - 1) y j → gm y j = G y j := fun d q a0 a1 y j v => gM y j (fun w => by
                        by_cases z : d = m
                        · exact q ⟨w.1.1, z⟩
                        · exact kk_mxd (a := 36 * s + d - 1) (b := M) (by omega) v (ncx _ _ w.2))
                      obtain ⟨Z, hZ⟩ : ∃ Z, Z = mm_up (kk_mix hcc gm) (31, s, 0) 6 1 := ⟨_, rfl⟩
                      have zC : ∀ (f : Nat) t2 m2 j, f < 40 → f ≠ 31 → Z (f, t2, m2) j = hcc (f, t2, m2) j := fun f t2 m2 j f0 f1 => by rw [hZ, mm_upf f1, kk_mixC f0]
                      have eh : ∀ (y : mm_Id) j, y.1 = 34 ∨ y.1 = 35 ∨ y.1 = 62 ∨ y.1 = 63 ∨ y.1 = 64 → Z y j = h y j := fun y j v => by
                        rw [hZ, mm_upne' (by rintro ⟨q, _⟩; rw [q] at v; simp at v)]
                        by_cases u : y.1 < 40
                        · rw [kk_mixC u, fr y j (by unfold kk_ct; rintro (⟨q, _⟩ | q | q | q) <;> rw [q] at v <;> simp at v) (fun q => by omega), hh, mm_upne' (by rintro ⟨q, _⟩; rw [q] at v; simp at v)]
                          exact kk_shdO (by rintro ⟨q, _⟩; rw [q] at v; simp at v) (by rintro ⟨q, _⟩; rw [q] at v; simp at v) (by rintro ⟨q, _⟩; rw [q] at v; simp at v)
                        · rw [kk_mixM (by omega)]
                          exact gO y j (by omega) (by rintro ⟨q, _⟩; rw [q] at v; simp at v) (fun w => by have := kk_mxr (ncx _ _ w.2); omega) (by rintro ⟨q, _⟩; rw [q] at v; simp at v) (by rintro ⟨q, _⟩; rcases q with q | q <;> rw [q] at v <;> simp at v)
                      have dd := kk_d17s (s := s) (Z := Z) hc eh (fun s2 => by
                        unfold kk_no
                        rw [hZ, mm_upj (by decide), mm_upf (by decide), kk_mixC (by simp), kk_mixC (by simp), cG0 _ _ _ _ (by decide) (by decide) (by decide) (by decide) (by omega), cG0 _ _ _ _ (by decide) (by decide) (by decide) (by decide) (by omega), cF _ _ _ _ (by omega) (by omega) (by omega), cF _ _ _ _ (by omega) (by omega) (by omega)]) (fun t2 m2 j q => by rw [zC _ _ _ _ (by decide) (by decide), cG0 _ _ _ _ (by decide) (by decide) (by decide) (by decide) (by omega)]; exact cF _ _ _ _ (by omega) (by omega) (by omega)) (fun m2 a0 a1 v ex => by
                        rw [zC _ _ _ _ (by decide) (by decide), cG0 _ _ _ _ (by decide) (by decide) (by decide) (by decide) (fun w => by
                          obtain ⟨j, hj, q1, q2⟩ := ex
                          exact (hDD.1 w.1).2 j hj.1 hj.2 ⟨q1, by rw [q2]; exact w.2.2.2⟩), k0s]
                        exact v) (fun m2 a0 a1 v v5 => by
                        rw [zC _ _ _ _ (by decide) (by decide)] at v v5
                        by_cases w : D ∧ m2 = m
                        · have := (hcl w.1).1 0 kk_F0
                          rw [w.2, this] at v
                          simp at v
                        · rw [cG0 _ _ _ _ (by decide) (by decide) (by decide) (by decide) (fun q => w ⟨q.1, q.2.2.2⟩)] at v v5
                          rw [k0s] at v
                          by_cases u : m2 = m
                          · rw [u, c5] at v5
                            have nD : ¬ D := fun d => w ⟨d, u⟩
                            by_cases ex : ∃ j, (0 ≤ j ∧ j < 8) ∧ dh j = s ∧ h (34, j, 0) 2 = m
                            · rw [u]; exact ex
                            · exact absurd (hDD.2 ⟨by omega, fun j j0 j1 q => ex ⟨j, ⟨j0, j1⟩, q⟩⟩) nD
                          · rw [cF _ _ _ _ (by omega) (by omega) (by omega)] at v5
                            exact kk_h19 hc s m2 s50 s51 a0 a1 v v5)
                      have WM := kk_stW (C := fun m2 => D ∧ m2 = m) hc ⟨s50, s51⟩ hno fcc hR SCc.1 SCc.2 (fun m2 q _ _ => by rw [q.2]; exact hcl q.1) (fun m2 q a0 a1 => ⟨fun j j4 j5 j6 => by rw [cG0 _ _ _ _ (by decide) (by decide) (by decide) (by decide) (fun w => q ⟨w.1, w.2.2.2⟩)]; exact cF _ _ _ _ (by omega) (by omega) (by omega), fun f j f0 f1 => by rw [cG0 _ _ _ _ (by omega) (by omega) (by omega) (by omega) (fun w => q ⟨w.1, w.2.2.2⟩)]; exact cF _ _ _ _ (by omega) (by omega) (by omega)⟩)
                        (fun y j a0 v => by
                          have v2 := kk_tsM a0 v
                          exact gO y j a0 v2.2.1 (fun w => v2.1 ⟨m, m1.1, m1.2, by rw [← hM]; exact ncx _ _ w.2⟩) (fun w => v2.1 ⟨n, h1n.1, h1n.2, by rw [← hDn]; exact Or.inl ⟨by rw [w.1]; exact kk_f44, w.2⟩⟩) (fun w => v2.1 ⟨n, h1n.1, h1n.2, by rw [← hDn]; exact Or.inr (Or.inr (Or.inl ⟨by rcases w.1 with u | u <;> rw [u] <;> simp, w.2⟩))⟩)) (fun m2 q a0 a1 => by rw [q.2, ← hM]; exact gz q.1) (fun m2 a0 a1 => gO _ _ (by simp) (by simp) (fun w => by rcases w.2 with ⟨z, _⟩ | ⟨z, _⟩ <;> simp at z) (by simp) (by simp))
                        (fun m2 q a0 a1 => ⟨fun f hf h4 => gOm m2 q a0 a1 _ _ (Or.inl ⟨hf, rfl⟩) (by
                          have hf2 := hf
                          unfold kk_mf at hf2
                          rintro ⟨_, z⟩; simp at z; omega), fun p p0 p1 => gOm m2 q a0 a1 _ _ (kk_m43 ⟨p0, p1⟩) (by simp), fun e e0 e1 => ⟨gOm m2 q a0 a1 _ _ (kk_m50 (Or.inl rfl) ⟨e0, e1⟩) (by simp), gOm m2 q a0 a1 _ _ (kk_m50 (Or.inr rfl) ⟨e0, e1⟩) (by simp)⟩, fun e e0 e1 => gOm m2 q a0 a1 _ _ (kk_m52 ⟨e0, e1⟩) (by simp)⟩)
                        (fun m2 q a0 a1 => by
                          obtain ⟨e1, e2⟩ := ent m2 a0 a1
                          have W2 := (SC.1 m2 a0 a1).2.1
                          rw [cG0 24 s m2 6 (by decide) (by decide) (by decide) (by decide) (fun w => q ⟨w.1, w.2.2.2⟩), gent m2 q a0 a1 _ _ (Or.inl ⟨kk_f44, rfl⟩)]
                          refine ⟨e1, fun i i0 i1 => ?_⟩
                          rw [cG0 25 s m2 i (by decide) (by decide) (by decide) (by decide) (fun w => q ⟨w.1, w.2.2.2⟩), cG0 26 s m2 i (by decide) (by decide) (by decide) (by decide) (fun w => q ⟨w.1, w.2.2.2⟩), gent m2 q a0 a1 _ _ (kk_m45 (Or.inl rfl) ⟨i0, by omega⟩), gent m2 q a0 a1 _ _ (kk_m45 (Or.inr rfl) ⟨i0, by omega⟩)]
                          exact e2 i i0 i1) (by rw [cG0 _ _ _ _ (by decide) (by decide) (by decide) (by decide) (by omega), k0s]; exact rt) hZ dd.1 dd.2.1 dd.2.2
                      refine m209W hy hZ WM.1 WM.2 (fun g2 b1 b2 b3 => ?_)
                      have gclass : ∀ x j, ¬ (kk_cx M x j) → ¬ (x = (44, 0, 0)) → ¬ (x = (45, 0, 0)) → ¬ (x = (46, 0, 0)) → gm x j = mm_up g (40, 0, 0) 0 0 x j := fun x j a1 a2 a3 a4 => by
                        rw [gM x j (fun w => a1 w.2), Gf x j (fun w => a1 w.2)]
                        exact kk_shdO (fun w => a3 w.1) (fun w => a4 w.1) (fun w => a2 w.1)
                      have cG : ∀ x j, x.1 < 40 → gm x j = g x j := fun x j v => by
                        rw [gclass x j (fun w => by have := kk_mxr (ncx _ _ w); omega) (by intro w; rw [w] at v; simp at v) (by intro w; rw [w] at v; simp at v) (by intro w; rw [w] at v; simp at v)]
                        exact kk_clU v (by simp)
                      have sG : ∀ x j, kk_scr x j → gm x j = g x j := fun x j v => by
                        rw [gclass x j (fun w => by have := kk_mxr (ncx _ _ w); unfold kk_scr at v; rcases v with v | v | ⟨v, _⟩ | v <;> first | omega | (rw [v] at this; simp at this)) (by intro w; rw [w] at v; simp [kk_scr] at v) (by intro w; rw [w] at v; simp [kk_scr] at v) (by intro w; rw [w] at v; simp [kk_scr] at v)]
                        exact kk_scrU v (Or.inr ⟨rfl, by omega⟩)
                      rw [mm_pU, r_225_7_10 (hy := hy)]
                      refine ⟨rfl, g2, rfl, kk_actend (gx := g) hb hZ WM.1 WM.2 k1' b1 (fun x j v => by rw [b2 x j v]; exact cG x j v) b3 sG (fun x j v => ?_)⟩
                      rcases kk_scrC v with q5 | q5
                      · exact ek x j q5
                      · exact ek3 x j q5.1 q5.2
                    by_cases q2 : h (24, s, m) 0 = 2
                    · refine m211y hy (by omega) m1 f41m q2 ?_
                      rw [mm_pI, r_225_6_10 (hy := hy), if_neg (by decide)]
                      refine m175 hy (by omega) m1 ?_
                      rw [mm_pI, r_225_6_16 (hy := hy), f44m, if_neg (by omega)]
                      exact ⟨by omega, b7⟩
                    · refine m211n hy (by omega) m1 f41m q2 ?_
                      rw [mm_pI, r_225_6_10 (hy := hy), if_pos rfl]
                      exact b7
                  have nb : hst (24, s, m) 9 = kk_nz (hst (27, s, m)) := (SC.1 m m1.1 m1.2).2.2.2.2.2.2.1
                  refine s71 hx hD m1 (by rw [k0s]; exact km) hRs nb (fun w => ?_) (fun w1 w2 h2 a1 a2 a3 => ?_)
                  · rw [mm_pU]
                    have nD : ¬ D := fun d => by
                      have d2 := hDD.1 d
                      rcases w with w | ⟨i, hi, w1, w2⟩
                      · rw [c5] at w; omega
                      · rw [cF _ _ _ _ (by omega) (by omega) (by omega)] at w2
                        exact d2.2 i hi.1 hi.2 ⟨w1, w2⟩
                    exact tail hst hRs (fun d => absurd d nD) (fun _ _ _ _ => rfl)
                  · rw [mm_pU]
                    have d : D := hDD.2 ⟨by rw [c5] at w1; omega, fun i i0 i1 w => w2 i i0 i1 ⟨w.1, by rw [cF _ _ _ _ (by omega) (by omega) (by omega)]; exact w.2⟩⟩
                    refine tail h2 a1 (fun _ => a2) (fun y j q1 q2 => a3 y j q1 (by rintro ⟨q3, _⟩; exact q2 ⟨d, by rw [q3]; exact ⟨by simp, by simp, rfl, rfl⟩⟩) (by rintro ⟨q3, _⟩; exact q2 ⟨d, by rw [q3]; exact ⟨by simp, by simp, rfl, rfl⟩⟩))
                by_cases q2 : h (24, s, m) 0 = 2
                · rw [if_pos q2]
                  by_cases q3 : 0 < h (24, s, m) 6
                  · rw [if_pos q3]
                    refine fin (-3) ⟨_, rfl, by omega, by omega⟩ ?_
                    have ek : ∀ (x : mm_Id) (j : Int), 40 ≤ x.1 → h x j = h x j := fun _ _ _ => rfl
                    have lk := kk_lkr h
                    have f29 : mm_up h (40, 0, 0) 0 0 (40, 0, 0) 29 = h (1, 0, 0) 12 := (mm_upj (by decide)).trans ((ek _ _ (by simp)).trans (kk_cal hc).1.symm)
                    have f41n : mm_up h (40, 0, 0) 0 0 (41, 0, 0) (36 * s + n - 1) = h (24, s, n) 0 := by rw [mm_upf (by decide)]; exact (ek _ _ (by simp)).trans (kk_nf hc (by omega) h1n).1
                    have f44n : mm_up h (40, 0, 0) 0 0 (44, 0, 0) (36 * s + n - 1) = h (24, s, n) 6 := by rw [mm_upf (by decide)]; exact (ek _ _ (by simp)).trans (kk_nf hc (by omega) h1n).2.1
                    have f49n : mm_up h (40, 0, 0) 0 0 (49, 0, 0) (36 * s + n - 1) = h (24, s, n) 11 := by rw [mm_upf (by decide)]; exact (ek _ _ (by simp)).trans (kk_nf hc (by omega) h1n).2.2.1
                    have f42n : mm_up h (40, 0, 0) 0 0 (42, 0, 0) (36 * s + n - 1) = h (24, s, n) 1 := by rw [mm_upf (by decide)]; exact (ek _ _ (by simp)).trans ((kk_nf hc (by omega) h1n).2.2.2 h2n).1
                    have f47n : mm_up h (40, 0, 0) 0 0 (47, 0, 0) (36 * s + n - 1) = h (24, s, n) 2 := by rw [mm_upf (by decide)]; exact (ek _ _ (by simp)).trans ((kk_nf hc (by omega) h1n).2.2.2 h2n).2.1
                    have f48n : mm_up h (40, 0, 0) 0 0 (48, 0, 0) (36 * s + n - 1) = h (24, s, n) 3 := by rw [mm_upf (by decide)]; exact (ek _ _ (by simp)).trans ((kk_nf hc (by omega) h1n).2.2.2 h2n).2.2
                    rw [r_225_e (hy := hy)]
                    refine m181y hy hc (kk_lku (by decide) lk) ht hs ?_
                    rw [mm_pI, r_225_0_6 (hy := hy)]
                    refine m210y hy (by omega) h1n (by rw [f41n]; exact h3n) ?_
                    rw [mm_pI, r_225_0_11 (hy := hy), if_neg (by decide)]
                    refine m174y hy (by omega) ?_
                    rw [mm_pI, r_225_1_5 (hy := hy), if_neg (by decide)]
                    rw [if_pos s51]
                    refine m211y hy (by omega) h1n f41n kd ?_
                    rw [mm_pI, r_225_2_7 (hy := hy), if_neg (by decide)]
                    refine m204y hy (by omega) h1n f29 f47n f48n w ?_
                    rw [mm_pI, r_225_4_4 (hy := hy), if_neg (by decide)]
                    have nm : ∀ i, 0 ≤ i → i < h (24, s, n) 6 → mm_up h (40, 0, 0) 0 0 (45, 0, 0) (24 * (36 * s + n - 1) + i) = h (25, s, n) i := fun i i0 i1 => (mm_upf (by decide)).trans ((ek _ _ (by simp)).trans (NRn.2.2.2.2.1 i i0 i1).1.symm)
                    have nmm : mm_up h (40, 0, 0) 0 0 (46, 0, 0) (24 * (36 * s + n - 1) + p) = h (26, s, n) p := (mm_upf (by decide)).trans ((ek _ _ (by simp)).trans (NRn.2.2.2.2.1 p p0 p1).2.symm)
                    refine m184y hy (by omega) h1n f44n NWn.2.1 ⟨p, ⟨p0, p1⟩, by rw [nm p p0 p1]; exact p2⟩ (fun e e0 e1 e2 => ?_) (p := p)
                    have ep : p = e := (kk_inj srt e0 e1 p0 p1 (by rw [← nm e e0 e1, e2, p2])).symm
                    subst ep
                    rw [mm_pI, r_225_5_5 (hy := hy), if_neg (by omega)]
                    refine m185 hy (by omega) h1n (by have := NWn.2.1; omega) ?_
                    rw [mm_pI, r_225_6_5 (hy := hy), nmm, hm]
                    have f41m : mm_up h (40, 0, 0) 0 0 (41, 0, 0) (36 * s + m - 1) = h (24, s, m) 0 := (mm_upf (by decide)).trans ((ek _ _ (by simp)).trans (kk_nf hc (by omega) m1).1)
                    have f44m : mm_up h (40, 0, 0) 0 0 (44, 0, 0) (36 * s + m - 1) = h (24, s, m) 6 := (mm_upf (by decide)).trans ((ek _ _ (by simp)).trans (kk_nf hc (by omega) m1).2.1)
                    refine m211y hy (by omega) m1 f41m q2 ?_
                    rw [mm_pI, r_225_6_10 (hy := hy), if_neg (by decide)]
                    refine m175 hy (by omega) m1 ?_
                    rw [mm_pI, r_225_6_16 (hy := hy), f44m, if_pos q3]
                    exact ⟨by omega, mfin _ _ rfl⟩
                  · rw [if_neg q3]; exact b7c (fun _ => q3)
                · rw [if_neg q2]; exact b7c (fun q => absurd q q2)
              · rw [mm_pI, r_11_5_3 (htx4 := hsT) (htx5 := hsT) (hnx5 := hnN) (htx6 := hD) (hx := hx)]
                refine s56 hsT hx (fun q _ => by omega) (fun _ => ?_)
                rw [mm_pR, r_11_5_8 (htx5 := hsT) (hnx5 := hnN) (htx6 := hD) (hx := hx)]
                refine fin (-1) ⟨_, rfl, by omega, by omega⟩ ?_
                have ek : ∀ (x : mm_Id) (j : Int), 40 ≤ x.1 → h x j = h x j := fun _ _ _ => rfl
                have lk := kk_lkr h
                have f29 : mm_up h (40, 0, 0) 0 0 (40, 0, 0) 29 = h (1, 0, 0) 12 := (mm_upj (by decide)).trans ((ek _ _ (by simp)).trans (kk_cal hc).1.symm)
                have f41n : mm_up h (40, 0, 0) 0 0 (41, 0, 0) (36 * s + n - 1) = h (24, s, n) 0 := by rw [mm_upf (by decide)]; exact (ek _ _ (by simp)).trans (kk_nf hc (by omega) h1n).1
                have f44n : mm_up h (40, 0, 0) 0 0 (44, 0, 0) (36 * s + n - 1) = h (24, s, n) 6 := by rw [mm_upf (by decide)]; exact (ek _ _ (by simp)).trans (kk_nf hc (by omega) h1n).2.1
                have f49n : mm_up h (40, 0, 0) 0 0 (49, 0, 0) (36 * s + n - 1) = h (24, s, n) 11 := by rw [mm_upf (by decide)]; exact (ek _ _ (by simp)).trans (kk_nf hc (by omega) h1n).2.2.1
                have f42n : mm_up h (40, 0, 0) 0 0 (42, 0, 0) (36 * s + n - 1) = h (24, s, n) 1 := by rw [mm_upf (by decide)]; exact (ek _ _ (by simp)).trans ((kk_nf hc (by omega) h1n).2.2.2 h2n).1
                have f47n : mm_up h (40, 0, 0) 0 0 (47, 0, 0) (36 * s + n - 1) = h (24, s, n) 2 := by rw [mm_upf (by decide)]; exact (ek _ _ (by simp)).trans ((kk_nf hc (by omega) h1n).2.2.2 h2n).2.1
                have f48n : mm_up h (40, 0, 0) 0 0 (48, 0, 0) (36 * s + n - 1) = h (24, s, n) 3 := by rw [mm_upf (by decide)]; exact (ek _ _ (by simp)).trans ((kk_nf hc (by omega) h1n).2.2.2 h2n).2.2
                rw [r_225_e (hy := hy)]
                refine m181y hy hc (kk_lku (by decide) lk) ht hs ?_
                rw [mm_pI, r_225_0_6 (hy := hy)]
                refine m210y hy (by omega) h1n (by rw [f41n]; exact h3n) ?_
                rw [mm_pI, r_225_0_11 (hy := hy), if_neg (by decide)]
                refine m174y hy (by omega) ?_
                rw [mm_pI, r_225_1_5 (hy := hy), if_neg (by decide)]
                rw [if_pos s51]
                refine m211y hy (by omega) h1n f41n kd ?_
                rw [mm_pI, r_225_2_7 (hy := hy), if_neg (by decide)]
                refine m204y hy (by omega) h1n f29 f47n f48n w ?_
                rw [mm_pI, r_225_4_4 (hy := hy), if_neg (by decide)]
                have nm : ∀ i, 0 ≤ i → i < h (24, s, n) 6 → mm_up h (40, 0, 0) 0 0 (45, 0, 0) (24 * (36 * s + n - 1) + i) = h (25, s, n) i := fun i i0 i1 => (mm_upf (by decide)).trans ((ek _ _ (by simp)).trans (NRn.2.2.2.2.1 i i0 i1).1.symm)
                refine m184n hy (by omega) h1n f44n NWn.2.1 (fun e e0 e1 => by rw [nm e e0 e1]; exact ab e e0 e1) ?_
                rw [mm_pI, r_225_5_5 (hy := hy), if_pos (by decide)]
                exact mfin _ _ rfl
            · rw [mm_pI, r_11_4_3 (htx4 := hsT) (htx5 := hsT) (hnx5 := hnN) (htx6 := hD) (hx := hx), if_pos rfl]
              refine fin (-5) ⟨_, rfl, by omega, by omega⟩ ?_
              have ek : ∀ (x : mm_Id) (j : Int), 40 ≤ x.1 → h x j = h x j := fun _ _ _ => rfl
              have lk := kk_lkr h
              have f29 : mm_up h (40, 0, 0) 0 0 (40, 0, 0) 29 = h (1, 0, 0) 12 := (mm_upj (by decide)).trans ((ek _ _ (by simp)).trans (kk_cal hc).1.symm)
              have f41n : mm_up h (40, 0, 0) 0 0 (41, 0, 0) (36 * s + n - 1) = h (24, s, n) 0 := by rw [mm_upf (by decide)]; exact (ek _ _ (by simp)).trans (kk_nf hc (by omega) h1n).1
              have f44n : mm_up h (40, 0, 0) 0 0 (44, 0, 0) (36 * s + n - 1) = h (24, s, n) 6 := by rw [mm_upf (by decide)]; exact (ek _ _ (by simp)).trans (kk_nf hc (by omega) h1n).2.1
              have f49n : mm_up h (40, 0, 0) 0 0 (49, 0, 0) (36 * s + n - 1) = h (24, s, n) 11 := by rw [mm_upf (by decide)]; exact (ek _ _ (by simp)).trans (kk_nf hc (by omega) h1n).2.2.1
              have f42n : mm_up h (40, 0, 0) 0 0 (42, 0, 0) (36 * s + n - 1) = h (24, s, n) 1 := by rw [mm_upf (by decide)]; exact (ek _ _ (by simp)).trans ((kk_nf hc (by omega) h1n).2.2.2 h2n).1
              have f47n : mm_up h (40, 0, 0) 0 0 (47, 0, 0) (36 * s + n - 1) = h (24, s, n) 2 := by rw [mm_upf (by decide)]; exact (ek _ _ (by simp)).trans ((kk_nf hc (by omega) h1n).2.2.2 h2n).2.1
              have f48n : mm_up h (40, 0, 0) 0 0 (48, 0, 0) (36 * s + n - 1) = h (24, s, n) 3 := by rw [mm_upf (by decide)]; exact (ek _ _ (by simp)).trans ((kk_nf hc (by omega) h1n).2.2.2 h2n).2.2
              rw [r_225_e (hy := hy)]
              refine m181y hy hc (kk_lku (by decide) lk) ht hs ?_
              rw [mm_pI, r_225_0_6 (hy := hy)]
              refine m210y hy (by omega) h1n (by rw [f41n]; exact h3n) ?_
              rw [mm_pI, r_225_0_11 (hy := hy), if_neg (by decide)]
              refine m174y hy (by omega) ?_
              rw [mm_pI, r_225_1_5 (hy := hy), if_neg (by decide)]
              rw [if_pos s51]
              refine m211y hy (by omega) h1n f41n kd ?_
              rw [mm_pI, r_225_2_7 (hy := hy), if_neg (by decide)]
              refine m204n hy (by omega) h1n f29 f47n f48n w ?_
              rw [mm_pI, r_225_4_4 (hy := hy), if_pos rfl]
              exact mfin _ _ rfl
          · rw [if_neg kd, r_11_3 (hx := hx)]
            refine fin (-3) ⟨_, rfl, by omega, by omega⟩ ?_
            have ek : ∀ (x : mm_Id) (j : Int), 40 ≤ x.1 → h x j = h x j := fun _ _ _ => rfl
            have lk := kk_lkr h
            have f29 : mm_up h (40, 0, 0) 0 0 (40, 0, 0) 29 = h (1, 0, 0) 12 := (mm_upj (by decide)).trans ((ek _ _ (by simp)).trans (kk_cal hc).1.symm)
            have f41n : mm_up h (40, 0, 0) 0 0 (41, 0, 0) (36 * s + n - 1) = h (24, s, n) 0 := by rw [mm_upf (by decide)]; exact (ek _ _ (by simp)).trans (kk_nf hc (by omega) h1n).1
            have f44n : mm_up h (40, 0, 0) 0 0 (44, 0, 0) (36 * s + n - 1) = h (24, s, n) 6 := by rw [mm_upf (by decide)]; exact (ek _ _ (by simp)).trans (kk_nf hc (by omega) h1n).2.1
            have f49n : mm_up h (40, 0, 0) 0 0 (49, 0, 0) (36 * s + n - 1) = h (24, s, n) 11 := by rw [mm_upf (by decide)]; exact (ek _ _ (by simp)).trans (kk_nf hc (by omega) h1n).2.2.1
            have f42n : mm_up h (40, 0, 0) 0 0 (42, 0, 0) (36 * s + n - 1) = h (24, s, n) 1 := by rw [mm_upf (by decide)]; exact (ek _ _ (by simp)).trans ((kk_nf hc (by omega) h1n).2.2.2 h2n).1
            have f47n : mm_up h (40, 0, 0) 0 0 (47, 0, 0) (36 * s + n - 1) = h (24, s, n) 2 := by rw [mm_upf (by decide)]; exact (ek _ _ (by simp)).trans ((kk_nf hc (by omega) h1n).2.2.2 h2n).2.1
            have f48n : mm_up h (40, 0, 0) 0 0 (48, 0, 0) (36 * s + n - 1) = h (24, s, n) 3 := by rw [mm_upf (by decide)]; exact (ek _ _ (by simp)).trans ((kk_nf hc (by omega) h1n).2.2.2 h2n).2.2
            rw [r_225_e (hy := hy)]
            refine m181y hy hc (kk_lku (by decide) lk) ht hs ?_
            rw [mm_pI, r_225_0_6 (hy := hy)]
            refine m210y hy (by omega) h1n (by rw [f41n]; exact h3n) ?_
            rw [mm_pI, r_225_0_11 (hy := hy), if_neg (by decide)]
            refine m174y hy (by omega) ?_
            rw [mm_pI, r_225_1_5 (hy := hy), if_neg (by decide)]
            rw [if_pos s51]
            refine m211n hy (by omega) h1n f41n kd ?_
            rw [mm_pI, r_225_2_7 (hy := hy), if_pos rfl, r_225_3 (hy := hy)]
            exact mfin _ _ rfl
        · have s5 : 5 ≤ s := by
            by_cases z : s < 5
            · exact absurd hs (hs5 s z)
            · omega
          rw [mm_pR, r_11_2_3 (htx4 := hsT) (htx5 := hsT) (hnx5 := hnN) (hx := hx), r_11_3 (hx := hx)]
          refine fin (-3) ⟨_, rfl, by omega, by omega⟩ ?_
          have ek : ∀ (x : mm_Id) (j : Int), 40 ≤ x.1 → h x j = h x j := fun _ _ _ => rfl
          have lk := kk_lkr h
          have f29 : mm_up h (40, 0, 0) 0 0 (40, 0, 0) 29 = h (1, 0, 0) 12 := (mm_upj (by decide)).trans ((ek _ _ (by simp)).trans (kk_cal hc).1.symm)
          have f41n : mm_up h (40, 0, 0) 0 0 (41, 0, 0) (36 * s + n - 1) = h (24, s, n) 0 := by rw [mm_upf (by decide)]; exact (ek _ _ (by simp)).trans (kk_nf hc (by omega) h1n).1
          have f44n : mm_up h (40, 0, 0) 0 0 (44, 0, 0) (36 * s + n - 1) = h (24, s, n) 6 := by rw [mm_upf (by decide)]; exact (ek _ _ (by simp)).trans (kk_nf hc (by omega) h1n).2.1
          have f49n : mm_up h (40, 0, 0) 0 0 (49, 0, 0) (36 * s + n - 1) = h (24, s, n) 11 := by rw [mm_upf (by decide)]; exact (ek _ _ (by simp)).trans (kk_nf hc (by omega) h1n).2.2.1
          have f42n : mm_up h (40, 0, 0) 0 0 (42, 0, 0) (36 * s + n - 1) = h (24, s, n) 1 := by rw [mm_upf (by decide)]; exact (ek _ _ (by simp)).trans ((kk_nf hc (by omega) h1n).2.2.2 h2n).1
          have f47n : mm_up h (40, 0, 0) 0 0 (47, 0, 0) (36 * s + n - 1) = h (24, s, n) 2 := by rw [mm_upf (by decide)]; exact (ek _ _ (by simp)).trans ((kk_nf hc (by omega) h1n).2.2.2 h2n).2.1
          have f48n : mm_up h (40, 0, 0) 0 0 (48, 0, 0) (36 * s + n - 1) = h (24, s, n) 3 := by rw [mm_upf (by decide)]; exact (ek _ _ (by simp)).trans ((kk_nf hc (by omega) h1n).2.2.2 h2n).2.2
          rw [r_225_e (hy := hy)]
          refine m181y hy hc (kk_lku (by decide) lk) ht hs ?_
          rw [mm_pI, r_225_0_6 (hy := hy)]
          refine m210y hy (by omega) h1n (by rw [f41n]; exact h3n) ?_
          rw [mm_pI, r_225_0_11 (hy := hy), if_neg (by decide)]
          refine m174y hy (by omega) ?_
          rw [mm_pI, r_225_1_5 (hy := hy), if_neg (by decide)]
          rw [if_neg (show ¬ s < 5 by omega), r_225_3 (hy := hy)]
          exact mfin _ _ rfl
      · rw [mm_pI, r_11_1_3 (htx4 := hsT) (htx5 := hsT) (hnx5 := hnN) (hx := hx), if_pos rfl]
        refine fin (-2) ⟨_, rfl, by omega, by omega⟩ ?_
        have ek : ∀ (x : mm_Id) (j : Int), 40 ≤ x.1 → h x j = h x j := fun _ _ _ => rfl
        have lk := kk_lkr h
        have f29 : mm_up h (40, 0, 0) 0 0 (40, 0, 0) 29 = h (1, 0, 0) 12 := (mm_upj (by decide)).trans ((ek _ _ (by simp)).trans (kk_cal hc).1.symm)
        have f41n : mm_up h (40, 0, 0) 0 0 (41, 0, 0) (36 * s + n - 1) = h (24, s, n) 0 := by rw [mm_upf (by decide)]; exact (ek _ _ (by simp)).trans (kk_nf hc (by omega) h1n).1
        have f44n : mm_up h (40, 0, 0) 0 0 (44, 0, 0) (36 * s + n - 1) = h (24, s, n) 6 := by rw [mm_upf (by decide)]; exact (ek _ _ (by simp)).trans (kk_nf hc (by omega) h1n).2.1
        have f49n : mm_up h (40, 0, 0) 0 0 (49, 0, 0) (36 * s + n - 1) = h (24, s, n) 11 := by rw [mm_upf (by decide)]; exact (ek _ _ (by simp)).trans (kk_nf hc (by omega) h1n).2.2.1
        have f42n : mm_up h (40, 0, 0) 0 0 (42, 0, 0) (36 * s + n - 1) = h (24, s, n) 1 := by rw [mm_upf (by decide)]; exact (ek _ _ (by simp)).trans ((kk_nf hc (by omega) h1n).2.2.2 h2n).1
        have f47n : mm_up h (40, 0, 0) 0 0 (47, 0, 0) (36 * s + n - 1) = h (24, s, n) 2 := by rw [mm_upf (by decide)]; exact (ek _ _ (by simp)).trans ((kk_nf hc (by omega) h1n).2.2.2 h2n).2.1
        have f48n : mm_up h (40, 0, 0) 0 0 (48, 0, 0) (36 * s + n - 1) = h (24, s, n) 3 := by rw [mm_upf (by decide)]; exact (ek _ _ (by simp)).trans ((kk_nf hc (by omega) h1n).2.2.2 h2n).2.2
        rw [r_225_e (hy := hy)]
        refine m181y hy hc (kk_lku (by decide) lk) ht hs ?_
        rw [mm_pI, r_225_0_6 (hy := hy)]
        refine m210y hy (by omega) h1n (by rw [f41n]; exact h3n) ?_
        rw [mm_pI, r_225_0_11 (hy := hy), if_neg (by decide)]
        refine m174n hy w1 ?_
        rw [mm_pI, r_225_1_5 (hy := hy), if_pos rfl]
        exact mfin _ _ rfl
    · rw [mm_pR, r_11_0_8a (htx4 := hsT) (hx := hx)]
      refine fin (-1) ⟨_, rfl, by omega, by omega⟩ ?_
      have ek : ∀ (x : mm_Id) (j : Int), 40 ≤ x.1 → h x j = h x j := fun _ _ _ => rfl
      have lk := kk_lkr h
      rw [r_225_e (hy := hy)]
      refine m181y hy hc (kk_lku (by decide) lk) ht hs ?_
      rw [mm_pI, r_225_0_6 (hy := hy)]
      refine m210z hy (by omega) (fun w => hn0 ((kk_isn hc (by omega)).2 ⟨w.1, by rw [mm_upf (by decide)] at w; exact w.2⟩)) ?_
      rw [mm_pI, r_225_0_11 (hy := hy), if_pos rfl]
      exact mfin _ _ rfl
  · rw [mm_pR, r_11_0_3 (hx := hx)]
    refine s56n hx ?_
    rw [mm_pR, r_11_0_8 (hx := hx)]
    refine fin (-1) ⟨_, rfl, by omega, by omega⟩ ?_
    have ek : ∀ (x : mm_Id) (j : Int), 40 ≤ x.1 → h x j = h x j := fun _ _ _ => rfl
    have lk := kk_lkr h
    rw [r_225_e (hy := hy)]
    refine m181n hy hc (kk_lku (by decide) lk) ht hs ?_
    rw [mm_pI, r_225_0_6 (hy := hy)]
    refine m210n hy ?_
    rw [mm_pI, r_225_0_11 (hy := hy), if_pos rfl]
    exact mfin _ _ rfl


