/-! the calls of both: back -/

theorem c_30 {b : Int} {h : mm_Id → Int → Int} {dh : Int → Int} {nx ns : Int} (hy : 10581 ≤ nx) (hc : kk_core b h dh) (hb : b + 1 ≤ 1000000) {t n : Int} (ht : -2147483648 ≤ t ∧ t < 2147483648) (hn : -2147483648 ≤ n ∧ n < 2147483648) : kk_call 30 252 [zI t, zI n] b h dh nx ns kk_SI := by
  unfold kk_call
  have hx : 5275 ≤ nx := by omega
  have hc0 : kk_core b (mm_up h (40, 0, 0) 0 0) dh := kk_core0 hc
  have fin : ∀ v, kk_SI (zI v) → mm_Cl 252 [zR (40, 0, 0), zI t, zI n] (mm_z h dh nx ns) (fun (r2 : mm_V) (h2 : mm_H) => r2 = zI v ∧ ∃ g2, h2 = mm_z g2 dh nx ns ∧ kk_core (b + 1) g2 dh ∧ ∀ x j, kk_scr x j → g2 x j = h x j) →
      (fun (r : mm_V) (h1 : mm_H) => kk_SI r ∧ ∃ g dh1, h1 = mm_z g dh1 nx ns ∧ mm_Cl 252 [zR (40, 0, 0), zI t, zI n] (mm_z g dh1 nx ns) (fun r2 h2 => r2 = r ∧ ∃ g2, h2 = mm_z g2 dh1 nx ns ∧ kk_core (b + 1) g2 dh1 ∧ ∀ x j, kk_scr x j → g2 x j = h x j)) (zI v) (mm_z h dh nx ns) :=
    fun v h1 h2 => ⟨h1, h, dh, rfl, h2⟩
  have mfin : ∀ v w : Int, w = v → (fun (r2 : mm_V) (h2 : mm_H) => r2 = zI v ∧ ∃ g2, h2 = mm_z g2 dh nx ns ∧ kk_core (b + 1) g2 dh ∧ ∀ x j, kk_scr x j → g2 x j = h x j) (zI w) (mm_z (mm_up h (40, 0, 0) 0 0) dh nx ns) :=
    fun v w e => ⟨by rw [e], _, rfl, kk_coreS hb hc0, fun x j hs => kk_scr0 hs⟩
  have ca := kk_cal hc
  have nm := kk_nmC hc
  rw [r_30_e (hx := hx)]
  refine s53t hx nm (fun d d0 d1 hd => ?_) (fun hd => ?_)
  · have hD : mm_isD d := ⟨d0, d1⟩
    rw [mm_pR, r_30_0_3a (hty0 := hD) (hx := hx)]
    refine s54t hx nm (fun s s0 s1 hs => ?_) (fun hs => ?_)
    · have hS : mm_isS (s - 5) := ⟨by omega, by omega⟩
      have sT := mm_T13 (s := s) ⟨by omega, s1⟩
      have hno := kk_tpp hs
      have dno := kk_tpp hd
      have td := (kk_tl1 nm d0 d1).1 hd.2.1
      have tn := (kk_tl2 nm s0 s1).1 hs.2.1
      have e9 := (kk_snC hc (j := s - 5) (by omega) (by omega)).1
      rw [show 5 + (s - 5) = s by omega] at e9
      have e9 := e9 hno
      have e7 := kk_dsC hc d0 d1 dno
      -- the reference's first part, over a heap that the cls has left, or not
      have pre : ∀ (G : mm_Id → Int → Int) (dh1 : Int → Int) (Q2 : mm_V → mm_H → Prop), (∀ (x : mm_Id) k, 40 ≤ x.1 → G x k = h x k) → (∀ f, (f = 0 ∧ ∀ k, 5 ≤ k → k < 13 → ¬ (n < h (57, 0, 0) k ∧ h (58, 0, 0) k = t)) ∨ (f = 1 ∧ ∃ k, (5 ≤ k ∧ k < 13) ∧ n < h (57, 0, 0) k ∧ h (58, 0, 0) k = t) → mm_Wp 252 (mm_blk 252 3) [zR (40, 0, 0), zI t, zI n, zI d, zI s, zI f, zI 13] [] (mm_z (mm_up G (40, 0, 0) 0 0) dh1 nx ns) Q2) → mm_Cl 252 [zR (40, 0, 0), zI t, zI n] (mm_z G dh1 nx ns) Q2 := fun G dh1 Q2 eG k => by
        have e57 : ∀ k, 0 ≤ k → k < 13 → mm_up G (40, 0, 0) 0 0 (57, 0, 0) k = h (57, 0, 0) k := fun k _ _ => by rw [mm_upf (by decide)]; exact eG _ _ (by decide)
        rw [r_252_e (hy := hy)]
        refine m182h hy hc e57 ht hd d1 ?_
        rw [mm_pI, r_252_0_6 (hy := hy)]
        refine m183h hy hc e57 hn hs s0 ?_
        rw [mm_pI, r_252_0_10 (hy := hy), if_neg (by omega), if_neg (by omega)]
        refine m252l hy (fun f hf => k f ?_)
        have a7 : ∀ q, mm_up G (40, 0, 0) 0 0 (57, 0, 0) q = h (57, 0, 0) q := fun q => by rw [mm_upf (by decide)]; exact eG _ _ (by decide)
        have a8 : ∀ q, mm_up G (40, 0, 0) 0 0 (58, 0, 0) q = h (58, 0, 0) q := fun q => by rw [mm_upf (by decide)]; exact eG _ _ (by decide)
        simp only [a7, a8] at hf
        exact hf
      have b58 : ∀ (G : mm_Id → Int → Int), (∀ (x : mm_Id) k, 40 ≤ x.1 → G x k = h x k) → mm_up G (40, 0, 0) 0 0 (58, 0, 0) s = h (33, s - 5, 0) 2 := fun G eG => by rw [mm_upf (by decide), eG _ _ (by decide)]; exact e9.1.symm
      have b29 : ∀ (G : mm_Id → Int → Int), (∀ (x : mm_Id) k, 40 ≤ x.1 → G x k = h x k) → mm_up G (40, 0, 0) 0 0 (40, 0, 0) 29 = h (1, 0, 0) 12 := fun G eG => by rw [mm_upj (by decide), eG _ _ (by decide)]; exact ca.1.symm
      have hh : ∀ (x : mm_Id) k, 40 ≤ x.1 → h x k = h x k := fun _ _ _ => rfl
      rw [mm_pR, r_30_0_7c (htx3 := hD) (hty0 := hS) (hx := hx)]
      by_cases z : h (33, s - 5, 0) 2 = t
      · rw [if_pos z]
        refine s74 hx (fun M M0 M1 M2 => ?_)
        have lat : n < M ↔ ∃ k, (5 ≤ k ∧ k < 13) ∧ n < h (57, 0, 0) k ∧ h (58, 0, 0) k = t := by
          constructor
          · intro w
            rcases M2 with q | ⟨i, hi, q1, q2⟩
            · omega
            · have y := kk_n33 hc hi.1 hi.2
              refine ⟨5 + i, by omega, by omega, ?_⟩
              have c := (kk_snC hc hi.1 hi.2).1
              unfold kk_no at c
              rw [if_neg (by omega), show 5 + i - 5 = i by omega] at c
              rw [← (c (by omega)).1]
              exact q1
          · rintro ⟨k, hk, q1, q2⟩
            have y := kk_n33 hc (i := k - 5) (by omega) (by omega)
            rw [show 5 + (k - 5) = k by omega] at y
            have c := (kk_snC hc (j := k - 5) (by omega) (by omega)).1
            unfold kk_no at c
            rw [if_neg (by omega), show 5 + (k - 5) - 5 = k - 5 by omega, show 5 + (k - 5) = k by omega] at c
            have c2 := (c (by omega)).1
            have := M1 (k - 5) (by omega) (by omega) (by omega)
            omega
        rw [mm_pI, r_30_2_7 (htx3 := hD) (htx4 := hS) (hx := hx)]
        by_cases l : n < M
        · rw [if_pos l, r_30_3 (hx := hx)]
          refine fin (-3) ⟨_, rfl, by omega, by omega⟩ ?_
          refine pre h dh _ hh (fun f hf => ?_)
          have f1 : f = 1 := by
            rcases hf with ⟨_, q⟩ | ⟨q, _⟩
            · obtain ⟨k, hk, w⟩ := lat.1 l
              exact absurd w (q k hk.1 hk.2)
            · exact q
          rw [r_252_3 (hy := hy), if_neg (by omega)]
          refine ⟨by omega, ?_⟩
          rw [b58 h hh, if_pos z, if_neg (by omega), r_252_8 (hy := hy)]
          exact mfin _ _ rfl
        · rw [if_neg l]
          have nl : ∀ f : Int, (f = 0 ∧ ∀ k, 5 ≤ k → k < 13 → ¬ (n < h (57, 0, 0) k ∧ h (58, 0, 0) k = t)) ∨ (f = 1 ∧ ∃ k, (5 ≤ k ∧ k < 13) ∧ n < h (57, 0, 0) k ∧ h (58, 0, 0) k = t) → f = 0 := fun f hf => by
            rcases hf with ⟨q, _⟩ | ⟨_, q⟩
            · exact q
            · exact absurd (lat.2 q) l
          split
          · rename_i c0
            obtain ⟨U, hU⟩ : ∃ U, U = kk_cnt (fun c => ∃ n p, (1 ≤ n ∧ n < 37) ∧ (0 ≤ p ∧ p < 36) ∧ (¬ (h (24, s, n) 0 = 1 ∧ h (24, s, n) 5 = 0) ∧ h (27, s, n) p ≠ 0) ∧ h (43, 0, 0) (36 * (36 * s + n - 1) + p) = c) := ⟨_, rfl⟩
            have cU := kk_ubl hc.1 (s := s) ⟨by omega, s1⟩
            rw [← hU] at cU
            rw [show 5 + (s - 5) = s by omega]
            refine s161 sT hx (kk_b9 hc sT) ?_
            rw [cU, mm_pI, r_30_5_3 (htx3 := hD) (htx4 := hS) (hx := hx), e7.2.1.1]
            by_cases lt : h (59, 0, 0) d < U
            · rw [if_pos lt]
              refine fin (-4) ⟨_, rfl, by omega, by omega⟩ ?_
              refine pre h dh _ hh (fun f hf => ?_)
              rw [r_252_3 (hy := hy), if_neg (by omega)]
              refine ⟨by omega, ?_⟩
              rw [b58 h hh, if_pos z, if_pos (nl f hf), b29 h hh, if_pos c0]
              refine m252p hy hc (U := U) rfl ⟨d0, d1⟩ ⟨s0, s1⟩ hno (fun x k q q2 => mm_upne' q2) hU (fun _ g2 w1 w2 w3 => ?_) (fun w => absurd lt w)
              refine ⟨rfl, g2, rfl, kk_coreS hb (kk_rst hc ⟨d0, d1⟩ dno w1 w2 (fun x k q1 q2 q3 q4 => by rw [w3 x k q1 q2 q3, mm_upne' q4])), fun x k q => ?_⟩
              have q6 := q
              unfold kk_scr at q6
              obtain ⟨f, a, c⟩ := x
              simp at q6
              rw [w3 _ k (kk_sx6 (by omega)) (kk_sx6 (by omega)) (by show f ≠ 56; omega)]
              exact kk_scr0 q
            · rw [if_neg lt]
              rw [show 5 + (s - 5) = s by omega]
              have h22 : ∀ a, mm_isT a → h (22, a, 0) 2 = kk_as a := hc.1.1.2.2.2.2.2.2.2.2.2.1
              refine s165 (mm_td hD) sT hx (by omega) hc.1.1.2.2.2.2.2.2.2.1 (fun n n0 n1 => kk_nwC hc (mm_td hD) ⟨n0, n1⟩) (fun n n0 n1 => kk_nwC hc sT ⟨n0, n1⟩) (h22 _ (mm_td hD)) (fun hB bR bC bF => ?_)
              have bF2 : ∀ (f : Nat) a c k, f < 40 → ¬ (f = 15 ∧ k = 7) → f ≠ 17 → f ≠ 18 → f ≠ 19 → ¬ (24 ≤ f ∧ f ≤ 30 ∧ a = d ∧ 1 ≤ c ∧ c < 37) → hB (f, a, c) k = h (f, a, c) k := fun f a c k f0 q1 q2 q3 q4 q5 =>
                bF _ _ (by unfold kk_ct; rintro (⟨v, v2⟩ | v | v | v) <;> simp at v <;> omega) (by unfold kk_tr; simp; omega)
              have b40 : ∀ (x : mm_Id) k, 40 ≤ x.1 → hB x k = h x k := fun x k q => bF x k (by unfold kk_ct; rintro (⟨v, _⟩ | v | v | v) <;> (rw [v] at q; simp at q)) (by unfold kk_tr; omega)
              rw [mm_pU, r_30_6_5 (htx3 := hD) (hx := hx)]
              refine s65t hx hc hD sT bR bC (by rw [bF2 22 _ 0 2 (by decide) (by omega) (by decide) (by decide) (by decide) (by omega)]; exact h22 _ (mm_td hD)) (fun hcc dh2 cR cl cp cF c40 cfl dcl d2 => ?_)
              have cF3 : ∀ (f : Nat) a c k, f < 40 → ¬ (f = 15 ∧ k = 7) → f ≠ 17 → f ≠ 18 → f ≠ 19 → ¬ (24 ≤ f ∧ f ≤ 30 ∧ a = d ∧ 1 ≤ c ∧ c < 37) → ¬ (f = 31 ∧ a = d ∧ k = 6) → hcc (f, a, c) k = h (f, a, c) k := fun f a c k f0 q1 q2 q3 q4 q5 q6 => (cF f a c k f0 q1 q2 q3 q4 q5 q6).trans (bF2 f a c k f0 q1 q2 q3 q4 q5)
              have e40 : ∀ (x : mm_Id) k, 40 ≤ x.1 → hcc x k = h x k := fun x k q => (c40 x k q).trans (b40 x k q)
              have nw2 : ∀ a n, 0 ≤ a → a < 18 → 1 ≤ n → n < 37 → kk_nw hcc a n := fun a n a0 a1 n0 n1 => by
                by_cases q : a = d
                · rw [q]
                  by_cases w : h (24, s, n) 0 = 1 ∧ h (24, s, n) 5 = 0
                  · exact kk_nwcl (cl n n0 n1 w)
                  · exact kk_nwcp (cp n n0 n1 w) (kk_nwC hc sT ⟨n0, n1⟩)
                · exact kk_nwcp (kk_cpdr (fun f k f0 f1 => cF3 f a n k (by omega) (by omega) (by omega) (by omega) (by omega) (by omega) (by omega))) (kk_nwC hc (mm_T18 ⟨a0, a1⟩) ⟨n0, n1⟩)
              rw [mm_pU, r_30_6_8 (hx := hx)]
              refine s64p hx cR nw2 (fun a a0 a1 => ?_) (fun g k1 k2 k3 => ?_)
              · rw [cF3 22 a 0 2 (by decide) (by omega) (by decide) (by decide) (by decide) (by omega) (by omega), h22 a (mm_T18 ⟨by omega, a1⟩)]
                exact if_neg (by omega)
              have ek : ∀ (x : mm_Id) k, 40 ≤ x.1 → g x k = h x k := fun x k q => by rw [k2 x k q]; exact e40 x k q
              rw [mm_pI, r_30_6_10 (hx := hx)]
              refine ⟨⟨_, rfl, by omega, by omega⟩, g, dh2, rfl, ?_⟩
              refine pre g dh2 _ ek (fun f hf => ?_)
              rw [r_252_3 (hy := hy), if_neg (by omega)]
              refine ⟨by omega, ?_⟩
              rw [b58 g ek, if_pos z, if_pos (nl f hf), b29 g ek, if_pos c0]
              refine m252p hy hc (U := U) rfl ⟨d0, d1⟩ ⟨s0, s1⟩ hno (fun x k q q2 => (mm_upne' q2).trans (ek x k q)) hU (fun w => absurd w lt) (fun _ gm0 gm3 mt m28 mo mz mE m53 oF o0 ef cb => ?_)
              have U1 : ∀ n, 1 ≤ n → n < 37 → ((gm0 (41, 0, 0) (36 * d + n - 1) = 1 ∧ kk_ef gm0 d n = 0) ↔ (h (24, s, n) 0 = 1 ∧ h (24, s, n) 5 = 0)) := fun n n0 n1 => kk_unu hc ⟨by omega, by omega⟩ ⟨n0, n1⟩ mt
              have m44 : ∀ n, 1 ≤ n → n < 37 → (h (24, s, n) 0 = 1 ∧ h (24, s, n) 5 = 0) ∨ (gm3 (44, 0, 0) (36 * d + n - 1) = h (44, 0, 0) (36 * s + n - 1) ∧ gm3 (41, 0, 0) (36 * d + n - 1) = h (41, 0, 0) (36 * s + n - 1)) := fun n n0 n1 => by
                by_cases w : h (24, s, n) 0 = 1 ∧ h (24, s, n) 5 = 0
                · exact Or.inl w
                · refine Or.inr ⟨?_, ?_⟩
                  · rw [mE d n _ _ (fun v => w v.2) n0 n1 (Or.inl ⟨kk_f44, rfl⟩)]; exact (mt n n0 n1).1 44 kk_f44
                  · rw [mE d n _ _ (fun v => w v.2) n0 n1 (Or.inl ⟨kk_f41, rfl⟩)]; exact (mt n n0 n1).1 41 kk_f41
              refine m194u hy hc hD (fun n n0 n1 => ?_) (fun n n0 n1 w => ?_) (fun n n0 n1 w => ?_) (fun f k hf => ?_) (fun gm y4 y5 y6 => ?_)
              · rcases m44 n n0 n1 with w | w
                · rw [(mz n n0 n1 w).1.2.2.1]; omega
                · rw [w.1]; exact (kk_mwC hc (s := s) (by omega) ⟨n0, n1⟩).2.1
              · rcases m44 n n0 n1 with v | v
                · exact (mz n n0 n1 v).1.2.2.1
                · rw [v.1]
                  exact (kk_MWC hc (s := s) (by omega) ⟨n0, n1⟩).2.2.1 (by omega)
              · by_cases v : h (24, s, n) 0 = 1 ∧ h (24, s, n) 5 = 0
                · have := (mz n n0 n1 v).1.1
                  omega
                · rw [ef, mE d n _ _ (fun v2 => v v2.2) n0 n1 (Or.inl ⟨kk_f41, rfl⟩)] at w
                  exact v ((U1 n n0 n1).1 w)
              · rw [oF _ _ (by show f < 41 ∨ 53 < f; omega) (by show f ≠ 56; omega), mm_upne' (by rintro ⟨v, _⟩; simp at v; omega)]
                exact ek _ _ (by show 40 ≤ f; omega)
              have gF : ∀ (f : Nat) a c k, 40 ≤ f → f < 41 ∨ 53 < f → f ≠ 56 → f ≠ 63 → f ≠ 64 → ¬ (f = 40 ∧ k = 0) → gm (f, a, c) k = h (f, a, c) k := fun f a c k q q1 q2 q3 q4 q5 => by
                rw [y4 _ _ q3 q4, oF _ _ q1 q2, mm_upne' (by rintro ⟨v, v2⟩; simp at v; omega)]
                exact ek _ _ q
              have mz' : ∀ n, 1 ≤ n → n < 37 → (h (24, s, n) 0 = 1 ∧ h (24, s, n) 5 = 0) → kk_mz gm (36 * d + n - 1) := fun n n0 n1 q => by
                have m := mz n n0 n1 q
                unfold kk_mz
                rw [y4 _ _ (by decide) (by decide), y4 _ _ (by decide) (by decide), y4 _ _ (by decide) (by decide), y4 _ _ (by decide) (by decide)]
                exact ⟨m.1, fun p p0 p1 => by rw [y4 _ _ (by decide) (by decide)]; exact m.2 p p0 p1⟩
              have mE' : ∀ a n x k, ¬ (a = d ∧ h (24, s, n) 0 = 1 ∧ h (24, s, n) 5 = 0) → 1 ≤ n → n < 37 → kk_mx (36 * a + n - 1) x k → gm x k = gm0 x k := fun a n x k q n0 n1 hx2 => by
                have r := kk_mxr hx2
                rw [y4 x k (by omega) (by omega)]
                exact mE a n x k q n0 n1 hx2
              have m53' : ∀ k, gm (53, 0, 0) k = gm0 (53, 0, 0) k := fun k => by rw [y4 _ _ (by decide) (by decide)]; exact m53 k
              rw [mm_pU, r_252_14_3 (hy := hy)]
              refine m208p hy (fun k k0 k9 => ?_) (fun k n k0 k9 n0 n1 => ?_) (fun g2 m1 m2 m3 => ?_)
              · rw [gF 60 0 0 k (by omega) (by omega) (by omega) (by omega) (by omega) (by omega)]
                exact hc.1.2.2.1.2.2.2.2.2.2.2.2.2.1 k k0 (by omega)
              · by_cases q : k = d
                · rw [q]
                  have w := kk_mwC hc (s := s) (n := n) ⟨by omega, by omega⟩ ⟨n0, n1⟩
                  by_cases v : h (24, s, n) 0 = 1 ∧ h (24, s, n) 5 = 0
                  · have y := mz' n n0 n1 v
                    unfold kk_mw
                    rw [m53', (mt n n0 n1).1 53 kk_f53, y.1.2.2.1, y.1.2.2.2]
                    exact ⟨w.1, by omega, by omega⟩
                  · refine kk_mwm (kk_mst (kk_msr ?_ ?_ (fun x k hx2 => mE' d n x k (fun v2 => v v2.2) n0 n1 hx2)) (mt n n0 n1)) w
                    · rw [(mt n n0 n1).1 44 kk_f44]; exact w.2.1.2
                    · rw [(mt n n0 n1).1 49 kk_f49]; exact w.2.2.2
                · have w := kk_mwC hc (s := k) (n := n) (by omega) ⟨n0, n1⟩
                  exact kk_mwm (kk_msr w.2.1.2 w.2.2.2 (fun x i hx2 => by rw [mE' k n x i (fun v => q v.1) n0 n1 hx2]; exact mo k x i q (by omega) ⟨n, n0, n1, hx2⟩)) w
              have WP : kk_W b (kk_mix hcc gm) dh2 := by
                refine kk_tuW (i := d) (s := s) (v := d) (gm0 := gm0) (by omega) hc ⟨d0, d1⟩ ⟨s0, s1⟩ hno (Or.inr ⟨by omega, by rw [kk_NC hc d d0 (by omega)]; exact dno⟩) cR cl cp (fun f a c k f0 q1 q2 q3 q4 q5 q6 q7 q8 => cF3 f a c k f0 q1 q2 q3 q4 q5 (by omega)) cfl ?_ ?_ ?_ mt m28 mo mz' mE' m53' (fun k => ?_) (fun f a c k q q1 q2 q3 q4 q5 q6 q7 => gF f a c k q q1 q2 q3 q4 (by omega)) (fun q q0 q1 e => ⟨dcl q q0 q1 e, y5 q q0 q1 e⟩) (fun q q0 q1 e => ⟨d2 q q0 q1 e, y6 q q0 q1 e⟩) (fun _ => ?_)
                · rw [cF3 1 0 0 10 (by decide) (by omega) (by decide) (by decide) (by decide) (by omega) (by omega), gF 40 0 0 24 (by omega) (by omega) (by omega) (by omega) (by omega) (by omega)]
                  exact ⟨hc.1.2.2.1.2.1.1, Int.le_refl _, hc.1.2.2.1.2.1.2.2⟩
                · rw [cF3 1 0 0 10 (by decide) (by omega) (by decide) (by decide) (by decide) (by omega) (by omega), cF3 31 d 0 3 (by decide) (by omega) (by decide) (by decide) (by decide) (by omega) (by omega), gF 57 0 0 d (by omega) (by omega) (by omega) (by omega) (by omega) (by omega)]
                  have w := hc.1.2.2.1.2.2.2.2.1 d d0 d1
                  rw [kk_n5 d1] at w
                  exact ⟨(kk_n31 hc d0 d1).1, by omega, w.2⟩
                · rw [cF3 31 d 0 4 (by decide) (by omega) (by decide) (by decide) (by decide) (by omega) (by omega), cF3 31 d 0 5 (by decide) (by omega) (by decide) (by decide) (by decide) (by omega) (by omega), gF 58 0 0 d (by omega) (by omega) (by omega) (by omega) (by omega) (by omega), gF 59 0 0 d (by omega) (by omega) (by omega) (by omega) (by omega) (by omega)]
                  refine ⟨e7.1, e7.2.1, fun u u0 u1 => ?_⟩
                  rw [cF3 32 d 0 u (by decide) (by omega) (by decide) (by decide) (by decide) (by omega) (by omega), gF 61 0 0 _ (by omega) (by omega) (by omega) (by omega) (by omega) (by omega)]
                  exact e7.2.2 u u0 u1
                · rw [y4 _ _ (by decide) (by decide), oF _ _ (by decide) (by decide), o0 _ _ (by decide)]
                · have bsF : kk_bs (kk_mix hcc gm) d = kk_bs gm3 d := by
                    rw [kk_bse (h := gm3) (fun x j q => by rw [kk_mixM (by omega)]; exact y4 x j (by omega) (by omega))]
                  rw [bsF, gF 59 0 0 d (by omega) (by omega) (by omega) (by omega) (by omega) (by omega)]
                  exact cb
              have gc : ∀ (x : mm_Id) k, x.1 < 40 → gm x k = g x k := fun x k q => by
                rw [y4 x k (by omega) (by omega), oF x k (by omega) (by omega), kk_clU q (by simp)]
              rw [mm_pU, r_252_14_5 (hy := hy)]
              refine ⟨rfl, g2, rfl, kk_coreS hb (kk_downC WP k1 m1 (fun x k q => by rw [m2 x k q]; exact gc x k q)), fun x k q => ?_⟩
              rw [m3 x k q]
              rcases kk_scrC q with q5 | q5
              · have q6 := q
                unfold kk_scr at q6
                obtain ⟨f, a, c⟩ := x
                simp at q5 q6
                exact gF f a c k (by omega) (by omega) (by omega) (by omega) (by omega) (by omega)
              · rw [gc x k (by omega), k3 x k q5.1 q5.2]
                obtain ⟨f, a, c⟩ := x
                simp at q5
                exact cF3 f a c k (by omega) (by omega) (by omega) (by omega) (by omega) (by omega) (by omega)
          · rename_i c0
            refine fin (-5) ⟨_, rfl, by omega, by omega⟩ ?_
            refine pre h dh _ hh (fun f hf => ?_)
            rw [r_252_3 (hy := hy), if_neg (by omega)]
            refine ⟨by omega, ?_⟩
            rw [b58 h hh, if_pos z, if_pos (nl f hf), b29 h hh, if_neg c0]
            exact mfin _ _ rfl
      · rw [if_neg z, r_30_3 (hx := hx)]
        refine fin (-3) ⟨_, rfl, by omega, by omega⟩ ?_
        refine pre h dh _ hh (fun f hf => ?_)
        rw [r_252_3 (hy := hy), if_neg (by omega)]
        refine ⟨by omega, ?_⟩
        rw [b58 h hh, if_neg z, r_252_8 (hy := hy)]
        exact mfin _ _ rfl
    · rw [mm_pR, r_30_0_7b (htx3 := hD) (hx := hx), r_30_1 (hx := hx)]
      refine fin (-1) ⟨_, rfl, by omega, by omega⟩ ?_
      rw [r_252_e (hy := hy)]
      refine m182y hy hc (kk_lku (by decide) (kk_lkr h)) ht hd d1 ?_
      rw [mm_pI, r_252_0_6 (hy := hy)]
      refine m183n hy hc (kk_lku (by decide) (kk_lkr h)) hn hs ?_
      rw [mm_pI, r_252_0_10 (hy := hy), if_neg (by omega), if_pos (by decide), r_252_1 (hy := hy)]
      exact mfin _ _ rfl
  · rw [mm_pR, r_30_0_3 (hx := hx)]
    refine s54t hx nm (fun s s0 s1 hs => ?_) (fun hs => ?_)
    · rw [mm_pR, r_30_0_7a (hty0 := ⟨by omega, by omega⟩) (hx := hx), r_30_1 (hx := hx)]
      refine fin (-1) ⟨_, rfl, by omega, by omega⟩ ?_
      rw [r_252_e (hy := hy)]
      refine m182n hy hc (kk_lku (by decide) (kk_lkr h)) ht hd ?_
      rw [mm_pI, r_252_0_6 (hy := hy)]
      refine m183y hy hc (kk_lku (by decide) (kk_lkr h)) hn hs s0 ?_
      rw [mm_pI, r_252_0_10 (hy := hy), if_pos (by decide), r_252_1 (hy := hy)]
      exact mfin _ _ rfl
    · rw [mm_pR, r_30_0_7 (hx := hx), r_30_1 (hx := hx)]
      refine fin (-1) ⟨_, rfl, by omega, by omega⟩ ?_
      rw [r_252_e (hy := hy)]
      refine m182n hy hc (kk_lku (by decide) (kk_lkr h)) ht hd ?_
      rw [mm_pI, r_252_0_6 (hy := hy)]
      refine m183n hy hc (kk_lku (by decide) (kk_lkr h)) hn hs ?_
      rw [mm_pI, r_252_0_10 (hy := hy), if_pos (by decide), r_252_1 (hy := hy)]
      exact mfin _ _ rfl


