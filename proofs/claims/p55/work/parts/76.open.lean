/-! the calls of both: opn -/
theorem c_25 {b : Int} {h : mm_Id → Int → Int} {dh : Int → Int} {nx ns : Int} (hy : 10581 ≤ nx) (hc : kk_core b h dh) (hb : b + 1 ≤ 1000000) {t n : Int} (ht : -2147483648 ≤ t ∧ t < 2147483648) (hn : -2147483648 ≤ n ∧ n < 2147483648) : kk_call 25 241 [zI t, zI n] b h dh nx ns kk_SI := by
  unfold kk_call
  have hx : 5275 ≤ nx := by omega
  have hc0 : kk_core b (mm_up h (40, 0, 0) 0 0) dh := kk_core0 hc
  have fin : ∀ v, kk_SI (zI v) → mm_Cl 241 [zR (40, 0, 0), zI t, zI n] (mm_z h dh nx ns) (fun (r2 : mm_V) (h2 : mm_H) => r2 = zI v ∧ ∃ g2, h2 = mm_z g2 dh nx ns ∧ kk_core (b + 1) g2 dh ∧ ∀ x j, kk_scr x j → g2 x j = h x j) →
      (fun (r : mm_V) (h1 : mm_H) => kk_SI r ∧ ∃ g dh1, h1 = mm_z g dh1 nx ns ∧ mm_Cl 241 [zR (40, 0, 0), zI t, zI n] (mm_z g dh1 nx ns) (fun r2 h2 => r2 = r ∧ ∃ g2, h2 = mm_z g2 dh1 nx ns ∧ kk_core (b + 1) g2 dh1 ∧ ∀ x j, kk_scr x j → g2 x j = h x j)) (zI v) (mm_z h dh nx ns) :=
    fun v h1 h2 => ⟨h1, h, dh, rfl, h2⟩
  have mfin : ∀ v w : Int, w = v → (fun (r2 : mm_V) (h2 : mm_H) => r2 = zI v ∧ ∃ g2, h2 = mm_z g2 dh nx ns ∧ kk_core (b + 1) g2 dh ∧ ∀ x j, kk_scr x j → g2 x j = h x j) (zI w) (mm_z (mm_up h (40, 0, 0) 0 0) dh nx ns) :=
    fun v w e => ⟨by rw [e], _, rfl, kk_coreS hb hc0, fun x j hs => kk_scr0 hs⟩
  rw [r_25_e (hx := hx)]
  refine s55 hx (kk_nmC hc) ht.1 ht.2 (fun s hs => ?_) (fun hs => ?_)
  · have hsT := mm_T13 hs.1
    have hs13 := hs.1
    rw [mm_pR, r_25_0_4a (hty0 := hsT) (hx := hx)]
    refine s56 hsT hx (fun h1n h2n => ?_) (fun hn0 => ?_)
    · have hnN : mm_isN n := ⟨by omega, h1n.2⟩
      have NWn := kk_NWC hc hsT h1n
      have h3n : 0 < h (24, s, n) 0 := by
        have := NWn.1.1
        omega
      rw [mm_pR, r_25_0_6a (hty0 := hsT) (hny0 := hnN) (hx := hx)]
      have H17 := kk_h17 hc
      refine s53t hx (kk_nmC hc) (fun s5 s50 s51 hs5 => ?_) (fun hs5 => ?_)
      · have e5 := (kk_tp1 hs5 hs).symm
        subst e5
        have hD : mm_isD s := ⟨s50, s51⟩
        have hno := kk_tpp hs
        rw [mm_pR, r_25_1_3a (htx3 := hsT) (hnx3 := hnN) (hty0 := hD) (hx := hx)]
        split
        · rename_i k1f
          have ok : (kk_may (h (1, 0, 0) 12) (h (24, s, n) 2) (h (24, s, n) 3) 4 ∨ kk_may (h (1, 0, 0) 12) (h (24, s, n) 2) (h (24, s, n) 3) 2) → mm_Wp 25 (mm_blk 25 4) [zR (1, 0, 0), zI t, zI n, zR (24, s, n), zR (31, s, 0), zU] [] (mm_z h dh nx ns) (fun (r : mm_V) (h1 : mm_H) => kk_SI r ∧ ∃ g dh1, h1 = mm_z g dh1 nx ns ∧ mm_Cl 241 [zR (40, 0, 0), zI t, zI n] (mm_z g dh1 nx ns) (fun r2 h2 => r2 = r ∧ ∃ g2, h2 = mm_z g2 dh1 nx ns ∧ kk_core (b + 1) g2 dh1 ∧ ∀ x j, kk_scr x j → g2 x j = h x j)) := fun wm => by
            rw [r_25_4 (htx4 := hD) (hx := hx)]
            have mo : ∀ (g : mm_Id → Int → Int) (dh1 : Int → Int) (Q2 : mm_V → mm_H → Prop), (∀ x j, 40 ≤ x.1 → g x j = h x j) → kk_lk h g → mm_Wp 241 (mm_blk 241 5) [zR (40, 0, 0), zI t, zI n, zI s, zI 1] [] (mm_z (mm_up g (40, 0, 0) 0 0) dh1 nx ns) Q2 → mm_Cl 241 [zR (40, 0, 0), zI t, zI n] (mm_z g dh1 nx ns) Q2 := fun g dh1 Q2 ek lk q2 => by
              have f29 : mm_up g (40, 0, 0) 0 0 (40, 0, 0) 29 = h (1, 0, 0) 12 := (mm_upj (by decide)).trans ((ek _ _ (by simp)).trans (kk_cal hc).1.symm)
              have f41n : mm_up g (40, 0, 0) 0 0 (41, 0, 0) (36 * s + n - 1) = h (24, s, n) 0 := by rw [mm_upf (by decide)]; exact (ek _ _ (by simp)).trans (kk_nf hc (by omega) h1n).1
              have f44n : mm_up g (40, 0, 0) 0 0 (44, 0, 0) (36 * s + n - 1) = h (24, s, n) 6 := by rw [mm_upf (by decide)]; exact (ek _ _ (by simp)).trans (kk_nf hc (by omega) h1n).2.1
              have f49n : mm_up g (40, 0, 0) 0 0 (49, 0, 0) (36 * s + n - 1) = h (24, s, n) 11 := by rw [mm_upf (by decide)]; exact (ek _ _ (by simp)).trans (kk_nf hc (by omega) h1n).2.2.1
              have f42n : mm_up g (40, 0, 0) 0 0 (42, 0, 0) (36 * s + n - 1) = h (24, s, n) 1 := by rw [mm_upf (by decide)]; exact (ek _ _ (by simp)).trans ((kk_nf hc (by omega) h1n).2.2.2 h2n).1
              have f47n : mm_up g (40, 0, 0) 0 0 (47, 0, 0) (36 * s + n - 1) = h (24, s, n) 2 := by rw [mm_upf (by decide)]; exact (ek _ _ (by simp)).trans ((kk_nf hc (by omega) h1n).2.2.2 h2n).2.1
              have f48n : mm_up g (40, 0, 0) 0 0 (48, 0, 0) (36 * s + n - 1) = h (24, s, n) 3 := by rw [mm_upf (by decide)]; exact (ek _ _ (by simp)).trans ((kk_nf hc (by omega) h1n).2.2.2 h2n).2.2
              rw [r_241_e (hy := hy)]
              refine m181y hy hc (kk_lku (by decide) lk) ht hs ?_
              rw [mm_pI, r_241_0_6 (hy := hy)]
              refine m210y hy (by omega) h1n (by rw [f41n]; exact h3n) ?_
              rw [mm_pI, r_241_0_11 (hy := hy), if_neg (by decide)]
              rw [if_pos (show s < 5 from s51)]
              refine m177y hy (by omega) h1n f41n k1f ?_
              rw [mm_pI, r_241_1_7 (hy := hy), if_neg (by decide)]
              have m4 : mm_Wp 241 (mm_blk 241 4) [zR (40, 0, 0), zI t, zI n, zI s, zU] [] (mm_z (mm_up g (40, 0, 0) 0 0) dh1 nx ns) Q2 := by
                rw [r_241_4 (hy := hy)]
                exact q2
              by_cases w4 : kk_may (h (1, 0, 0) 12) (h (24, s, n) 2) (h (24, s, n) 3) 4
              · refine m203y hy (by omega) h1n f29 f47n f48n w4 ?_
                rw [mm_pI, r_241_3_5 (hy := hy), if_neg (by decide)]
                exact m4
              · refine m203n hy (by omega) h1n f29 f47n f48n w4 ?_
                rw [mm_pI, r_241_3_5 (hy := hy), if_pos rfl]
                refine m203y hy (by omega) h1n f29 f47n f48n (by rcases wm with q | q; exact absurd q w4; exact q) ?_
                rw [mm_pI, r_241_3_11 (hy := hy), if_neg (by decide)]
                exact m4
            have ml : ∀ (G : mm_Id → Int → Int) (dh1 : Int → Int) (Q2 : mm_V → mm_H → Prop) (i : Int), (∀ x j, 40 ≤ x.1 → ¬ (x = (40, 0, 0) ∧ j = 0) → G x j = h x j) → 0 ≤ i → i ≤ 8 → (∀ j, 0 ≤ j → j < i → mm_isD (dh j)) → (i < 8 → ¬ mm_isD (dh i)) → (i < 8 → Q2 (zI (i + 1)) (mm_z (mm_up (mm_up G (62, 0, 0) (i + 1) s) (63, 0, 0) (i + 1) n) dh1 nx ns)) → (i = 8 → Q2 (zI (-4)) (mm_z G dh1 nx ns)) → mm_Wp 241 (mm_blk 241 5) [zR (40, 0, 0), zI t, zI n, zI s, zI 1] [] (mm_z G dh1 nx ns) Q2 := fun G dh1 Q2 i eG i0 i8 g1 g2 KY KN => by
              have e63 : ∀ j, G (63, 0, 0) j = h (63, 0, 0) j := fun j => eG _ _ (by simp) (by simp)
              have end6 : mm_Wp 241 (mm_blk 241 6) [zR (40, 0, 0), zI t, zI n, zI s, zI (i + 1)] [] (mm_z G dh1 nx ns) Q2 := by
                rw [r_241_6 (hy := hy)]
                by_cases z : i = 8
                · rw [if_pos (by omega)]; exact KN z
                · rw [if_neg (by omega)]; exact ⟨by omega, by omega, KY (by omega)⟩
              have Lp : ∀ (d : Nat) (j : Int), i - j = d → 0 ≤ j → mm_Wp 241 (mm_blk 241 5) [zR (40, 0, 0), zI t, zI n, zI s, zI (j + 1)] [] (mm_z G dh1 nx ns) Q2 := by
                intro d
                induction d with
                | zero =>
                  intro j e1 e2
                  have e3 : j = i := by omega
                  subst e3
                  rw [r_241_5 (hy := hy)]
                  by_cases z : j = 8
                  · rw [if_pos (by omega)]; exact end6
                  · rw [if_neg (by omega), e63, ((H17 j i0 (by omega)).2 (g2 (by omega))).1, if_neg (by decide)]
                    exact ⟨by omega, end6⟩
                | succ d ih =>
                  intro j e1 e2
                  have := ((H17 j e2 (by omega)).1 (g1 j e2 (by omega)))
                  rw [r_241_5 (hy := hy), if_neg (by omega), e63, if_pos (by omega), mm_wi (by omega) (by omega)]
                  exact ⟨by omega, ih (j + 1) (by omega) (by omega)⟩
              exact Lp i.toNat 0 (by omega) (by omega)
            have c5 : ∀ (d : Nat) (i : Int), 8 - i = d → 0 ≤ i → (∀ j, 0 ≤ j → j < i → mm_isD (dh j)) → mm_Wp 25 (mm_blk 25 5) [zR (1, 0, 0), zI t, zI n, zR (24, s, n), zR (31, s, 0), zI i] [] (mm_z h dh nx ns) (fun (r : mm_V) (h1 : mm_H) => kk_SI r ∧ ∃ g dh1, h1 = mm_z g dh1 nx ns ∧ mm_Cl 241 [zR (40, 0, 0), zI t, zI n] (mm_z g dh1 nx ns) (fun r2 h2 => r2 = r ∧ ∃ g2, h2 = mm_z g2 dh1 nx ns ∧ kk_core (b + 1) g2 dh1 ∧ ∀ x j, kk_scr x j → g2 x j = h x j)) := by
              intro d
              induction d with
              | zero =>
                intro i e1 i0 g1
                rw [r_25_5 (htx4 := hD) (hx := hx), if_neg (by omega)]
                refine fin (-4) ⟨_, rfl, by omega, by omega⟩ ?_
                exact mo h dh _ (fun _ _ _ => rfl) (kk_lkr h) (ml _ dh _ 8 (fun x j _ q3 => mm_upne' q3) (by omega) (by omega) (fun j j0 j1 => g1 j j0 (by omega)) (fun q => by omega) (fun q => by omega) (fun _ => mfin _ _ rfl))
              | succ d ih =>
                intro i e1 i0 g1
                rw [r_25_5 (htx4 := hD) (hx := hx), if_pos (by omega)]
                refine ⟨⟨i0, by omega⟩, ?_⟩
                by_cases z : 0 ≤ dh i ∧ dh i < 5
                · rw [if_pos z, mm_wi (by omega) (by omega)]
                  exact ih (i + 1) (by omega) (by omega) (fun j j0 j1 => by
                    by_cases y : j = i
                    · rw [y]; exact z
                    · exact g1 j j0 (by omega))
                · rw [if_neg z]
                  have iS : mm_isS i := ⟨i0, by omega⟩
                  refine ⟨⟨i0, by omega⟩, ?_⟩
                  rw [r_90_e (htx0 := iS) (htx1 := hD) (hx := hx)]
                  refine s93 hx iS (by omega) (by omega) (by omega) (fun g g1' g2 => ?_)
                  rw [mm_pU, r_90_0_11 (hx := hx), mm_pU, r_25_5_16 (hx := hx), mm_wi (by omega) (by omega)]
                  refine ⟨⟨_, rfl, by omega, by omega⟩, g, _, rfl, ?_⟩
                  have eg : ∀ x j, ¬ (x = (34, i, 0) ∧ j = 2) → x ≠ (35, i, 0) → g x j = h x j := fun x j a1 a2 => by
                    rw [g2 x j (fun q => a2 q.1), mm_upne' a1]
                  have ek : ∀ x j, 40 ≤ x.1 → g x j = h x j := fun x j q => eg x j (by rintro ⟨q3, _⟩; rw [q3] at q; simp at q) (by intro q3; rw [q3] at q; simp at q)
                  have lk : kk_lk h g := ⟨fun s2 _ _ => by unfold kk_no; rw [eg _ _ (by simp) (by simp), eg _ _ (by simp) (by simp)], fun k k0 k9 => ek _ _ (by simp)⟩
                  refine mo g _ _ ek lk (ml _ _ _ i (fun x j q q3 => by rw [mm_upne' q3]; exact ek x j q) i0 (by omega) g1 (fun _ => z) (fun _ => ?_) (fun q => by omega))
                  obtain ⟨G, hG⟩ : ∃ G, G = mm_up (mm_up (mm_up g (40, 0, 0) 0 0) (62, 0, 0) (i + 1) s) (63, 0, 0) (i + 1) n := ⟨_, rfl⟩
                  rw [← hG]
                  have eG : ∀ x j, ¬ (x = (34, i, 0) ∧ j = 2) → x ≠ (35, i, 0) → ¬ (x = (62, 0, 0) ∧ j = i + 1) → ¬ (x = (63, 0, 0) ∧ j = i + 1) → ¬ (x = (40, 0, 0) ∧ j = 0) → G x j = h x j := fun x j a1 a2 a3 a4 a5 => by
                    rw [hG, mm_upne' a4, mm_upne' a3, mm_upne' a5]; exact eg x j a1 a2
                  have G34 : G (34, i, 0) 2 = n := by rw [hG, mm_upf (by decide), mm_upf (by decide), mm_upf (by decide), g2 _ _ (by simp), mm_ups]
                  have G35 : ∀ a, 0 ≤ a → a < 2160 → G (35, i, 0) a = 0 := fun a a0 a1 => by rw [hG, mm_upf (by decide), mm_upf (by decide), mm_upf (by decide)]; exact g1' a a0 (by omega)
                  have G62 : G (62, 0, 0) (i + 1) = s := by rw [hG, mm_upf (by decide), mm_ups]
                  have G63 : G (63, 0, 0) (i + 1) = n := by rw [hG, mm_ups]
                  have G64 : ∀ a, G (64, 0, 0) a = h (64, 0, 0) a := fun a => eG _ _ (by simp) (by simp) (by simp) (by simp) (by simp)
                  have Gno : ∀ s2, kk_no G s2 = kk_no h s2 := fun s2 => by unfold kk_no; rw [eG _ _ (by simp) (by simp) (by simp) (by simp) (by simp), eG _ _ (by simp) (by simp) (by simp) (by simp) (by simp)]
                  refine ⟨rfl, G, rfl, kk_coreD hb hc (fun x j a1 a2 a3 a4 _ _ a7 => eG x j (by rintro ⟨q, _⟩; rw [q] at a1; simp at a1) (by intro q; rw [q] at a2; simp at a2) (by rintro ⟨q, _⟩; rw [q] at a3; simp at a3) (by rintro ⟨q, _⟩; rw [q] at a4; simp at a4) a7) (fun j j0 j1 => ?_) (fun a a0 a1 => by rw [G64]; exact kk_h18 hc a a0 a1) (fun i2 m i20 i21 m0 m1 y y5 => ?_), fun x j hs => ?_⟩
                  · by_cases y : j = i
                    · subst y
                      rw [if_pos rfl, G34, G62, G63]
                      refine ⟨fun _ => ⟨rfl, h1n, by rw [eG _ _ (by simp) (by simp) (by simp) (by simp) (by simp)]; exact k1f, rfl, by rw [Gno]; exact hno, fun a a0 a1 => ?_⟩, fun q => absurd hD q⟩
                      rw [G35 a a0 a1, G64]
                      exact (((H17 j j0 j1).2 z).2 a a0 a1).symm
                    · have Hj := H17 j j0 j1
                      rw [if_neg y, eG (34, j, 0) 2 (by simp; omega) (by simp) (by simp) (by simp) (by simp), eG (62, 0, 0) (j + 1) (by simp) (by simp) (by simp; omega) (by simp) (by simp), eG (63, 0, 0) (j + 1) (by simp) (by simp) (by simp) (by simp; omega) (by simp), eG (24, dh j, h (34, j, 0) 2) 0 (by simp) (by simp) (by simp) (by simp) (by simp), Gno]
                      refine ⟨fun q => ?_, fun q => ?_⟩
                      · obtain ⟨w1, w2, w3, w4, w5, w6⟩ := Hj.1 q
                        refine ⟨w1, w2, w3, w4, w5, fun a a0 a1 => ?_⟩
                        rw [eG (35, j, 0) a (by simp) (by simp; omega) (by simp) (by simp) (by simp), G64]
                        exact w6 a a0 a1
                      · obtain ⟨w1, w2⟩ := Hj.2 q
                        exact ⟨w1, fun a a0 a1 => by rw [G64]; exact w2 a a0 a1⟩
                  · rw [eG _ _ (by simp) (by simp) (by simp) (by simp) (by simp)] at y
                    rw [eG _ _ (by simp) (by simp) (by simp) (by simp) (by simp)] at y5
                    obtain ⟨j, hj, q, q2⟩ := kk_h19 hc i2 m i20 i21 m0 m1 y y5
                    have ne : j ≠ i := fun w => z (by rw [← w, q]; exact ⟨i20, i21⟩)
                    refine ⟨j, hj, ?_, ?_⟩
                    · rw [if_neg ne]; exact q
                    · rw [eG (34, j, 0) 2 (by simp; omega) (by simp) (by simp) (by simp) (by simp)]; exact q2
                  · exact eG x j (by rintro ⟨q, _⟩; rw [q] at hs; simp [kk_scr] at hs) (by intro q; rw [q] at hs; simp [kk_scr] at hs) (by rintro ⟨q, _⟩; rw [q] at hs; simp [kk_scr] at hs) (by rintro ⟨q, _⟩; rw [q] at hs; simp [kk_scr] at hs) (by rintro ⟨q, q2⟩; rw [q, q2] at hs; simp [kk_scr] at hs)
            exact c5 8 0 (by omega) (by omega) (fun j a b => by omega)
          refine s60 hsT hnN hx (fun w4 => ?_) (fun w4 => ?_)
          · rw [mm_pI, r_25_3_4 (htx3 := hsT) (hnx3 := hnN) (htx4 := hD) (hx := hx), if_neg (by decide)]
            exact ok (Or.inl w4)
          · rw [mm_pI, r_25_3_4 (htx3 := hsT) (hnx3 := hnN) (htx4 := hD) (hx := hx), if_pos rfl]
            refine s60 hsT hnN hx (fun w2 => ?_) (fun w2 => ?_)
            · rw [mm_pI, r_25_3_9 (htx4 := hD) (hx := hx), if_neg (by decide)]
              exact ok (Or.inr w2)
            · rw [mm_pI, r_25_3_9 (htx4 := hD) (hx := hx), if_pos rfl]
              refine fin (-5) ⟨_, rfl, by omega, by omega⟩ ?_
              have ek : ∀ (x : mm_Id) (j : Int), 40 ≤ x.1 → h x j = h x j := fun _ _ _ => rfl
              have lk := kk_lkr h
              have f29 : mm_up h (40, 0, 0) 0 0 (40, 0, 0) 29 = h (1, 0, 0) 12 := (mm_upj (by decide)).trans ((ek _ _ (by simp)).trans (kk_cal hc).1.symm)
              have f41n : mm_up h (40, 0, 0) 0 0 (41, 0, 0) (36 * s + n - 1) = h (24, s, n) 0 := by rw [mm_upf (by decide)]; exact (ek _ _ (by simp)).trans (kk_nf hc (by omega) h1n).1
              have f44n : mm_up h (40, 0, 0) 0 0 (44, 0, 0) (36 * s + n - 1) = h (24, s, n) 6 := by rw [mm_upf (by decide)]; exact (ek _ _ (by simp)).trans (kk_nf hc (by omega) h1n).2.1
              have f49n : mm_up h (40, 0, 0) 0 0 (49, 0, 0) (36 * s + n - 1) = h (24, s, n) 11 := by rw [mm_upf (by decide)]; exact (ek _ _ (by simp)).trans (kk_nf hc (by omega) h1n).2.2.1
              have f42n : mm_up h (40, 0, 0) 0 0 (42, 0, 0) (36 * s + n - 1) = h (24, s, n) 1 := by rw [mm_upf (by decide)]; exact (ek _ _ (by simp)).trans ((kk_nf hc (by omega) h1n).2.2.2 h2n).1
              have f47n : mm_up h (40, 0, 0) 0 0 (47, 0, 0) (36 * s + n - 1) = h (24, s, n) 2 := by rw [mm_upf (by decide)]; exact (ek _ _ (by simp)).trans ((kk_nf hc (by omega) h1n).2.2.2 h2n).2.1
              have f48n : mm_up h (40, 0, 0) 0 0 (48, 0, 0) (36 * s + n - 1) = h (24, s, n) 3 := by rw [mm_upf (by decide)]; exact (ek _ _ (by simp)).trans ((kk_nf hc (by omega) h1n).2.2.2 h2n).2.2
              rw [r_241_e (hy := hy)]
              refine m181y hy hc (kk_lku (by decide) lk) ht hs ?_
              rw [mm_pI, r_241_0_6 (hy := hy)]
              refine m210y hy (by omega) h1n (by rw [f41n]; exact h3n) ?_
              rw [mm_pI, r_241_0_11 (hy := hy), if_neg (by decide)]
              rw [if_pos (show s < 5 from s51)]
              refine m177y hy (by omega) h1n f41n k1f ?_
              rw [mm_pI, r_241_1_7 (hy := hy), if_neg (by decide)]
              refine m203n hy (by omega) h1n f29 f47n f48n w4 ?_
              rw [mm_pI, r_241_3_5 (hy := hy), if_pos rfl]
              refine m203n hy (by omega) h1n f29 f47n f48n w2 ?_
              rw [mm_pI, r_241_3_11 (hy := hy), if_pos rfl]
              exact mfin _ _ rfl
        · rename_i k1f
          rw [r_25_2 (hx := hx)]
          refine fin (-3) ⟨_, rfl, by omega, by omega⟩ ?_
          have ek : ∀ (x : mm_Id) (j : Int), 40 ≤ x.1 → h x j = h x j := fun _ _ _ => rfl
          have lk := kk_lkr h
          have f29 : mm_up h (40, 0, 0) 0 0 (40, 0, 0) 29 = h (1, 0, 0) 12 := (mm_upj (by decide)).trans ((ek _ _ (by simp)).trans (kk_cal hc).1.symm)
          have f41n : mm_up h (40, 0, 0) 0 0 (41, 0, 0) (36 * s + n - 1) = h (24, s, n) 0 := by rw [mm_upf (by decide)]; exact (ek _ _ (by simp)).trans (kk_nf hc (by omega) h1n).1
          have f44n : mm_up h (40, 0, 0) 0 0 (44, 0, 0) (36 * s + n - 1) = h (24, s, n) 6 := by rw [mm_upf (by decide)]; exact (ek _ _ (by simp)).trans (kk_nf hc (by omega) h1n).2.1
          have f49n : mm_up h (40, 0, 0) 0 0 (49, 0, 0) (36 * s + n - 1) = h (24, s, n) 11 := by rw [mm_upf (by decide)]; exact (ek _ _ (by simp)).trans (kk_nf hc (by omega) h1n).2.2.1
          have f42n : mm_up h (40, 0, 0) 0 0 (42, 0, 0) (36 * s + n - 1) = h (24, s, n) 1 := by rw [mm_upf (by decide)]; exact (ek _ _ (by simp)).trans ((kk_nf hc (by omega) h1n).2.2.2 h2n).1
          have f47n : mm_up h (40, 0, 0) 0 0 (47, 0, 0) (36 * s + n - 1) = h (24, s, n) 2 := by rw [mm_upf (by decide)]; exact (ek _ _ (by simp)).trans ((kk_nf hc (by omega) h1n).2.2.2 h2n).2.1
          have f48n : mm_up h (40, 0, 0) 0 0 (48, 0, 0) (36 * s + n - 1) = h (24, s, n) 3 := by rw [mm_upf (by decide)]; exact (ek _ _ (by simp)).trans ((kk_nf hc (by omega) h1n).2.2.2 h2n).2.2
          rw [r_241_e (hy := hy)]
          refine m181y hy hc (kk_lku (by decide) lk) ht hs ?_
          rw [mm_pI, r_241_0_6 (hy := hy)]
          refine m210y hy (by omega) h1n (by rw [f41n]; exact h3n) ?_
          rw [mm_pI, r_241_0_11 (hy := hy), if_neg (by decide)]
          rw [if_pos (show s < 5 from s51)]
          refine m177n hy (by omega) h1n f41n k1f ?_
          rw [mm_pI, r_241_1_7 (hy := hy), if_pos rfl, r_241_2 (hy := hy)]
          exact mfin _ _ rfl
      · have s5 : 5 ≤ s := by
          by_cases z : s < 5
          · exact absurd hs (hs5 s z)
          · omega
        rw [mm_pR, r_25_1_3 (htx3 := hsT) (hnx3 := hnN) (hx := hx), r_25_2 (hx := hx)]
        refine fin (-3) ⟨_, rfl, by omega, by omega⟩ ?_
        have ek : ∀ (x : mm_Id) (j : Int), 40 ≤ x.1 → h x j = h x j := fun _ _ _ => rfl
        have lk := kk_lkr h
        have f29 : mm_up h (40, 0, 0) 0 0 (40, 0, 0) 29 = h (1, 0, 0) 12 := (mm_upj (by decide)).trans ((ek _ _ (by simp)).trans (kk_cal hc).1.symm)
        have f41n : mm_up h (40, 0, 0) 0 0 (41, 0, 0) (36 * s + n - 1) = h (24, s, n) 0 := by rw [mm_upf (by decide)]; exact (ek _ _ (by simp)).trans (kk_nf hc (by omega) h1n).1
        have f44n : mm_up h (40, 0, 0) 0 0 (44, 0, 0) (36 * s + n - 1) = h (24, s, n) 6 := by rw [mm_upf (by decide)]; exact (ek _ _ (by simp)).trans (kk_nf hc (by omega) h1n).2.1
        have f49n : mm_up h (40, 0, 0) 0 0 (49, 0, 0) (36 * s + n - 1) = h (24, s, n) 11 := by rw [mm_upf (by decide)]; exact (ek _ _ (by simp)).trans (kk_nf hc (by omega) h1n).2.2.1
        have f42n : mm_up h (40, 0, 0) 0 0 (42, 0, 0) (36 * s + n - 1) = h (24, s, n) 1 := by rw [mm_upf (by decide)]; exact (ek _ _ (by simp)).trans ((kk_nf hc (by omega) h1n).2.2.2 h2n).1
        have f47n : mm_up h (40, 0, 0) 0 0 (47, 0, 0) (36 * s + n - 1) = h (24, s, n) 2 := by rw [mm_upf (by decide)]; exact (ek _ _ (by simp)).trans ((kk_nf hc (by omega) h1n).2.2.2 h2n).2.1
        have f48n : mm_up h (40, 0, 0) 0 0 (48, 0, 0) (36 * s + n - 1) = h (24, s, n) 3 := by rw [mm_upf (by decide)]; exact (ek _ _ (by simp)).trans ((kk_nf hc (by omega) h1n).2.2.2 h2n).2.2
        rw [r_241_e (hy := hy)]
        refine m181y hy hc (kk_lku (by decide) lk) ht hs ?_
        rw [mm_pI, r_241_0_6 (hy := hy)]
        refine m210y hy (by omega) h1n (by rw [f41n]; exact h3n) ?_
        rw [mm_pI, r_241_0_11 (hy := hy), if_neg (by decide)]
        rw [if_neg (show ¬ s < 5 by omega), r_241_2 (hy := hy)]
        exact mfin _ _ rfl
    · rw [mm_pR, r_25_0_6 (hx := hx)]
      refine fin (-1) ⟨_, rfl, by omega, by omega⟩ ?_
      have ek : ∀ (x : mm_Id) (j : Int), 40 ≤ x.1 → h x j = h x j := fun _ _ _ => rfl
      have lk := kk_lkr h
      rw [r_241_e (hy := hy)]
      refine m181y hy hc (kk_lku (by decide) lk) ht hs ?_
      rw [mm_pI, r_241_0_6 (hy := hy)]
      refine m210z hy (by omega) (fun w => hn0 ((kk_isn hc (by omega)).2 ⟨w.1, by rw [mm_upf (by decide)] at w; exact w.2⟩)) ?_
      rw [mm_pI, r_241_0_11 (hy := hy), if_pos rfl]
      exact mfin _ _ rfl
  · rw [mm_pR, r_25_0_4 (hx := hx)]
    refine s56n hx ?_
    rw [mm_pR, r_25_0_6 (hx := hx)]
    refine fin (-1) ⟨_, rfl, by omega, by omega⟩ ?_
    have ek : ∀ (x : mm_Id) (j : Int), 40 ≤ x.1 → h x j = h x j := fun _ _ _ => rfl
    have lk := kk_lkr h
    rw [r_241_e (hy := hy)]
    refine m181n hy hc (kk_lku (by decide) lk) ht hs ?_
    rw [mm_pI, r_241_0_6 (hy := hy)]
    refine m210n hy ?_
    rw [mm_pI, r_241_0_11 (hy := hy), if_pos rfl]
    exact mfin _ _ rfl


