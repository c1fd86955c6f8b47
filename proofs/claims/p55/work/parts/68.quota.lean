/-! the calls of both: quota, limit -/
theorem kk_bse {h g : mm_Id → Int → Int} (e : ∀ x j, (x.1 = 41 ∨ x.1 = 43) → g x j = h x j) : kk_bs g = kk_bs h := by
  funext s b
  unfold kk_bs
  simp only [fun k => e (41, 0, 0) k (Or.inl rfl), fun k => e (43, 0, 0) k (Or.inr rfl)]
theorem kk_bre {h g : mm_Id → Int → Int} {s : Int} (e : ∀ x j, (x.1 = 41 ∨ x.1 = 43) → g x j = h x j) (q : kk_br h s) : kk_br g s := by
  unfold kk_br
  simp only [fun k => e (43, 0, 0) k (Or.inr rfl)]
  exact q
theorem c_33 {b : Int} {h : mm_Id → Int → Int} {dh : Int → Int} {nx ns : Int} (hy : 10581 ≤ nx) (hc : kk_core b h dh) (hb : b + 1 ≤ 1000000) {t n : Int} (ht : -2147483648 ≤ t ∧ t < 2147483648) (hn : -2147483648 ≤ n ∧ n < 2147483648) : kk_call 33 255 [zI t, zI n] b h dh nx ns kk_SI := by
  unfold kk_call
  have hx : 5275 ≤ nx := by omega
  have hc0 : kk_core b (mm_up h (40, 0, 0) 0 0) dh := kk_core0 hc
  have fin : ∀ v, kk_SI (zI v) → mm_Cl 255 [zR (40, 0, 0), zI t, zI n] (mm_z h dh nx ns) (fun (r2 : mm_V) (h2 : mm_H) => r2 = zI v ∧ ∃ g2, h2 = mm_z g2 dh nx ns ∧ kk_core (b + 1) g2 dh ∧ ∀ x j, kk_scr x j → g2 x j = h x j) →
      (fun (r : mm_V) (h1 : mm_H) => kk_SI r ∧ ∃ g dh1, h1 = mm_z g dh1 nx ns ∧ mm_Cl 255 [zR (40, 0, 0), zI t, zI n] (mm_z g dh1 nx ns) (fun r2 h2 => r2 = r ∧ ∃ g2, h2 = mm_z g2 dh1 nx ns ∧ kk_core (b + 1) g2 dh1 ∧ ∀ x j, kk_scr x j → g2 x j = h x j)) (zI v) (mm_z h dh nx ns) :=
    fun v h1 h2 => ⟨h1, h, dh, rfl, h2⟩
  have mfin : ∀ v w : Int, w = v → (fun (r2 : mm_V) (h2 : mm_H) => r2 = zI v ∧ ∃ g2, h2 = mm_z g2 dh nx ns ∧ kk_core (b + 1) g2 dh ∧ ∀ x j, kk_scr x j → g2 x j = h x j) (zI w) (mm_z (mm_up h (40, 0, 0) 0 0) dh nx ns) :=
    fun v w e => ⟨by rw [e], _, rfl, kk_coreS hb hc0, fun x j hs => kk_scr0 hs⟩
  have ca := kk_cal hc
  rw [r_33_e (hx := hx)]
  refine s53t hx (kk_nmC hc) (fun s s0 s1 hs => ?_) (fun hs => ?_)
  · have hD : mm_isD s := ⟨s0, s1⟩
    have e7 := kk_dsC hc s0 s1 (kk_tpp hs)
    have tb := kk_tbl hc.1 (t := s) ⟨s0, by omega⟩
    obtain ⟨v, hv⟩ : ∃ v, v = kk_cnt (kk_bs h s) := ⟨_, rfl⟩
    rw [← hv] at tb
    have bad : ¬ (0 ≤ n ∧ n ≤ 400) → mm_Wp 33 (mm_blk 33 2) [zR (1, 0, 0), zI t, zI n, zR (31, s, 0), zU] [] (mm_z h dh nx ns) (fun (r : mm_V) (h1 : mm_H) => kk_SI r ∧ ∃ g dh1, h1 = mm_z g dh1 nx ns ∧ mm_Cl 255 [zR (40, 0, 0), zI t, zI n] (mm_z g dh1 nx ns) (fun r2 h2 => r2 = r ∧ ∃ g2, h2 = mm_z g2 dh1 nx ns ∧ kk_core (b + 1) g2 dh1 ∧ ∀ x j, kk_scr x j → g2 x j = h x j)) := fun w => by
      rw [r_33_2 (hx := hx)]
      refine fin (-2) ⟨_, rfl, by omega, by omega⟩ ?_
      rw [r_255_e (hy := hy)]
      refine m182y hy hc (kk_lku (by decide) (kk_lkr h)) ht hs s1 ?_
      rw [mm_pI, r_255_0_6 (hy := hy), if_neg (by omega)]
      refine m174n hy w ?_
      rw [mm_pI, r_255_1_5 (hy := hy), if_pos rfl]
      exact mfin _ _ rfl
    rw [mm_pR, r_33_0_3a (hty0 := hD) (hx := hx)]
    split
    · exact bad (by omega)
    · split
      · exact bad (by omega)
      · refine s160 (mm_T13 ⟨s0, by omega⟩) hx (kk_b9 hc (mm_T13 ⟨s0, by omega⟩)) ?_
        rw [mm_pI, r_33_3_3 (htx3 := hD) (hx := hx), tb]
        by_cases c1 : n < v
        · rw [if_pos c1]
          refine fin (-3) ⟨_, rfl, by omega, by omega⟩ ?_
          rw [r_255_e (hy := hy)]
          refine m182y hy hc (kk_lku (by decide) (kk_lkr h)) ht hs s1 ?_
          rw [mm_pI, r_255_0_6 (hy := hy), if_neg (by omega)]
          refine m174y hy (by omega) ?_
          rw [mm_pI, r_255_1_5 (hy := hy), if_neg (by decide)]
          refine m200 hy (by omega) (kk_brC hc0 (by omega)) (fun g0 q0 => ?_)
          rw [mm_pI, r_255_2_3 (hy := hy), kk_bsu, ← hv, if_pos c1]
          exact ⟨rfl, g0, rfl, kk_see hb hc q0⟩
        · rw [if_neg c1]
          split
          · rename_i c0
            have hq : kk_cnt (kk_bs h s) ≤ n := by rw [← hv]; omega
            have WP : ∀ gq : mm_Id → Int → Int, (∀ x j, 40 ≤ x.1 → x.1 ≠ 56 → ¬ (x = (40, 0, 0) ∧ j = 0) → gq x j = h x j) → kk_W b (kk_mix (mm_up h (31, s, 0) 5 n) (mm_up gq (59, 0, 0) s n)) dh := fun gq eq => by
              have E : ∀ x j, ¬ (x = (31, s, 0) ∧ j = 5) → ¬ (x = (59, 0, 0) ∧ j = s) → ¬ (x = (40, 0, 0) ∧ j = 0) → x.1 ≠ 56 → (kk_mix (mm_up h (31, s, 0) 5 n) (mm_up gq (59, 0, 0) s n)) x j = h x j := fun x j q1 q2 q3 q4 => by
                by_cases q : x.1 < 40
                · rw [kk_mixC q, mm_upne' q1]
                · rw [kk_mixM (by omega), mm_upne' q2, eq x j (by omega) q4 q3]
              have no : ∀ s2, kk_no (kk_mix (mm_up h (31, s, 0) 5 n) (mm_up gq (59, 0, 0) s n)) s2 = kk_no h s2 := fun s2 => by
                unfold kk_no
                rw [E _ _ (by simp) (by simp) (by simp) (by simp), E _ _ (by simp) (by simp) (by simp) (by simp)]
              have bs : ∀ s2 c, kk_bs (kk_mix (mm_up h (31, s, 0) 5 n) (mm_up gq (59, 0, 0) s n)) s2 c ↔ kk_bs h s2 c := fun s2 c => by
                unfold kk_bs
                simp only [fun k => E (41, 0, 0) k (by simp) (by simp) (by simp) (by simp), fun k => E (43, 0, 0) k (by simp) (by simp) (by simp) (by simp)]
              refine kk_WD (fun x j hx2 => E x j ?_ ?_ ?_ ?_) (kk_KGe (fun x j hx2 => E x j ?_ ?_ ?_ ?_) hc.1.2.2.2) ?_ ?_ ?_ ?_ hc.1
              · rintro ⟨q, q2⟩; subst q; simp [kk_wd] at hx2 <;> omega
              · rintro ⟨q, q2⟩; subst q; simp [kk_wd] at hx2 <;> omega
              · rintro ⟨q, q2⟩; subst q; simp [kk_wd] at hx2; omega
              · intro q; exact hx2 (by simp [kk_wd, q])
              · rintro ⟨q, q2⟩; subst q; simp [kk_kgx] at hx2 <;> omega
              · rintro ⟨q, q2⟩; subst q; simp [kk_kgx] at hx2 <;> omega
              · rintro ⟨q, q2⟩; subst q; simp [kk_kgx] at hx2; omega
              · intro q; unfold kk_kgx at hx2; rcases hx2 with ⟨q2, _⟩ | q2 | q2 | q2 | q2 | ⟨q2, _⟩ | ⟨q2, _⟩ <;> first | omega | (rw [q2] at q; simp at q)
              · intro i i0 i1 z
                rw [no] at z
                obtain ⟨w1, w2, w3⟩ := kk_dsC hc i0 i1 z
                rw [E (31, i, 0) 4 (by simp) (by simp) (by simp) (by simp), E (58, 0, 0) _ (by simp) (by simp) (by simp) (by simp)]
                refine ⟨w1, ?_, fun u u0 u1 => ?_⟩
                · by_cases y : i = s
                  · rw [y, kk_mixC (by simp), kk_mixM (by simp), mm_ups, mm_ups]
                    omega
                  · rw [E (31, i, 0) 5 (by simp; omega) (by simp) (by simp) (by simp), E (59, 0, 0) i (by simp) (by simp; omega) (by simp) (by simp)]
                    exact w2
                · rw [E _ _ (by simp) (by simp) (by simp) (by simp), E _ _ (by simp) (by simp) (by simp) (by simp)]
                  exact w3 u u0 u1
              · intro j j0 j1
                have w := kk_snC hc j0 j1
                rw [no, E _ _ (by simp) (by simp) (by simp) (by simp), E _ _ (by simp) (by simp) (by simp) (by simp), E _ _ (by simp) (by simp) (by simp) (by simp), E _ _ (by simp) (by simp) (by simp) (by simp)]
                exact w
              · intro k k0 k1
                rw [E _ _ (by simp) (by simp) (by simp) (by simp)]
                exact hc.1.2.2.1.2.2.2.2.2.2.2.2.2.1 k k0 k1
              · intro i i0 i1
                have w := hc.1.2.1.2.2.2.2.2.2 i i0 i1
                rw [no, E (57, 0, 0) _ (by simp) (by simp) (by simp) (by simp), E (59, 0, 0) (13 + i) (by simp) (by simp; omega) (by simp) (by simp), kk_cntc (fun c _ _ => bs i c), kk_cntc (fun c _ _ => bs (13 + i) c)]
                refine ⟨fun q => ?_, w.2⟩
                by_cases y : i = s
                · rw [y, kk_mixM (by simp), mm_ups]
                  exact hq
                · rw [E (59, 0, 0) i (by simp) (by simp; omega) (by simp) (by simp)]
                  exact w.1 q
            have WP0 := WP h (fun _ _ _ _ _ => rfl)
            refine s64W hx WP0 (fun g k1 k2 k3 => ?_)
            rw [mm_pI, r_33_5_8 (hx := hx)]
            have lk : kk_lk h g := ⟨fun s2 _ _ => by rw [kk_pdno k1 s2]; unfold kk_no; rw [mm_upne' (by simp), mm_upne' (by simp)], fun k k0 k9 => by rw [k2 _ _ (by simp), mm_upf (by decide)]⟩
            refine ⟨⟨_, rfl, by omega, by omega⟩, g, dh, rfl, ?_⟩
            have ek : ∀ x j, 40 ≤ x.1 → g x j = h x j := fun x j q => by rw [k2 x j q, kk_moU q (by simp)]
            rw [r_255_e (hy := hy)]
            refine m182y hy hc (kk_lku (by decide) lk) ht hs s1 ?_
            have eg0 : ∀ x j, 40 ≤ x.1 → x.1 ≠ 40 → mm_up g (40, 0, 0) 0 0 x j = h x j := fun x j q q2 => by rw [mm_upne' (by rintro ⟨q3, _⟩; rw [q3] at q2; simp at q2)]; exact ek x j q
            rw [mm_pI, r_255_0_6 (hy := hy), if_neg (by omega)]
            refine m174y hy (by omega) ?_
            rw [mm_pI, r_255_1_5 (hy := hy), if_neg (by decide)]
            refine m200 hy (by omega) (kk_bre (fun x j q => eg0 x j (by omega) (by omega)) (kk_brC hc (by omega))) (fun g0 q0 => ?_)
            have e0 : ∀ x j, 40 ≤ x.1 → x.1 ≠ 56 → ¬ (x = (40, 0, 0) ∧ j = 0) → g0 x j = h x j := fun x j a1 a2 a3 => by
              rw [q0 x j (by rintro ⟨q3, _⟩; rw [q3] at a2; simp at a2), mm_upne' a3]; exact ek x j a1
            rw [mm_pI, r_255_2_3 (hy := hy), kk_bse (fun x j q => eg0 x j (by omega) (by omega)), ← hv, if_neg (by omega), e0 _ _ (by decide) (by decide) (by decide), ← ca.1, if_pos c0]
            refine ⟨by omega, by omega, ?_⟩
            have WM := WP g0 e0
            have cq : ∀ x j, x.1 < 40 → g0 x j = g x j := (fun x j q => by rw [q0 x j (by rintro ⟨q3, _⟩; rw [q3] at q; simp at q)]; exact kk_clU q (by simp))
            have sq : ∀ x j, kk_scr x j → g0 x j = g x j := (fun x j q => by rw [q0 x j (by rintro ⟨q3, _⟩; rw [q3] at q; simp [kk_scr] at q)]; exact kk_scrU q (Or.inr ⟨rfl, by omega⟩))
            refine m208W hy WM (fun g2 m1 m2 m3 => ?_)
            rw [mm_pU, r_255_4_12 (hy := hy)]
            refine ⟨by rw [e0 _ _ (by decide) (by decide) (by simp), ← e7.2.1.1], g2, rfl, kk_pdend (gx := g) hb WM k1 m1 (fun x j q => by rw [m2 x j q, kk_clU q (by simp)]; exact cq x j q) m3 (fun x j q => by rw [kk_scrU q (Or.inl (by simp))]; exact sq x j q) (fun x j q => ?_)⟩
            rcases kk_scrC q with q5 | q5
            · exact ek x j q5
            · rw [k3 x j q5.1 q5.2, mm_upne' (by rintro ⟨q6, _⟩; rw [q6] at q5; simp at q5)]
          · rename_i c0
            refine fin (-5) ⟨_, rfl, by omega, by omega⟩ ?_
            rw [r_255_e (hy := hy)]
            refine m182y hy hc (kk_lku (by decide) (kk_lkr h)) ht hs s1 ?_
            rw [mm_pI, r_255_0_6 (hy := hy), if_neg (by omega)]
            refine m174y hy (by omega) ?_
            rw [mm_pI, r_255_1_5 (hy := hy), if_neg (by decide)]
            refine m200 hy (by omega) (kk_brC hc0 (by omega)) (fun g0 q0 => ?_)
            rw [mm_pI, r_255_2_3 (hy := hy), kk_bsu, ← hv, if_neg c1, q0 _ _ (by simp), mm_upj (by decide), ← ca.1, if_neg c0]
            exact ⟨rfl, g0, rfl, kk_see hb hc q0⟩
  · rw [mm_pR, r_33_0_3 (hx := hx)]
    refine fin (-1) ⟨_, rfl, by omega, by omega⟩ ?_
    rw [r_255_e (hy := hy)]
    refine m182n hy hc (kk_lku (by decide) (kk_lkr h)) ht hs ?_
    rw [mm_pI, r_255_0_6 (hy := hy), if_pos (by decide)]
    exact mfin _ _ rfl

