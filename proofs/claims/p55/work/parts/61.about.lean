/-! the calls of both: about -/
theorem kk_ecp {h : mm_Id → Int → Int} {t m d e : Int} (hd : 1 ≤ d ∧ d < 37) (he : 0 ≤ e ∧ e < h (24, t, d) 6) (q : h (26, t, d) e = m) : 0 < kk_ec h t m := by
  have g1 := sm_ge (f := fun i => kk_e1 h t (i + 1) m) 36 (fun i _ _ => sm_nn _ (fun _ _ _ => by split <;> omega)) (j := d - 1) (by omega) (by omega)
  have g2 := sm_ge (f := fun e => if h (26, t, d) e = m then 1 else 0) (h (24, t, d) 6).toNat (fun i _ _ => by split <;> omega) (j := e) he.1 (by omega)
  have e1 : kk_e1 h t (d - 1 + 1) m = mm_sm (fun e => if h (26, t, d) e = m then 1 else 0) (h (24, t, d) 6).toNat := by
    unfold kk_e1
    rw [show d - 1 + 1 = d by omega]
  have e2 : (if h (26, t, d) e = m then (1 : Int) else 0) = 1 := if_pos q
  have g3 : kk_e1 h t (d - 1 + 1) m ≤ kk_ec h t m := g1
  have g4 : (if h (26, t, d) e = m then (1 : Int) else 0) ≤ mm_sm (fun e => if h (26, t, d) e = m then 1 else 0) (h (24, t, d) 6).toNat := g2
  omega
theorem kk_ecx {h : mm_Id → Int → Int} {t m : Int} (q : 0 < kk_ec h t m) : ∃ d e, (1 ≤ d ∧ d < 37) ∧ (0 ≤ e ∧ e < h (24, t, d) 6) ∧ h (26, t, d) e = m := by
  obtain ⟨d, d0, d1, d2⟩ := sm_pos 36 q
  obtain ⟨e, e0, e1, e2⟩ := sm_pos _ d2
  refine ⟨(d : Int) + 1, e, by omega, by omega, ?_⟩
  by_cases c : h (26, t, (d : Int) + 1) e = m
  · exact c
  · simp only [if_neg c] at e2; omega

theorem c_13 {b : Int} {h : mm_Id → Int → Int} {dh : Int → Int} {nx ns : Int} (hy : 10581 ≤ nx) (hc : kk_core b h dh) (hb : b + 1 ≤ 1000000) {t n k : Int} (ht : -2147483648 ≤ t ∧ t < 2147483648) (hn : -2147483648 ≤ n ∧ n < 2147483648) (hk : -2147483648 ≤ k ∧ k < 2147483648) : kk_call 13 228 [zI t, zI n, zI k] b h dh nx ns kk_SI := by
  unfold kk_call
  have hx : 5275 ≤ nx := by omega
  have hc0 : kk_core b (mm_up h (40, 0, 0) 0 0) dh := kk_core0 hc
  have fin : ∀ v, kk_SI (zI v) → mm_Cl 228 [zR (40, 0, 0), zI t, zI n, zI k] (mm_z h dh nx ns) (fun (r2 : mm_V) (h2 : mm_H) => r2 = zI v ∧ ∃ g2, h2 = mm_z g2 dh nx ns ∧ kk_core (b + 1) g2 dh ∧ ∀ x j, kk_scr x j → g2 x j = h x j) →
      (fun (r : mm_V) (h1 : mm_H) => kk_SI r ∧ ∃ g dh1, h1 = mm_z g dh1 nx ns ∧ mm_Cl 228 [zR (40, 0, 0), zI t, zI n, zI k] (mm_z g dh1 nx ns) (fun r2 h2 => r2 = r ∧ ∃ g2, h2 = mm_z g2 dh1 nx ns ∧ kk_core (b + 1) g2 dh1 ∧ ∀ x j, kk_scr x j → g2 x j = h x j)) (zI v) (mm_z h dh nx ns) :=
    fun v h1 h2 => ⟨h1, h, dh, rfl, h2⟩
  have mfin : ∀ v w : Int, w = v → (fun (r2 : mm_V) (h2 : mm_H) => r2 = zI v ∧ ∃ g2, h2 = mm_z g2 dh nx ns ∧ kk_core (b + 1) g2 dh ∧ ∀ x j, kk_scr x j → g2 x j = h x j) (zI w) (mm_z (mm_up h (40, 0, 0) 0 0) dh nx ns) :=
    fun v w e => ⟨by rw [e], _, rfl, kk_coreS hb hc0, fun x j hs => kk_scr0 hs⟩
  rw [r_13_e (hx := hx)]
  refine s55 hx (kk_nmC hc) ht.1 ht.2 (fun s hs => ?_) (fun hs => ?_)
  · have hsT := mm_T13 hs.1
    rw [mm_pR, r_13_0_4a (hty0 := hsT) (hx := hx)]
    refine s56 hsT hx (fun h1 h2 => ?_) (fun hn => ?_)
    · have hnN : mm_isN n := ⟨by omega, h1.2⟩
      have NR := kk_NRC hc (t := s) (n := n) (by have := hs.1; omega) h1
      have NW := kk_NWC hc hsT h1
      have hk : 0 ≤ 36 * s + n - 1 ∧ 36 * s + n - 1 < 1044 := by have := hs.1; omega
      have emay : ∀ r, kk_may (mm_up h (40, 0, 0) 0 0 (40, 0, 0) 29) (mm_up h (40, 0, 0) 0 0 (47, 0, 0) (36 * s + n - 1)) (mm_up h (40, 0, 0) 0 0 (48, 0, 0) (36 * s + n - 1)) r ↔ kk_may (h (1, 0, 0) 12) (h (24, s, n) 2) (h (24, s, n) 3) r := fun r => by
        rw [mm_upj (by decide), mm_upf (by decide), mm_upf (by decide), ← (NR.2.2.2.1 h2).2.1, ← (NR.2.2.2.1 h2).2.2.1, ← (kk_cal hc).1]
      rw [mm_pR, r_13_0_6a (hty0 := hsT) (hny0 := hnN) (hx := hx)]
      by_cases c0 : k = 0
      · subst c0
        show mm_Wp 13 (mm_blk 13 2) _ _ _ _
        rw [r_13_2 (htx4 := hsT) (hnx4 := hnN) (hx := hx)]
        have rr := NW.1
        refine fin _ ⟨_, rfl, by omega, by omega⟩ ?_
        rw [r_228_e (hy := hy)]
        refine m181t hy (kk_nmC hc0) (kk_NC hc0) ht.1 ht.2 (fun s2 q1 q2 q3 => ?_) (fun q => absurd hs (fun w => kk_tpn (kk_npu.1 q) w))
        have e := kk_tp1 (kk_tpu.1 q3) hs
        subst e
        rw [mm_pI, r_228_0_6 (hy := hy)]
        refine m210 hy (by omega) (fun w1 w2 => ?_) (fun w => absurd ⟨h1, by rw [mm_upf (by decide)]; exact ((kk_isn hc ⟨q1, q2⟩).1 ⟨h1, h2⟩).2⟩ w)
        rw [mm_pI, r_228_0_11 (hy := hy), if_neg (by decide)]
        refine m175 hy (by omega) h1 ?_
        rw [mm_pI, r_228_1_3 (hy := hy)]
        show mm_Wp 228 (mm_blk 228 2) _ _ _ _
        rw [r_228_2 (hy := hy), mm_upf (by decide)]
        exact ⟨hk, mfin _ _ NR.1.symm⟩
      by_cases c1 : k = 1
      · subst c1
        show mm_Wp 13 (mm_blk 13 3) _ _ _ _
        rw [r_13_3 (htx4 := hsT) (hnx4 := hnN) (hx := hx)]
        split
        · rename_i c
          rw [r_13_5 (hx := hx)]
          have rr := NW.2.1
          refine fin _ ⟨_, rfl, by omega, by omega⟩ ?_
          rw [r_228_e (hy := hy)]
          refine m181t hy (kk_nmC hc0) (kk_NC hc0) ht.1 ht.2 (fun s2 q1 q2 q3 => ?_) (fun q => absurd hs (fun w => kk_tpn (kk_npu.1 q) w))
          have e := kk_tp1 (kk_tpu.1 q3) hs
          subst e
          rw [mm_pI, r_228_0_6 (hy := hy)]
          refine m210 hy (by omega) (fun w1 w2 => ?_) (fun w => absurd ⟨h1, by rw [mm_upf (by decide)]; exact ((kk_isn hc ⟨q1, q2⟩).1 ⟨h1, h2⟩).2⟩ w)
          rw [mm_pI, r_228_0_11 (hy := hy), if_neg (by decide)]
          refine m175 hy (by omega) h1 ?_
          rw [mm_pI, r_228_1_3 (hy := hy)]
          show mm_Wp 228 (mm_blk 228 3) _ _ _ _
          rw [r_228_3 (hy := hy), mm_upf (by decide), ← NR.1, if_pos c, r_228_5 (hy := hy), mm_upf (by decide)]
          exact ⟨hk, hk, mfin _ _ NR.2.1.symm⟩
        · rename_i c
          rw [r_13_5 (hx := hx)]
          have r0 := NW.1
          have rr := NW.2.2.2.2.2.2.2.2.2.2.1
          have r1 : 0 ≤ h (24, s, n) 1 ∧ h (24, s, n) 1 ≤ 2160 := by
            by_cases k1 : h (24, s, n) 0 = 1
            · exact rr.1 k1
            · have := rr.2.2 (by omega); omega
          refine fin _ ⟨_, rfl, by omega, by omega⟩ ?_
          rw [r_228_e (hy := hy)]
          refine m181t hy (kk_nmC hc0) (kk_NC hc0) ht.1 ht.2 (fun s2 q1 q2 q3 => ?_) (fun q => absurd hs (fun w => kk_tpn (kk_npu.1 q) w))
          have e := kk_tp1 (kk_tpu.1 q3) hs
          subst e
          rw [mm_pI, r_228_0_6 (hy := hy)]
          refine m210 hy (by omega) (fun w1 w2 => ?_) (fun w => absurd ⟨h1, by rw [mm_upf (by decide)]; exact ((kk_isn hc ⟨q1, q2⟩).1 ⟨h1, h2⟩).2⟩ w)
          rw [mm_pI, r_228_0_11 (hy := hy), if_neg (by decide)]
          refine m175 hy (by omega) h1 ?_
          rw [mm_pI, r_228_1_3 (hy := hy)]
          show mm_Wp 228 (mm_blk 228 3) _ _ _ _
          rw [r_228_3 (hy := hy), mm_upf (by decide), ← NR.1, if_neg c, r_228_5 (hy := hy), mm_upf (by decide)]
          exact ⟨hk, hk, mfin _ _ (NR.2.2.2.1 h2).1.symm⟩
      by_cases c2 : k = 2
      · subst c2
        show mm_Wp 13 (mm_blk 13 6) _ _ _ _
        rw [r_13_6 (htx4 := hsT) (hnx4 := hnN) (hx := hx)]
        have T := kk_TWC hc hsT
        have ue := T.1 n h1.1 h1.2 h2
        have ur : 0 ≤ h (24, s, n) 5 ∧ h (24, s, n) 5 ≤ 900 := by
          rw [ue]
          have a := kk_Snn (f := fun d => kk_e1 h s d n) 36 (fun i i0 i1 => sm_nn _ (fun _ _ _ => by split <;> omega))
          have c := kk_Sub (f := fun d => kk_e1 h s d n) 36 25 (fun i i0 i1 => by
            have := sm_ub (f := fun e => if h (26, s, i) e = n then 1 else 0) 1 (h (24, s, i) 6).toNat (fun _ _ _ => by split <;> omega)
            have w := (kk_NWC hc hsT (n := i) ⟨i0, by omega⟩).2.1
            unfold kk_e1
            omega)
          unfold kk_ec
          omega
        refine fin _ ⟨_, rfl, by omega, by omega⟩ ?_
        rw [r_228_e (hy := hy)]
        refine m181t hy (kk_nmC hc0) (kk_NC hc0) ht.1 ht.2 (fun s2 q1 q2 q3 => ?_) (fun q => absurd hs (fun w => kk_tpn (kk_npu.1 q) w))
        have e := kk_tp1 (kk_tpu.1 q3) hs
        subst e
        rw [mm_pI, r_228_0_6 (hy := hy)]
        refine m210 hy (by omega) (fun w1 w2 => ?_) (fun w => absurd ⟨h1, by rw [mm_upf (by decide)]; exact ((kk_isn hc ⟨q1, q2⟩).1 ⟨h1, h2⟩).2⟩ w)
        rw [mm_pI, r_228_0_11 (hy := hy), if_neg (by decide)]
        refine m175 hy (by omega) h1 ?_
        rw [mm_pI, r_228_1_3 (hy := hy)]
        show mm_Wp 228 (mm_blk 228 6) _ _ _ _
        rw [r_228_6 (hy := hy)]
        refine m188 hy (by omega) (fun d d0 d1 => by rw [mm_upf (by decide), ← (kk_NRC hc (t := s2) (n := d) (by omega) ⟨d0, d1⟩).2.1]; exact (kk_NWC hc hsT (n := d) ⟨d0, d1⟩).2.1) ?_
        rw [mm_pI, r_228_6_4 (hy := hy)]
        refine mfin _ _ ?_
        rw [ue, kk_ecf (fun n2 n1 n3 => kk_NRC hc (by omega) ⟨n1, n3⟩) (fun n2 n1 n3 => (kk_NWC hc hsT ⟨n1, n3⟩).2.1.1)]
        unfold kk_ef kk_ed
        simp only [mm_upf (show ¬ (44 : Nat) = 40 by decide), mm_upf (show ¬ (46 : Nat) = 40 by decide)]
      by_cases c3 : k = 3
      · subst c3
        show mm_Wp 13 (mm_blk 13 7) _ _ _ _
        rw [r_13_7 (htx4 := hsT) (hnx4 := hnN) (hx := hx)]
        have rr := kk_b9 hc hsT n h1.1 h1.2
        refine fin _ ⟨_, rfl, by omega, by omega⟩ ?_
        rw [r_228_e (hy := hy)]
        refine m181t hy (kk_nmC hc0) (kk_NC hc0) ht.1 ht.2 (fun s2 q1 q2 q3 => ?_) (fun q => absurd hs (fun w => kk_tpn (kk_npu.1 q) w))
        have e := kk_tp1 (kk_tpu.1 q3) hs
        subst e
        rw [mm_pI, r_228_0_6 (hy := hy)]
        refine m210 hy (by omega) (fun w1 w2 => ?_) (fun w => absurd ⟨h1, by rw [mm_upf (by decide)]; exact ((kk_isn hc ⟨q1, q2⟩).1 ⟨h1, h2⟩).2⟩ w)
        rw [mm_pI, r_228_0_11 (hy := hy), if_neg (by decide)]
        refine m175 hy (by omega) h1 ?_
        rw [mm_pI, r_228_1_3 (hy := hy)]
        show mm_Wp 228 (mm_blk 228 7) _ _ _ _
        rw [r_228_7 (hy := hy)]
        have LL : ∀ v, v = h (24, s2, n) 9 → mm_Wp 228 (mm_blk 228 8) [zR (40, 0, 0), zI t, zI n, zI 3, zI s2, zI (36 * s2 + n - 1), zI 0, zI 0] [] (mm_z (mm_up h (40, 0, 0) 0 0) dh nx ns) (fun (r2 : mm_V) (h2 : mm_H) => r2 = zI v ∧ ∃ g2, h2 = mm_z g2 dh nx ns ∧ kk_core (b + 1) g2 dh ∧ ∀ x j, kk_scr x j → g2 x j = h x j) := fun v en => by
          refine kk_sl0 (X := fun a i => mm_Wp 228 (mm_blk 228 8) [zR (40, 0, 0), zI t, zI n, zI 3, zI s2, zI (36 * s2 + n - 1), zI a, zI i] [] (mm_z (mm_up h (40, 0, 0) 0 0) dh nx ns) (fun (r2 : mm_V) (h2 : mm_H) => r2 = zI v ∧ ∃ g2, h2 = mm_z g2 dh nx ns ∧ kk_core (b + 1) g2 dh ∧ ∀ x j, kk_scr x j → g2 x j = h x j)) (f := fun p => if h (27, s2, n) p = 0 then 0 else 1) 36 1 (by decide) (fun i _ _ => by split <;> omega) 0 (fun a i a1 a2 a3 a4 hX => ?_) ?_
          · have E := (NR.2.2.2.2.2.2.2 i a1 (by omega)).1
            have B := kk_brC hc (s := s2) (by omega) n i h1.1 h1.2 a1 (by omega)
            rw [r_228_8 (hy := hy), if_pos (by omega), mm_upf (by decide), ← NR.1]
            refine ⟨hk, ?_⟩
            split
            · rename_i k1
              rw [mm_wi (z := 36 * (36 * s2 + n - 1)) (by omega) (by omega), mm_wi (z := 36 * (36 * s2 + n - 1) + i) (by omega) (by omega), mm_upf (by decide)]
              refine ⟨by omega, ?_⟩
              split
              · rename_i c
                rw [if_neg (fun q => by have := E.1 q; omega)] at hX
                rw [r_228_10 (hy := hy), mm_wi (by omega) (by omega), mm_wi (by omega) (by omega)]
                exact hX
              · rename_i c
                rw [if_pos (E.2 (by omega)), show a + 0 = a by omega] at hX
                rw [r_228_9 (hy := hy), r_228_10 (hy := hy), mm_wi (by omega) (by omega), mm_wi (by omega) (by omega), show a + 0 = a by omega]
                exact hX
            · rename_i k1
              rw [if_pos (NW.2.2.2.2.2.2.2.1 k1 i a1 (by omega)), show a + 0 = a by omega] at hX
              rw [r_228_9 (hy := hy), r_228_10 (hy := hy), mm_wi (by omega) (by omega), mm_wi (by omega) (by omega), show a + 0 = a by omega]
              exact hX
          · rw [r_228_8 (hy := hy), if_neg (by decide)]
            exact mfin _ _ (by rw [en, NW.2.2.2.2.2.2.1]; exact Int.zero_add _)
        exact LL _ rfl
      by_cases c4 : k = 4
      · subst c4
        show mm_Wp 13 (mm_blk 13 8) _ _ _ _
        rw [r_13_8 (htx4 := hsT) (hnx4 := hnN) (hx := hx)]
        have T := kk_TWC hc hsT
        have ar : 0 ≤ h (24, s, n) 4 ∧ h (24, s, n) 4 < 37 := by
          by_cases q : n = 1 ∨ h (24, s, n) 0 = 1
          · rw [T.2.2.2.2.1 n h1.1 h1.2 q]; omega
          · have k := NW.1
            have ec := T.2.1 n (by omega) h1.2 (by omega)
            obtain ⟨d, e, hd, he, q2⟩ := kk_ecx (show 0 < kk_ec h s n by omega)
            rw [T.2.2.2.2.2.1 n d e (by omega) h1.2 (by omega) hd.1 hd.2 he.1 he.2 q2]
            omega
        refine fin _ ⟨_, rfl, by omega, by omega⟩ ?_
        rw [r_228_e (hy := hy)]
        refine m181t hy (kk_nmC hc0) (kk_NC hc0) ht.1 ht.2 (fun s2 q1 q2 q3 => ?_) (fun q => absurd hs (fun w => kk_tpn (kk_npu.1 q) w))
        have e := kk_tp1 (kk_tpu.1 q3) hs
        subst e
        rw [mm_pI, r_228_0_6 (hy := hy)]
        refine m210 hy (by omega) (fun w1 w2 => ?_) (fun w => absurd ⟨h1, by rw [mm_upf (by decide)]; exact ((kk_isn hc ⟨q1, q2⟩).1 ⟨h1, h2⟩).2⟩ w)
        rw [mm_pI, r_228_0_11 (hy := hy), if_neg (by decide)]
        refine m175 hy (by omega) h1 ?_
        rw [mm_pI, r_228_1_3 (hy := hy)]
        show mm_Wp 228 (mm_blk 228 12) _ _ _ _
        rw [r_228_12 (hy := hy), mm_upf (by decide), ← NR.1]
        refine ⟨hk, ?_⟩
        split
        · rename_i c
          rw [r_228_14 (hy := hy)]
          exact mfin _ _ (T.2.2.2.2.1 n h1.1 h1.2 (Or.inr c)).symm
        · rename_i c
          refine m189 hy (by omega) (fun d d0 d1 => by rw [mm_upf (by decide), ← (kk_NRC hc (t := s2) (n := d) (by omega) ⟨d0, d1⟩).2.1]; exact (kk_NWC hc hsT (n := d) ⟨d0, d1⟩).2.1) (fun d e d0 d1 e0 e1 q => ?_) (fun q => ?_)
          · rw [mm_upf (by decide), ← (kk_NRC hc (t := s2) (n := d) (by omega) ⟨d0, d1⟩).2.1] at e1
            rw [mm_upf (by decide), ← ((kk_NRC hc (t := s2) (n := d) (by omega) ⟨d0, d1⟩).2.2.2.2.1 e e0 e1).2] at q
            have n2 : 2 ≤ n := by
              by_cases z : n = 1
              · have a := kk_ecp ⟨d0, d1⟩ ⟨e0, e1⟩ q
                rw [z, T.2.2.2.1] at a
                omega
              · omega
            have k := NW.1
            rw [mm_pI, r_228_13_4 (hy := hy), r_228_14 (hy := hy)]
            exact mfin _ _ (T.2.2.2.2.2.1 n d e n2 h1.2 (by omega) d0 d1 e0 e1 q).symm
          · rw [mm_pI, r_228_13_4 (hy := hy), r_228_14 (hy := hy)]
            refine mfin _ _ ?_
            by_cases z : n = 1
            · exact (T.2.2.2.2.1 n h1.1 h1.2 (Or.inl z)).symm
            · have k := NW.1
              have ec := T.2.1 n (by omega) h1.2 (by omega)
              obtain ⟨d, e, hd, he, q2⟩ := kk_ecx (show 0 < kk_ec h s2 n by omega)
              refine absurd ?_ (q d e hd.1 hd.2 he.1 (by rw [mm_upf (by decide), ← (kk_NRC hc (t := s2) (n := d) (by omega) hd).2.1]; exact he.2))
              rw [mm_upf (by decide), ← ((kk_NRC hc (t := s2) (n := d) (by omega) hd).2.2.2.2.1 e he.1 he.2).2]
              exact q2
      by_cases c5 : k = 5
      · subst c5
        show mm_Wp 13 (mm_blk 13 9) _ _ _ _
        rw [r_13_9 (htx4 := hsT) (hnx4 := hnN) (hx := hx)]
        have rr := NW.2.2.2.2.2.2.2.2.1
        refine fin _ ⟨_, rfl, by omega, by omega⟩ ?_
        rw [r_228_e (hy := hy)]
        refine m181t hy (kk_nmC hc0) (kk_NC hc0) ht.1 ht.2 (fun s2 q1 q2 q3 => ?_) (fun q => absurd hs (fun w => kk_tpn (kk_npu.1 q) w))
        have e := kk_tp1 (kk_tpu.1 q3) hs
        subst e
        rw [mm_pI, r_228_0_6 (hy := hy)]
        refine m210 hy (by omega) (fun w1 w2 => ?_) (fun w => absurd ⟨h1, by rw [mm_upf (by decide)]; exact ((kk_isn hc ⟨q1, q2⟩).1 ⟨h1, h2⟩).2⟩ w)
        rw [mm_pI, r_228_0_11 (hy := hy), if_neg (by decide)]
        refine m175 hy (by omega) h1 ?_
        rw [mm_pI, r_228_1_3 (hy := hy)]
        show mm_Wp 228 (mm_blk 228 15) _ _ _ _
        rw [r_228_15 (hy := hy), mm_upf (by decide)]
        exact ⟨hk, mfin _ _ (NR.2.2.2.1 h2).2.1.symm⟩
      by_cases c6 : k = 6
      · subst c6
        show mm_Wp 13 (mm_blk 13 10) _ _ _ _
        rw [r_13_10 (htx4 := hsT) (hnx4 := hnN) (hx := hx)]
        have rr := NW.2.2.2.2.2.2.2.2.2.1
        refine fin _ ⟨_, rfl, by omega, by omega⟩ ?_
        rw [r_228_e (hy := hy)]
        refine m181t hy (kk_nmC hc0) (kk_NC hc0) ht.1 ht.2 (fun s2 q1 q2 q3 => ?_) (fun q => absurd hs (fun w => kk_tpn (kk_npu.1 q) w))
        have e := kk_tp1 (kk_tpu.1 q3) hs
        subst e
        rw [mm_pI, r_228_0_6 (hy := hy)]
        refine m210 hy (by omega) (fun w1 w2 => ?_) (fun w => absurd ⟨h1, by rw [mm_upf (by decide)]; exact ((kk_isn hc ⟨q1, q2⟩).1 ⟨h1, h2⟩).2⟩ w)
        rw [mm_pI, r_228_0_11 (hy := hy), if_neg (by decide)]
        refine m175 hy (by omega) h1 ?_
        rw [mm_pI, r_228_1_3 (hy := hy)]
        show mm_Wp 228 (mm_blk 228 16) _ _ _ _
        rw [r_228_16 (hy := hy), mm_upf (by decide)]
        exact ⟨hk, mfin _ _ (NR.2.2.2.1 h2).2.2.1.symm⟩
      by_cases c7 : k = 7
      · subst c7
        show mm_Wp 13 (mm_blk 13 11) _ _ _ _
        rw [r_13_11 (htx4 := hsT) (hnx4 := hnN) (hx := hx)]
        have rr := NW.2.2.2.1
        refine fin _ ⟨_, rfl, by omega, by omega⟩ ?_
        rw [r_228_e (hy := hy)]
        refine m181t hy (kk_nmC hc0) (kk_NC hc0) ht.1 ht.2 (fun s2 q1 q2 q3 => ?_) (fun q => absurd hs (fun w => kk_tpn (kk_npu.1 q) w))
        have e := kk_tp1 (kk_tpu.1 q3) hs
        subst e
        rw [mm_pI, r_228_0_6 (hy := hy)]
        refine m210 hy (by omega) (fun w1 w2 => ?_) (fun w => absurd ⟨h1, by rw [mm_upf (by decide)]; exact ((kk_isn hc ⟨q1, q2⟩).1 ⟨h1, h2⟩).2⟩ w)
        rw [mm_pI, r_228_0_11 (hy := hy), if_neg (by decide)]
        refine m175 hy (by omega) h1 ?_
        rw [mm_pI, r_228_1_3 (hy := hy)]
        show mm_Wp 228 (mm_blk 228 17) _ _ _ _
        rw [r_228_17 (hy := hy), mm_upf (by decide)]
        exact ⟨hk, mfin _ _ NR.2.2.1.symm⟩
      rw [mm_sw0 (by omega), r_13_12 (hx := hx)]
      refine fin _ ⟨_, rfl, by omega, by omega⟩ ?_
      rw [r_228_e (hy := hy)]
      refine m181t hy (kk_nmC hc0) (kk_NC hc0) ht.1 ht.2 (fun s2 q1 q2 q3 => ?_) (fun q => absurd hs (fun w => kk_tpn (kk_npu.1 q) w))
      have e := kk_tp1 (kk_tpu.1 q3) hs
      subst e
      rw [mm_pI, r_228_0_6 (hy := hy)]
      refine m210 hy (by omega) (fun w1 w2 => ?_) (fun w => absurd ⟨h1, by rw [mm_upf (by decide)]; exact ((kk_isn hc ⟨q1, q2⟩).1 ⟨h1, h2⟩).2⟩ w)
      rw [mm_pI, r_228_0_11 (hy := hy), if_neg (by decide)]
      refine m175 hy (by omega) h1 ?_
      rw [mm_pI, r_228_1_3 (hy := hy)]
      rw [mm_sw3 (by omega), r_228_18 (hy := hy)]
      exact mfin _ _ rfl
    · rw [mm_pR, r_13_0_6 (hx := hx)]
      refine fin (-1) ⟨_, rfl, by omega, by omega⟩ ?_
      rw [r_228_e (hy := hy)]
      refine m181t hy (kk_nmC hc0) (kk_NC hc0) ht.1 ht.2 (fun s2 q1 q2 q3 => ?_) (fun q => absurd hs (fun w => kk_tpn (kk_npu.1 q) w))
      have e := kk_tp1 (kk_tpu.1 q3) hs
      subst e
      rw [mm_pI, r_228_0_6 (hy := hy)]
      refine m210 hy (by omega) (fun w1 w2 => absurd ((kk_isn hc ⟨q1, q2⟩).2 ⟨w1, by rw [mm_upf (by decide)] at w2; exact w2⟩) hn) (fun w => ?_)
      rw [mm_pI, r_228_0_11 (hy := hy), if_pos rfl]
      exact mfin _ _ rfl
  · rw [mm_pR, r_13_0_4 (hx := hx)]
    refine s56n hx ?_
    rw [mm_pR, r_13_0_6 (hx := hx)]
    refine fin (-1) ⟨_, rfl, by omega, by omega⟩ ?_
    rw [r_228_e (hy := hy)]
    refine m181t hy (kk_nmC hc0) (kk_NC hc0) ht.1 ht.2 (fun s2 q1 q2 q3 => absurd (kk_tpu.1 q3) (fun w => kk_tpn hs w)) (fun q => ?_)
    rw [mm_pI, r_228_0_6 (hy := hy)]
    refine m210n hy ?_
    rw [mm_pI, r_228_0_11 (hy := hy), if_pos rfl]
    exact mfin _ _ rfl

