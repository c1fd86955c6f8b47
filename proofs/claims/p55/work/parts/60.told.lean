/-! the calls of both: told, about -/
section
variable {hi : mm_Id → Int → Int} {dh : Int → Int} {nx ns : Int} {Q : mm_V → mm_H → Prop}
theorem s73 (hx : 5275 ≤ nx) {x : Int} (K : Q (zI (mm_sm (fun j => if ¬ hi (33, j, 0) 1 = 0 ∧ hi (33, j, 0) 2 = x then 1 else 0) 8)) (mm_z hi dh nx ns)) : mm_Cl 73 [zR (1, 0, 0), zI x] (mm_z hi dh nx ns) Q := by
  rw [r_73_e (hx := hx)]
  refine kk_sl0 (X := fun a i => mm_Wp 73 (mm_blk 73 1) [zR (1, 0, 0), zI x, zI a, zI i] [] (mm_z hi dh nx ns) Q) (f := fun j => if ¬ hi (33, j, 0) 1 = 0 ∧ hi (33, j, 0) 2 = x then 1 else 0) 8 1 (by decide) (fun i _ _ => by split <;> omega) 0 (fun a i a1 a2 a3 a4 hX => ?_) ?_
  · rw [r_73_1 (hx := hx), if_pos (by omega)]
    refine ⟨by omega, ?_⟩
    split
    · rename_i h1
      rw [if_neg (fun q => q.1 h1)] at hX
      rw [r_73_2 (hx := hx), r_73_3 (hx := hx), mm_wi (by omega) (by omega), mm_wi (by omega) (by omega)]
      exact hX
    · rename_i h1
      refine ⟨by omega, ?_⟩
      split
      · rename_i h2
        rw [if_pos ⟨h1, h2⟩] at hX
        rw [r_73_3 (hx := hx), mm_wi (by omega) (by omega), mm_wi (by omega) (by omega)]
        exact hX
      · rename_i h2
        rw [if_neg (fun q => h2 q.2)] at hX
        rw [r_73_2 (hx := hx), r_73_3 (hx := hx), mm_wi (by omega) (by omega), mm_wi (by omega) (by omega)]
        exact hX
  · rw [r_73_1 (hx := hx), if_neg (by decide)]
    have e : (0 : Int) + mm_sm (fun j => if ¬ hi (33, j, 0) 1 = 0 ∧ hi (33, j, 0) 2 = x then 1 else 0) 8 = mm_sm (fun j => if ¬ hi (33, j, 0) 1 = 0 ∧ hi (33, j, 0) 2 = x then 1 else 0) 8 := by omega
    rw [e]; exact K
end
theorem mm_sw1 {x : Int} (h : ¬ (0 ≤ x ∧ x < 4)) : mm_sw 1 x = 16 := by
  show (if (0 : Int) ≤ x ∧ x < 0 + (4 : Nat) then _ else (16 : Nat)) = 16
  rw [if_neg (by omega)]
theorem mm_sw4 {x : Int} (h : ¬ (0 ≤ x ∧ x < 4)) : mm_sw 4 x = 17 := by
  show (if (0 : Int) ≤ x ∧ x < 0 + (4 : Nat) then _ else (17 : Nat)) = 17
  rw [if_neg (by omega)]
theorem mm_sw0 {x : Int} (h : ¬ (0 ≤ x ∧ x < 8)) : mm_sw 0 x = 12 := by
  show (if (0 : Int) ≤ x ∧ x < 0 + (8 : Nat) then _ else (12 : Nat)) = 12
  rw [if_neg (by omega)]
theorem mm_sw3 {x : Int} (h : ¬ (0 ≤ x ∧ x < 8)) : mm_sw 3 x = 18 := by
  show (if (0 : Int) ≤ x ∧ x < 0 + (8 : Nat) then _ else (18 : Nat)) = 18
  rw [if_neg (by omega)]
/-- a dataset is as that of the reference -/
theorem kk_dsC {b : Int} {h : mm_Id → Int → Int} {dh : Int → Int} (hc : kk_core b h dh) {i : Int} (i0 : 0 ≤ i) (i1 : i < 5) (hn : 0 < kk_no h i) : (h (31, i, 0) 4 = h (58, 0, 0) i ∧ 0 ≤ h (58, 0, 0) i ∧ h (58, 0, 0) i ≤ 2000000) ∧ (h (31, i, 0) 5 = h (59, 0, 0) i ∧ 0 ≤ h (59, 0, 0) i ∧ h (59, 0, 0) i ≤ 400) ∧ ∀ u, 0 ≤ u → u < 8 → h (32, i, 0) u = h (61, 0, 0) (8 * i + u) ∧ 0 ≤ h (32, i, 0) u ∧ h (32, i, 0) u ≤ 400 := hc.1.2.2.1.2.2.2.2.2.2.1 i i0 i1 hn
theorem kk_snC {b : Int} {h : mm_Id → Int → Int} {dh : Int → Int} (hc : kk_core b h dh) {j : Int} (j0 : 0 ≤ j) (j1 : j < 8) : (0 < kk_no h (5 + j) → h (33, j, 0) 2 = h (58, 0, 0) (5 + j) ∧ h (33, j, 0) 3 = h (60, 0, 0) (5 + j) ∧ 1 ≤ h (33, j, 0) 2 ∧ h (33, j, 0) 2 ≤ 2000000) ∧ (kk_no h (5 + j) = 0 → h (33, j, 0) 2 = 0) := hc.1.2.2.1.2.2.2.2.2.2.2.2.1 j j0 j1
/-- snapshots of a dataset -/
theorem kk_sof {b : Int} {h : mm_Id → Int → Int} {dh : Int → Int} (hc : kk_core b h dh) (x : Int) : mm_sm (fun j => if ¬ h (33, j, 0) 1 = 0 ∧ h (33, j, 0) 2 = x then 1 else 0) 8 = mm_sm (fun j => if 0 < h (57, 0, 0) (5 + j) ∧ h (58, 0, 0) (5 + j) = x then 1 else 0) 8 := sm_cgI 8 (fun j j0 j1 => by
  have e := kk_NC hc (5 + j) (by omega) (by omega)
  have nn := kk_smn hc (s := 5 + j) (by omega) (by omega)
  have e2 : kk_no h (5 + j) = h (33, j, 0) 1 := by unfold kk_no; rw [if_neg (by omega), show 5 + j - 5 = j by omega]
  have sn := (kk_snC hc (j := j) j0 (by omega)).1
  by_cases c : h (33, j, 0) 1 = 0
  · rw [if_neg (fun q => q.1 c), if_neg (by omega)]
  · have := sn (by omega)
    by_cases d : h (33, j, 0) 2 = x
    · rw [if_pos ⟨c, d⟩, if_pos (by omega)]
    · rw [if_neg (fun q => d q.2), if_neg (by omega)])

theorem c_35 {b : Int} {h : mm_Id → Int → Int} {dh : Int → Int} {nx ns : Int} (hy : 10581 ≤ nx) (hc : kk_core b h dh) (hb : b + 1 ≤ 1000000) {t n : Int} (ht : -2147483648 ≤ t ∧ t < 2147483648) (hn : -2147483648 ≤ n ∧ n < 2147483648) : kk_call 35 257 [zI t, zI n] b h dh nx ns kk_SI := by
  unfold kk_call
  have hx : 5275 ≤ nx := by omega
  have hc0 : kk_core b (mm_up h (40, 0, 0) 0 0) dh := kk_core0 hc
  have fin : ∀ v, kk_SI (zI v) → mm_Cl 257 [zR (40, 0, 0), zI t, zI n] (mm_z h dh nx ns) (fun (r2 : mm_V) (h2 : mm_H) => r2 = zI v ∧ ∃ g2, h2 = mm_z g2 dh nx ns ∧ kk_core (b + 1) g2 dh ∧ ∀ x j, kk_scr x j → g2 x j = h x j) →
      (fun (r : mm_V) (h1 : mm_H) => kk_SI r ∧ ∃ g dh1, h1 = mm_z g dh1 nx ns ∧ mm_Cl 257 [zR (40, 0, 0), zI t, zI n] (mm_z g dh1 nx ns) (fun r2 h2 => r2 = r ∧ ∃ g2, h2 = mm_z g2 dh1 nx ns ∧ kk_core (b + 1) g2 dh1 ∧ ∀ x j, kk_scr x j → g2 x j = h x j)) (zI v) (mm_z h dh nx ns) :=
    fun v h1 h2 => ⟨h1, h, dh, rfl, h2⟩
  have mfin : ∀ v w : Int, w = v → (fun (r2 : mm_V) (h2 : mm_H) => r2 = zI v ∧ ∃ g2, h2 = mm_z g2 dh nx ns ∧ kk_core (b + 1) g2 dh ∧ ∀ x j, kk_scr x j → g2 x j = h x j) (zI w) (mm_z (mm_up h (40, 0, 0) 0 0) dh nx ns) :=
    fun v w e => ⟨by rw [e], _, rfl, kk_coreS hb hc0, fun x j hs => kk_scr0 hs⟩
  rw [r_35_e (hx := hx)]
  refine s55 hx (kk_nmC hc) ht.1 ht.2 (fun s hs => ?_) (fun hs => ?_)
  · have hsT := mm_T13 hs.1
    rw [mm_pR, r_35_0_3a (hty0 := hsT) (hx := hx)]
    have nn := hs.2.1.1
    by_cases s5 : s < 5
    · have tp := ((kk_tl1 (kk_nmC hc) hs.1.1 s5).1 hs.2.1).1
      refine s53t hx (kk_nmC hc) (fun s2 a1 a2 a3 => ?_) (fun q => absurd hs (q s s5))
      have e := kk_tp1 a3 hs
      subst e
      have hD : mm_isD s2 := ⟨a1, a2⟩
      rw [mm_pR, r_35_1_3a (htx3 := hsT) (hty0 := hD) (hx := hx), if_neg (by omega), r_35_3a (htx3 := hsT) (htx4 := hD) (hx := hx)]
      by_cases c0 : n = 0
      · subst c0
        show mm_Wp 35 (mm_blk 35 4) _ _ _ _
        rw [r_35_4a (htx4 := hD) (hx := hx), r_35_7 (hx := hx)]
        have dd := kk_dsC hc hs.1.1 s5 nn
        refine fin _ ⟨_, rfl, by omega, by omega⟩ ?_
        rw [r_257_e (hy := hy)]
        refine m181t hy (kk_nmC hc0) (kk_NC hc0) ht.1 ht.2 (fun s3 q1 q2 q3 => ?_) (fun q => absurd hs (fun w => kk_tpn (kk_npu.1 q) w))
        have e := kk_tp1 (kk_tpu.1 q3) hs
        subst e
        rw [mm_pI, r_257_0_6 (hy := hy), if_neg (by omega)]
        show mm_Wp 257 (mm_blk 257 2) _ _ _ _
        rw [r_257_2 (hy := hy), mm_upf (by decide)]
        exact ⟨by omega, mfin _ _ dd.1.1.symm⟩
      by_cases c1 : n = 1
      · subst c1
        show mm_Wp 35 (mm_blk 35 8) _ _ _ _
        rw [r_35_8a (htx4 := hD) (hx := hx)]
        refine s73 hx ?_
        rw [mm_pI, r_35_8_5 (hx := hx), r_35_10 (hx := hx), kk_sof hc]
        have r1 := sm_nn (f := fun j => if 0 < h (57, 0, 0) (5 + j) ∧ h (58, 0, 0) (5 + j) = t then 1 else 0) 8 (fun i _ _ => by split <;> omega)
        have r2 := sm_ub (f := fun j => if 0 < h (57, 0, 0) (5 + j) ∧ h (58, 0, 0) (5 + j) = t then 1 else 0) 1 8 (fun i _ _ => by split <;> omega)
        refine fin _ ⟨_, rfl, by omega, by omega⟩ ?_
        rw [r_257_e (hy := hy)]
        refine m181t hy (kk_nmC hc0) (kk_NC hc0) ht.1 ht.2 (fun s3 q1 q2 q3 => ?_) (fun q => absurd hs (fun w => kk_tpn (kk_npu.1 q) w))
        have e := kk_tp1 (kk_tpu.1 q3) hs
        subst e
        rw [mm_pI, r_257_0_6 (hy := hy), if_neg (by omega)]
        show mm_Wp 257 (mm_blk 257 3) _ _ _ _
        rw [r_257_3 (hy := hy)]
        have LL : ∀ n, n = mm_sm (fun j => if 0 < h (57, 0, 0) (5 + j) ∧ h (58, 0, 0) (5 + j) = t then 1 else 0) 8 → mm_Wp 257 (mm_blk 257 4) [zR (40, 0, 0), zI t, zI 1, zI s3, zI 0, zI (5 + 0)] [] (mm_z (mm_up h (40, 0, 0) 0 0) dh nx ns) (fun (r2 : mm_V) (h2 : mm_H) => r2 = zI n ∧ ∃ g2, h2 = mm_z g2 dh nx ns ∧ kk_core (b + 1) g2 dh ∧ ∀ x j, kk_scr x j → g2 x j = h x j) := fun n en => by
          refine kk_sl0 (X := fun a i => mm_Wp 257 (mm_blk 257 4) [zR (40, 0, 0), zI t, zI 1, zI s3, zI a, zI (5 + i)] [] (mm_z (mm_up h (40, 0, 0) 0 0) dh nx ns) (fun (r2 : mm_V) (h2 : mm_H) => r2 = zI n ∧ ∃ g2, h2 = mm_z g2 dh nx ns ∧ kk_core (b + 1) g2 dh ∧ ∀ x j, kk_scr x j → g2 x j = h x j)) (f := fun j => if 0 < h (57, 0, 0) (5 + j) ∧ h (58, 0, 0) (5 + j) = t then 1 else 0) 8 1 (by decide) (fun i _ _ => by split <;> omega) 0 (fun a i a1 a2 a3 a4 hX => ?_) ?_
          · rw [r_257_4 (hy := hy), if_pos (by omega), if_pos s5, mm_upf (by decide), mm_upf (by decide)]
            rw [show 5 + (i + 1) = 5 + i + 1 by omega] at hX
            refine ⟨by omega, ?_⟩
            split
            · rename_i h1
              refine ⟨by omega, ?_⟩
              split
              · rename_i h2
                rw [if_pos ⟨h1, h2⟩] at hX
                rw [r_257_6 (hy := hy), mm_wi (by omega) (by omega), mm_wi (by omega) (by omega)]
                exact hX
              · rename_i h2
                rw [if_neg (fun q => h2 q.2), show a + 0 = a by omega] at hX
                rw [r_257_5 (hy := hy), r_257_6 (hy := hy), mm_wi (by omega) (by omega), mm_wi (by omega) (by omega), show a + 0 = a by omega]
                exact hX
            · rename_i h1
              rw [if_neg (fun q => h1 q.1), show a + 0 = a by omega] at hX
              rw [r_257_5 (hy := hy), r_257_6 (hy := hy), mm_wi (by omega) (by omega), mm_wi (by omega) (by omega), show a + 0 = a by omega]
              exact hX
          · rw [r_257_4 (hy := hy), if_neg (by decide)]
            exact mfin _ _ (by rw [en]; omega)
        exact LL _ rfl
      by_cases c2 : n = 2
      · subst c2
        show mm_Wp 35 (mm_blk 35 11) _ _ _ _
        rw [r_35_11a (htx4 := hD) (hx := hx), r_35_14 (hx := hx)]
        have dd := kk_dsC hc hs.1.1 s5 nn
        refine fin _ ⟨_, rfl, by omega, by omega⟩ ?_
        rw [r_257_e (hy := hy)]
        refine m181t hy (kk_nmC hc0) (kk_NC hc0) ht.1 ht.2 (fun s3 q1 q2 q3 => ?_) (fun q => absurd hs (fun w => kk_tpn (kk_npu.1 q) w))
        have e := kk_tp1 (kk_tpu.1 q3) hs
        subst e
        rw [mm_pI, r_257_0_6 (hy := hy), if_neg (by omega)]
        show mm_Wp 257 (mm_blk 257 8) _ _ _ _
        rw [r_257_8 (hy := hy), if_pos s5, r_257_11 (hy := hy), mm_upf (by decide)]
        exact ⟨by omega, mfin _ _ dd.2.1.1.symm⟩
      by_cases c3 : n = 3
      · subst c3
        show mm_Wp 35 (mm_blk 35 15) _ _ _ _
        rw [r_35_15 (htx3 := hsT) (hx := hx)]
        refine s159 hsT hx ?_
        rw [mm_pI, r_35_15_2 (hx := hx)]
        have r := kk_S36 (f := fun n => if h (24, s2, n) 0 = 0 then 0 else 1) (lo := 0) (hi := 1) (fun n2 n1 n3 => by split <;> omega)
        refine fin _ ⟨_, rfl, by omega, by omega⟩ ?_
        rw [r_257_e (hy := hy)]
        refine m181t hy (kk_nmC hc0) (kk_NC hc0) ht.1 ht.2 (fun s3 q1 q2 q3 => ?_) (fun q => absurd hs (fun w => kk_tpn (kk_npu.1 q) w))
        have e := kk_tp1 (kk_tpu.1 q3) hs
        subst e
        rw [mm_pI, r_257_0_6 (hy := hy), if_neg (by omega)]
        show mm_Wp 257 (mm_blk 257 12) _ _ _ _
        rw [r_257_12 (hy := hy)]
        refine m175 hy (by omega) (by decide) ?_
        rw [mm_pI, r_257_12_3 (hy := hy)]
        have LL : ∀ n, n = kk_S (fun n => if h (24, s3, n) 0 = 0 then 0 else 1) 36 → mm_Wp 257 (mm_blk 257 13) [zR (40, 0, 0), zI t, zI 3, zI s3, zI 0, zI (36 * s3 + 1 - 1 + 0)] [] (mm_z (mm_up h (40, 0, 0) 0 0) dh nx ns) (fun (r2 : mm_V) (h2 : mm_H) => r2 = zI n ∧ ∃ g2, h2 = mm_z g2 dh nx ns ∧ kk_core (b + 1) g2 dh ∧ ∀ x j, kk_scr x j → g2 x j = h x j) := fun n en => by
          refine kk_sl0 (X := fun a i => mm_Wp 257 (mm_blk 257 13) [zR (40, 0, 0), zI t, zI 3, zI s3, zI a, zI (36 * s3 + 1 - 1 + i)] [] (mm_z (mm_up h (40, 0, 0) 0 0) dh nx ns) (fun (r2 : mm_V) (h2 : mm_H) => r2 = zI n ∧ ∃ g2, h2 = mm_z g2 dh nx ns ∧ kk_core (b + 1) g2 dh ∧ ∀ x j, kk_scr x j → g2 x j = h x j)) (f := fun i => if h (24, s3, i + 1) 0 = 0 then 0 else 1) 36 1 (by decide) (fun i _ _ => by split <;> omega) 0 (fun a i a1 a2 a3 a4 hX => ?_) ?_
          · rw [r_257_13 (hy := hy)]
            rw [show 36 * s3 + 1 - 1 + (i + 1) = 36 * s3 + 1 - 1 + i + 1 by omega] at hX
            refine m175 hy (by omega) (by decide) ?_
            have N := kk_NRC hc (t := s3) (n := i + 1) (by omega) ⟨by omega, by omega⟩
            have W := kk_NWC hc hsT (n := i + 1) ⟨by omega, by omega⟩
            have ek : h (41, 0, 0) (36 * s3 + 1 - 1 + i) = h (24, s3, i + 1) 0 := by rw [N.1, show 36 * s3 + (i + 1) - 1 = 36 * s3 + 1 - 1 + i by omega]
            rw [mm_pI, r_257_13_4 (hy := hy), if_neg (by omega), mm_upf (by decide), ek]
            refine ⟨by omega, ?_⟩
            split
            · rename_i h1
              rw [if_neg (by omega)] at hX
              rw [r_257_15 (hy := hy), mm_wi (by omega) (by omega), mm_wi (by omega) (by omega)]
              exact hX
            · rename_i h1
              have := W.1
              rw [if_pos (by omega)] at hX
              rw [r_257_15 (hy := hy), mm_wi (by omega) (by omega), mm_wi (by omega) (by omega)]
              exact hX
          · rw [r_257_13 (hy := hy)]
            refine m175 hy (by omega) (by decide) ?_
            rw [mm_pI, r_257_13_4 (hy := hy), if_pos (by omega)]
            exact mfin _ _ (by rw [en]; exact Int.zero_add _)
        rw [show (36 * s3 + 1 - 1 : Int) = 36 * s3 + 1 - 1 + 0 by omega]
        exact LL _ rfl
      have c4 : ¬ (0 ≤ n ∧ n < 4) := by omega
      rw [mm_sw1 c4, r_35_16 (hx := hx)]
      refine fin _ ⟨_, rfl, by omega, by omega⟩ ?_
      rw [r_257_e (hy := hy)]
      refine m181t hy (kk_nmC hc0) (kk_NC hc0) ht.1 ht.2 (fun s3 q1 q2 q3 => ?_) (fun q => absurd hs (fun w => kk_tpn (kk_npu.1 q) w))
      have e := kk_tp1 (kk_tpu.1 q3) hs
      subst e
      rw [mm_pI, r_257_0_6 (hy := hy), if_neg (by omega)]
      rw [mm_sw4 c4, r_257_17 (hy := hy)]
      exact mfin _ _ rfl
    · have tp := (kk_tl2 (kk_nmC hc) (by omega) hs.1.2).1 hs.2.1
      have tb := kk_smn hc hs.1.1 hs.1.2
      have tb2 : kk_no h s = h (33, s - 5, 0) 1 := if_neg s5
      refine s53t hx (kk_nmC hc) (fun s2 a1 a2 a3 => absurd (kk_tp1 a3 hs) (by omega)) (fun q => ?_)
      rw [mm_pR, r_35_1_3 (htx3 := hsT) (hx := hx), if_pos tp.1, mm_wi (by omega) (by omega)]
      refine s54t hx (kk_nmC hc) (fun s2 a1 a2 a3 => ?_) (fun q => absurd (show kk_tp h (- -t) s by rw [Int.neg_neg]; exact hs) (q s (by omega)))
      rw [Int.neg_neg] at a3
      have e := kk_tp1 a3 hs
      subst e
      have hS : mm_isS (s2 - 5) := ⟨by omega, by omega⟩
      have sd := (kk_snC hc (j := s2 - 5) (by omega) (by omega)).1 (by rw [show 5 + (s2 - 5) = s2 by omega]; exact nn)
      rw [show 5 + (s2 - 5) = s2 by omega] at sd
      have h01 := hc.1.2.2.1.2.2.2.2.2.2.2.2.2.1 s2 (by omega) (by omega)
      rw [mm_pR, r_35_1_10a (htx3 := hsT) (hty0 := hS) (hx := hx), r_35_3b (htx3 := hsT) (hty0 := hS) (hx := hx)]
      by_cases c0 : n = 0
      · subst c0
        show mm_Wp 35 (mm_blk 35 4) _ _ _ _
        rw [r_35_4b (htx5 := hS) (hx := hx), r_35_7 (hx := hx)]
        refine fin _ ⟨_, rfl, by omega, by omega⟩ ?_
        rw [r_257_e (hy := hy)]
        refine m181t hy (kk_nmC hc0) (kk_NC hc0) ht.1 ht.2 (fun s3 q1 q2 q3 => ?_) (fun q => absurd hs (fun w => kk_tpn (kk_npu.1 q) w))
        have e := kk_tp1 (kk_tpu.1 q3) hs
        subst e
        rw [mm_pI, r_257_0_6 (hy := hy), if_neg (by omega)]
        show mm_Wp 257 (mm_blk 257 2) _ _ _ _
        rw [r_257_2 (hy := hy), mm_upf (by decide)]
        exact ⟨by omega, mfin _ _ sd.1.symm⟩
      by_cases c1 : n = 1
      · subst c1
        show mm_Wp 35 (mm_blk 35 8) _ _ _ _
        rw [r_35_8 (hx := hx), r_35_10 (hx := hx)]
        refine fin 0 ⟨_, rfl, by omega, by omega⟩ ?_
        rw [r_257_e (hy := hy)]
        refine m181t hy (kk_nmC hc0) (kk_NC hc0) ht.1 ht.2 (fun s3 q1 q2 q3 => ?_) (fun q => absurd hs (fun w => kk_tpn (kk_npu.1 q) w))
        have e := kk_tp1 (kk_tpu.1 q3) hs
        subst e
        rw [mm_pI, r_257_0_6 (hy := hy), if_neg (by omega)]
        show mm_Wp 257 (mm_blk 257 3) _ _ _ _
        rw [r_257_3 (hy := hy)]
        have LL : mm_Wp 257 (mm_blk 257 4) [zR (40, 0, 0), zI t, zI 1, zI s3, zI 0, zI (5 + 0)] [] (mm_z (mm_up h (40, 0, 0) 0 0) dh nx ns) (fun (r2 : mm_V) (h2 : mm_H) => r2 = zI 0 ∧ ∃ g2, h2 = mm_z g2 dh nx ns ∧ kk_core (b + 1) g2 dh ∧ ∀ x j, kk_scr x j → g2 x j = h x j) := by
          refine kk_sl0 (X := fun a i => mm_Wp 257 (mm_blk 257 4) [zR (40, 0, 0), zI t, zI 1, zI s3, zI a, zI (5 + i)] [] (mm_z (mm_up h (40, 0, 0) 0 0) dh nx ns) (fun (r2 : mm_V) (h2 : mm_H) => r2 = zI 0 ∧ ∃ g2, h2 = mm_z g2 dh nx ns ∧ kk_core (b + 1) g2 dh ∧ ∀ x j, kk_scr x j → g2 x j = h x j)) (f := fun j => 0) 8 1 (by decide) (fun i _ _ => by omega) 0 (fun a i a1 a2 a3 a4 hX => ?_) ?_
          · rw [r_257_4 (hy := hy), if_pos (by omega), if_neg s5]
            rw [show 5 + (i + 1) = 5 + i + 1 by omega] at hX
            rw [r_257_5 (hy := hy), r_257_6 (hy := hy), mm_wi (by omega) (by omega), mm_wi (by omega) (by omega)]
            exact hX
          · rw [r_257_4 (hy := hy), if_neg (by decide)]
            exact mfin _ _ (by rw [sm_0I 8 (fun _ _ _ => rfl)]; rfl)
        exact LL
      by_cases c2 : n = 2
      · subst c2
        show mm_Wp 35 (mm_blk 35 11) _ _ _ _
        rw [r_35_11b (htx5 := hS) (hx := hx)]
        split
        · rename_i c
          rw [r_35_13 (hx := hx), r_35_14 (hx := hx)]
          refine fin _ ⟨_, rfl, by omega, by omega⟩ ?_
          rw [r_257_e (hy := hy)]
          refine m181t hy (kk_nmC hc0) (kk_NC hc0) ht.1 ht.2 (fun s3 q1 q2 q3 => ?_) (fun q => absurd hs (fun w => kk_tpn (kk_npu.1 q) w))
          have e := kk_tp1 (kk_tpu.1 q3) hs
          subst e
          rw [mm_pI, r_257_0_6 (hy := hy), if_neg (by omega)]
          show mm_Wp 257 (mm_blk 257 8) _ _ _ _
          rw [r_257_8 (hy := hy), if_neg s5, mm_upf (by decide), if_pos (by omega), r_257_11 (hy := hy)]
          exact ⟨by omega, mfin _ _ rfl⟩
        · rename_i c
          rw [r_35_14 (hx := hx)]
          refine fin _ ⟨_, rfl, by omega, by omega⟩ ?_
          rw [r_257_e (hy := hy)]
          refine m181t hy (kk_nmC hc0) (kk_NC hc0) ht.1 ht.2 (fun s3 q1 q2 q3 => ?_) (fun q => absurd hs (fun w => kk_tpn (kk_npu.1 q) w))
          have e := kk_tp1 (kk_tpu.1 q3) hs
          subst e
          rw [mm_pI, r_257_0_6 (hy := hy), if_neg (by omega)]
          show mm_Wp 257 (mm_blk 257 8) _ _ _ _
          rw [r_257_8 (hy := hy), if_neg s5, mm_upf (by decide), if_neg (by omega), r_257_11 (hy := hy)]
          exact ⟨by omega, mfin _ _ rfl⟩
      by_cases c3 : n = 3
      · subst c3
        show mm_Wp 35 (mm_blk 35 15) _ _ _ _
        rw [r_35_15 (htx3 := hsT) (hx := hx)]
        refine s159 hsT hx ?_
        rw [mm_pI, r_35_15_2 (hx := hx)]
        have r := kk_S36 (f := fun n => if h (24, s2, n) 0 = 0 then 0 else 1) (lo := 0) (hi := 1) (fun n2 n1 n3 => by split <;> omega)
        refine fin _ ⟨_, rfl, by omega, by omega⟩ ?_
        rw [r_257_e (hy := hy)]
        refine m181t hy (kk_nmC hc0) (kk_NC hc0) ht.1 ht.2 (fun s3 q1 q2 q3 => ?_) (fun q => absurd hs (fun w => kk_tpn (kk_npu.1 q) w))
        have e := kk_tp1 (kk_tpu.1 q3) hs
        subst e
        rw [mm_pI, r_257_0_6 (hy := hy), if_neg (by omega)]
        show mm_Wp 257 (mm_blk 257 12) _ _ _ _
        rw [r_257_12 (hy := hy)]
        refine m175 hy (by omega) (by decide) ?_
        rw [mm_pI, r_257_12_3 (hy := hy)]
        have LL : ∀ n, n = kk_S (fun n => if h (24, s3, n) 0 = 0 then 0 else 1) 36 → mm_Wp 257 (mm_blk 257 13) [zR (40, 0, 0), zI t, zI 3, zI s3, zI 0, zI (36 * s3 + 1 - 1 + 0)] [] (mm_z (mm_up h (40, 0, 0) 0 0) dh nx ns) (fun (r2 : mm_V) (h2 : mm_H) => r2 = zI n ∧ ∃ g2, h2 = mm_z g2 dh nx ns ∧ kk_core (b + 1) g2 dh ∧ ∀ x j, kk_scr x j → g2 x j = h x j) := fun n en => by
          refine kk_sl0 (X := fun a i => mm_Wp 257 (mm_blk 257 13) [zR (40, 0, 0), zI t, zI 3, zI s3, zI a, zI (36 * s3 + 1 - 1 + i)] [] (mm_z (mm_up h (40, 0, 0) 0 0) dh nx ns) (fun (r2 : mm_V) (h2 : mm_H) => r2 = zI n ∧ ∃ g2, h2 = mm_z g2 dh nx ns ∧ kk_core (b + 1) g2 dh ∧ ∀ x j, kk_scr x j → g2 x j = h x j)) (f := fun i => if h (24, s3, i + 1) 0 = 0 then 0 else 1) 36 1 (by decide) (fun i _ _ => by split <;> omega) 0 (fun a i a1 a2 a3 a4 hX => ?_) ?_
          · rw [r_257_13 (hy := hy)]
            rw [show 36 * s3 + 1 - 1 + (i + 1) = 36 * s3 + 1 - 1 + i + 1 by omega] at hX
            refine m175 hy (by omega) (by decide) ?_
            have N := kk_NRC hc (t := s3) (n := i + 1) (by omega) ⟨by omega, by omega⟩
            have W := kk_NWC hc hsT (n := i + 1) ⟨by omega, by omega⟩
            have ek : h (41, 0, 0) (36 * s3 + 1 - 1 + i) = h (24, s3, i + 1) 0 := by rw [N.1, show 36 * s3 + (i + 1) - 1 = 36 * s3 + 1 - 1 + i by omega]
            rw [mm_pI, r_257_13_4 (hy := hy), if_neg (by omega), mm_upf (by decide), ek]
            refine ⟨by omega, ?_⟩
            split
            · rename_i h1
              rw [if_neg (by omega)] at hX
              rw [r_257_15 (hy := hy), mm_wi (by omega) (by omega), mm_wi (by omega) (by omega)]
              exact hX
            · rename_i h1
              have := W.1
              rw [if_pos (by omega)] at hX
              rw [r_257_15 (hy := hy), mm_wi (by omega) (by omega), mm_wi (by omega) (by omega)]
              exact hX
          · rw [r_257_13 (hy := hy)]
            refine m175 hy (by omega) (by decide) ?_
            rw [mm_pI, r_257_13_4 (hy := hy), if_pos (by omega)]
            exact mfin _ _ (by rw [en]; exact Int.zero_add _)
        rw [show (36 * s3 + 1 - 1 : Int) = 36 * s3 + 1 - 1 + 0 by omega]
        exact LL _ rfl
      have c4 : ¬ (0 ≤ n ∧ n < 4) := by omega
      rw [mm_sw1 c4, r_35_16 (hx := hx)]
      refine fin _ ⟨_, rfl, by omega, by omega⟩ ?_
      rw [r_257_e (hy := hy)]
      refine m181t hy (kk_nmC hc0) (kk_NC hc0) ht.1 ht.2 (fun s3 q1 q2 q3 => ?_) (fun q => absurd hs (fun w => kk_tpn (kk_npu.1 q) w))
      have e := kk_tp1 (kk_tpu.1 q3) hs
      subst e
      rw [mm_pI, r_257_0_6 (hy := hy), if_neg (by omega)]
      rw [mm_sw4 c4, r_257_17 (hy := hy)]
      exact mfin _ _ rfl
  · rw [mm_pR, r_35_0_3 (hx := hx)]
    refine fin (-1) ⟨_, rfl, by omega, by omega⟩ ?_
    rw [r_257_e (hy := hy)]
    refine m181t hy (kk_nmC hc0) (kk_NC hc0) ht.1 ht.2 (fun s2 q1 q2 q3 => absurd (kk_tpu.1 q3) (fun w => kk_tpn hs w)) (fun q => ?_)
    rw [mm_pI, r_257_0_6 (hy := hy), if_pos (by decide)]
    exact mfin _ _ rfl

