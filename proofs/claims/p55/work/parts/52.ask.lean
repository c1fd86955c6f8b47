/-! the calls of both: those that only ask of a node -/
theorem kk_tpu {h : mm_Id → Int → Int} {x s j v : Int} : kk_tp (mm_up h (40, 0, 0) j v) x s ↔ kk_tp h x s := by
  unfold kk_tp kk_tl kk_no
  simp only [mm_upf (show ¬ (31 : Nat) = 40 by decide), mm_upf (show ¬ (33 : Nat) = 40 by decide)]
theorem kk_npu {h : mm_Id → Int → Int} {x j v : Int} : kk_np (mm_up h (40, 0, 0) j v) x ↔ kk_np h x := by
  unfold kk_np kk_tl kk_no
  simp only [mm_upf (show ¬ (31 : Nat) = 40 by decide), mm_upf (show ¬ (33 : Nat) = 40 by decide)]
theorem kk_tpn {h : mm_Id → Int → Int} {x s : Int} (h1 : kk_np h x) (h2 : kk_tp h x s) : False := h1 s h2.1.1 h2.1.2 h2.2.1
theorem kk_scr0 {h : mm_Id → Int → Int} {x : mm_Id} {j v : Int} (hs : kk_scr x j) : mm_up h (40, 0, 0) 0 v x j = h x j := by
  refine mm_upne' ?_
  rintro ⟨rfl, rfl⟩
  unfold kk_scr at hs
  simp at hs
theorem kk_core0 {b : Int} {h : mm_Id → Int → Int} {dh : Int → Int} {v : Int} (hc : kk_core b h dh) : kk_core b (mm_up h (40, 0, 0) 0 v) dh :=
  kk_coreC (fun x j h1 _ => mm_upne' h1) hc
theorem kk_inj {f : Int → Int} {c i j : Int} (hs : mm_srt f c) (i0 : 0 ≤ i) (i1 : i < c) (j0 : 0 ≤ j) (j1 : j < c) (h : f i = f j) : i = j := by
  by_cases a : i < j
  · have := hs i j i0 a j1; omega
  · by_cases b : j < i
    · have := hs j i j0 b i1; omega
    · omega

theorem c_6 {b : Int} {h : mm_Id → Int → Int} {dh : Int → Int} {nx ns : Int} (hy : 10581 ≤ nx) (hc : kk_core b h dh) (hb : b + 1 ≤ 1000000) {t n k : Int} (ht : -2147483648 ≤ t ∧ t < 2147483648) (hn : -2147483648 ≤ n ∧ n < 2147483648) (hk : -2147483648 ≤ k ∧ k < 2147483648) : kk_call 6 218 [zI t, zI n, zI k] b h dh nx ns kk_SI := by
  unfold kk_call
  have hx : 5275 ≤ nx := by omega
  have hc0 : kk_core b (mm_up h (40, 0, 0) 0 0) dh := kk_core0 hc
  have fin : ∀ v, kk_SI (zI v) → mm_Cl 218 [zR (40, 0, 0), zI t, zI n, zI k] (mm_z h dh nx ns) (fun r2 h2 => r2 = zI v ∧ ∃ g2, h2 = mm_z g2 dh nx ns ∧ kk_core (b + 1) g2 dh ∧ ∀ x j, kk_scr x j → g2 x j = h x j) →
      (fun (r : mm_V) (h1 : mm_H) => kk_SI r ∧ ∃ g dh1, h1 = mm_z g dh1 nx ns ∧ mm_Cl 218 [zR (40, 0, 0), zI t, zI n, zI k] (mm_z g dh1 nx ns) (fun r2 h2 => r2 = r ∧ ∃ g2, h2 = mm_z g2 dh1 nx ns ∧ kk_core (b + 1) g2 dh1 ∧ ∀ x j, kk_scr x j → g2 x j = h x j)) (zI v) (mm_z h dh nx ns) :=
    fun v h1 h2 => ⟨h1, h, dh, rfl, h2⟩
  have mfin : ∀ v w : Int, w = v → (fun (r2 : mm_V) (h2 : mm_H) => r2 = zI v ∧ ∃ g2, h2 = mm_z g2 dh nx ns ∧ kk_core (b + 1) g2 dh ∧ ∀ x j, kk_scr x j → g2 x j = h x j) (zI w) (mm_z (mm_up h (40, 0, 0) 0 0) dh nx ns) :=
    fun v w e => ⟨by rw [e], _, rfl, kk_coreS hb hc0, fun x j hs => kk_scr0 hs⟩
  rw [r_6_e (hx := hx)]
  refine s55 hx (kk_nmC hc) ht.1 ht.2 (fun s hs => ?_) (fun hs => ?_)
  · have hsT := mm_T13 hs.1
    rw [mm_pR, r_6_0_4a (hty0 := hsT) (hx := hx)]
    refine s56 hsT hx (fun h1 h2 => ?_) (fun hn => ?_)
    · have hnN : mm_isN n := ⟨by omega, h1.2⟩
      have NR := kk_NRC hc (t := s) (n := n) (by have := hs.1; omega) h1
      have NW := kk_NWC hc hsT h1
      have hk : 0 ≤ 36 * s + n - 1 ∧ 36 * s + n - 1 < 1044 := by have := hs.1; omega
      have emay : ∀ r, kk_may (mm_up h (40, 0, 0) 0 0 (40, 0, 0) 29) (mm_up h (40, 0, 0) 0 0 (47, 0, 0) (36 * s + n - 1)) (mm_up h (40, 0, 0) 0 0 (48, 0, 0) (36 * s + n - 1)) r ↔ kk_may (h (1, 0, 0) 12) (h (24, s, n) 2) (h (24, s, n) 3) r := fun r => by
        rw [mm_upj (by decide), mm_upf (by decide), mm_upf (by decide), ← (NR.2.2.2.1 h2).2.1, ← (NR.2.2.2.1 h2).2.2.1, ← (kk_cal hc).1]
      rw [mm_pR, r_6_0_6a (hty0 := hsT) (hny0 := hnN) (hx := hx)]
      refine s58 hx (fun hnm => ?_) (fun hnm => ?_)
      · rw [mm_pI, r_6_1_3 (htx4 := hsT) (hnx4 := hnN) (hx := hx), if_neg (by decide)]
        split
        · rename_i hd
          refine s60 hsT hnN hx (fun hmay => ?_) (fun hmay => ?_)
          · rw [mm_pI, r_6_3_4 (htx4 := hsT) (hnx4 := hnN) (hx := hx), if_neg (by decide)]
            refine s99 hsT hnN hx NW.2.1 NW.2.2.2.2.2.2.2.2.2.2.2.1 (fun p p0 p1 p2 => ?_) (fun p0 => ?_)
            · have hmn := (NW.2.2.2.2.2.2.2.2.2.2.2.2.2.1 p p0 p1).2.1
              rw [mm_pI, r_6_4_3 (hvx4 := mm_wR _) (hx := hx), if_neg (by omega), r_6_6 (hx := hx)]
              refine fin _ ⟨_, rfl, by omega, by omega⟩ ?_
              rw [r_218_e (hy := hy)]
              refine m181t hy (kk_nmC hc0) (kk_NC hc0) ht.1 ht.2 (fun s2 q1 q2 q3 => ?_) (fun q => ?_)
              · have e := kk_tp1 (kk_tpu.1 q3) hs
                subst e
                rw [mm_pI, r_218_0_6 (hy := hy)]
                refine m210 hy (by omega) (fun w1 w2 => ?_) (fun w => ?_)
                · rw [mm_pI, r_218_0_11 (hy := hy), if_neg (by decide)]
                  refine m174 hy (fun w => ?_) (fun w => absurd hnm w)
                  rw [mm_pI, r_218_1_5 (hy := hy), if_neg (by decide)]
                  refine m211 hy (by omega) h1 (fun b2 hb2 => ?_)
                  rw [mm_upf (by decide), ← NR.1] at hb2
                  rw [mm_pI, r_218_2_4 (hy := hy)]
                  rw [if_pos hd] at hb2
                  subst hb2
                  rw [if_neg (by decide)]
                  refine m203 hy (by omega) h1 (fun w2 => ?_) (fun w2 => absurd ((emay 1).2 hmay) w2)
                  rw [mm_pI, r_218_3_5 (hy := hy), if_neg (by decide)]
                  refine m184 hy (by omega) h1 (by rw [mm_upf (by decide), ← NR.2.1]; exact NW.2.1) (fun e e1 e2 e3 => ?_) (fun e0 => ?_)
                  · rw [mm_upf (by decide), ← NR.2.1] at e2
                    rw [mm_upf (by decide), ← (NR.2.2.2.2.1 e e1 e2).1] at e3
                    have ee := kk_inj NW.2.2.2.2.2.2.2.2.2.2.2.1 e1 e2 p0 p1 (e3.trans p2.symm)
                    subst ee
                    rw [mm_pI, r_218_4_5 (hy := hy), if_neg (by omega)]
                    have hct := NW.2.1
                    refine m185 hy (by omega) h1 (by omega) ?_
                    rw [mm_pI, r_218_5_5 (hy := hy), r_218_6 (hy := hy), mm_upf (by decide)]
                    exact mfin _ _ (NR.2.2.2.2.1 e e1 e2).2.symm
                  · exact absurd p2 (by
                      have := e0 p p0 (by rw [mm_upf (by decide), ← NR.2.1]; exact p1)
                      rw [mm_upf (by decide), ← (NR.2.2.2.2.1 p p0 p1).1] at this
                      exact this)
                · exact absurd ⟨h1, by rw [mm_upf (by decide)]; exact ((kk_isn hc ⟨q1, q2⟩).1 ⟨h1, h2⟩).2⟩ w
              · exact absurd hs (fun w => kk_tpn (kk_npu.1 q) w)
            · rw [mm_pI, r_6_4_3 (hvx4 := mm_wR _) (hx := hx), if_pos rfl, r_6_6 (hx := hx)]
              refine fin _ ⟨_, rfl, by omega, by omega⟩ ?_
              rw [r_218_e (hy := hy)]
              refine m181t hy (kk_nmC hc0) (kk_NC hc0) ht.1 ht.2 (fun s2 q1 q2 q3 => ?_) (fun q => ?_)
              · have e := kk_tp1 (kk_tpu.1 q3) hs
                subst e
                rw [mm_pI, r_218_0_6 (hy := hy)]
                refine m210 hy (by omega) (fun w1 w2 => ?_) (fun w => ?_)
                · rw [mm_pI, r_218_0_11 (hy := hy), if_neg (by decide)]
                  refine m174 hy (fun w => ?_) (fun w => absurd hnm w)
                  rw [mm_pI, r_218_1_5 (hy := hy), if_neg (by decide)]
                  refine m211 hy (by omega) h1 (fun b2 hb2 => ?_)
                  rw [mm_upf (by decide), ← NR.1] at hb2
                  rw [mm_pI, r_218_2_4 (hy := hy)]
                  rw [if_pos hd] at hb2
                  subst hb2
                  rw [if_neg (by decide)]
                  refine m203 hy (by omega) h1 (fun w2 => ?_) (fun w2 => absurd ((emay 1).2 hmay) w2)
                  rw [mm_pI, r_218_3_5 (hy := hy), if_neg (by decide)]
                  refine m184 hy (by omega) h1 (by rw [mm_upf (by decide), ← NR.2.1]; exact NW.2.1) (fun e e1 e2 e3 => ?_) (fun e0 => ?_)
                  · rw [mm_upf (by decide), ← NR.2.1] at e2
                    rw [mm_upf (by decide), ← (NR.2.2.2.2.1 e e1 e2).1] at e3
                    exact absurd e3 (p0 e e1 e2)
                  · rw [mm_pI, r_218_4_5 (hy := hy), if_pos (by decide), r_218_6 (hy := hy)]
                    exact mfin _ _ rfl
                · exact absurd ⟨h1, by rw [mm_upf (by decide)]; exact ((kk_isn hc ⟨q1, q2⟩).1 ⟨h1, h2⟩).2⟩ w
              · exact absurd hs (fun w => kk_tpn (kk_npu.1 q) w)
          · rw [mm_pI, r_6_3_4 (htx4 := hsT) (hnx4 := hnN) (hx := hx), if_pos rfl]
            refine fin _ ⟨_, rfl, by omega, by omega⟩ ?_
            rw [r_218_e (hy := hy)]
            refine m181t hy (kk_nmC hc0) (kk_NC hc0) ht.1 ht.2 (fun s2 q1 q2 q3 => ?_) (fun q => ?_)
            · have e := kk_tp1 (kk_tpu.1 q3) hs
              subst e
              rw [mm_pI, r_218_0_6 (hy := hy)]
              refine m210 hy (by omega) (fun w1 w2 => ?_) (fun w => ?_)
              · rw [mm_pI, r_218_0_11 (hy := hy), if_neg (by decide)]
                refine m174 hy (fun w => ?_) (fun w => absurd hnm w)
                rw [mm_pI, r_218_1_5 (hy := hy), if_neg (by decide)]
                refine m211 hy (by omega) h1 (fun b2 hb2 => ?_)
                rw [mm_upf (by decide), ← NR.1] at hb2
                rw [mm_pI, r_218_2_4 (hy := hy)]
                rw [if_pos hd] at hb2
                subst hb2
                rw [if_neg (by decide)]
                refine m203 hy (by omega) h1 (fun w2 => absurd ((emay 1).1 w2) hmay) (fun w2 => ?_)
                rw [mm_pI, r_218_3_5 (hy := hy), if_pos rfl]
                exact mfin _ _ rfl
              · exact absurd ⟨h1, by rw [mm_upf (by decide)]; exact ((kk_isn hc ⟨q1, q2⟩).1 ⟨h1, h2⟩).2⟩ w
            · exact absurd hs (fun w => kk_tpn (kk_npu.1 q) w)
        · rename_i hd
          refine fin _ ⟨_, rfl, by omega, by omega⟩ ?_
          rw [r_218_e (hy := hy)]
          refine m181t hy (kk_nmC hc0) (kk_NC hc0) ht.1 ht.2 (fun s2 q1 q2 q3 => ?_) (fun q => ?_)
          · have e := kk_tp1 (kk_tpu.1 q3) hs
            subst e
            rw [mm_pI, r_218_0_6 (hy := hy)]
            refine m210 hy (by omega) (fun w1 w2 => ?_) (fun w => ?_)
            · rw [mm_pI, r_218_0_11 (hy := hy), if_neg (by decide)]
              refine m174 hy (fun w => ?_) (fun w => absurd hnm w)
              rw [mm_pI, r_218_1_5 (hy := hy), if_neg (by decide)]
              refine m211 hy (by omega) h1 (fun b2 hb2 => ?_)
              rw [mm_upf (by decide), ← NR.1] at hb2
              rw [mm_pI, r_218_2_4 (hy := hy)]
              rw [if_neg hd] at hb2
              subst hb2
              rw [if_pos rfl]
              exact mfin _ _ rfl
            · exact absurd ⟨h1, by rw [mm_upf (by decide)]; exact ((kk_isn hc ⟨q1, q2⟩).1 ⟨h1, h2⟩).2⟩ w
          · exact absurd hs (fun w => kk_tpn (kk_npu.1 q) w)
      · rw [mm_pI, r_6_1_3 (htx4 := hsT) (hnx4 := hnN) (hx := hx), if_pos rfl]
        refine fin _ ⟨_, rfl, by omega, by omega⟩ ?_
        rw [r_218_e (hy := hy)]
        refine m181t hy (kk_nmC hc0) (kk_NC hc0) ht.1 ht.2 (fun s2 q1 q2 q3 => ?_) (fun q => ?_)
        · have e := kk_tp1 (kk_tpu.1 q3) hs
          subst e
          rw [mm_pI, r_218_0_6 (hy := hy)]
          refine m210 hy (by omega) (fun w1 w2 => ?_) (fun w => ?_)
          · rw [mm_pI, r_218_0_11 (hy := hy), if_neg (by decide)]
            refine m174 hy (fun w => absurd w hnm) (fun w => ?_)
            rw [mm_pI, r_218_1_5 (hy := hy), if_pos rfl]
            exact mfin _ _ rfl
          · exact absurd ⟨h1, by rw [mm_upf (by decide)]; exact ((kk_isn hc ⟨q1, q2⟩).1 ⟨h1, h2⟩).2⟩ w
        · exact absurd hs (fun w => kk_tpn (kk_npu.1 q) w)
    · rw [mm_pR, r_6_0_6 (hx := hx)]
      refine fin (-1) ⟨_, rfl, by omega, by omega⟩ ?_
      rw [r_218_e (hy := hy)]
      refine m181t hy (kk_nmC hc0) (kk_NC hc0) ht.1 ht.2 (fun s2 q1 q2 q3 => ?_) (fun q => ?_)
      · have e := kk_tp1 (kk_tpu.1 q3) hs
        subst e
        rw [mm_pI, r_218_0_6 (hy := hy)]
        refine m210 hy (by omega) (fun w1 w2 => ?_) (fun w => ?_)
        · exact absurd ((kk_isn hc ⟨q1, q2⟩).2 ⟨w1, by rw [mm_upf (by decide)] at w2; exact w2⟩) hn
        · rw [mm_pI, r_218_0_11 (hy := hy), if_pos rfl]
          exact mfin _ _ rfl
      · exact absurd hs (fun w => kk_tpn (kk_npu.1 q) w)
  · rw [mm_pR, r_6_0_4 (hx := hx)]
    refine s56n hx ?_
    rw [mm_pR, r_6_0_6 (hx := hx)]
    refine fin (-1) ⟨_, rfl, by omega, by omega⟩ ?_
    rw [r_218_e (hy := hy)]
    refine m181t hy (kk_nmC hc0) (kk_NC hc0) ht.1 ht.2 (fun s2 q1 q2 q3 => ?_) (fun q => ?_)
    · exact absurd (kk_tpu.1 q3) (fun w => kk_tpn hs w)
    · rw [mm_pI, r_218_0_6 (hy := hy)]
      refine m210n hy ?_
      rw [mm_pI, r_218_0_11 (hy := hy), if_pos rfl]
      exact mfin _ _ rfl

theorem c_14 {b : Int} {h : mm_Id → Int → Int} {dh : Int → Int} {nx ns : Int} (hy : 10581 ≤ nx) (hc : kk_core b h dh) (hb : b + 1 ≤ 1000000) {t n k : Int} (ht : -2147483648 ≤ t ∧ t < 2147483648) (hn : -2147483648 ≤ n ∧ n < 2147483648) (hk : -2147483648 ≤ k ∧ k < 2147483648) : kk_call 14 229 [zI t, zI n, zI k] b h dh nx ns kk_SI := by
  unfold kk_call
  have hx : 5275 ≤ nx := by omega
  have hc0 : kk_core b (mm_up h (40, 0, 0) 0 0) dh := kk_core0 hc
  have fin : ∀ v, kk_SI (zI v) → mm_Cl 229 [zR (40, 0, 0), zI t, zI n, zI k] (mm_z h dh nx ns) (fun r2 h2 => r2 = zI v ∧ ∃ g2, h2 = mm_z g2 dh nx ns ∧ kk_core (b + 1) g2 dh ∧ ∀ x j, kk_scr x j → g2 x j = h x j) →
      (fun (r : mm_V) (h1 : mm_H) => kk_SI r ∧ ∃ g dh1, h1 = mm_z g dh1 nx ns ∧ mm_Cl 229 [zR (40, 0, 0), zI t, zI n, zI k] (mm_z g dh1 nx ns) (fun r2 h2 => r2 = r ∧ ∃ g2, h2 = mm_z g2 dh1 nx ns ∧ kk_core (b + 1) g2 dh1 ∧ ∀ x j, kk_scr x j → g2 x j = h x j)) (zI v) (mm_z h dh nx ns) :=
    fun v h1 h2 => ⟨h1, h, dh, rfl, h2⟩
  have mfin : ∀ v w : Int, w = v → (fun (r2 : mm_V) (h2 : mm_H) => r2 = zI v ∧ ∃ g2, h2 = mm_z g2 dh nx ns ∧ kk_core (b + 1) g2 dh ∧ ∀ x j, kk_scr x j → g2 x j = h x j) (zI w) (mm_z (mm_up h (40, 0, 0) 0 0) dh nx ns) :=
    fun v w e => ⟨by rw [e], _, rfl, kk_coreS hb hc0, fun x j hs => kk_scr0 hs⟩
  rw [r_14_e (hx := hx)]
  refine s55 hx (kk_nmC hc) ht.1 ht.2 (fun s hs => ?_) (fun hs => ?_)
  · have hsT := mm_T13 hs.1
    rw [mm_pR, r_14_0_4a (hty0 := hsT) (hx := hx)]
    refine s56 hsT hx (fun h1 h2 => ?_) (fun hn => ?_)
    · have hnN : mm_isN n := ⟨by omega, h1.2⟩
      have NR := kk_NRC hc (t := s) (n := n) (by have := hs.1; omega) h1
      have NW := kk_NWC hc hsT h1
      have hk : 0 ≤ 36 * s + n - 1 ∧ 36 * s + n - 1 < 1044 := by have := hs.1; omega
      have emay : ∀ r, kk_may (mm_up h (40, 0, 0) 0 0 (40, 0, 0) 29) (mm_up h (40, 0, 0) 0 0 (47, 0, 0) (36 * s + n - 1)) (mm_up h (40, 0, 0) 0 0 (48, 0, 0) (36 * s + n - 1)) r ↔ kk_may (h (1, 0, 0) 12) (h (24, s, n) 2) (h (24, s, n) 3) r := fun r => by
        rw [mm_upj (by decide), mm_upf (by decide), mm_upf (by decide), ← (NR.2.2.2.1 h2).2.1, ← (NR.2.2.2.1 h2).2.2.1, ← (kk_cal hc).1]
      rw [mm_pR, r_14_0_6a (hty0 := hsT) (hny0 := hnN) (hx := hx)]
      have hct := NW.2.1
      split
      · rename_i hd
        refine s60 hsT hnN hx (fun hmay => ?_) (fun hmay => ?_)
        · rw [mm_pI, r_14_2_4 (htx4 := hsT) (hnx4 := hnN) (hx := hx), if_neg (by decide)]
          split
          · rename_i c1
            rw [r_14_4 (hx := hx), r_14_6 (hx := hx)]
            refine fin _ ⟨_, rfl, by omega, by omega⟩ ?_
            rw [r_229_e (hy := hy)]
            refine m181t hy (kk_nmC hc0) (kk_NC hc0) ht.1 ht.2 (fun s2 q1 q2 q3 => ?_) (fun q => ?_)
            · have e := kk_tp1 (kk_tpu.1 q3) hs
              subst e
              rw [mm_pI, r_229_0_6 (hy := hy)]
              refine m210 hy (by omega) (fun w1 w2 => ?_) (fun w => ?_)
              · rw [mm_pI, r_229_0_11 (hy := hy), if_neg (by decide)]
                refine m211 hy (by omega) h1 (fun b2 hb2 => ?_)
                rw [mm_upf (by decide), ← NR.1] at hb2
                rw [mm_pI, r_229_1_4 (hy := hy)]
                rw [if_pos hd] at hb2
                subst hb2
                rw [if_neg (by decide)]
                refine m203 hy (by omega) h1 (fun w2 => ?_) (fun w2 => absurd ((emay 4).2 hmay) w2)
                rw [mm_pI, r_229_2_5 (hy := hy), if_neg (by decide)]
                refine m175 hy (by omega) h1 ?_
                rw [mm_pI, r_229_3_8 (hy := hy), mm_upf (by decide), ← NR.2.1, mm_wi (by omega) (by omega)]
                refine ⟨hk, m174 hy (fun w => by omega) (fun w => ?_)⟩
                rw [mm_pI, r_229_3_13 (hy := hy), if_pos rfl, r_229_5 (hy := hy)]
                exact mfin _ _ rfl
              · exact absurd ⟨h1, by rw [mm_upf (by decide)]; exact ((kk_isn hc ⟨q1, q2⟩).1 ⟨h1, h2⟩).2⟩ w
            · exact absurd hs (fun w => kk_tpn (kk_npu.1 q) w)
          · rename_i c1
            split
            · rename_i c2
              refine ⟨by omega, ?_⟩
              rw [r_14_6 (hx := hx)]
              have ek := (NR.2.2.2.2.1 k (by omega) c2).1
              have rk := (NW.2.2.2.2.2.2.2.2.2.2.2.2.2.1 k (by omega) c2).1
              refine fin _ ⟨_, rfl, by omega, by omega⟩ ?_
              rw [r_229_e (hy := hy)]
              refine m181t hy (kk_nmC hc0) (kk_NC hc0) ht.1 ht.2 (fun s2 q1 q2 q3 => ?_) (fun q => ?_)
              · have e := kk_tp1 (kk_tpu.1 q3) hs
                subst e
                rw [mm_pI, r_229_0_6 (hy := hy)]
                refine m210 hy (by omega) (fun w1 w2 => ?_) (fun w => ?_)
                · rw [mm_pI, r_229_0_11 (hy := hy), if_neg (by decide)]
                  refine m211 hy (by omega) h1 (fun b2 hb2 => ?_)
                  rw [mm_upf (by decide), ← NR.1] at hb2
                  rw [mm_pI, r_229_1_4 (hy := hy)]
                  rw [if_pos hd] at hb2
                  subst hb2
                  rw [if_neg (by decide)]
                  refine m203 hy (by omega) h1 (fun w2 => ?_) (fun w2 => absurd ((emay 4).2 hmay) w2)
                  rw [mm_pI, r_229_2_5 (hy := hy), if_neg (by decide)]
                  refine m175 hy (by omega) h1 ?_
                  rw [mm_pI, r_229_3_8 (hy := hy), mm_upf (by decide), ← NR.2.1, mm_wi (by omega) (by omega)]
                  refine ⟨hk, m174 hy (fun w => ?_) (fun w => by omega)⟩
                  rw [mm_pI, r_229_3_13 (hy := hy), if_neg (by decide)]
                  refine m175 hy (by omega) h1 ?_
                  rw [mm_pI, r_229_3_20 (hy := hy), mm_wi (z := 24 * (36 * s2 + n - 1)) (by omega) (by omega), mm_wi (z := 24 * (36 * s2 + n - 1) + k) (by omega) (by omega), r_229_5 (hy := hy), mm_upf (by decide)]
                  exact ⟨by omega, mfin _ _ ek.symm⟩
                · exact absurd ⟨h1, by rw [mm_upf (by decide)]; exact ((kk_isn hc ⟨q1, q2⟩).1 ⟨h1, h2⟩).2⟩ w
              · exact absurd hs (fun w => kk_tpn (kk_npu.1 q) w)
            · rename_i c2
              rw [r_14_4 (hx := hx), r_14_6 (hx := hx)]
              refine fin _ ⟨_, rfl, by omega, by omega⟩ ?_
              rw [r_229_e (hy := hy)]
              refine m181t hy (kk_nmC hc0) (kk_NC hc0) ht.1 ht.2 (fun s2 q1 q2 q3 => ?_) (fun q => ?_)
              · have e := kk_tp1 (kk_tpu.1 q3) hs
                subst e
                rw [mm_pI, r_229_0_6 (hy := hy)]
                refine m210 hy (by omega) (fun w1 w2 => ?_) (fun w => ?_)
                · rw [mm_pI, r_229_0_11 (hy := hy), if_neg (by decide)]
                  refine m211 hy (by omega) h1 (fun b2 hb2 => ?_)
                  rw [mm_upf (by decide), ← NR.1] at hb2
                  rw [mm_pI, r_229_1_4 (hy := hy)]
                  rw [if_pos hd] at hb2
                  subst hb2
                  rw [if_neg (by decide)]
                  refine m203 hy (by omega) h1 (fun w2 => ?_) (fun w2 => absurd ((emay 4).2 hmay) w2)
                  rw [mm_pI, r_229_2_5 (hy := hy), if_neg (by decide)]
                  refine m175 hy (by omega) h1 ?_
                  rw [mm_pI, r_229_3_8 (hy := hy), mm_upf (by decide), ← NR.2.1, mm_wi (by omega) (by omega)]
                  refine ⟨hk, m174 hy (fun w => by omega) (fun w => ?_)⟩
                  rw [mm_pI, r_229_3_13 (hy := hy), if_pos rfl, r_229_5 (hy := hy)]
                  exact mfin _ _ rfl
                · exact absurd ⟨h1, by rw [mm_upf (by decide)]; exact ((kk_isn hc ⟨q1, q2⟩).1 ⟨h1, h2⟩).2⟩ w
              · exact absurd hs (fun w => kk_tpn (kk_npu.1 q) w)
        · rw [mm_pI, r_14_2_4 (htx4 := hsT) (hnx4 := hnN) (hx := hx), if_pos rfl]
          refine fin _ ⟨_, rfl, by omega, by omega⟩ ?_
          rw [r_229_e (hy := hy)]
          refine m181t hy (kk_nmC hc0) (kk_NC hc0) ht.1 ht.2 (fun s2 q1 q2 q3 => ?_) (fun q => ?_)
          · have e := kk_tp1 (kk_tpu.1 q3) hs
            subst e
            rw [mm_pI, r_229_0_6 (hy := hy)]
            refine m210 hy (by omega) (fun w1 w2 => ?_) (fun w => ?_)
            · rw [mm_pI, r_229_0_11 (hy := hy), if_neg (by decide)]
              refine m211 hy (by omega) h1 (fun b2 hb2 => ?_)
              rw [mm_upf (by decide), ← NR.1] at hb2
              rw [mm_pI, r_229_1_4 (hy := hy)]
              rw [if_pos hd] at hb2
              subst hb2
              rw [if_neg (by decide)]
              refine m203 hy (by omega) h1 (fun w2 => absurd ((emay 4).1 w2) hmay) (fun w2 => ?_)
              rw [mm_pI, r_229_2_5 (hy := hy), if_pos rfl]
              exact mfin _ _ rfl
            · exact absurd ⟨h1, by rw [mm_upf (by decide)]; exact ((kk_isn hc ⟨q1, q2⟩).1 ⟨h1, h2⟩).2⟩ w
          · exact absurd hs (fun w => kk_tpn (kk_npu.1 q) w)
      · rename_i hd
        refine fin _ ⟨_, rfl, by omega, by omega⟩ ?_
        rw [r_229_e (hy := hy)]
        refine m181t hy (kk_nmC hc0) (kk_NC hc0) ht.1 ht.2 (fun s2 q1 q2 q3 => ?_) (fun q => ?_)
        · have e := kk_tp1 (kk_tpu.1 q3) hs
          subst e
          rw [mm_pI, r_229_0_6 (hy := hy)]
          refine m210 hy (by omega) (fun w1 w2 => ?_) (fun w => ?_)
          · rw [mm_pI, r_229_0_11 (hy := hy), if_neg (by decide)]
            refine m211 hy (by omega) h1 (fun b2 hb2 => ?_)
            rw [mm_upf (by decide), ← NR.1] at hb2
            rw [mm_pI, r_229_1_4 (hy := hy)]
            rw [if_neg hd] at hb2
            subst hb2
            rw [if_pos rfl]
            exact mfin _ _ rfl
          · exact absurd ⟨h1, by rw [mm_upf (by decide)]; exact ((kk_isn hc ⟨q1, q2⟩).1 ⟨h1, h2⟩).2⟩ w
        · exact absurd hs (fun w => kk_tpn (kk_npu.1 q) w)
    · rw [mm_pR, r_14_0_6 (hx := hx)]
      refine fin (-1) ⟨_, rfl, by omega, by omega⟩ ?_
      rw [r_229_e (hy := hy)]
      refine m181t hy (kk_nmC hc0) (kk_NC hc0) ht.1 ht.2 (fun s2 q1 q2 q3 => ?_) (fun q => ?_)
      · have e := kk_tp1 (kk_tpu.1 q3) hs
        subst e
        rw [mm_pI, r_229_0_6 (hy := hy)]
        refine m210 hy (by omega) (fun w1 w2 => ?_) (fun w => ?_)
        · exact absurd ((kk_isn hc ⟨q1, q2⟩).2 ⟨w1, by rw [mm_upf (by decide)] at w2; exact w2⟩) hn
        · rw [mm_pI, r_229_0_11 (hy := hy), if_pos rfl]
          exact mfin _ _ rfl
      · exact absurd hs (fun w => kk_tpn (kk_npu.1 q) w)
  · rw [mm_pR, r_14_0_4 (hx := hx)]
    refine s56n hx ?_
    rw [mm_pR, r_14_0_6 (hx := hx)]
    refine fin (-1) ⟨_, rfl, by omega, by omega⟩ ?_
    rw [r_229_e (hy := hy)]
    refine m181t hy (kk_nmC hc0) (kk_NC hc0) ht.1 ht.2 (fun s2 q1 q2 q3 => ?_) (fun q => ?_)
    · exact absurd (kk_tpu.1 q3) (fun w => kk_tpn hs w)
    · rw [mm_pI, r_229_0_6 (hy := hy)]
      refine m210n hy ?_
      rw [mm_pI, r_229_0_11 (hy := hy), if_pos rfl]
      exact mfin _ _ rfl

