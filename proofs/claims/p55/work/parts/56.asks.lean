/-! the calls of both: what is asked of nodes and trees -/
/-- blocks of a user are counted alike -/
theorem kk_ubE {b : Int} {h : mm_Id → Int → Int} {dh : Int → Int} (hW : kk_W b h dh) {t u : Int} (ht : 0 ≤ t ∧ t < 13) : kk_S (fun n => if h (24, t, n) 2 = u then h (24, t, n) 9 else 0) 36 = kk_ub h t u := sm_cgI 36 (fun i i1 i2 => by
  have N := hW.1.1 t (i + 1) ht.1 ht.2 (by omega) (by omega)
  have W := hW.1.2.1 t (i + 1) (mm_T13 ht) (by omega) (by omega)
  have B : ∀ p, 0 ≤ p → p < 36 → 0 ≤ h (43, 0, 0) (36 * (36 * t + (i + 1) - 1) + p) := fun p p1 p2 => (kk_bru hW (s := t) (by omega) (i + 1) p (by omega) (by omega) p1 p2).1
  show (if h (24, t, i + 1) 2 = u then h (24, t, i + 1) 9 else 0) = mm_sm (fun p => if (h (41, 0, 0) (36 * t + (i + 1) - 1) = 1 ∧ h (47, 0, 0) (36 * t + (i + 1) - 1) = u) ∧ 0 < h (43, 0, 0) (36 * (36 * t + (i + 1) - 1) + p) then 1 else 0) 36
  rw [W.2.2.2.2.2.2.1]
  by_cases k : h (24, t, i + 1) 0 = 1
  · have e := (N.2.2.2.1 (by omega)).2.1
    have e1 := N.1
    by_cases c : h (24, t, i + 1) 2 = u
    · rw [if_pos c, kk_nzm N B]
      exact sm_cgI 36 (fun p p1 p2 => by
        by_cases d : 0 < h (43, 0, 0) (36 * (36 * t + (i + 1) - 1) + p)
        · rw [if_pos d, if_pos ⟨⟨by omega, by omega⟩, d⟩]
        · rw [if_neg d, if_neg (fun q => d q.2)])
    · rw [if_neg c]
      exact (sm_0I 36 (fun p p1 p2 => if_neg (fun q => c (by omega)))).symm
  · have z : kk_nz (h (27, t, i + 1)) = 0 := kk_nz0 (fun p p1 p2 => W.2.2.2.2.2.2.2.1 k p p1 p2)
    rw [z]
    have e1 := N.1
    rw [sm_0I 36 (fun p p1 p2 => if_neg (fun q => k (by omega)))]
    split <;> rfl)
theorem kk_S36 {f : Int → Int} {lo hi : Int} (h : ∀ n, 1 ≤ n → n < 37 → lo ≤ f n ∧ f n ≤ hi) : lo * 36 ≤ kk_S f 36 ∧ kk_S f 36 ≤ hi * 36 := by
  have a := sm_ub (f := fun i => f (i + 1)) hi 36 (fun i i1 i2 => (h _ (by omega) (by omega)).2)
  have b2 := sm_le (f := fun _ => lo) (g := fun i => f (i + 1)) 36 (fun i i1 i2 => (h _ (by omega) (by omega)).1)
  rw [sm_mul] at b2
  exact ⟨b2, a⟩
theorem kk_b9 {b : Int} {h : mm_Id → Int → Int} {dh : Int → Int} (hc : kk_core b h dh) {t : Int} (ht : mm_isT t) : ∀ n, 1 ≤ n → n < 37 → 0 ≤ h (24, t, n) 9 ∧ h (24, t, n) 9 ≤ 36 := fun n n1 n2 => by
  rw [(kk_NWC hc ht ⟨n1, n2⟩).2.2.2.2.2.2.1]; exact ⟨kk_nznn _, kk_nzub _⟩
/-- what is seen has changed -/
theorem kk_see {b : Int} {h g : mm_Id → Int → Int} {dh : Int → Int} (hb : b + 1 ≤ 1000000) (hc : kk_core b h dh) (e : ∀ x j, ¬ (x = (56, 0, 0) ∧ 1 ≤ j ∧ j ≤ 3000) → g x j = mm_up h (40, 0, 0) 0 0 x j) : kk_core (b + 1) g dh ∧ ∀ x j, kk_scr x j → g x j = h x j := by
  refine ⟨kk_coreS hb (kk_coreC (fun x j h1 h2 => ?_) hc), fun x j hs => ?_⟩
  · rw [e x j (fun q => h2 q.1), mm_upne' h1]
  · rw [e x j (fun q => (kk_scrN hs).2.2.2.2.1 (by rw [q.1])), kk_scr0 hs]

theorem kk_and8 (z : Int) : 0 ≤ mm_and z 255 ∧ mm_and z 255 < 256 := by
  unfold mm_and
  rw [← Int32.toInt_toBitVec, Int32.toBitVec_and]
  have h1 : (Int32.ofInt 255).toBitVec.msb = false := by decide
  have hm : ((Int32.ofInt z).toBitVec &&& (Int32.ofInt 255).toBitVec).msb = false := by
    rw [BitVec.msb_and, h1]; simp
  rw [BitVec.toInt_eq_toNat_of_msb hm, BitVec.toNat_and]
  have h2 : (Int32.ofInt 255).toBitVec.toNat = 255 := by decide
  rw [h2]
  have h3 : (Int32.ofInt z).toBitVec.toNat &&& 255 ≤ 255 := Nat.and_le_right
  omega

theorem c_8 {b : Int} {h : mm_Id → Int → Int} {dh : Int → Int} {nx ns : Int} (hy : 10581 ≤ nx) (hc : kk_core b h dh) (hb : b + 1 ≤ 1000000) {t n k : Int} (ht : -2147483648 ≤ t ∧ t < 2147483648) (hn : -2147483648 ≤ n ∧ n < 2147483648) (hk : -2147483648 ≤ k ∧ k < 2147483648) : kk_call 8 221 [zI t, zI n, zI k] b h dh nx ns kk_SI := by
  unfold kk_call
  have hx : 5275 ≤ nx := by omega
  have hc0 : kk_core b (mm_up h (40, 0, 0) 0 0) dh := kk_core0 hc
  have fin : ∀ v, kk_SI (zI v) → mm_Cl 221 [zR (40, 0, 0), zI t, zI n, zI k] (mm_z h dh nx ns) (fun (r2 : mm_V) (h2 : mm_H) => r2 = zI v ∧ ∃ g2, h2 = mm_z g2 dh nx ns ∧ kk_core (b + 1) g2 dh ∧ ∀ x j, kk_scr x j → g2 x j = h x j) →
      (fun (r : mm_V) (h1 : mm_H) => kk_SI r ∧ ∃ g dh1, h1 = mm_z g dh1 nx ns ∧ mm_Cl 221 [zR (40, 0, 0), zI t, zI n, zI k] (mm_z g dh1 nx ns) (fun r2 h2 => r2 = r ∧ ∃ g2, h2 = mm_z g2 dh1 nx ns ∧ kk_core (b + 1) g2 dh1 ∧ ∀ x j, kk_scr x j → g2 x j = h x j)) (zI v) (mm_z h dh nx ns) :=
    fun v h1 h2 => ⟨h1, h, dh, rfl, h2⟩
  have mfin : ∀ v w : Int, w = v → (fun (r2 : mm_V) (h2 : mm_H) => r2 = zI v ∧ ∃ g2, h2 = mm_z g2 dh nx ns ∧ kk_core (b + 1) g2 dh ∧ ∀ x j, kk_scr x j → g2 x j = h x j) (zI w) (mm_z (mm_up h (40, 0, 0) 0 0) dh nx ns) :=
    fun v w e => ⟨by rw [e], _, rfl, kk_coreS hb hc0, fun x j hs => kk_scr0 hs⟩
  rw [r_8_e (hx := hx)]
  refine s55 hx (kk_nmC hc) ht.1 ht.2 (fun s hs => ?_) (fun hs => ?_)
  · have hsT := mm_T13 hs.1
    rw [mm_pR, r_8_0_4a (hty0 := hsT) (hx := hx)]
    refine s56 hsT hx (fun h1 h2 => ?_) (fun hn => ?_)
    · have hnN : mm_isN n := ⟨by omega, h1.2⟩
      have NR := kk_NRC hc (t := s) (n := n) (by have := hs.1; omega) h1
      have NW := kk_NWC hc hsT h1
      have hk : 0 ≤ 36 * s + n - 1 ∧ 36 * s + n - 1 < 1044 := by have := hs.1; omega
      have emay : ∀ r, kk_may (mm_up h (40, 0, 0) 0 0 (40, 0, 0) 29) (mm_up h (40, 0, 0) 0 0 (47, 0, 0) (36 * s + n - 1)) (mm_up h (40, 0, 0) 0 0 (48, 0, 0) (36 * s + n - 1)) r ↔ kk_may (h (1, 0, 0) 12) (h (24, s, n) 2) (h (24, s, n) 3) r := fun r => by
        rw [mm_upj (by decide), mm_upf (by decide), mm_upf (by decide), ← (NR.2.2.2.1 h2).2.1, ← (NR.2.2.2.1 h2).2.2.1, ← (kk_cal hc).1]
      rw [mm_pR, r_8_0_6a (hty0 := hsT) (hny0 := hnN) (hx := hx)]
      split
      · rename_i hd
        have hlen := NW.2.2.2.2.2.2.2.2.2.2.1.1 hd
        split
        · rename_i c1
          rw [r_8_3 (hx := hx)]
          refine fin _ ⟨_, rfl, by omega, by omega⟩ ?_
          rw [r_221_e (hy := hy)]
          refine m181t hy (kk_nmC hc0) (kk_NC hc0) ht.1 ht.2 (fun s2 q1 q2 q3 => ?_) (fun q => absurd hs (fun w => kk_tpn (kk_npu.1 q) w))
          have e := kk_tp1 (kk_tpu.1 q3) hs
          subst e
          rw [mm_pI, r_221_0_6 (hy := hy)]
          refine m210 hy (by omega) (fun w1 w2 => ?_) (fun w => absurd ⟨h1, by rw [mm_upf (by decide)]; exact ((kk_isn hc ⟨q1, q2⟩).1 ⟨h1, h2⟩).2⟩ w)
          rw [mm_pI, r_221_0_11 (hy := hy), if_neg (by decide)]
          refine m177 hy (by omega) h1 (fun b2 hb2 => ?_)
          rw [mm_upf (by decide), ← NR.1] at hb2
          rw [mm_pI, r_221_1_4 (hy := hy)]
          rw [if_pos hd] at hb2
          subst hb2
          rw [if_neg (by decide)]
          refine m175 hy (by omega) h1 ?_
          rw [mm_pI, r_221_2_8 (hy := hy), mm_upf (by decide), ← (NR.2.2.2.1 h2).1, mm_wi (by omega) (by omega)]
          refine ⟨hk, m174 hy (fun w => by omega) (fun w => ?_)⟩
          rw [mm_pI, r_221_2_13 (hy := hy), if_pos rfl]
          exact mfin _ _ rfl
        · rename_i c1
          split
          · rename_i c2
            refine s60 hsT hnN hx (fun hmay => ?_) (fun hmay => ?_)
            · have t1 : Int.tdiv k 60 = k / 60 := Int.tdiv_eq_ediv_of_nonneg (by omega)
              have t2 : Int.tmod k 60 = k % 60 := Int.tmod_eq_emod_of_nonneg (by omega)
              have P := hc.1.1.2.2.2.2.2.2.2.1.1 s n (k / 60) hsT hnN (by omega) (by omega)
              have E := NR.2.2.2.2.2.2.2 (k / 60) (by omega) (by omega)
              rw [mm_pI, r_8_4_4 (htx4 := hsT) (hnx4 := hnN) (hx := hx), if_neg (by decide), t1, t2, mm_wi (by omega) (by omega)]
              refine ⟨by omega, s130 hx P (by omega) ?_⟩
              rw [mm_pI, r_8_4_17 (hx := hx), r_8_6 (hx := hx)]
              have and8 := kk_and8
              refine fin _ ⟨_, rfl, ?_, ?_⟩ ?_
              · split
                · omega
                · have := and8 (h (16, 0, 0) (60 * h (27, s, n) (k / 60) + k % 60)); omega
              · split
                · omega
                · have := and8 (h (16, 0, 0) (60 * h (27, s, n) (k / 60) + k % 60)); omega
              rw [r_221_e (hy := hy)]
              refine m181t hy (kk_nmC hc0) (kk_NC hc0) ht.1 ht.2 (fun s2 q1 q2 q3 => ?_) (fun q => absurd hs (fun w => kk_tpn (kk_npu.1 q) w))
              have e := kk_tp1 (kk_tpu.1 q3) hs
              subst e
              rw [mm_pI, r_221_0_6 (hy := hy)]
              refine m210 hy (by omega) (fun w1 w2 => ?_) (fun w => absurd ⟨h1, by rw [mm_upf (by decide)]; exact ((kk_isn hc ⟨q1, q2⟩).1 ⟨h1, h2⟩).2⟩ w)
              rw [mm_pI, r_221_0_11 (hy := hy), if_neg (by decide)]
              refine m177 hy (by omega) h1 (fun b2 hb2 => ?_)
              rw [mm_upf (by decide), ← NR.1] at hb2
              rw [mm_pI, r_221_1_4 (hy := hy)]
              rw [if_pos hd] at hb2
              subst hb2
              rw [if_neg (by decide)]
              refine m175 hy (by omega) h1 ?_
              rw [mm_pI, r_221_2_8 (hy := hy), mm_upf (by decide), ← (NR.2.2.2.1 h2).1, mm_wi (by omega) (by omega)]
              refine ⟨hk, m174 hy (fun w => ?_) (fun w => by omega)⟩
              rw [mm_pI, r_221_2_13 (hy := hy), if_neg (by decide)]
              refine m203 hy (by omega) h1 (fun w2 => ?_) (fun w2 => absurd ((emay 4).2 hmay) w2)
              rw [mm_pI, r_221_3_5 (hy := hy), if_neg (by decide)]
              refine m207 hy (by omega) h1 (by omega) (kk_brC hc0 (by omega)) ?_
              rw [mm_pI, r_221_3_11 (hy := hy), r_221_5 (hy := hy), mm_upf (by decide), mm_upf (by decide)]
              refine mfin _ _ ?_
              by_cases z : h (27, s2, n) (k / 60) = 0
              · rw [if_pos z, if_pos (E.1.1 z)]
              · rw [if_neg z, if_neg (fun q => z (E.1.2 q)), E.2 z (k % 60) (by omega) (by omega)]
            · rw [mm_pI, r_8_4_4 (htx4 := hsT) (hnx4 := hnN) (hx := hx), if_pos rfl, r_8_6 (hx := hx)]
              refine fin _ ⟨_, rfl, by omega, by omega⟩ ?_
              rw [r_221_e (hy := hy)]
              refine m181t hy (kk_nmC hc0) (kk_NC hc0) ht.1 ht.2 (fun s2 q1 q2 q3 => ?_) (fun q => absurd hs (fun w => kk_tpn (kk_npu.1 q) w))
              have e := kk_tp1 (kk_tpu.1 q3) hs
              subst e
              rw [mm_pI, r_221_0_6 (hy := hy)]
              refine m210 hy (by omega) (fun w1 w2 => ?_) (fun w => absurd ⟨h1, by rw [mm_upf (by decide)]; exact ((kk_isn hc ⟨q1, q2⟩).1 ⟨h1, h2⟩).2⟩ w)
              rw [mm_pI, r_221_0_11 (hy := hy), if_neg (by decide)]
              refine m177 hy (by omega) h1 (fun b2 hb2 => ?_)
              rw [mm_upf (by decide), ← NR.1] at hb2
              rw [mm_pI, r_221_1_4 (hy := hy)]
              rw [if_pos hd] at hb2
              subst hb2
              rw [if_neg (by decide)]
              refine m175 hy (by omega) h1 ?_
              rw [mm_pI, r_221_2_8 (hy := hy), mm_upf (by decide), ← (NR.2.2.2.1 h2).1, mm_wi (by omega) (by omega)]
              refine ⟨hk, m174 hy (fun w => ?_) (fun w => by omega)⟩
              rw [mm_pI, r_221_2_13 (hy := hy), if_neg (by decide)]
              refine m203 hy (by omega) h1 (fun w2 => absurd ((emay 4).1 w2) hmay) (fun w2 => ?_)
              rw [mm_pI, r_221_3_5 (hy := hy), if_pos rfl, r_221_5 (hy := hy)]
              exact mfin _ _ rfl
          · rename_i c2
            rw [r_8_3 (hx := hx)]
            refine fin _ ⟨_, rfl, by omega, by omega⟩ ?_
            rw [r_221_e (hy := hy)]
            refine m181t hy (kk_nmC hc0) (kk_NC hc0) ht.1 ht.2 (fun s2 q1 q2 q3 => ?_) (fun q => absurd hs (fun w => kk_tpn (kk_npu.1 q) w))
            have e := kk_tp1 (kk_tpu.1 q3) hs
            subst e
            rw [mm_pI, r_221_0_6 (hy := hy)]
            refine m210 hy (by omega) (fun w1 w2 => ?_) (fun w => absurd ⟨h1, by rw [mm_upf (by decide)]; exact ((kk_isn hc ⟨q1, q2⟩).1 ⟨h1, h2⟩).2⟩ w)
            rw [mm_pI, r_221_0_11 (hy := hy), if_neg (by decide)]
            refine m177 hy (by omega) h1 (fun b2 hb2 => ?_)
            rw [mm_upf (by decide), ← NR.1] at hb2
            rw [mm_pI, r_221_1_4 (hy := hy)]
            rw [if_pos hd] at hb2
            subst hb2
            rw [if_neg (by decide)]
            refine m175 hy (by omega) h1 ?_
            rw [mm_pI, r_221_2_8 (hy := hy), mm_upf (by decide), ← (NR.2.2.2.1 h2).1, mm_wi (by omega) (by omega)]
            refine ⟨hk, m174 hy (fun w => by omega) (fun w => ?_)⟩
            rw [mm_pI, r_221_2_13 (hy := hy), if_pos rfl]
            exact mfin _ _ rfl
      · rename_i hd
        refine fin _ ⟨_, rfl, by omega, by omega⟩ ?_
        rw [r_221_e (hy := hy)]
        refine m181t hy (kk_nmC hc0) (kk_NC hc0) ht.1 ht.2 (fun s2 q1 q2 q3 => ?_) (fun q => absurd hs (fun w => kk_tpn (kk_npu.1 q) w))
        have e := kk_tp1 (kk_tpu.1 q3) hs
        subst e
        rw [mm_pI, r_221_0_6 (hy := hy)]
        refine m210 hy (by omega) (fun w1 w2 => ?_) (fun w => absurd ⟨h1, by rw [mm_upf (by decide)]; exact ((kk_isn hc ⟨q1, q2⟩).1 ⟨h1, h2⟩).2⟩ w)
        rw [mm_pI, r_221_0_11 (hy := hy), if_neg (by decide)]
        refine m177 hy (by omega) h1 (fun b2 hb2 => ?_)
        rw [mm_upf (by decide), ← NR.1] at hb2
        rw [mm_pI, r_221_1_4 (hy := hy)]
        rw [if_neg hd] at hb2
        subst hb2
        rw [if_pos rfl]
        exact mfin _ _ rfl
    · rw [mm_pR, r_8_0_6 (hx := hx)]
      refine fin (-1) ⟨_, rfl, by omega, by omega⟩ ?_
      rw [r_221_e (hy := hy)]
      refine m181t hy (kk_nmC hc0) (kk_NC hc0) ht.1 ht.2 (fun s2 q1 q2 q3 => ?_) (fun q => absurd hs (fun w => kk_tpn (kk_npu.1 q) w))
      have e := kk_tp1 (kk_tpu.1 q3) hs
      subst e
      rw [mm_pI, r_221_0_6 (hy := hy)]
      refine m210 hy (by omega) (fun w1 w2 => absurd ((kk_isn hc ⟨q1, q2⟩).2 ⟨w1, by rw [mm_upf (by decide)] at w2; exact w2⟩) hn) (fun w => ?_)
      rw [mm_pI, r_221_0_11 (hy := hy), if_pos rfl]
      exact mfin _ _ rfl
  · rw [mm_pR, r_8_0_4 (hx := hx)]
    refine s56n hx ?_
    rw [mm_pR, r_8_0_6 (hx := hx)]
    refine fin (-1) ⟨_, rfl, by omega, by omega⟩ ?_
    rw [r_221_e (hy := hy)]
    refine m181t hy (kk_nmC hc0) (kk_NC hc0) ht.1 ht.2 (fun s2 q1 q2 q3 => absurd (kk_tpu.1 q3) (fun w => kk_tpn hs w)) (fun q => ?_)
    rw [mm_pI, r_221_0_6 (hy := hy)]
    refine m210n hy ?_
    rw [mm_pI, r_221_0_11 (hy := hy), if_pos rfl]
    exact mfin _ _ rfl

