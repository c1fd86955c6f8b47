/-! the calls of both: scrub, hold, quota, limit -/
theorem kk_pd14 {a g : mm_Id → Int → Int} {v : Int} (c : kk_pdC a g) : kk_pdC (mm_up a (14, 0, 0) 1 v) (mm_up g (14, 0, 0) 1 v) := by
  obtain ⟨c1, c2, c3, c4, c5⟩ := c
  refine ⟨kk_Rup (by omega) c1, fun i n i0 i1 z n0 n1 => ?_, fun i i0 i1 => ?_, ?_, fun x j h1 h2 h3 h4 h5 => ?_⟩
  · rw [mm_upf (by decide)] at z
    exact kk_cpdt (kk_cpdr (fun f j f0 f1 => mm_upf (by omega))) (kk_cpdt (c2 i n i0 i1 z n0 n1) (kk_cpdr (fun f j f0 f1 => (mm_upf (by omega)).symm)))
  · rw [mm_upf (by decide)]; exact c3 i i0 i1
  · rw [mm_upf (by decide)]; exact c4
  · unfold mm_up
    split
    · rfl
    · refine c5 x j h1 h2 (fun q => h3 ?_) h4 h5
      obtain ⟨i, q1, q2, q3⟩ := q
      exact ⟨i, q1, by rw [mm_upf (by decide)]; exact q2, q3⟩
/-- frames of the one side and the other -/
theorem kk_mixe {hc gm h : mm_Id → Int → Int} {S : mm_Id → Int → Prop} (c : ∀ x j, x.1 < 40 → S x j → hc x j = h x j) (m : ∀ x j, 40 ≤ x.1 → S x j → gm x j = h x j) : ∀ x j, S x j → kk_mix hc gm x j = h x j := fun x j s => by
  by_cases q : x.1 < 40
  · rw [kk_mixC q]; exact c x j q s
  · rw [kk_mixM (by omega)]; exact m x j (by omega) s
theorem kk_n5 {h : mm_Id → Int → Int} {s : Int} (h1 : s < 5) : kk_no h s = h (31, s, 0) 3 := if_pos h1
theorem kk_tpp {h : mm_Id → Int → Int} {x s : Int} (q : kk_tp h x s) : 0 < kk_no h s := q.2.1.1

theorem c_45 {b : Int} {h : mm_Id → Int → Int} {dh : Int → Int} {nx ns : Int} (hy : 5306 ≤ nx) (hc : kk_core b h dh) (hb : b + 1 ≤ 1000000) {t : Int} (ht : t = 0 ∨ t = 1) : kk_call 45 273 [zI t] b h dh nx ns kk_SI := by
  have hx : 5275 ≤ nx := by omega
  have a := kk_ac hc
  obtain ⟨⟨d1, d2, d3⟩, ⟨d4, d5, d6⟩, d7, d8⟩ := kk_dsk hc
  unfold kk_call
  have hc0 : kk_core b (mm_up h (40, 0, 0) 0 0) dh := kk_core0 hc
  have mfin : ∀ v w : Int, w = v → (fun (r2 : mm_V) (h2 : mm_H) => r2 = zI v ∧ ∃ g2, h2 = mm_z g2 dh nx ns ∧ kk_core (b + 1) g2 dh ∧ ∀ x j, kk_scr x j → g2 x j = h x j) (zI w) (mm_z (mm_up h (40, 0, 0) 0 0) dh nx ns) :=
    fun v w e => ⟨by rw [e], _, rfl, kk_coreS hb hc0, fun x j hs => kk_scr0 hs⟩
  have e0 : kk_mix h h = h := kk_mixS h
  have Wh : kk_W b (kk_mix h h) dh := by rw [e0]; exact hc.1
  rw [r_45_e (hx := hx)]
  split
  · rename_i l
    refine s64W hx Wh (fun g k1 k2 k3 => ?_)
    rw [mm_pI, r_45_1_2 (hx := hx)]
    -- the reference, behind either
    have M : ∀ (gc : mm_Id → Int → Int) v w, (∀ x j, 40 ≤ x.1 → gc x j = h x j) → (∀ x j, 8 ≤ x.1 → x.1 ≤ 13 → gc x j = h x j) → v = (if t = 0 then h (14, 0, 0) 1 else 0) → w = (if t = 0 then 0 else h (14, 0, 0) 1) → kk_pdC (mm_up h (14, 0, 0) 1 w) gc →
        mm_Cl 273 [zR (40, 0, 0), zI t] (mm_z gc dh nx ns) (fun r2 h2 => r2 = zI v ∧ ∃ g2, h2 = mm_z g2 dh nx ns ∧ kk_core (b + 1) g2 dh ∧ ∀ x j, kk_scr x j → g2 x j = h x j) := fun gc v w f1 f2 hv hw pc => by
      have eg : mm_up gc (40, 0, 0) 0 0 (40, 0, 0) 35 = h (14, 0, 0) 1 := by rw [mm_upj (by decide), f1 _ _ (by decide), ← d4]
      have fin : ∀ (y u : Int), y = w → u = v → mm_Wp 273 (mm_blk 273 3) [zR (40, 0, 0), zI t, zI (h (14, 0, 0) 1)] [zI y, zR (40, 0, 0)] (mm_z (mm_up gc (40, 0, 0) 0 0) dh nx ns) (fun r2 h2 => r2 = zI v ∧ ∃ g2, h2 = mm_z g2 dh nx ns ∧ kk_core (b + 1) g2 dh ∧ ∀ x j, kk_scr x j → g2 x j = h x j) := fun y u ey eu => by
        subst ey
        rw [r_273_3 (hy := hy)]
        have WP : kk_W b (kk_mix (mm_up h (14, 0, 0) 1 y) (mm_up (mm_up gc (40, 0, 0) 0 0) (40, 0, 0) 35 y)) dh := by
          refine kk_WG (fun x j h1 h2 h3 => kk_mixe (S := fun x j => ¬ kk_gx x j) (fun x j q s => ?_) (fun x j q s => ?_) x j h1) ?_ hc.1
          · exact mm_upne' (by rintro ⟨q, q2⟩; subst q; simp [kk_gx] at s)
          · rw [mm_upne' (by rintro ⟨q, q2⟩; subst q; simp [kk_gx] at s; omega), mm_upne' (by rintro ⟨q, q2⟩; subst q; simp [kk_gx] at s; omega)]
            exact f1 x j q
          · obtain ⟨g1, g2, g3, g4, g5, g6, g7, g8⟩ := hc.1.2.2.2
            have C : ∀ (f : Nat) t2 n2 i, f < 40 → f ≠ 14 → kk_mix (mm_up h (14, 0, 0) 1 y) (mm_up (mm_up gc (40, 0, 0) 0 0) (40, 0, 0) 35 y) (f, t2, n2) i = h (f, t2, n2) i := fun f t2 n2 i q q2 => (kk_mixC q).trans (mm_upf q2)
            have C14 : ∀ i, ¬ i = 1 → kk_mix (mm_up h (14, 0, 0) 1 y) (mm_up (mm_up gc (40, 0, 0) 0 0) (40, 0, 0) 35 y) (14, 0, 0) i = h (14, 0, 0) i := fun i q2 => (kk_mixC (by decide)).trans (mm_upj q2)
            have C1 : kk_mix (mm_up h (14, 0, 0) 1 y) (mm_up (mm_up gc (40, 0, 0) 0 0) (40, 0, 0) 35 y) (14, 0, 0) 1 = y := (kk_mixC (by decide)).trans mm_ups
            have M40 : ∀ i, ¬ i = 0 → ¬ i = 35 → kk_mix (mm_up h (14, 0, 0) 1 y) (mm_up (mm_up gc (40, 0, 0) 0 0) (40, 0, 0) 35 y) (40, 0, 0) i = h (40, 0, 0) i := fun i q q2 => by
              rw [kk_mixM (by decide), mm_upj q2, mm_upj q, f1 _ _ (by decide)]
            have M35 : kk_mix (mm_up h (14, 0, 0) 1 y) (mm_up (mm_up gc (40, 0, 0) 0 0) (40, 0, 0) 35 y) (40, 0, 0) 35 = y := (kk_mixM (by decide)).trans mm_ups
            have M65 : ∀ i, kk_mix (mm_up h (14, 0, 0) 1 y) (mm_up (mm_up gc (40, 0, 0) 0 0) (40, 0, 0) 35 y) (65, 0, 0) i = h (65, 0, 0) i := fun i => by
              rw [kk_mixM (by decide), mm_upf (by decide), mm_upf (by decide), f1 _ _ (by decide)]
            have ry : 0 ≤ y ∧ y ≤ 7 := by rw [hw]; split <;> omega
            unfold kk_KG
            rw [C 1 0 0 12 (by decide) (by decide), C 1 0 0 9 (by decide) (by decide), C 5 0 0 2 (by decide) (by decide), C14 0 (by decide), C1, C14 2 (by decide), M40 29 (by decide) (by decide), M40 30 (by decide) (by decide), M40 34 (by decide) (by decide), M40 1 (by decide) (by decide), M35, M40 36 (by decide) (by decide)]
            refine ⟨g1, g2, fun i i0 i1 => ?_, g4, g5, ⟨rfl, ry⟩, g7, ⟨fun z n n0 n1 => ?_, fun z => ?_⟩⟩
            · rw [C 6 0 0 i (by decide) (by decide), M65]; exact g3 i i0 i1
            · rw [C 24 26 n 0 (by decide) (by decide), C 24 27 n 0 (by decide) (by decide)]; exact g8.1 z n n0 n1
            · rw [C 24 27 1 0 (by decide) (by decide)]; exact g8.2 z
        refine m208W hy WP (fun g2 m1 m2 m3 => ?_)
        have fin2 : kk_core (b + 1) g2 dh ∧ ∀ x j, kk_scr x j → g2 x j = h x j := by
          refine ⟨kk_coreS hb (kk_downC WP pc m1 (fun x j q => ?_)), fun x j hs => ?_⟩
          · rw [m2 x j q, mm_upne' (by rintro ⟨q1, _⟩; rw [q1] at q; simp at q), mm_upne' (by rintro ⟨q1, _⟩; rw [q1] at q; simp at q)]
          · rw [m3 x j hs, kk_scrU hs (Or.inr ⟨rfl, by omega⟩), kk_scrU hs (Or.inr ⟨rfl, by omega⟩)]
            rcases kk_scrC hs with q | q
            · exact f1 x j q
            · exact f2 x j q.1 q.2
        rw [mm_pU, r_273_3_3 (hy := hy)]
        split
        · rename_i z
          rw [r_273_5 (hy := hy)]
          exact ⟨by rw [hv, if_pos z], g2, rfl, fin2⟩
        · rename_i z
          rw [r_273_5 (hy := hy)]
          exact ⟨by rw [hv, if_neg z], g2, rfl, fin2⟩
      rw [r_273_e (hy := hy), eg, mm_upj (by decide), f1 _ _ (by decide), ← d7, if_pos l]
      split
      · rename_i z
        exact fin 0 v (by rw [hw, if_pos z]) rfl
      · rename_i z
        exact fin _ v (by rw [hw, if_neg z]) rfl
    split
    · rename_i z
      rw [r_87_e (hx := hx), mm_pI, r_45_2_3 (hx := hx), r_45_3 (hx := hx)]
      have e14 : g (14, 0, 0) 1 = h (14, 0, 0) 1 := k1.2.2.2.2 _ _ (by decide) (by simp [kk_ct]) (by rintro ⟨i, _, _, q⟩; simp [kk_tr] at q) (by rintro ⟨i, _, q, _⟩; simp at q) (by simp)
      rw [e14]
      refine ⟨⟨_, rfl, by omega, by omega⟩, _, dh, rfl, M _ _ 0 (fun x j q => ?_) (fun x j q1 q2 => ?_) (by rw [if_pos z]) (by rw [if_pos z]) (kk_pd14 k1)⟩
      · rw [mm_upne' (by rintro ⟨q1, _⟩; rw [q1] at q; simp at q)]; exact k2 x j q
      · rw [mm_upne' (by rintro ⟨q3, _⟩; rw [q3] at q2; simp at q2)]; exact k3 x j q1 q2
    · rename_i z
      rw [r_45_3 (hx := hx)]
      refine ⟨⟨_, rfl, by omega, by omega⟩, g, dh, rfl, M g _ (h (14, 0, 0) 1) k2 k3 (by rw [if_neg z]) (by rw [if_neg z]) ?_⟩
      rw [mm_upself]
      exact k1
  · rename_i l
    refine ⟨⟨_, rfl, by omega, by omega⟩, h, dh, rfl, ?_⟩
    rw [r_273_e (hy := hy), mm_upj (by decide), ← d7, if_neg l]
    exact mfin _ _ rfl

