/-! the calls of both: oddities, the call -/
theorem s136 {h : mm_Id → Int → Int} {dh : Int → Int} {nx ns : Int} {Q : mm_V → mm_H → Prop} (hx : 5275 ≤ nx) (e6 : h (15, 0, 0) 6 = 0) (e : ∀ r, 0 ≤ r → r < 1701 → h (20, 0, 0) r = h (17, 0, 0) r ∧ h (21, 0, 0) r = h (18, 0, 0) r ∧ h (19, 0, 0) r = if 0 < h (20, 0, 0) r ∨ 0 < h (21, 0, 0) r then 1 else 0) (e7 : h (15, 0, 0) 7 = mm_sm (fun r => if 0 < h (20, 0, 0) r then 1 else 0) 1701)
    (K : Q (zI 0) (mm_z h dh nx ns)) : mm_Cl 136 [zR (15, 0, 0)] (mm_z h dh nx ns) Q := by
  have L : ∀ (k : Nat) (i : Int), 1701 - i = k → 0 ≤ i → mm_Wp 136 (mm_blk 136 1) [zR (15, 0, 0), zI 0, zI (mm_sm (fun r => if 0 < h (20, 0, 0) r then 1 else 0) i.toNat), zI i] [] (mm_z h dh nx ns) Q := by
    intro k
    induction k with
    | zero =>
      intro i e1 e2
      have ei : i = 1701 := by omega
      rw [r_136_1 (hx := hx), if_neg (by omega), ei, if_pos (by rw [e7]; rfl), r_136_13 (hx := hx)]
      exact K
    | succ k ih =>
      intro i e1 e2
      have bz : 0 ≤ mm_sm (fun r => if 0 < h (20, 0, 0) r then 1 else 0) i.toNat ∧ mm_sm (fun r => if 0 < h (20, 0, 0) r then 1 else 0) i.toNat ≤ 1701 := by
        have a := sm_nn (f := fun r => if 0 < h (20, 0, 0) r then 1 else 0) i.toNat (fun _ _ _ => by split <;> omega)
        have b := sm_ub (f := fun r => if 0 < h (20, 0, 0) r then 1 else 0) 1 i.toNat (fun _ _ _ => by split <;> omega)
        omega
      have ei := e i e2 (by omega)
      have i2 := ih (i + 1) (by omega) (by omega)
      rw [sm_suc _ e2] at i2
      have fin : ∀ y0 : Int, (y0 = if 0 < h (20, 0, 0) i ∨ 0 < h (21, 0, 0) i then 1 else 0) → mm_Wp 136 (mm_blk 136 6) [zR (15, 0, 0), zI 0, zI (mm_sm (fun r => if 0 < h (20, 0, 0) r then 1 else 0) i.toNat), zI i] [zI y0, zI (h (19, 0, 0) i), zI 0] (mm_z h dh nx ns) Q := fun y0 hy0 => by
        rw [r_136_6 (hx := hx), if_pos (by rw [ei.2.2, hy0]), r_136_8 (hx := hx), mm_wi (z := 0 + 0) (by decide) (by decide)]
        refine ⟨by omega, ?_⟩
        by_cases z : 0 < h (20, 0, 0) i
        · rw [if_pos z, r_136_10 (hx := hx), mm_wi (z := i + 1) (by omega) (by omega), mm_wi (by omega) (by omega)]
          rw [if_pos z] at i2
          exact i2
        · rw [if_neg z, r_136_10 (hx := hx), mm_wi (z := i + 1) (by omega) (by omega), mm_wi (by omega) (by omega)]
          rw [if_neg z] at i2
          exact i2
      rw [r_136_1 (hx := hx), if_pos (by omega)]
      refine ⟨by omega, by omega, ?_⟩
      rw [if_pos ei.1]
      refine ⟨by omega, by omega, ?_⟩
      rw [if_pos ei.2.1, r_136_3 (hx := hx), mm_wi (z := 0 + 0) (by decide) (by decide)]
      refine ⟨by omega, by omega, ?_⟩
      by_cases z : 0 < h (20, 0, 0) i
      · rw [if_pos z, r_136_4 (hx := hx)]
        exact fin 1 (by rw [if_pos (Or.inl z)])
      · rw [if_neg z]
        refine ⟨by omega, ?_⟩
        by_cases z2 : 0 < h (21, 0, 0) i
        · rw [if_pos z2, r_136_4 (hx := hx)]
          exact fin 1 (by rw [if_pos (Or.inr z2)])
        · rw [if_neg z2]
          exact fin 0 (by rw [if_neg (by omega)])
  rw [r_136_e (hx := hx), e6]
  exact L 1701 0 (by omega) (by omega)
theorem c_52 {b : Int} {h : mm_Id → Int → Int} {dh : Int → Int} {nx ns : Int} (hy : 10581 ≤ nx) (hc : kk_core b h dh) (hb : b + 1 ≤ 1000000) : kk_call 52 275 [] b h dh nx ns kk_SI := by
  have hx : 5275 ≤ nx := by omega
  have hR := hc.1.1.2.2.2.2.2.2.2.1
  have hN : ∀ t, mm_isT t → ∀ n, 1 ≤ n → n < 37 → h (24, t, n) 9 = kk_nz (h (27, t, n)) ∧ (h (24, t, n) 0 ≠ 1 → ∀ p, 0 ≤ p → p < 36 → h (27, t, n) p = 0) := fun t ht n n0 n1 => by
    have N := kk_NWC hc ht ⟨n0, n1⟩
    exact ⟨N.2.2.2.2.2.2.1, N.2.2.2.2.2.2.2.1⟩
  have h0 : ∀ t, mm_isT t → ∀ p, 0 ≤ p → p < 36 → h (27, t, 0) p = 0 := fun t ht p p0 p1 => hc.1.1.2.2.2.2.2.2.2.2.2.2 t p ht p0 p1
  have h22 : ∀ t, mm_isT t → h (22, t, 0) 2 = kk_as t := hc.1.1.2.2.2.2.2.2.2.2.2.1
  have a0 : ∀ t, 0 ≤ t ∧ t < 13 → kk_as t = 0 := fun t ht => if_pos ht
  have a1 : ∀ t, ¬ (0 ≤ t ∧ t < 13) → ¬ kk_as t = 0 := fun t ht => by unfold kk_as; rw [if_neg ht]; decide
  have XA : ∀ (m r : Int), 0 ≤ m → m ≤ 13 → 0 ≤ mm_sm (fun t => kc_N h t r) m.toNat ∧ mm_sm (fun t => kc_N h t r) m.toNat ≤ 30000 := fun m r m0 m1 => by
    have a := sm_nn (f := fun t => kc_N h t r) m.toNat (fun _ _ _ => kc_Nnn _ _ _)
    have b := sm_ub (f := fun t => kc_N h t r) 1332 m.toNat (fun _ _ _ => kc_Nub _ _ _)
    omega
  have XK : ∀ (m r : Int), 0 ≤ m → m ≤ 5 → 0 ≤ mm_sm (fun t => kc_N h (13 + t) r) m.toNat ∧ mm_sm (fun t => kc_N h (13 + t) r) m.toNat ≤ 6660 := fun m r m0 m1 => by
    have a := sm_nn (f := fun t => kc_N h (13 + t) r) m.toNat (fun _ _ _ => kc_Nnn _ _ _)
    have b := sm_ub (f := fun t => kc_N h (13 + t) r) 1332 m.toNat (fun _ _ _ => kc_Nub _ _ _)
    omega
  have T26 : mm_isT 26 := by unfold mm_isT; omega
  have T27 : mm_isT 27 := by unfold mm_isT; omega
  unfold kk_call
  -- the reckoning, and the end
  have E : ∀ g, kk_ta h g → g (15, 0, 0) 6 = 0 → (∀ r, 1 ≤ r → r < 1701 → g (20, 0, 0) r = mm_sm (fun t => kc_N h t r) 13) → (∀ r, 1 ≤ r → r < 1701 → g (21, 0, 0) r = mm_sm (fun t => kc_N h (13 + t) r) 5 + kc_N h 26 r + kc_N h 27 r) → g (20, 0, 0) 0 = 0 → g (21, 0, 0) 0 = 0 →
      mm_Wp 52 (bk_52_4.drop 6) [zR (1, 0, 0), zI 8] [] (mm_z g dh nx ns) (fun (r : mm_V) (h1 : mm_H) => kk_SI r ∧ ∃ g dh1, h1 = mm_z g dh1 nx ns ∧ mm_Cl 275 [zR (40, 0, 0)] (mm_z g dh1 nx ns) (fun r2 h2 => r2 = r ∧ ∃ g2, h2 = mm_z g2 dh1 nx ns ∧ kk_core (b + 1) g2 dh1 ∧ ∀ x j, kk_scr x j → g2 x j = h x j)) := fun g ga g6 g20 g21 z20 z21 => by
    rw [r_52_4_6 (hx := hx)]
    refine s136 hx g6 (fun r r0 r1 => ?_) ?_ ?_
    · rw [ga (17, 0, 0) _ (by simp) (by simp) (by simp), ga (18, 0, 0) _ (by simp) (by simp) (by simp), ga (19, 0, 0) _ (by simp) (by simp) (by simp)]
      by_cases z : r = 0
      · rw [z, z20, z21, hR.2.2.2.2.2.1, hR.2.2.2.2.2.2.1, hR.2.2.2.2.2.2.2]
        exact ⟨rfl, rfl, by decide⟩
      · have R := hR.2.1 r (by omega) r1
        rw [g20 r (by omega) r1, g21 r (by omega) r1]
        exact ⟨R.1.symm, R.2.1.symm, R.2.2⟩
    · rw [ga (15, 0, 0) 7 (by simp) (by simp) (by simp), hR.2.2.1]
      refine sm_congr _ (fun i i0 i1 => ?_)
      by_cases z : i = 0
      · subst z
        show (if (1 : Int) ≤ 0 ∧ 0 < kc_A h 0 then (1 : Int) else 0) = (if 0 < g (20, 0, 0) 0 then 1 else 0)
        rw [z20, if_neg (by omega), if_neg (by omega)]
      · rw [g20 i (by omega) (by omega)]
        by_cases w : 0 < kc_A h i
        · rw [if_pos ⟨by omega, w⟩]; exact (if_pos w).symm
        · rw [if_neg (fun q => w q.2)]; exact (if_neg w).symm
    · rw [mm_pI, r_52_4_9 (hx := hx)]
      refine ⟨⟨_, rfl, by omega, by omega⟩, g, dh, rfl, ?_⟩
      rw [r_275_e (hy := hy)]
      have F : ∀ (x : mm_Id) j, x ≠ (20, 0, 0) → x ≠ (21, 0, 0) → ¬ (x = (15, 0, 0) ∧ j = 6) → ¬ (x = (40, 0, 0) ∧ j = 0) → mm_up g (40, 0, 0) 0 0 x j = h x j := fun x j q1 q2 q3 q4 => by rw [mm_upne' q4]; exact ga x j q1 q2 q3
      refine ⟨rfl, _, rfl, kk_coreS hb (kk_coreX (fun x j q => ?_) ?_ hc), fun x j q => ?_⟩
      · have q1 := kk_gxN (fun q2 => q (Or.inl q2))
        exact F x j (fun q2 => q (Or.inr (Or.inr (Or.inl (by rw [q2]))))) (fun q2 => q (Or.inr (Or.inr (Or.inr (Or.inl (by rw [q2])))))) (fun q2 => q (Or.inr (Or.inr (Or.inr (Or.inr q2))))) (fun q2 => q1.2.2.2.2.2.2.2 ⟨q2.1, Or.inl q2.2⟩)
      · obtain ⟨g1, g2', g3, g4', g5, g6', g7, g8⟩ := hc.1.2.2.2
        unfold kk_KG
        have f1 : ∀ j, mm_up g (40, 0, 0) 0 0 (1, 0, 0) j = h (1, 0, 0) j := fun j => F _ _ (by simp) (by simp) (by simp) (by simp)
        have f5 : ∀ j, mm_up g (40, 0, 0) 0 0 (5, 0, 0) j = h (5, 0, 0) j := fun j => F _ _ (by simp) (by simp) (by simp) (by simp)
        have f14 : ∀ j, mm_up g (40, 0, 0) 0 0 (14, 0, 0) j = h (14, 0, 0) j := fun j => F _ _ (by simp) (by simp) (by simp) (by simp)
        have f40 : ∀ j, j ≠ 0 → mm_up g (40, 0, 0) 0 0 (40, 0, 0) j = h (40, 0, 0) j := fun j q => F _ _ (by simp) (by simp) (by simp) (fun w => q w.2)
        refine ⟨?_, ?_, fun i i0 i1 => ?_, ?_, ?_, ?_, ?_, ?_⟩
        · rw [f1, f40 29 (by decide)]; exact g1
        · rw [f5, f40 30 (by decide)]; exact g2'
        · rw [f5] at i1
          rw [F (6, 0, 0) i (by simp) (by simp) (by simp) (by simp), F (65, 0, 0) i (by simp) (by simp) (by simp) (by simp)]; exact g3 i i0 i1
        · rw [f1, f40 34 (by decide)]; exact g4'
        · rw [f14, f40 1 (by decide)]; exact g5
        · rw [f14, f40 35 (by decide)]; exact g6'
        · rw [f14, f40 36 (by decide)]; exact g7
        · rw [f1]; exact ⟨fun q n2 n0 n1 => by rw [F _ _ (by simp) (by simp) (by simp) (by simp), F _ _ (by simp) (by simp) (by simp) (by simp)]; exact g8.1 q n2 n0 n1, fun q => by rw [F _ _ (by simp) (by simp) (by simp) (by simp)]; exact g8.2 q⟩
      · have q1 := kk_scrN q
        exact F x j (fun q2 => by rw [q2] at q; simp [kk_scr] at q) (fun q2 => by rw [q2] at q; simp [kk_scr] at q) (fun q2 => by rw [q2.1] at q; simp [kk_scr] at q) (fun q2 => q1.2.2.2.2.2.2.2 ⟨q2.1, Or.inl q2.2⟩)
  -- the snapshots
  have L8 : ∀ (k : Nat) (i : Int) g, 8 - i = k → 0 ≤ i → kk_ta h g → g (15, 0, 0) 6 = 0 → (∀ r, 1 ≤ r → r < 1701 → g (20, 0, 0) r = mm_sm (fun t => kc_N h t r) (5 + i).toNat) → (∀ r, 1 ≤ r → r < 1701 → g (21, 0, 0) r = mm_sm (fun t => kc_N h (13 + t) r) 5) → g (20, 0, 0) 0 = 0 → g (21, 0, 0) 0 = 0 →
      mm_Wp 52 (mm_blk 52 3) [zR (1, 0, 0), zI i] [] (mm_z g dh nx ns) (fun (r : mm_V) (h1 : mm_H) => kk_SI r ∧ ∃ g dh1, h1 = mm_z g dh1 nx ns ∧ mm_Cl 275 [zR (40, 0, 0)] (mm_z g dh1 nx ns) (fun r2 h2 => r2 = r ∧ ∃ g2, h2 = mm_z g2 dh1 nx ns ∧ kk_core (b + 1) g2 dh1 ∧ ∀ x j, kk_scr x j → g2 x j = h x j)) := by
    intro k
    induction k with
    | zero =>
      intro i g e1 e2 ga g6 g20 g21 z20 z21
      have ei : i = 8 := by omega
      subst ei
      rw [r_52_3 (hx := hx), if_neg (by decide)]
      refine s172b hx T26 (a1 26 (by omega)) (h22 26 T26) hR.1 (hN 26 T26) (h0 26 T26) ga g6 (X := fun r => mm_sm (fun t => kc_N h (13 + t) r) 5) (fun r r0 r1 => ⟨g21 r r0 r1, (XK 5 r (by omega) (by omega)).1, by have := (XK 5 r (by omega) (by omega)).2; exact Int.le_trans this (by decide)⟩) (fun g2 b1 b2 b3 b4 b5 => ?_)
      rw [mm_pU, r_52_4_3 (hx := hx)]
      refine s172b hx T27 (a1 27 (by omega)) (h22 27 T27) hR.1 (hN 27 T27) (h0 27 T27) b1 b2 (X := fun r => mm_sm (fun t => kc_N h (13 + t) r) 5 + kc_N h 26 r) (fun r r0 r1 => ⟨b3 r r0 r1, ?_⟩) (fun g3 d1 d2 d3 d4 d5 => ?_)
      · have q1 := XK 5 r (by omega) (by omega)
        have q2 := kc_Nnn h 26 r
        have q3 := kc_Nub h 26 r
        have q4 : mm_sm (fun t => kc_N h (13 + t) r) (5 : Int).toNat = mm_sm (fun t => kc_N h (13 + t) r) 5 := rfl
        show 0 ≤ mm_sm (fun t => kc_N h (13 + t) r) 5 + kc_N h 26 r ∧ mm_sm (fun t => kc_N h (13 + t) r) 5 + kc_N h 26 r ≤ 30000
        omega
      · rw [mm_pU]
        exact E g3 d1 d2 (fun r r0 r1 => by rw [d4, b4]; exact g20 r r0 r1) d3 (by rw [d4, b4]; exact z20) (by rw [d5, b5]; exact z21)
    | succ k ih =>
      intro i g e1 e2 ga g6 g20 g21 z20 z21
      have hT : mm_isT (5 + i) := by unfold mm_isT; omega
      rw [r_52_3 (hx := hx), if_pos (by omega)]
      refine ⟨by omega, s172a hx hT (a0 _ (by omega)) (h22 _ hT) hR.1 (hN _ hT) (h0 _ hT) ga g6 (X := fun r => mm_sm (fun t => kc_N h t r) (5 + i).toNat) (fun r r0 r1 => ⟨g20 r r0 r1, XA (5 + i) r (by omega) (by omega)⟩) (fun g2 b1 b2 b3 b4 b5 => ?_)⟩
      rw [mm_pU, r_52_3_9 (hx := hx), mm_wi (z := i + 1) (by omega) (by omega)]
      refine ih (i + 1) g2 (by omega) (by omega) b1 b2 (fun r r0 r1 => ?_) (fun r r0 r1 => by rw [b4]; exact g21 r r0 r1) (by rw [b5]; exact z20) (by rw [b4]; exact z21)
      rw [b3 r r0 r1, show 5 + (i + 1) = 5 + i + 1 by omega, sm_suc _ (by omega)]
  have L5 : ∀ (k : Nat) (i : Int) g, 5 - i = k → 0 ≤ i → kk_ta h g → g (15, 0, 0) 6 = 0 → (∀ r, 1 ≤ r → r < 1701 → g (20, 0, 0) r = mm_sm (fun t => kc_N h t r) i.toNat) → (∀ r, 1 ≤ r → r < 1701 → g (21, 0, 0) r = mm_sm (fun t => kc_N h (13 + t) r) i.toNat) → g (20, 0, 0) 0 = 0 → g (21, 0, 0) 0 = 0 →
      mm_Wp 52 (mm_blk 52 1) [zR (1, 0, 0), zI i] [] (mm_z g dh nx ns) (fun (r : mm_V) (h1 : mm_H) => kk_SI r ∧ ∃ g dh1, h1 = mm_z g dh1 nx ns ∧ mm_Cl 275 [zR (40, 0, 0)] (mm_z g dh1 nx ns) (fun r2 h2 => r2 = r ∧ ∃ g2, h2 = mm_z g2 dh1 nx ns ∧ kk_core (b + 1) g2 dh1 ∧ ∀ x j, kk_scr x j → g2 x j = h x j)) := by
    intro k
    induction k with
    | zero =>
      intro i g e1 e2 ga g6 g20 g21 z20 z21
      have ei : i = 5 := by omega
      subst ei
      rw [r_52_1 (hx := hx), if_neg (by decide)]
      exact L8 8 0 g (by omega) (by omega) ga g6 g20 g21 z20 z21
    | succ k ih =>
      intro i g e1 e2 ga g6 g20 g21 z20 z21
      have hT : mm_isT i := by unfold mm_isT; omega
      have hT2 : mm_isT (13 + i) := by unfold mm_isT; omega
      have hD : mm_isD i := ⟨by omega, by omega⟩
      rw [r_52_1 (hx := hx), if_pos (by omega)]
      refine ⟨by omega, s172a hx hT (a0 _ (by omega)) (h22 _ hT) hR.1 (hN _ hT) (h0 _ hT) ga g6 (X := fun r => mm_sm (fun t => kc_N h t r) i.toNat) (fun r r0 r1 => ⟨g20 r r0 r1, XA i r (by omega) (by omega)⟩) (fun g2 b1 b2 b3 b4 b5 => ?_)⟩
      rw [mm_pU, r_52_1_9 (hx := hx)]
      refine ⟨by omega, s172b hx hT2 (a1 _ (by omega)) (h22 _ hT2) hR.1 (hN _ hT2) (h0 _ hT2) b1 b2 (X := fun r => mm_sm (fun t => kc_N h (13 + t) r) i.toNat) (fun r r0 r1 => ⟨by rw [b4]; exact g21 r r0 r1, (XK i r (by omega) (by omega)).1, Int.le_trans (XK i r (by omega) (by omega)).2 (by decide)⟩) (fun g3 d1 d2 d3 d4 d5 => ?_)⟩
      rw [mm_pU, r_52_1_15 (hx := hx), mm_wi (z := i + 1) (by omega) (by omega)]
      refine ih (i + 1) g3 (by omega) (by omega) d1 d2 (fun r r0 r1 => ?_) (fun r r0 r1 => ?_) (by rw [d4, b5]; exact z20) (by rw [d5, b4]; exact z21)
      · rw [d4, b3 r r0 r1, sm_suc _ e2]
      · rw [d3 r r0 r1, sm_suc _ e2]
  rw [r_52_e (hx := hx)]
  refine s134 hx (fun g b1 b2 b3 => ?_)
  rw [mm_pU, r_52_0_3 (hx := hx)]
  exact L5 5 0 g (by omega) (by omega) b1 b2 (fun r r0 r1 => (b3 r (by omega) r1).1) (fun r r0 r1 => (b3 r (by omega) r1).2) (b3 0 (by omega) (by omega)).1 (b3 0 (by omega) (by omega)).2


