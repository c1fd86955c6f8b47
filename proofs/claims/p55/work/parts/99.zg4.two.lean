/-! two pools: the cells of both are one ghost's -/
def kk_S0 (r : mm_V) : Prop := r = zI 0
def kk_SP (r : mm_V) : Prop := ∃ n, r = zI n ∧ 0 ≤ n ∧ n < 2147483648
theorem c_52z {b : Int} {h : mm_Id → Int → Int} {dh : Int → Int} {nx ns : Int} (hy : 10581 ≤ nx) (hc : kk_core b h dh) (hb : b + 1 ≤ 1000000) : kk_call 52 275 [] b h dh nx ns kk_S0 := by
  have hx : 5275 ≤ nx := by omega
  have hR := hc.1.1.2.2.2.2.2.2.2.1
  have hN : ∀ t, mm_isT t → ∀ n, 1 ≤ n → n < 37 → h (24, t, n) 9 = kk_nz (h (27, t, n)) ∧ (h (24, t, n) 0 ≠ 1 → ∀ p, 0 ≤ p → p < 36 → h (27, t, n) p = 0) := fun t ht n n0 n1 => by
    have N := kk_NWC hc ht ⟨n0, n1⟩
    exact ⟨N.2.2.2.2.2.2.1, N.2.2.2.2.2.2.2.1⟩
  have h0 : ∀ t, mm_isT t → ∀ p, 0 ≤ p → p < 36 → h (27, t, 0) p = 0 := fun t ht p p0 p1 => hc.1.1.2.2.2.2.2.2.2.2.2.2 t p ht p0 p1
  have h22 : ∀ t, mm_isT t → h (22, t, 0) 2 = kk_as t := hc.1.1.2.2.2.2.2.2.2.2.2.1
  have a0 : ∀ t, 0 ≤ t ∧ t < 13 → kk_as t = 0 := fun t ht => if_pos ht
  have a1 : ∀ t, ¬ (0 ≤ t ∧ t < 13) → ¬ kk_as t = 0 := fun t ht => by unfold kk_as; rw [if_neg ht]; decide
  have XA : ∀ (m r : Int), 0 ≤ m → m ≤ 13 → 0 ≤ mm_sm (fun t => kc_N h t r) m.toNat ∧ mm_sm (fun t => kc_N h t r) m.toNat ≤ 30000 := fun m r m0 m1 => by
    have a := sm_nn (f := fun t => kc_N h t r) m.toNat (fun _ _ _ => kc_Nnn _ _ _)
    have b := sm_ub (f := fun t => kc_N h t r) 1332 m.toNat (fun _ _ _ => kc_Nub _ _ _)
    omega
  have XK : ∀ (m r : Int), 0 ≤ m → m ≤ 5 → 0 ≤ mm_sm (fun t => kc_N h (13 + t) r) m.toNat ∧ mm_sm (fun t => kc_N h (13 + t) r) m.toNat ≤ 6660 := fun m r m0 m1 => by
    have a := sm_nn (f := fun t => kc_N h (13 + t) r) m.toNat (fun _ _ _ => kc_Nnn _ _ _)
    have b := sm_ub (f := fun t => kc_N h (13 + t) r) 1332 m.toNat (fun _ _ _ => kc_Nub _ _ _)
    omega
  have T26 : mm_isT 26 := by unfold mm_isT; omega
  have T27 : mm_isT 27 := by unfold mm_isT; omega
  unfold kk_call
  -- the reckoning, and the end
  have E : ∀ g, kk_ta h g → g (15, 0, 0) 6 = 0 → (∀ r, 1 ≤ r → r < 1701 → g (20, 0, 0) r = mm_sm (fun t => kc_N h t r) 13) → (∀ r, 1 ≤ r → r < 1701 → g (21, 0, 0) r = mm_sm (fun t => kc_N h (13 + t) r) 5 + kc_N h 26 r + kc_N h 27 r) → g (20, 0, 0) 0 = 0 → g (21, 0, 0) 0 = 0 →
      mm_Wp 52 (bk_52_4.drop 6) [zR (1, 0, 0), zI 8] [] (mm_z g dh nx ns) (fun (r : mm_V) (h1 : mm_H) => kk_S0 r ∧ ∃ g dh1, h1 = mm_z g dh1 nx ns ∧ mm_Cl 275 [zR (40, 0, 0)] (mm_z g dh1 nx ns) (fun r2 h2 => r2 = r ∧ ∃ g2, h2 = mm_z g2 dh1 nx ns ∧ kk_core (b + 1) g2 dh1 ∧ ∀ x j, kk_scr x j → g2 x j = h x j)) := fun g ga g6 g20 g21 z20 z21 => by
    rw [r_52_4_6 (hx := hx)]
    refine s136 hx g6 (fun r r0 r1 => ?_) ?_ ?_
    · rw [ga (17, 0, 0) _ (by simp) (by simp) (by simp), ga (18, 0, 0) _ (by simp) (by simp) (by simp), ga (19, 0, 0) _ (by simp) (by simp) (by simp)]
      by_cases z : r = 0
      · rw [z, z20, z21, hR.2.2.2.2.2.1, hR.2.2.2.2.2.2.1, hR.2.2.2.2.2.2.2]
        exact ⟨rfl, rfl, by decide⟩
      · have R := hR.2.1 r (by omega) r1
        rw [g20 r (by omega) r1, g21 r (by omega) r1]
        exact ⟨R.1.symm, R.2.1.symm, R.2.2⟩
    · rw [ga (15, 0, 0) 7 (by simp) (by simp) (by simp), hR.2.2.1]
      refine sm_congr _ (fun i i0 i1 => ?_)
      by_cases z : i = 0
      · subst z
        show (if (1 : Int) ≤ 0 ∧ 0 < kc_A h 0 then (1 : Int) else 0) = (if 0 < g (20, 0, 0) 0 then 1 else 0)
        rw [z20, if_neg (by omega), if_neg (by omega)]
      · rw [g20 i (by omega) (by omega)]
        by_cases w : 0 < kc_A h i
        · rw [if_pos ⟨by omega, w⟩]; exact (if_pos w).symm
        · rw [if_neg (fun q => w q.2)]; exact (if_neg w).symm
    · rw [mm_pI, r_52_4_9 (hx := hx)]
      refine ⟨rfl, g, dh, rfl, ?_⟩
      rw [r_275_e (hy := hy)]
      have F : ∀ (x : mm_Id) j, x ≠ (20, 0, 0) → x ≠ (21, 0, 0) → ¬ (x = (15, 0, 0) ∧ j = 6) → ¬ (x = (40, 0, 0) ∧ j = 0) → mm_up g (40, 0, 0) 0 0 x j = h x j := fun x j q1 q2 q3 q4 => by rw [mm_upne' q4]; exact ga x j q1 q2 q3
      refine ⟨rfl, _, rfl, kk_coreS hb (kk_coreX (fun x j q => ?_) ?_ hc), fun x j q => ?_⟩
      · have q1 := kk_gxN (fun q2 => q (Or.inl q2))
        exact F x j (fun q2 => q (Or.inr (Or.inr (Or.inl (by rw [q2]))))) (fun q2 => q (Or.inr (Or.inr (Or.inr (Or.inl (by rw [q2])))))) (fun q2 => q (Or.inr (Or.inr (Or.inr (Or.inr q2))))) (fun q2 => q1.2.2.2.2.2.2.2 ⟨q2.1, Or.inl q2.2⟩)
      · obtain ⟨g1, g2', g3, g4', g5, g6', g7, g8⟩ := hc.1.2.2.2
        unfold kk_KG
        have f1 : ∀ j, mm_up g (40, 0, 0) 0 0 (1, 0, 0) j = h (1, 0, 0) j := fun j => F _ _ (by simp) (by simp) (by simp) (by simp)
        have f5 : ∀ j, mm_up g (40, 0, 0) 0 0 (5, 0, 0) j = h (5, 0, 0) j := fun j => F _ _ (by simp) (by simp) (by simp) (by simp)
        have f14 : ∀ j, mm_up g (40, 0, 0) 0 0 (14, 0, 0) j = h (14, 0, 0) j := fun j => F _ _ (by simp) (by simp) (by simp) (by simp)
        have f40 : ∀ j, j ≠ 0 → mm_up g (40, 0, 0) 0 0 (40, 0, 0) j = h (40, 0, 0) j := fun j q => F _ _ (by simp) (by simp) (by simp) (fun w => q w.2)
        refine ⟨?_, ?_, fun i i0 i1 => ?_, ?_, ?_, ?_, ?_, ?_⟩
        · rw [f1, f40 29 (by decide)]; exact g1
        · rw [f5, f40 30 (by decide)]; exact g2'
        · rw [f5] at i1
          rw [F (6, 0, 0) i (by simp) (by simp) (by simp) (by simp), F (65, 0, 0) i (by simp) (by simp) (by simp) (by simp)]; exact g3 i i0 i1
        · rw [f1, f40 34 (by decide)]; exact g4'
        · rw [f14, f40 1 (by decide)]; exact g5
        · rw [f14, f40 35 (by decide)]; exact g6'
        · rw [f14, f40 36 (by decide)]; exact g7
        · rw [f1]; exact ⟨fun q n2 n0 n1 => by rw [F _ _ (by simp) (by simp) (by simp) (by simp), F _ _ (by simp) (by simp) (by simp) (by simp)]; exact g8.1 q n2 n0 n1, fun q => by rw [F _ _ (by simp) (by simp) (by simp) (by simp)]; exact g8.2 q⟩
      · have q1 := kk_scrN q
        exact F x j (fun q2 => by rw [q2] at q; simp [kk_scr] at q) (fun q2 => by rw [q2] at q; simp [kk_scr] at q) (fun q2 => by rw [q2.1] at q; simp [kk_scr] at q) (fun q2 => q1.2.2.2.2.2.2.2 ⟨q2.1, Or.inl q2.2⟩)
  -- the snapshots
  have L8 : ∀ (k : Nat) (i : Int) g, 8 - i = k → 0 ≤ i → kk_ta h g → g (15, 0, 0) 6 = 0 → (∀ r, 1 ≤ r → r < 1701 → g (20, 0, 0) r = mm_sm (fun t => kc_N h t r) (5 + i).toNat) → (∀ r, 1 ≤ r → r < 1701 → g (21, 0, 0) r = mm_sm (fun t => kc_N h (13 + t) r) 5) → g (20, 0, 0) 0 = 0 → g (21, 0, 0) 0 = 0 →
      mm_Wp 52 (mm_blk 52 3) [zR (1, 0, 0), zI i] [] (mm_z g dh nx ns) (fun (r : mm_V) (h1 : mm_H) => kk_S0 r ∧ ∃ g dh1, h1 = mm_z g dh1 nx ns ∧ mm_Cl 275 [zR (40, 0, 0)] (mm_z g dh1 nx ns) (fun r2 h2 => r2 = r ∧ ∃ g2, h2 = mm_z g2 dh1 nx ns ∧ kk_core (b + 1) g2 dh1 ∧ ∀ x j, kk_scr x j → g2 x j = h x j)) := by
    intro k
    induction k with
    | zero =>
      intro i g e1 e2 ga g6 g20 g21 z20 z21
      have ei : i = 8 := by omega
      subst ei
      rw [r_52_3 (hx := hx), if_neg (by decide)]
      refine s172b hx T26 (a1 26 (by omega)) (h22 26 T26) hR.1 (hN 26 T26) (h0 26 T26) ga g6 (X := fun r => mm_sm (fun t => kc_N h (13 + t) r) 5) (fun r r0 r1 => ⟨g21 r r0 r1, (XK 5 r (by omega) (by omega)).1, by have := (XK 5 r (by omega) (by omega)).2; exact Int.le_trans this (by decide)⟩) (fun g2 b1 b2 b3 b4 b5 => ?_)
      rw [mm_pU, r_52_4_3 (hx := hx)]
      refine s172b hx T27 (a1 27 (by omega)) (h22 27 T27) hR.1 (hN 27 T27) (h0 27 T27) b1 b2 (X := fun r => mm_sm (fun t => kc_N h (13 + t) r) 5 + kc_N h 26 r) (fun r r0 r1 => ⟨b3 r r0 r1, ?_⟩) (fun g3 d1 d2 d3 d4 d5 => ?_)
      · have q1 := XK 5 r (by omega) (by omega)
        have q2 := kc_Nnn h 26 r
        have q3 := kc_Nub h 26 r
        have q4 : mm_sm (fun t => kc_N h (13 + t) r) (5 : Int).toNat = mm_sm (fun t => kc_N h (13 + t) r) 5 := rfl
        show 0 ≤ mm_sm (fun t => kc_N h (13 + t) r) 5 + kc_N h 26 r ∧ mm_sm (fun t => kc_N h (13 + t) r) 5 + kc_N h 26 r ≤ 30000
        omega
      · rw [mm_pU]
        exact E g3 d1 d2 (fun r r0 r1 => by rw [d4, b4]; exact g20 r r0 r1) d3 (by rw [d4, b4]; exact z20) (by rw [d5, b5]; exact z21)
    | succ k ih =>
      intro i g e1 e2 ga g6 g20 g21 z20 z21
      have hT : mm_isT (5 + i) := by unfold mm_isT; omega
      rw [r_52_3 (hx := hx), if_pos (by omega)]
      refine ⟨by omega, s172a hx hT (a0 _ (by omega)) (h22 _ hT) hR.1 (hN _ hT) (h0 _ hT) ga g6 (X := fun r => mm_sm (fun t => kc_N h t r) (5 + i).toNat) (fun r r0 r1 => ⟨g20 r r0 r1, XA (5 + i) r (by omega) (by omega)⟩) (fun g2 b1 b2 b3 b4 b5 => ?_)⟩
      rw [mm_pU, r_52_3_9 (hx := hx), mm_wi (z := i + 1) (by omega) (by omega)]
      refine ih (i + 1) g2 (by omega) (by omega) b1 b2 (fun r r0 r1 => ?_) (fun r r0 r1 => by rw [b4]; exact g21 r r0 r1) (by rw [b5]; exact z20) (by rw [b4]; exact z21)
      rw [b3 r r0 r1, show 5 + (i + 1) = 5 + i + 1 by omega, sm_suc _ (by omega)]
  have L5 : ∀ (k : Nat) (i : Int) g, 5 - i = k → 0 ≤ i → kk_ta h g → g (15, 0, 0) 6 = 0 → (∀ r, 1 ≤ r → r < 1701 → g (20, 0, 0) r = mm_sm (fun t => kc_N h t r) i.toNat) → (∀ r, 1 ≤ r → r < 1701 → g (21, 0, 0) r = mm_sm (fun t => kc_N h (13 + t) r) i.toNat) → g (20, 0, 0) 0 = 0 → g (21, 0, 0) 0 = 0 →
      mm_Wp 52 (mm_blk 52 1) [zR (1, 0, 0), zI i] [] (mm_z g dh nx ns) (fun (r : mm_V) (h1 : mm_H) => kk_S0 r ∧ ∃ g dh1, h1 = mm_z g dh1 nx ns ∧ mm_Cl 275 [zR (40, 0, 0)] (mm_z g dh1 nx ns) (fun r2 h2 => r2 = r ∧ ∃ g2, h2 = mm_z g2 dh1 nx ns ∧ kk_core (b + 1) g2 dh1 ∧ ∀ x j, kk_scr x j → g2 x j = h x j)) := by
    intro k
    induction k with
    | zero =>
      intro i g e1 e2 ga g6 g20 g21 z20 z21
      have ei : i = 5 := by omega
      subst ei
      rw [r_52_1 (hx := hx), if_neg (by decide)]
      exact L8 8 0 g (by omega) (by omega) ga g6 g20 g21 z20 z21
    | succ k ih =>
      intro i g e1 e2 ga g6 g20 g21 z20 z21
      have hT : mm_isT i := by unfold mm_isT; omega
      have hT2 : mm_isT (13 + i) := by unfold mm_isT; omega
      have hD : mm_isD i := ⟨by omega, by omega⟩
      rw [r_52_1 (hx := hx), if_pos (by omega)]
      refine ⟨by omega, s172a hx hT (a0 _ (by omega)) (h22 _ hT) hR.1 (hN _ hT) (h0 _ hT) ga g6 (X := fun r => mm_sm (fun t => kc_N h t r) i.toNat) (fun r r0 r1 => ⟨g20 r r0 r1, XA i r (by omega) (by omega)⟩) (fun g2 b1 b2 b3 b4 b5 => ?_)⟩
      rw [mm_pU, r_52_1_9 (hx := hx)]
      refine ⟨by omega, s172b hx hT2 (a1 _ (by omega)) (h22 _ hT2) hR.1 (hN _ hT2) (h0 _ hT2) b1 b2 (X := fun r => mm_sm (fun t => kc_N h (13 + t) r) i.toNat) (fun r r0 r1 => ⟨by rw [b4]; exact g21 r r0 r1, (XK i r (by omega) (by omega)).1, Int.le_trans (XK i r (by omega) (by omega)).2 (by decide)⟩) (fun g3 d1 d2 d3 d4 d5 => ?_)⟩
      rw [mm_pU, r_52_1_15 (hx := hx), mm_wi (z := i + 1) (by omega) (by omega)]
      refine ih (i + 1) g3 (by omega) (by omega) d1 d2 (fun r r0 r1 => ?_) (fun r r0 r1 => ?_) (by rw [d4, b5]; exact z20) (by rw [d5, b4]; exact z21)
      · rw [d4, b3 r r0 r1, sm_suc _ e2]
      · rw [d3 r r0 r1, sm_suc _ e2]
  rw [r_52_e (hx := hx)]
  refine s134 hx (fun g b1 b2 b3 => ?_)
  rw [mm_pU, r_52_0_3 (hx := hx)]
  exact L5 5 0 g (by omega) (by omega) b1 b2 (fun r r0 r1 => (b3 r (by omega) r1).1) (fun r r0 r1 => (b3 r (by omega) r1).2) (b3 0 (by omega) (by omega)).1 (b3 0 (by omega) (by omega)).2
theorem c_39p {b : Int} {h : mm_Id → Int → Int} {dh : Int → Int} {nx ns : Int} (hy : 10581 ≤ nx) (hc : kk_core b h dh) (hb : b + 1 ≤ 1000000) : kk_call 39 265 [] b h dh nx ns kk_SP := by
  have hx : 5275 ≤ nx := by omega
  have a := kk_ac hc
  unfold kk_call
  rw [r_39_e (hx := hx)]
  refine kk_commit (k := 0) hy hc hb (fun g e K => ?_)
  rw [mm_pI, r_39_0_2 (hx := hx)]
  refine ⟨⟨_, rfl, by omega, by omega⟩, g, dh, rfl, ?_⟩
  rw [r_265_e (hy := hy)]
  refine K _ (fun g2 q1 q2 => ?_)
  rw [mm_pU, r_265_0_8 (hy := hy)]
  exact ⟨by rw [mm_upj (by decide), e _ _ (by decide), a.1], g2, rfl, q1, q2⟩
def tt_d : List Nat := [1, 6, 7, 8, 9, 10, 11, 12, 13, 14, 25, 26, 27, 28, 29, 30, 31, 32, 33, 34, 35, 36, 37, 38, 39, 40, 41, 52, 53, 54, 55, 56, 57, 58, 60, 61, 63, 64, 65, 66, 67, 69, 70, 71, 72, 73, 74, 75, 79, 80, 81, 82, 89, 90, 91, 93, 94, 95, 96, 98, 99, 100, 101, 107, 108, 109, 110, 111, 112, 113, 114, 115, 116, 117, 118, 119, 125, 126, 127, 128, 129, 130, 131, 132, 133, 134, 135, 136, 137, 153, 154, 155, 156, 157, 158, 159, 160, 161, 162, 163, 164, 165, 166, 167, 168, 169, 170, 171, 172, 307, 308]
def tt_D (y : Nat) : Bool := decide (y ∈ tt_d)
theorem tt_blk {y b : Nat} {i : mm_I} {p : mm_I → Bool} (h : (mm_code.getD y []).all (fun q => q.2.all p) = true) (hi : i ∈ mm_blk y b) : p i = true := by
  unfold mm_blk at hi
  rw [List.getD_eq_getElem?_getD, List.getElem?_map] at hi
  cases e : (mm_code.getD y [])[b]? with
  | none => rw [e] at hi; cases hi
  | some w =>
    rw [e] at hi
    have hi : i ∈ w.2 := hi
    rw [List.all_eq_true] at h
    have h2 := h w (List.mem_of_getElem? e)
    rw [List.all_eq_true] at h2
    exact h2 i hi
theorem tt_RDa : ∀ y ∈ tt_d, (mm_code.getD y []).all (fun q => q.2.all (tt_n true tt_D)) = true := by decide +kernel
theorem tt_RD : tt_R true tt_D := fun y hy b i hi => tt_blk (tt_RDa y (by unfold tt_D at hy; exact of_decide_eq_true hy)) hi
theorem tt_RCa : ∀ y ∈ mm_rl0, (mm_code.getD y []).all (fun q => q.2.all (tt_n false mm_rc)) = true := by decide +kernel
theorem tt_RC : tt_R false mm_rc := fun y hy b i hi => tt_blk (tt_RCa y (by unfold mm_rc at hy; simpa using hy)) hi
theorem tt_o5 {x : mm_Id} (hS : tt_S x = true) (h : (mm_SH x).1 ≠ 0) : x.1 ≠ 0 ∧ 0 ≤ mm_off x ∧ mm_off x < 5275 := by
  have h0 := tt_x0 hS (show mm_SH x = ((mm_SH x).1, (mm_SH x).2) from rfl) h
  rw [tt_Si] at hS
  have e : mm_SH x = mm_SHo x := mm_SH_lo hS.2.2
  have hn : mm_SHo x ≠ (0, 0) := fun q => h (by rw [e, q])
  obtain ⟨a, b, c⟩ := mm_beo_off x hn (by omega)
  rw [mm_off_lo hS.1 hS.2.2]
  exact ⟨h0, b, c.1 hS.1⟩
theorem tt_off {x : mm_Id} (hS : tt_S x = true) (h0 : x.1 ≠ 0) : mm_off (tt_r 100 x) = mm_off x + 5275 := by
  rw [tt_Si] at hS
  unfold tt_r
  rw [if_neg h0]
  have e : mm_off (x.1, x.2.1, x.2.2 + 100) = mm_offo x + 5275 := by
    unfold mm_off
    rw [if_pos (by exact hS.1), if_pos (by dsimp only; omega), mm_flp (by exact hS.1) (by dsimp only; omega)]
    dsimp only
    rw [Int.add_sub_cancel]
  rw [e, mm_off_lo hS.1 hS.2.2]
/-- calls: nothing is made -/
theorem tt_Kc {c N : Int} (hc : c = 0 ∨ c = 100) : tt_K c (-31) N (fun n => 10581 ≤ n) := ⟨hc, fun n hn => ⟨fun x hS h _ => mm_lvI.2 (by
  obtain ⟨h0, h1, h2⟩ := tt_o5 hS h
  have hn : 10581 ≤ n := hn
  rcases hc with rfl | rfl
  · rw [tt_rz]; omega
  · rw [tt_off hS h0]; omega), fun a b _ => absurd ⟨a, b⟩ (mm_beN hn)⟩⟩
/-- the second pool is made as the first -/
theorem tt_Km : tt_K 100 5275 5275 (fun n => 0 ≤ n ∧ n ≤ 5275) := ⟨Or.inr rfl, fun n hn => ⟨fun x hS h hl => mm_lvI.2 (by
  obtain ⟨h0, h1, h2⟩ := tt_o5 hS h
  have hl := mm_lvI.1 hl
  rw [tt_off hS h0]
  omega), fun a b h => by
  have hn : 0 ≤ n ∧ n ≤ 5275 := hn
  obtain ⟨r1, r2, r3⟩ := (mm_beo_r hn.1).1 (by omega)
  have e1 : mm_be n = mm_beo n := by unfold mm_be; rw [if_pos (by omega)]
  have e2 : mm_be (n + 5275) = mm_hu (mm_beo n) := by unfold mm_be; rw [if_neg (by omega), if_pos (by omega), Int.add_sub_cancel]
  have hS : tt_S (mm_beo n) = true := tt_Si.2 ⟨r1, r2, r3⟩
  rw [e1] at a ⊢
  have h0 := tt_x0 hS (show mm_SH (mm_beo n) = ((mm_SH (mm_beo n)).1, (mm_SH (mm_beo n)).2) from rfl) a
  refine ⟨?_, hS, by omega, by omega⟩
  rw [e2]
  unfold tt_r mm_hu
  rw [if_neg h0]⟩⟩
theorem tt_mk {dh : Int → Int} {nx : Int} {x : mm_Id} {j : Int} (hS : tt_S x = true) : tt_S (mm_mkR dh nx x j) = true := by
  rw [tt_Si] at hS
  obtain ⟨f, a, n⟩ := x
  have h1 : f < 36 := hS.1
  have lit : ∀ (f : Nat) (t : Int), f < 36 → tt_S (f, t, 0) = true := fun f t q => tt_Si.2 ⟨q, by show (0 : Int) ≤ 0; omega, by show (0 : Int) < 100; omega⟩
  have nod : ∀ (f : Nat) (t n : Int), f < 36 → 0 ≤ n ∧ n < 37 → tt_S (f, t, n) = true := fun f t n q w => tt_Si.2 ⟨q, by show 0 ≤ n; omega, by show n < 100; omega⟩
  have dr : tt_S (mm_dr (dh a)) = true := by
    unfold mm_dr
    split
    · exact lit _ _ (by omega)
    · exact lit _ _ (by omega)
  unfold mm_mkR
  simp only
  split
  all_goals first
    | (exfalso; omega)
    | (repeat' split
       all_goals first
         | exact dr
         | exact lit _ _ (by omega)
         | (rename_i q _; exact nod _ _ _ (by omega) ⟨by omega, by omega⟩)
         | (rename_i q; exact nod _ _ _ (by omega) ⟨by omega, by omega⟩)
         | exact nod _ _ _ (by omega) (by omega))
/-- a pool's cells are the ghost's, but for its Disks -/
def tt_A (c : Int) (g : mm_Id → Int → Int) (dh : Int → Int) (k : mm_H) : Prop := ∀ x, tt_S x = true → x.1 ≠ 0 → (x.1 ≠ 14 → ∀ j, k.1 (tt_r c x) j = g x j) ∧ ∀ j, k.2.1 (tt_r c x) j = tt_r c (mm_mkR dh 10581 x j)
/-- only a pool's cells are touched -/
def tt_F (c : Int) (k k1 : mm_H) : Prop := k1.2.2 = k.2.2 ∧ (∀ z, (tt_S (tt_i c z) = false ∨ tt_X true z) → k1.1 z = k.1 z) ∧ ∀ z, (tt_S (tt_i c z) = false ∨ z.1 = 0) → k1.2.1 z = k.2.1 z
section
variable {c : Int} {g g2 : mm_Id → Int → Int} {dh dh2 : Int → Int} {k : mm_H}
theorem tt_self (hx : k.2.2.1 = 10550) (A : tt_A c g dh k) : tt_m c true (-31) k.2.2.2 (mm_z g dh 10581 0) k = k := by
  have e : ∀ z, tt_S (tt_i c z) = true → z.1 ≠ 0 → (z.1 ≠ 14 → ∀ j, k.1 z j = g (tt_i c z) j) ∧ ∀ j, k.2.1 z j = tt_r c (mm_mkR dh 10581 (tt_i c z) j) := fun z hS h0 => by
    have := A (tt_i c z) hS (by rw [tt_i1]; exact h0)
    rw [tt_ir, tt_i1] at this
    exact this
  refine Prod.ext ?_ (Prod.ext ?_ (Prod.ext ?_ ?_))
  · funext z j
    show (if tt_S (tt_i c z) = true ∧ ¬ tt_X true z then g (tt_i c z) j else k.1 z j) = k.1 z j
    by_cases q : tt_S (tt_i c z) = true ∧ ¬ tt_X true z
    · rw [if_pos q]; exact ((e z q.1 (fun w => q.2 (Or.inl w))).1 (fun w => q.2 (Or.inr ⟨rfl, w⟩)) j).symm
    · rw [if_neg q]
  · funext z j
    show (if tt_S (tt_i c z) = true ∧ z.1 ≠ 0 then tt_r c (mm_mkR dh 10581 (tt_i c z) j) else k.2.1 z j) = k.2.1 z j
    by_cases q : tt_S (tt_i c z) = true ∧ z.1 ≠ 0
    · rw [if_pos q]; exact ((e z q.1 q.2).2 j).symm
    · rw [if_neg q]
  · show (10581 : Int) + -31 = k.2.2.1
    rw [hx]; rfl
  · show 0 + k.2.2.2 = k.2.2.2
    omega
theorem tt_res (hx : k.2.2.1 = 10550) : tt_A c g dh (tt_m c true (-31) k.2.2.2 (mm_z g dh 10581 0) k) ∧ tt_F c k (tt_m c true (-31) k.2.2.2 (mm_z g dh 10581 0) k) := by
  refine ⟨fun x hS h0 => ⟨fun h14 j => tt_m1 hS (fun w => w.elim h0 (fun w => h14 w.2)), fun j => tt_m2 hS h0⟩, ?_, fun z q => ?_, fun z q => ?_⟩
  · refine Prod.ext ?_ ?_
    · show (10581 : Int) + -31 = k.2.2.1
      rw [hx]; rfl
    · show 0 + k.2.2.2 = k.2.2.2
      omega
  · funext j
    show (if tt_S (tt_i c z) = true ∧ ¬ tt_X true z then _ else k.1 z j) = k.1 z j
    rw [if_neg]
    rintro ⟨a, b⟩
    rcases q with q | q
    · rw [q] at a; cases a
    · exact b q
  · funext j
    show (if tt_S (tt_i c z) = true ∧ z.1 ≠ 0 then _ else k.2.1 z j) = k.2.1 z j
    rw [if_neg]
    rintro ⟨a, b⟩
    rcases q with q | q
    · rw [q] at a; cases a
    · exact b q
theorem tt_Ag (A : tt_A c g dh k) (e : ∀ (x : mm_Id) j, x.1 < 36 → g2 x j = g x j) : tt_A c g2 dh k := fun x hS h0 => ⟨fun h14 j => by
  rw [e x j (tt_Si.1 hS).1]
  exact (A x hS h0).1 h14 j, (A x hS h0).2⟩
theorem tt_go {y : Nat} {a : List mm_V} {Q : mm_V → mm_H → Prop} (hy : tt_D y = true) (ha : mm_SLs tt_S a) (hc : mm_Cl y a (mm_z g dh 10581 0) Q) :
    ∃ r H1, Q r H1 ∧ ∀ c, (c = 0 ∨ c = 100) → ∀ k : mm_H, k.2.2.1 = 10550 → tt_A c g dh k → mm_Cl y (a.map (tt_V c)) k (fun r' k1 => r' = tt_V c r ∧ k1 = tt_m c true (-31) k.2.2.2 H1 k) := by
  obtain ⟨f, r, H1, e, q⟩ := hc
  refine ⟨r, H1, q, fun c hc k hx A => ?_⟩
  have hC : tt_C (fun n => 10581 ≤ n) (mm_z g dh 10581 0) := ⟨fun x j hS => tt_mk hS, Int.le_refl _⟩
  obtain ⟨-, -, q3⟩ := tt_run (ds := k.2.2.2) (tt_Kc (N := H1.2.2.1) hc) tt_RD f y _ _ _ _ r H1 e hy (tt_RD y hy 0) (mm_SLE ha) mm_SLn hC (Int.le_refl _)
  have q4 := q3 k
  rw [tt_self hx A] at q4
  refine ⟨f, _, _, ?_, rfl, rfl⟩
  rw [tt_en]
  exact q4
theorem tt_ints {a : List mm_V} (h : ∀ v, v ∈ a → ∀ x, v ≠ zR x) : a.map (tt_V c) = a ∧ mm_SLs tt_S a := by
  refine ⟨?_, fun v q x e => absurd e (h v q x)⟩
  induction a with
  | nil => rfl
  | cons v a ih =>
    rw [List.map_cons, ih (fun w q => h w (List.mem_cons_of_mem _ q))]
    congr 1
    have := h v List.mem_cons_self
    rcases v with (v | v) | (_ | v)
    · rfl
    · rfl
    · rfl
    · exact absurd rfl (this v)
end
/-- a call that both can be asked, with its answers -/
def tt_G (y : Nat) (a : List mm_V) (S : mm_V → Prop) : Prop := (tt_D y = true ∧ (∀ v, v ∈ a → ∀ x, v ≠ zR x) ∧ ∀ r, S r → ∃ n, r = zI n) ∧ ∀ b h dh, kk_core b h dh → b + 1 ≤ 1000000 → ∃ k2, kk_call y k2 a b h dh 10581 0 S
theorem tt_call {y : Nat} {a : List mm_V} {S : mm_V → Prop} {b : Int} {g : mm_Id → Int → Int} {dh : Int → Int} (G : tt_G y a S) (hc : kk_core b g dh) (hb : b + 1 ≤ 1000000) :
    ∃ n g2 dh2, S (zI n) ∧ kk_core (b + 1) g2 dh2 ∧ ∀ c, (c = 0 ∨ c = 100) → ∀ k : mm_H, k.2.2.1 = 10550 → tt_A c g dh k → mm_Cl y (zR (1, 0, c) :: a) k (fun r k1 => r = zI n ∧ tt_A c g2 dh2 k1 ∧ tt_F c k k1) := by
  obtain ⟨⟨G1, G2, G4⟩, G3⟩ := G
  obtain ⟨k2, hk⟩ := G3 b g dh hc hb
  obtain ⟨r, H, dh1, s1, core, -, cl, -⟩ := kk_split (Int.le_refl _) G2 hk
  obtain ⟨n, rfl⟩ := G4 r s1
  obtain ⟨r', H1, ⟨e1, A', e2, e3, -⟩, go⟩ := tt_go (y := y) G1 (mm_SLc (mm_SVR (by decide)) (tt_ints (c := 0) G2).2) (cl g (fun x j _ => rfl))
  subst e1
  refine ⟨n, H, dh1, s1, core, fun c hc k hx A => ?_⟩
  have z := go c hc k hx A
  rw [List.map_cons, (tt_ints G2).1] at z
  have ez : tt_V c (zR (1, 0, 0)) = zR (1, 0, c) := by
    show zR (tt_r c (1, 0, 0)) = zR (1, 0, c)
    unfold tt_r
    rw [if_neg (by decide)]
    dsimp only
    rw [Int.zero_add]
  rw [ez] at z
  refine mm_Clm ?_ z
  rintro r k1 ⟨er, ek⟩
  obtain ⟨a1, a2⟩ := tt_res (c := c) (g := A') (dh := dh1) hx
  rw [e2] at ek
  rw [← ek] at a1 a2
  exact ⟨er, tt_Ag a1 (fun x j q => (e3 x j (Or.inl (by omega))).symm), a2⟩
/-- both pools in one heap -/
def tt_J (b : Int) (g : mm_Id → Int → Int) (dh : Int → Int) (k : mm_H) : Prop := (∃ b2, b2 ≤ b ∧ kk_core b2 g dh) ∧ tt_A 0 g dh k ∧ tt_A 100 g dh k ∧ k.2.2.1 = 10550
/-- what both calls leave as it was -/
def tt_Z (k k2 : mm_H) : Prop := k2.2.2 = k.2.2 ∧ k2.1 (14, 0, 100) = k.1 (14, 0, 100) ∧ k2.1 (90, 0, 0) = k.1 (90, 0, 0)
theorem tt_Zr {k : mm_H} : tt_Z k k := ⟨rfl, rfl, rfl⟩
theorem tt_Zt {k k1 k2 : mm_H} (a : tt_Z k k1) (b : tt_Z k1 k2) : tt_Z k k2 := ⟨b.1.trans a.1, b.2.1.trans a.2.1, b.2.2.trans a.2.2⟩
theorem tt_Fo {g : mm_Id → Int → Int} {dh : Int → Int} {k k1 : mm_H} (F : tt_F 0 k k1) (A : tt_A 100 g dh k) : tt_A 100 g dh k1 := fun x hS h0 => by
  have q := tt_Si.1 hS
  have hz : tt_S (tt_i 0 (tt_r 100 x)) = false := by
    have e : tt_i 0 (tt_r 100 x) = (x.1, x.2.1, x.2.2 + 100) := by
      unfold tt_i
      rw [tt_r1, if_neg h0]
      unfold tt_r
      rw [if_neg h0]
      dsimp only
      rw [Int.sub_zero]
    rw [e]
    apply Bool.eq_false_iff.2
    intro w
    have := (tt_Si.1 w).2.2
    dsimp only at this
    omega
  rw [F.2.1 _ (Or.inl hz), F.2.2 _ (Or.inl hz)]
  exact A x hS h0
theorem tt_Fq {g : mm_Id → Int → Int} {dh : Int → Int} {k k1 : mm_H} (F : tt_F 100 k k1) (A : tt_A 0 g dh k) : tt_A 0 g dh k1 := fun x hS h0 => by
  have q := tt_Si.1 hS
  have hz : tt_S (tt_i 100 (tt_r 0 x)) = false := by
    rw [tt_rz]
    have e : tt_i 100 x = (x.1, x.2.1, x.2.2 - 100) := by
      unfold tt_i
      rw [if_neg h0]
    rw [e]
    apply Bool.eq_false_iff.2
    intro w
    have := (tt_Si.1 w).2.1
    dsimp only at this
    omega
  rw [F.2.1 _ (Or.inl hz), F.2.2 _ (Or.inl hz)]
  exact A x hS h0
theorem tt_FZ {c : Int} {k k1 : mm_H} (F : tt_F c k k1) : tt_Z k k1 := by
  refine ⟨F.1, F.2.1 _ (Or.inr (Or.inr ⟨rfl, rfl⟩)), F.2.1 _ (Or.inl ?_)⟩
  apply Bool.eq_false_iff.2
  intro w
  have := (tt_Si.1 w).1
  rw [tt_i1] at this
  exact absurd this (by decide)
/-- a call of the one, then of the other -/
theorem tt_two {y : Nat} {a : List mm_V} {S : mm_V → Prop} {b : Int} {g : mm_Id → Int → Int} {dh : Int → Int} {k : mm_H} (G : tt_G y a S) (J : tt_J b g dh k) (hb : b + 1 ≤ 1000000) :
    ∃ n, S (zI n) ∧ mm_Cl y (zR (1, 0, 0) :: a) k (fun r k1 => r = zI n ∧ k1.2.2.1 = 10550 ∧ tt_Z k k1 ∧ mm_Cl y (zR (1, 0, 100) :: a) k1 (fun r2 k2 => r2 = zI n ∧ ∃ g2 dh2, tt_J (b + 1) g2 dh2 k2 ∧ tt_Z k k2)) := by
  obtain ⟨⟨b2, hb2, core⟩, A0, A1, hx⟩ := J
  obtain ⟨n, g2, dh2, s1, core2, go⟩ := tt_call G core (by omega)
  refine ⟨n, s1, mm_Clm ?_ (go 0 (Or.inl rfl) k hx A0)⟩
  rintro r k1 ⟨er, B0, F0⟩
  have hx1 : k1.2.2.1 = 10550 := by rw [F0.1]; exact hx
  refine ⟨er, hx1, tt_FZ F0, mm_Clm ?_ (go 100 (Or.inr rfl) k1 hx1 (tt_Fo F0 A1))⟩
  rintro r2 k2 ⟨er2, B1, F1⟩
  have hx2 : k2.2.2.1 = 10550 := by rw [F1.1]; exact hx1
  exact ⟨er2, g2, dh2, ⟨⟨b2 + 1, by omega, core2⟩, tt_Fq F1 B0, B1, hx2⟩, tt_Zt (tt_FZ F0) (tt_FZ F1)⟩
