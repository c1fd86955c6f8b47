/-! why an entry may not move, here and there -/
theorem s69 {b : Int} {h : mm_Id → Int → Int} {dh : Int → Int} {nx ns : Int} {Q : mm_V → mm_H → Prop} (hx : 5275 ≤ nx) (hc : kk_core b h dh) {s n k q m : Int} (hs : 0 ≤ s ∧ s < 13) (h1k : 1 ≤ k ∧ k < 37) (k2k : h (24, s, k) 0 = 2) (m1 : 1 ≤ m ∧ m < 37) (km : h (24, s, m) 0 ≠ 0)
    (K1 : h (24, s, m) 0 = 2 → kk_hit h s m k → Q (zI (-3)) (mm_z h dh nx ns))
    (K3 : (h (24, s, m) 0 = 2 → ¬ kk_hit h s m k) → ∀ o, (1 ≤ o ∧ o < 37) → kk_Ed h s k q o → (h (24, s, m) 0 = 2 ∨ h (24, s, o) 0 = 2) → Q (zI (-3)) (mm_z h dh nx ns))
    (K4 : (h (24, s, m) 0 = 2 → ¬ kk_hit h s m k) → (∀ v, ¬ kk_Ed h s k q v) → n ≠ k → ¬ h (24, s, k) 6 < 24 → Q (zI (-4)) (mm_z h dh nx ns))
    (K0 : (h (24, s, m) 0 = 2 → ¬ kk_hit h s m k) → ∀ o, ((o = 0 ∧ ∀ v, ¬ kk_Ed h s k q v) ∨ (1 ≤ o ∧ kk_Ed h s k q o)) → (o ≠ 0 → h (24, s, m) 0 ≠ 2 ∧ h (24, s, o) 0 ≠ 2) → (o = 0 → n = k ∨ h (24, s, k) 6 < 24) → Q (zI 0) (mm_z h dh nx ns)) :
    mm_Cl 69 [zR (1, 0, 0), zR (22, s, 0), zI m, zI n, zI k, zI q] (mm_z h dh nx ns) Q := by
  have hsT := mm_T13 hs
  have NWs : ∀ x, 1 ≤ x → x < 37 → kk_NW h s x := fun x a0 a1 => kk_NWC hc hsT ⟨a0, a1⟩
  have T := kk_TWC hc hsT
  have NWk := NWs k h1k.1 h1k.2
  have srtk := NWk.2.2.2.2.2.2.2.2.2.2.2.1
  have hkN : mm_isN k := ⟨by omega, h1k.2⟩
  have hmN : mm_isN m := ⟨by omega, m1.2⟩
  have B5 : ∀ x8 : Int, (x8 = 0 ↔ h (24, s, m) 0 ≠ 2) → (h (24, s, m) 0 = 2 → ¬ kk_hit h s m k) → mm_Wp 69 (mm_blk 69 5) [zR (1, 0, 0), zR (22, s, 0), zI m, zI n, zI k, zI q, zR (24, s, m), zR (24, s, k), zI x8, zU] [] (mm_z h dh nx ns) Q := fun x8 h8 nh => by
    rw [r_69_5 (htx1 := hsT) (htx7 := hsT) (hnx7 := hkN) (hx := hx)]
    refine s99 hsT hkN hx NWk.2.1 srtk (fun p p0 p1 p2 => ?_) (fun ab => ?_)
    · have r := (NWk.2.2.2.2.2.2.2.2.2.2.2.2.2.1 p p0 p1).2
      obtain ⟨o, ho⟩ : ∃ o, h (26, s, k) p = o := ⟨_, rfl⟩
      rw [ho] at r ⊢
      have oE : kk_Ed h s k q o := ⟨p, ⟨p0, p1⟩, p2, ho⟩
      rw [mm_pI, r_69_5_5 (htx7 := hsT) (hnx7 := hkN) (hty1 := hsT) (hx := hx)]
      refine s56 hsT hx (fun _ _ => ?_) (fun w => absurd ⟨r.1, r.2⟩ w)
      rw [mm_pR, r_69_5_6a (htx7 := hsT) (hnx7 := hkN) (hty0 := hsT) (hny0 := ⟨by omega, r.1.2⟩) (hx := hx)]
      by_cases z : x8 = 0
      · rw [if_pos z]
        have m2 := h8.1 z
        by_cases z2 : h (24, s, o) 0 = 2
        · rw [if_pos z2, r_69_6 (hx := hx)]
          exact K3 nh o r.1 oE (Or.inr z2)
        · rw [if_neg z2, r_69_7a (htx7 := hsT) (hnx7 := hkN) (htx9 := hsT) (hnx9 := ⟨by omega, r.1.2⟩) (hx := hx), r_69_8 (hx := hx), r_69_9 (hx := hx)]
          exact K0 nh o (Or.inr ⟨r.1.1, oE⟩) (fun _ => ⟨m2, z2⟩) (fun w => by omega)
      · rw [if_neg z, r_69_6 (hx := hx)]
        exact K3 nh o r.1 oE (Or.inl (Decidable.byContradiction (fun w => z (h8.2 w))))
    · have ab2 : ∀ v, ¬ kk_Ed h s k q v := fun v ⟨i, hi, q1, _⟩ => ab i hi.1 hi.2 q1
      rw [mm_pI, r_69_5_5 (htx7 := hsT) (hnx7 := hkN) (hty1 := hsT) (hx := hx)]
      refine s56 hsT hx (fun w _ => by omega) (fun _ => ?_)
      rw [mm_pR, r_69_5_6 (htx7 := hsT) (hnx7 := hkN) (hx := hx), r_69_7 (htx7 := hsT) (hnx7 := hkN) (hx := hx)]
      by_cases z : n = k
      · rw [if_pos z, r_69_8 (hx := hx), r_69_9 (hx := hx)]
        exact K0 nh 0 (Or.inl ⟨rfl, ab2⟩) (fun w => absurd rfl w) (fun _ => Or.inl z)
      · rw [if_neg z]
        by_cases z2 : h (24, s, k) 6 < 24
        · rw [if_pos z2, r_69_8 (hx := hx), r_69_9 (hx := hx)]
          exact K0 nh 0 (Or.inl ⟨rfl, ab2⟩) (fun w => absurd rfl w) (fun _ => Or.inr z2)
        · rw [if_neg z2, r_69_9 (hx := hx)]
          exact K4 nh ab2 z z2
  rw [r_69_e (htx1 := hsT) (hx := hx)]
  refine s56 hsT hx (fun _ _ => ?_) (fun w => absurd ⟨m1, km⟩ w)
  rw [mm_pR, r_69_0_4a (htx1 := hsT) (hty0 := hsT) (hny0 := hmN) (hx := hx)]
  refine s56 hsT hx (fun _ _ => ?_) (fun w => absurd ⟨h1k, by omega⟩ w)
  rw [mm_pR, r_69_0_9c (htx1 := hsT) (htx6 := hsT) (hnx6 := hmN) (hty0 := hsT) (hny0 := hkN) (hx := hx)]
  by_cases z : h (24, s, m) 0 = 2
  · rw [if_pos z, r_69_4 (htx1 := hsT) (htx7 := hsT) (hnx7 := hkN) (hx := hx), if_neg (by decide)]
    refine s164 hx hsT NWs T h1k k2k m1 (fun w => ?_) (fun w => ?_)
    · rw [mm_pI, r_69_4_7 (htx1 := hsT) (htx7 := hsT) (hnx7 := hkN) (hx := hx), if_neg (by decide)]
      exact K1 z w
    · rw [mm_pI, r_69_4_7 (htx1 := hsT) (htx7 := hsT) (hnx7 := hkN) (hx := hx), if_pos rfl]
      exact B5 1 ⟨fun u => absurd u (by decide), fun u => absurd z u⟩ (fun _ => w)
  · rw [if_neg z, r_69_4 (htx1 := hsT) (htx7 := hsT) (hnx7 := hkN) (hx := hx), if_pos rfl]
    exact B5 0 ⟨fun _ => z, fun _ => rfl⟩ (fun u => absurd u z)
theorem m227w {h f : mm_Id → Int → Int} {dh : Int → Int} {nx ns : Int} {Q : mm_V → mm_H → Prop} (hy : 10581 ≤ nx) {s n l k q m o x9 x10 ko : Int} {v1 v7 v12 : mm_V} (hs : 0 ≤ s ∧ s < 29) (NW : ∀ n, 1 ≤ n → n < 37 → kk_NW h s n) (T : kk_TW h s) (h1k : 1 ≤ k ∧ k < 37) (k2k : h (24, s, k) 0 = 2) (m1 : 1 ≤ m ∧ m < 37)
    (c44 : ∀ d, 1 ≤ d ∧ d < 37 → f (44, 0, 0) (36 * s + d - 1) = h (24, s, d) 6) (c46 : ∀ d, 1 ≤ d ∧ d < 37 → ∀ e, 0 ≤ e → e < h (24, s, d) 6 → f (46, 0, 0) (24 * (36 * s + d - 1) + e) = h (26, s, d) e)
    (h9 : x9 = 0 ↔ h (24, s, m) 0 ≠ 2) (ho : 0 ≤ x10 → (1 ≤ o ∧ o < 37) ∧ f (41, 0, 0) (36 * s + o - 1) = ko)
    (K1 : h (24, s, m) 0 = 2 → kk_hit h s m k → Q (zI (-3)) (mm_z f dh nx ns))
    (K3 : (h (24, s, m) 0 = 2 → ¬ kk_hit h s m k) → 0 ≤ x10 → (h (24, s, m) 0 = 2 ∨ ko = 2) → Q (zI (-3)) (mm_z f dh nx ns))
    (K4 : (h (24, s, m) 0 = 2 → ¬ kk_hit h s m k) → x10 < 0 → n ≠ k → h (24, s, k) 6 = 24 → Q (zI (-4)) (mm_z f dh nx ns))
    (K0 : (h (24, s, m) 0 = 2 → ¬ kk_hit h s m k) → (0 ≤ x10 → h (24, s, m) 0 ≠ 2 ∧ ko ≠ 2) → (x10 < 0 → n = k ∨ h (24, s, k) 6 ≠ 24) → mm_Wp 227 (mm_blk 227 17) [zR (40, 0, 0), v1, zI n, zI l, zI k, zI q, zI s, v7, zI m, zI x9, zI x10, zI o, zI 0] [] (mm_z f dh nx ns) Q) :
    mm_Wp 227 (mm_blk 227 13) [zR (40, 0, 0), v1, zI n, zI l, zI k, zI q, zI s, v7, zI m, zI x9, zI x10, zI o, v12] [zI 0] (mm_z f dh nx ns) Q := by
  have B14 : (h (24, s, m) 0 = 2 → ¬ kk_hit h s m k) → mm_Wp 227 (mm_blk 227 14) [zR (40, 0, 0), v1, zI n, zI l, zI k, zI q, zI s, v7, zI m, zI x9, zI x10, zI o, zI 0] [] (mm_z f dh nx ns) Q := fun nh => by
    rw [r_227_14 (hy := hy)]
    by_cases xn : x10 < 0
    · rw [if_pos xn, r_227_16 (hy := hy), if_pos xn]
      by_cases z : n = k
      · rw [if_pos z]; exact K0 nh (fun w => by omega) (fun _ => Or.inl z)
      · rw [if_neg z]
        refine m175 hy hs h1k ?_
        rw [mm_pI, r_227_16_10 (hy := hy), c44 k h1k]
        refine ⟨by omega, ?_⟩
        by_cases z2 : h (24, s, k) 6 = 24
        · rw [if_pos z2]; exact K4 nh xn z z2
        · rw [if_neg z2]; exact K0 nh (fun w => by omega) (fun _ => Or.inr z2)
    · rw [if_neg xn, if_pos rfl]
      have O := ho (by omega)
      by_cases z : ko = 2
      · refine m211y hy hs O.1 O.2 z ?_
        rw [mm_pI, r_227_14_8 (hy := hy), if_neg (by decide), r_227_15 (hy := hy)]
        exact K3 nh (by omega) (Or.inr z)
      · refine m211n hy hs O.1 O.2 z ?_
        rw [mm_pI, r_227_14_8 (hy := hy), if_pos rfl]
        by_cases z2 : x9 = 0
        · rw [if_pos z2, r_227_16 (hy := hy), if_neg xn]
          exact K0 nh (fun _ => ⟨h9.1 z2, z⟩) (fun w => absurd w xn)
        · rw [if_neg z2, r_227_15 (hy := hy)]
          exact K3 nh (by omega) (Or.inl (Decidable.byContradiction (fun w => z2 (h9.2 w))))
  rw [r_227_13 (hy := hy), if_pos rfl]
  by_cases z : x9 = 0
  · rw [if_pos z]
    exact B14 (fun w => absurd w (h9.1 z))
  · rw [if_neg z]
    have m2 : h (24, s, m) 0 = 2 := Decidable.byContradiction (fun w => z (h9.2 w))
    refine m226 hy hs NW T h1k k2k m1 c44 c46 (fun w => ?_) (fun w => ?_)
    · rw [mm_pI, r_227_13_10 (hy := hy), if_neg (by decide)]
      exact K1 m2 w
    · rw [mm_pI, r_227_13_10 (hy := hy), if_pos rfl]
      exact B14 (fun _ => w)


