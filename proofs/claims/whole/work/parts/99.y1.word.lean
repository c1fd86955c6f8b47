/-! scripts: which word it is -/
theorem kk_slN : ∀ k : Nat, k < 94 → mm_shr (mm_sl k) 0 = mm_sl k ∧ 1 ≤ mm_sl k ∧ mm_sl k ≤ 16 ∨ mm_shr (mm_sl k) 0 = mm_sl k ∧ mm_sl k = 0 := by decide +kernel
theorem kk_scN : ∀ k : Nat, k < 94 → ∀ i : Nat, i < 17 → 0 ≤ mm_sc k i ∧ mm_sc k i < 127 := by decide +kernel
theorem kk_slb {t : Int} (g : mm_isG t) : mm_shr (mm_sl t) 0 = mm_sl t ∧ 0 ≤ mm_sl t ∧ mm_sl t ≤ 16 := by
  have z := kk_slN t.toNat (by have := g.1; have := g.2; omega)
  rw [show ((t.toNat : Nat) : Int) = t by have := g.1; omega] at z
  rcases z with ⟨z1, z2, z3⟩ | ⟨z1, z2⟩
  · exact ⟨z1, by omega, z3⟩
  · exact ⟨z1, by omega, by omega⟩
theorem kk_scb {t i : Int} (g : mm_isG t) (i0 : 0 ≤ i) (i1 : i < 17) : 0 ≤ mm_sc t i ∧ mm_sc t i < 127 := by
  have z := kk_scN t.toNat (by have := g.1; have := g.2; omega) i.toNat (by omega)
  rw [show ((t.toNat : Nat) : Int) = t by have := g.1; omega, show ((i.toNat : Nat) : Int) = i by omega] at z
  exact z
section
variable {h : mm_Id → Int → Int} {dh : Int → Int} {nx ns : Int} {Q : mm_V → mm_H → Prop}
theorem s300 (hx : 5275 ≤ nx) {t : Int} (g : mm_isG t) (K : Q (zI (mm_sl t)) (mm_z h dh nx ns)) : mm_Cl 300 [zR (93, t, 0)] (mm_z h dh nx ns) Q := by
  rw [r_300_e (htx0 := g) (hx := hx), r_301_e (htx0 := g) (hx := hx), if_neg (by omega), r_301_2 (hx := hx)]
  refine ⟨by omega, ?_⟩
  show mm_Wp 300 (bk_300_0.drop 5) [zR (93, t, 0)] [zI 0, zI (mm_sl t)] (mm_z h dh nx ns) Q
  rw [r_300_0_5 (hx := hx), (kk_slb g).1]
  exact K
theorem s303 (hx : 5275 ≤ nx) {t i : Int} (g : mm_isG t) (i0 : 0 ≤ i) (i1 : i < mm_sl t) (K : Q (zI (mm_sc t i)) (mm_z h dh nx ns)) : mm_Cl 303 [zR (93, t, 0), zI i] (mm_z h dh nx ns) Q := by
  have b := kk_slb g
  have c := kk_scb (i := i) g i0 (by omega)
  rw [r_303_e (htx0 := g) (hx := hx), r_302_e (htx0 := g) (hx := hx), if_neg (by omega), if_pos rfl, r_302_2 (hx := hx)]
  refine ⟨by omega, ?_⟩
  show mm_Wp 303 (bk_303_0.drop 2) [zR (93, t, 0), zI i] [zI 1] (mm_z h dh nx ns) Q
  rw [r_303_0_2 (htx0 := g) (hx := hx), if_neg (by omega), r_305_e (htx0 := g) (hx := hx), r_304_e (hx := hx), r_306_e (hx := hx), if_neg (by omega), if_pos i1]
  show mm_Wp 304 (bk_304_0.drop 4) [zI i, zI (mm_sl t)] [zI i] (mm_z h dh nx ns) _
  rw [r_304_0_4 (hx := hx)]
  show mm_Wp 305 (bk_305_0.drop 4) [zR (95, t, 0), zI i] [] (mm_z h dh nx ns) _
  rw [r_305_0_4 (htx0 := g) (hx := hx), kk_a255, show mm_sc t i % 256 % 65536 = mm_sc t i by omega]
  refine ⟨⟨i0, i1⟩, by omega, ?_⟩
  show mm_Wp 303 (bk_303_0.drop 7) [zR (93, t, 0), zI i] [zI (mm_sc t i)] (mm_z h dh nx ns) Q
  rw [r_303_0_7 (hx := hx)]
  exact ⟨by omega, K⟩
/-- the word from a to b is word t of the table -/
def kk_isw (u : Int → Int) (a b t : Int) : Prop := mm_sl t = b - a ∧ ∀ i, 0 ≤ i → i < mm_sl t → u (a + i) = mm_sc t i
theorem s144 (hx : 5275 ≤ nx) {t a b : Int} (g : mm_isG t) (ha : h (8, 0, 0) 12 = a) (hb : h (8, 0, 0) 13 = b) (h0 : 0 ≤ a ∧ a ≤ b ∧ b ≤ 8000) (K1 : kk_isw (h (9, 0, 0)) a b t → Q (zI 1) (mm_z h dh nx ns)) (K2 : ¬ kk_isw (h (9, 0, 0)) a b t → Q (zI 0) (mm_z h dh nx ns)) :
    mm_Cl 144 [zR (8, 0, 0), zR (93, t, 0)] (mm_z h dh nx ns) Q := by
  have B := kk_slb g
  have Z : ¬ kk_isw (h (9, 0, 0)) a b t → ∀ v, mm_Wp 144 (mm_blk 144 3) [zR (8, 0, 0), zR (93, t, 0), zI 0, zI v] [] (mm_z h dh nx ns) Q := by
    intro n v
    rw [r_144_3 (htx1 := g) (hx := hx), if_pos rfl, r_144_6 (hx := hx)]
    exact ⟨Or.inl rfl, K2 n⟩
  have L : mm_sl t = b - a → ∀ (d : Nat) (i : Int), mm_sl t - i = d → 0 ≤ i → (∀ j, 0 ≤ j → j < i → h (9, 0, 0) (a + j) = mm_sc t j) → mm_Wp 144 (mm_blk 144 3) [zR (8, 0, 0), zR (93, t, 0), zI 1, zI i] [] (mm_z h dh nx ns) Q := by
    intro e d
    induction d with
    | zero =>
      intro i e1 e2 e3
      rw [r_144_3 (htx1 := g) (hx := hx), if_neg (by omega)]
      refine s300 hx g ?_
      show mm_Wp 144 (bk_144_3.drop 5) [zR (8, 0, 0), zR (93, t, 0), zI 1, zI i] [zI (mm_sl t), zI i] (mm_z h dh nx ns) Q
      rw [r_144_3_5 (htx1 := g) (hx := hx), if_neg (by omega), r_144_6 (hx := hx)]
      exact ⟨Or.inr rfl, K1 ⟨e, fun j j0 j1 => e3 j j0 (by omega)⟩⟩
    | succ d ih =>
      intro i e1 e2 e3
      rw [r_144_3 (htx1 := g) (hx := hx), if_neg (by omega)]
      refine s300 hx g ?_
      show mm_Wp 144 (bk_144_3.drop 5) [zR (8, 0, 0), zR (93, t, 0), zI 1, zI i] [zI (mm_sl t), zI i] (mm_z h dh nx ns) Q
      rw [r_144_3_5 (htx1 := g) (hx := hx), if_pos (by omega), ha, mm_wi (by omega) (by omega)]
      refine ⟨by omega, s303 hx g e2 (by omega) ?_⟩
      show mm_Wp 144 (bk_144_3.drop 16) [zR (8, 0, 0), zR (93, t, 0), zI 1, zI i] [zI (mm_sc t i), zI (h (9, 0, 0) (a + i))] (mm_z h dh nx ns) Q
      rw [r_144_3_16 (htx1 := g) (hx := hx)]
      by_cases q : h (9, 0, 0) (a + i) = mm_sc t i
      · rw [if_pos q, r_144_5 (htx1 := g) (hx := hx), mm_wi (by omega) (by omega)]
        exact ih (i + 1) (by omega) (by omega) (fun j j0 j1 => by
          by_cases w : j = i
          · rw [w]; exact q
          · exact e3 j j0 (by omega))
      · rw [if_neg q, r_144_5 (htx1 := g) (hx := hx)]
        exact Z (fun k => q (k.2 i e2 (by omega))) _
  rw [r_144_e (htx1 := g) (hx := hx)]
  refine s300 hx g ?_
  show mm_Wp 144 (bk_144_0.drop 2) [zR (8, 0, 0), zR (93, t, 0), zU, zU] [zI (mm_sl t)] (mm_z h dh nx ns) Q
  rw [r_144_0_2 (htx1 := g) (hx := hx), ha, hb, mm_wi (by omega) (by omega)]
  by_cases q : mm_sl t = b - a
  · rw [if_pos q, r_144_2 (htx1 := g) (hx := hx)]
    exact L q (mm_sl t).toNat 0 (by omega) (by omega) (fun j j0 j1 => by omega)
  · rw [if_neg q, r_144_2 (htx1 := g) (hx := hx)]
    exact Z (fun k => q k.1) _
theorem s143 (hx : 5275 ≤ nx) {a b : Int} (ha : h (8, 0, 0) 12 = a) (hb : h (8, 0, 0) 13 = b) (h0 : 0 ≤ a ∧ a ≤ b ∧ b ≤ 8000)
    (K1 : ∀ c, 0 ≤ c → c < 47 → kk_isw (h (9, 0, 0)) a b (2 * c) → (∀ e : Int, 0 ≤ e → e < c → ¬ kk_isw (h (9, 0, 0)) a b (2 * e)) → Q (zR (92, c, 0)) (mm_z h dh nx ns)) (K2 : (∀ e : Int, 0 ≤ e → e < 47 → ¬ kk_isw (h (9, 0, 0)) a b (2 * e)) → Q (zR mm_nul) (mm_z h dh nx ns)) :
    mm_Cl 143 [zR (8, 0, 0)] (mm_z h dh nx ns) Q := by
  have L : ∀ (d : Nat) (c : Int), 47 - c = d → 0 ≤ c → (∀ e : Int, 0 ≤ e → e < c → ¬ kk_isw (h (9, 0, 0)) a b (2 * e)) → mm_Wp 143 (mm_blk 143 1) [zR (8, 0, 0), zI c] [] (mm_z h dh nx ns) Q := by
    intro d
    induction d with
    | zero =>
      intro c e1 e2 e3
      rw [r_143_1 (hx := hx), if_neg (by omega)]
      exact K2 (fun e e0 e4 => e3 e e0 (by omega))
    | succ d ih =>
      intro c e1 e2 e3
      rw [r_143_1 (hx := hx), if_pos (by omega)]
      refine ⟨by omega, ?_⟩
      rw [show 2 * c + 0 = 2 * c by omega]
      refine s144 hx (t := 2 * c) ⟨by omega, by omega⟩ ha hb h0 (fun k => ?_) (fun k => ?_)
      · show mm_Wp 143 (bk_143_1.drop 10) [zR (8, 0, 0), zI c] [zI 1] (mm_z h dh nx ns) Q
        rw [r_143_1_10 (hx := hx), if_neg (by omega)]
        exact ⟨by omega, K1 c e2 (by omega) k e3⟩
      · show mm_Wp 143 (bk_143_1.drop 10) [zR (8, 0, 0), zI c] [zI 0] (mm_z h dh nx ns) Q
        rw [r_143_1_10 (hx := hx), if_pos rfl, mm_wi (by omega) (by omega)]
        exact ih (c + 1) (by omega) (by omega) (fun e e0 e4 => by
          by_cases w : e = c
          · rw [w]; exact k
          · exact e3 e e0 (by omega))
  rw [r_143_e (hx := hx)]
  exact L 47 0 (by omega) (by omega) (fun e e0 e4 => by omega)
end
