/-! scripts: lines and words -/
/-- e is the first place from a on and before z where P holds, or else z -/
def kk_fst (P : Int → Prop) (a z e : Int) : Prop := a ≤ e ∧ e ≤ z ∧ (∀ i, a ≤ i → i < e → ¬ P i) ∧ (e < z → P e)
theorem kk_fstu {P : Int → Prop} {a z e f : Int} (h : kk_fst P a z e) (k : kk_fst P a z f) : e = f := by
  obtain ⟨h1, h2, h3, h4⟩ := h
  obtain ⟨k1, k2, k3, k4⟩ := k
  by_cases q : e < f
  · exact absurd (h4 (by omega)) (k3 e h1 q)
  · by_cases q2 : f < e
    · exact absurd (k4 (by omega)) (h3 f k1 q2)
    · omega
theorem kk_fste {P R : Int → Prop} {a z e : Int} (h : kk_fst P a z e) (q : ∀ i, a ≤ i → i < z → (P i ↔ R i)) : kk_fst R a z e := by
  obtain ⟨h1, h2, h3, h4⟩ := h
  exact ⟨h1, h2, fun i i0 i1 r => h3 i i0 i1 ((q i i0 (by omega)).2 r), fun l => (q e h1 l).1 (h4 l)⟩
section
variable {h : mm_Id → Int → Int} {dh : Int → Int} {nx ns : Int} {Q : mm_V → mm_H → Prop}
theorem s141 (hx : 5275 ≤ nx) {a0 z : Int} (hz : h (8, 0, 0) 1 = z) (ha : h (8, 0, 0) 10 = a0) (h0 : 0 ≤ a0 ∧ a0 < z ∧ z ≤ 8000) (K : ∀ e, kk_fst (fun i => h (9, 0, 0) i = 10) a0 z e → Q (zI 1) (mm_z (mm_up (mm_up (mm_up h (8, 0, 0) 13 a0) (8, 0, 0) 11 e) (8, 0, 0) 10 (e + 1)) dh nx ns)) :
    mm_Cl 141 [zR (8, 0, 0)] (mm_z h dh nx ns) Q := by
  have L : ∀ (d : Nat) (a : Int), z - a = d → a0 ≤ a → (∀ i, a0 ≤ i → i < a → ¬ h (9, 0, 0) i = 10) → mm_Wp 141 (mm_blk 141 2) [zR (8, 0, 0)] [] (mm_z (mm_up (mm_up h (8, 0, 0) 13 a0) (8, 0, 0) 11 a) dh nx ns) Q := by
    intro d
    induction d with
    | zero =>
      intro a e1 e2 e3
      have c1 : mm_up (mm_up h (8, 0, 0) 13 a0) (8, 0, 0) 11 a (8, 0, 0) 1 = z := by rw [mm_upj (by decide), mm_upj (by decide), hz]
      rw [r_141_2 (hx := hx), mm_ups, c1, if_neg (by omega), r_141_3 (hx := hx), mm_ups, mm_wi (by omega) (by omega)]
      exact K a ⟨e2, by omega, e3, fun l => by omega⟩
    | succ d ih =>
      intro a e1 e2 e3
      have c1 : mm_up (mm_up h (8, 0, 0) 13 a0) (8, 0, 0) 11 a (8, 0, 0) 1 = z := by rw [mm_upj (by decide), mm_upj (by decide), hz]
      have c9 : mm_up (mm_up h (8, 0, 0) 13 a0) (8, 0, 0) 11 a (9, 0, 0) a = h (9, 0, 0) a := by rw [mm_upf (by decide), mm_upf (by decide)]
      rw [r_141_2 (hx := hx), mm_ups, c1, c9, if_pos (by omega)]
      refine ⟨by omega, ?_⟩
      by_cases q : h (9, 0, 0) a = 10
      · rw [if_pos q, r_141_3 (hx := hx), mm_ups, mm_wi (by omega) (by omega)]
        exact K a ⟨e2, by omega, e3, fun _ => q⟩
      · rw [if_neg q, mm_wi (by omega) (by omega), mm_upup]
        exact ih (a + 1) (by omega) (by omega) (fun i i0 i1 => by
          by_cases e : i = a
          · rw [e]; exact q
          · exact e3 i i0 (by omega))
  rw [r_141_e (hx := hx), hz, ha, if_pos (by omega), mm_upj (by decide), ha]
  exact L (z - a0).toNat a0 (by omega) (by omega) (fun i i0 i1 => by omega)
theorem s141n (hx : 5275 ≤ nx) (h0 : h (8, 0, 0) 1 ≤ h (8, 0, 0) 10) (K : Q (zI 0) (mm_z h dh nx ns)) : mm_Cl 141 [zR (8, 0, 0)] (mm_z h dh nx ns) Q := by
  rw [r_141_e (hx := hx), if_neg (by omega)]
  exact K
theorem s142 (hx : 5275 ≤ nx) {a0 z : Int} (hz : h (8, 0, 0) 11 = z) (ha : h (8, 0, 0) 13 = a0) (h0 : 0 ≤ a0 ∧ a0 ≤ z ∧ z ≤ 8000)
    (K : ∀ e f, kk_fst (fun i => h (9, 0, 0) i ≠ 32) a0 z e → kk_fst (fun i => h (9, 0, 0) i = 32) e z f → Q (zI (if e < f then 1 else 0)) (mm_z (mm_up (mm_up (mm_up h (8, 0, 0) 12 e) (8, 0, 0) 13 f) (8, 0, 0) 14 e) dh nx ns)) :
    mm_Cl 142 [zR (8, 0, 0)] (mm_z h dh nx ns) Q := by
  have L2 : ∀ (e : Int), kk_fst (fun i => h (9, 0, 0) i ≠ 32) a0 z e → ∀ (d : Nat) (f : Int), z - f = d → e ≤ f → (∀ i, e ≤ i → i < f → ¬ h (9, 0, 0) i = 32) → mm_Wp 142 (mm_blk 142 3) [zR (8, 0, 0)] [] (mm_z (mm_up (mm_up h (8, 0, 0) 12 e) (8, 0, 0) 13 f) dh nx ns) Q := by
    intro e he d
    have E : ∀ f, kk_fst (fun i => h (9, 0, 0) i = 32) e z f → mm_Wp 142 (mm_blk 142 4) [zR (8, 0, 0)] [] (mm_z (mm_up (mm_up h (8, 0, 0) 12 e) (8, 0, 0) 13 f) dh nx ns) Q := by
      intro f hf
      have c12 : mm_up (mm_up h (8, 0, 0) 12 e) (8, 0, 0) 13 f (8, 0, 0) 12 = e := by rw [mm_upj (by decide), mm_ups]
      rw [r_142_4 (hx := hx), c12, mm_upj (by decide), c12, mm_upj (by decide), mm_ups]
      have k := K e f he hf
      by_cases q : e < f
      · rw [if_pos q] at k ⊢
        rw [r_142_6 (hx := hx)]
        exact ⟨Or.inr rfl, k⟩
      · rw [if_neg q] at k ⊢
        rw [r_142_6 (hx := hx)]
        exact ⟨Or.inl rfl, k⟩
    have e0 := he.1
    induction d with
    | zero =>
      intro f e1 e2 e3
      have c1 : mm_up (mm_up h (8, 0, 0) 12 e) (8, 0, 0) 13 f (8, 0, 0) 11 = z := by rw [mm_upj (by decide), mm_upj (by decide), hz]
      rw [r_142_3 (hx := hx), mm_ups, c1, if_neg (by omega)]
      exact E f ⟨e2, by omega, e3, fun l => by omega⟩
    | succ d ih =>
      intro f e1 e2 e3
      have c1 : mm_up (mm_up h (8, 0, 0) 12 e) (8, 0, 0) 13 f (8, 0, 0) 11 = z := by rw [mm_upj (by decide), mm_upj (by decide), hz]
      have c9 : mm_up (mm_up h (8, 0, 0) 12 e) (8, 0, 0) 13 f (9, 0, 0) f = h (9, 0, 0) f := by rw [mm_upf (by decide), mm_upf (by decide)]
      rw [r_142_3 (hx := hx), mm_ups, c1, c9, if_pos (by omega)]
      refine ⟨by omega, ?_⟩
      by_cases q : h (9, 0, 0) f = 32
      · rw [if_pos q]
        exact E f ⟨e2, by omega, e3, fun _ => q⟩
      · rw [if_neg q, mm_wi (by omega) (by omega), mm_upup]
        exact ih (f + 1) (by omega) (by omega) (fun i i0 i1 => by
          by_cases e : i = f
          · rw [e]; exact q
          · exact e3 i i0 (by omega))
  have L : ∀ (d : Nat) (e : Int), z - e = d → a0 ≤ e → (∀ i, a0 ≤ i → i < e → ¬ h (9, 0, 0) i ≠ 32) → mm_Wp 142 (mm_blk 142 1) [zR (8, 0, 0)] [] (mm_z (mm_up h (8, 0, 0) 12 e) dh nx ns) Q := by
    intro d
    induction d with
    | zero =>
      intro e e1 e2 e3
      have c1 : mm_up h (8, 0, 0) 12 e (8, 0, 0) 11 = z := by rw [mm_upj (by decide), hz]
      rw [r_142_1 (hx := hx), mm_ups, c1, if_neg (by omega), r_142_2 (hx := hx), mm_ups]
      exact L2 e ⟨e2, by omega, e3, fun l => by omega⟩ 0 e (by omega) (by omega) (fun i i0 i1 => by omega)
    | succ d ih =>
      intro e e1 e2 e3
      have c1 : mm_up h (8, 0, 0) 12 e (8, 0, 0) 11 = z := by rw [mm_upj (by decide), hz]
      rw [r_142_1 (hx := hx), mm_ups, c1, mm_upf (by decide), if_pos (by omega)]
      refine ⟨by omega, ?_⟩
      by_cases q : h (9, 0, 0) e = 32
      · rw [if_pos q, mm_wi (by omega) (by omega), mm_upup]
        exact ih (e + 1) (by omega) (by omega) (fun i i0 i1 => by
          by_cases w : i = e
          · rw [w]; exact fun n => n q
          · exact e3 i i0 (by omega))
      · rw [if_neg q, r_142_2 (hx := hx), mm_ups]
        exact L2 e ⟨e2, by omega, e3, fun _ => q⟩ (d + 1) e (by omega) (by omega) (fun i i0 i1 => by omega)
  rw [r_142_e (hx := hx), ha]
  exact L (z - a0).toNat a0 (by omega) (by omega) (fun i i0 i1 => by omega)
theorem m287 (hy : 5306 ≤ nx) {a0 z : Int} (h0 : 0 ≤ a0 ∧ a0 ≤ z ∧ z ≤ 8000)
    (K : ∀ e f, kk_fst (fun i => h (67, 0, 0) i ≠ 32) a0 z e → kk_fst (fun i => h (67, 0, 0) i = 32) e z f → Q (zI (if e < f then 1 else 0)) (mm_z (mm_up (mm_up h (40, 0, 0) 44 e) (40, 0, 0) 45 f) dh nx ns)) :
    mm_Cl 287 [zR (40, 0, 0), zI a0, zI z] (mm_z h dh nx ns) Q := by
  have L2 : ∀ (e : Int), kk_fst (fun i => h (67, 0, 0) i ≠ 32) a0 z e → ∀ (d : Nat) (f : Int), z - f = d → e ≤ f → (∀ i, e ≤ i → i < f → ¬ h (67, 0, 0) i = 32) → mm_Wp 287 (mm_blk 287 3) [zR (40, 0, 0), zI a0, zI z] [] (mm_z (mm_up (mm_up h (40, 0, 0) 44 e) (40, 0, 0) 45 f) dh nx ns) Q := by
    intro e he d
    have E : ∀ f, kk_fst (fun i => h (67, 0, 0) i = 32) e z f → mm_Wp 287 (mm_blk 287 4) [zR (40, 0, 0), zI a0, zI z] [] (mm_z (mm_up (mm_up h (40, 0, 0) 44 e) (40, 0, 0) 45 f) dh nx ns) Q := by
      intro f hf
      have c12 : mm_up (mm_up h (40, 0, 0) 44 e) (40, 0, 0) 45 f (40, 0, 0) 44 = e := by rw [mm_upj (by decide), mm_ups]
      rw [r_287_4 (hy := hy), c12, mm_ups]
      have k := K e f he hf
      by_cases q : e < f
      · rw [if_pos q] at k ⊢
        rw [r_287_6 (hy := hy)]
        exact ⟨Or.inr rfl, k⟩
      · rw [if_neg q] at k ⊢
        rw [r_287_6 (hy := hy)]
        exact ⟨Or.inl rfl, k⟩
    have e0 := he.1
    induction d with
    | zero =>
      intro f e1 e2 e3
      rw [r_287_3 (hy := hy), mm_ups, if_neg (by omega)]
      exact E f ⟨e2, by omega, e3, fun l => by omega⟩
    | succ d ih =>
      intro f e1 e2 e3
      have c9 : mm_up (mm_up h (40, 0, 0) 44 e) (40, 0, 0) 45 f (67, 0, 0) f = h (67, 0, 0) f := by rw [mm_upf (by decide), mm_upf (by decide)]
      rw [r_287_3 (hy := hy), mm_ups, c9, if_pos (by omega)]
      refine ⟨by omega, ?_⟩
      by_cases q : h (67, 0, 0) f = 32
      · rw [if_pos q]
        exact E f ⟨e2, by omega, e3, fun _ => q⟩
      · rw [if_neg q, mm_wi (by omega) (by omega), mm_upup]
        exact ih (f + 1) (by omega) (by omega) (fun i i0 i1 => by
          by_cases e : i = f
          · rw [e]; exact q
          · exact e3 i i0 (by omega))
  have L : ∀ (d : Nat) (e : Int), z - e = d → a0 ≤ e → (∀ i, a0 ≤ i → i < e → ¬ h (67, 0, 0) i ≠ 32) → mm_Wp 287 (mm_blk 287 1) [zR (40, 0, 0), zI a0, zI z] [] (mm_z (mm_up h (40, 0, 0) 44 e) dh nx ns) Q := by
    intro d
    induction d with
    | zero =>
      intro e e1 e2 e3
      rw [r_287_1 (hy := hy), mm_ups, if_neg (by omega), r_287_2 (hy := hy), mm_ups]
      exact L2 e ⟨e2, by omega, e3, fun l => by omega⟩ 0 e (by omega) (by omega) (fun i i0 i1 => by omega)
    | succ d ih =>
      intro e e1 e2 e3
      rw [r_287_1 (hy := hy), mm_ups, mm_upf (by decide), if_pos (by omega)]
      refine ⟨by omega, ?_⟩
      by_cases q : h (67, 0, 0) e = 32
      · rw [if_pos q, mm_wi (by omega) (by omega), mm_upup]
        exact ih (e + 1) (by omega) (by omega) (fun i i0 i1 => by
          by_cases w : i = e
          · rw [w]; exact fun n => n q
          · exact e3 i i0 (by omega))
      · rw [if_neg q, r_287_2 (hy := hy), mm_ups]
        exact L2 e ⟨e2, by omega, e3, fun _ => q⟩ (d + 1) e (by omega) (by omega) (fun i i0 i1 => by omega)
  rw [r_287_e (hy := hy)]
  exact L (z - a0).toNat a0 (by omega) (by omega) (fun i i0 i1 => by omega)
end
