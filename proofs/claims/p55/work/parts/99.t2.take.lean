/-! a dataset begun; a tree taken up, here and there -/
section
variable {h : mm_Id → Int → Int} {dh : Int → Int} {nx ns : Int} {Q : mm_V → mm_H → Prop}
theorem s80 (hx : 5275 ≤ nx) {i x y : Int} (hD : mm_isD i) (K : ∀ h2, (h2 (31, i, 0) 3 = x ∧ h2 (31, i, 0) 4 = y ∧ h2 (31, i, 0) 5 = 400) → (∀ u, 0 ≤ u → u < 8 → h2 (32, i, 0) u = 400) → (∀ z j, ¬ (z = (31, i, 0) ∧ (j = 3 ∨ j = 4 ∨ j = 5)) → z ≠ (32, i, 0) → h2 z j = h z j) → Q zU (mm_z h2 dh nx ns)) : mm_Cl 80 [zR (31, i, 0), zI x, zI y] (mm_z h dh nx ns) Q := by
  have Lp : ∀ (e : Nat) (u : Int) (g : mm_Id → Int → Int), 8 - u = e → 0 ≤ u → (g (31, i, 0) 3 = x ∧ g (31, i, 0) 4 = y ∧ g (31, i, 0) 5 = 400) → (∀ q, 0 ≤ q → q < u → g (32, i, 0) q = 400) → (∀ z j, ¬ (z = (31, i, 0) ∧ (j = 3 ∨ j = 4 ∨ j = 5)) → z ≠ (32, i, 0) → g z j = h z j) → mm_Wp 80 (mm_blk 80 1) [zR (31, i, 0), zI x, zI y, zI u] [] (mm_z g dh nx ns) Q := by
    intro e
    induction e with
    | zero =>
      intro u g e1 e2 g1 g2 g3
      rw [r_80_1 (htx0 := hD) (hx := hx), if_neg (by omega)]
      exact K g g1 (fun q q0 q1 => g2 q q0 (by omega)) g3
    | succ e ih =>
      intro u g e1 e2 g1 g2 g3
      rw [r_80_1 (htx0 := hD) (hx := hx), if_pos (by omega), mm_wi (by omega) (by omega)]
      refine ⟨by omega, ih (u + 1) _ (by omega) (by omega) ?_ (fun q q0 q1 => ?_) (fun z j q1 q2 => ?_)⟩
      · rw [mm_upf (by decide), mm_upf (by decide), mm_upf (by decide)]; exact g1
      · by_cases w : q = u
        · rw [w, mm_ups]
        · rw [mm_upj w]; exact g2 q q0 (by omega)
      · rw [mm_upx q2]; exact g3 z j q1 q2
  rw [r_80_e (htx0 := hD) (hx := hx)]
  refine Lp 8 0 _ (by omega) (by omega) ⟨?_, ?_, ?_⟩ (fun q q0 q1 => by omega) (fun z j q1 q2 => ?_)
  · rw [mm_upj (by decide), mm_upj (by decide), mm_ups]
  · rw [mm_upj (by decide), mm_ups]
  · rw [mm_ups]
  · rw [mm_upne' (fun v => q1 ⟨v.1, by omega⟩), mm_upne' (fun v => q1 ⟨v.1, by omega⟩), mm_upne' (fun v => q1 ⟨v.1, by omega⟩)]
theorem m202 (hy : 10581 ≤ nx) {p : Int} (hp : 0 ≤ p ∧ p < 26) (K : ∀ h2, (∀ u, 0 ≤ u → u < 8 → h2 (61, 0, 0) (8 * p + u) = 400) → (∀ z j, ¬ (z = (61, 0, 0) ∧ 8 * p ≤ j ∧ j < 8 * p + 8) → h2 z j = h z j) → Q zU (mm_z h2 dh nx ns)) : mm_Cl 202 [zR (40, 0, 0), zI p] (mm_z h dh nx ns) Q := by
  have Lp : ∀ (e : Nat) (u : Int) (g : mm_Id → Int → Int), 8 - u = e → 0 ≤ u → (∀ q, 0 ≤ q → q < u → g (61, 0, 0) (8 * p + q) = 400) → (∀ z j, ¬ (z = (61, 0, 0) ∧ 8 * p ≤ j ∧ j < 8 * p + 8) → g z j = h z j) → mm_Wp 202 (mm_blk 202 1) [zR (40, 0, 0), zI p, zI u] [] (mm_z g dh nx ns) Q := by
    intro e
    induction e with
    | zero =>
      intro u g e1 e2 g2 g3
      rw [r_202_1 (hy := hy), if_neg (by omega)]
      exact K g (fun q q0 q1 => g2 q q0 (by omega)) g3
    | succ e ih =>
      intro u g e1 e2 g2 g3
      rw [r_202_1 (hy := hy), if_pos (by omega), mm_wi (z := 8 * p) (by omega) (by omega), mm_wi (z := 8 * p + u) (by omega) (by omega), mm_wi (z := u + 1) (by omega) (by omega)]
      refine ⟨by omega, ih (u + 1) _ (by omega) (by omega) (fun q q0 q1 => ?_) (fun z j q1 => ?_)⟩
      · by_cases w : q = u
        · rw [w, mm_ups]
        · rw [mm_upj (by omega)]; exact g2 q q0 (by omega)
      · rw [mm_upne' (fun v => q1 ⟨v.1, by omega⟩)]; exact g3 z j q1
  rw [r_202_e (hy := hy)]
  exact Lp 8 0 h (by omega) (by omega) (fun q q0 q1 => by omega) (fun z j _ => rfl)
/-- taken up here -/
theorem s65 (hx : 5275 ≤ nx) {d : Int} (hD : mm_isD d) (hR : kk_R h) (hw : ∀ n, 1 ≤ n → n < 37 → h (24, d, n) 9 = kk_nz (h (27, d, n))) (ha : h (22, d, 0) 2 = kk_as d)
    (K : ∀ h2 dh2, kk_R h2 → (∀ n, 1 ≤ n → n < 37 → (h (24, d, n) 0 = 1 ∧ h (24, d, n) 5 = 0) → kk_cl h2 d n) → (∀ x j, ¬ kk_ct x j → ¬ (kk_tr d 1 37 x ∧ h (24, d, x.2.2) 0 = 1 ∧ h (24, d, x.2.2) 5 = 0) → ¬ (x = (31, d, 0) ∧ j = 6) → h2 x j = h x j) → h2 (31, d, 0) 6 = 1 → (∀ i, 0 ≤ i → i < 8 → dh i = d → dh2 i = -1) → (∀ i, ¬ ((0 ≤ i ∧ i < 8) ∧ dh i = d) → dh2 i = dh i) → Q zU (mm_z h2 dh2 nx ns)) :
    mm_Cl 65 [zR (1, 0, 0), zR (31, d, 0)] (mm_z h dh nx ns) Q := by
  rw [r_65_e (htx1 := hD) (hx := hx)]
  refine s66 hx hD (fun dh2 d1 d2 => ?_)
  rw [mm_pU, r_65_0_3 (htx1 := hD) (hx := hx)]
  refine s167 (mm_td hD) hx hR hw ha (fun h2 e1 e2 e3 => ?_)
  rw [mm_pU, r_65_0_6 (htx1 := hD) (hx := hx)]
  refine K _ dh2 (kk_Rup (by omega) e1) (fun n n0 n1 q => ?_) (fun x j q1 q2 q3 => ?_) mm_ups d1 d2
  · have c := e2 n n0 n1 q
    exact ⟨fun f hf => by rw [mm_upf (by decide)]; exact c.1 f hf, by rw [mm_upf (by decide)]; exact c.2.1, fun p p0 p1 => by rw [mm_upf (by decide)]; exact c.2.2 p p0 p1⟩
  · rw [mm_upne' q3]; exact e3 x j q1 q2
/-- taken up there: its handles are closed, its files without entries are gone -/
theorem m194 (hy : 10581 ≤ nx) {s : Int} (hs : 0 ≤ s ∧ s < 29) (hc : ∀ d, 1 ≤ d → d < 37 → 0 ≤ h (44, 0, 0) (36 * s + d - 1) ∧ h (44, 0, 0) (36 * s + d - 1) ≤ 24) (hf : ∀ d, 1 ≤ d → d < 37 → h (41, 0, 0) (36 * s + d - 1) = 1 → h (44, 0, 0) (36 * s + d - 1) = 0)
    (K : ∀ h2, (∀ i, 1 ≤ i → i < 9 → (0 < h (63, 0, 0) i ∧ h (62, 0, 0) i = s) → h2 (63, 0, 0) i = 0 ∧ ∀ a, 0 ≤ a → a < 2160 → h2 (64, 0, 0) (2160 * i + a) = 0) → (∀ n, 1 ≤ n → n < 37 → h (41, 0, 0) (36 * s + n - 1) = 1 ∧ kk_ef h s n = 0 → kk_mz h2 (36 * s + n - 1)) →
      (∀ x j, ¬ (∃ i, 1 ≤ i ∧ i < 9 ∧ (0 < h (63, 0, 0) i ∧ h (62, 0, 0) i = s) ∧ (x = (63, 0, 0) ∧ j = i ∨ x = (64, 0, 0) ∧ 2160 * i ≤ j ∧ j < 2160 * i + 2160)) → ¬ (∃ n, 1 ≤ n ∧ n < 37 ∧ (h (41, 0, 0) (36 * s + n - 1) = 1 ∧ kk_ef h s n = 0) ∧ kk_cx (36 * s + n - 1) x j) → h2 x j = h x j) → Q zU (mm_z h2 dh nx ns)) :
    mm_Cl 194 [zR (40, 0, 0), zI s] (mm_z h dh nx ns) Q := by
  rw [r_194_e (hy := hy)]
  refine m193 hy (fun h2 e1 e2 => ?_)
  have g : ∀ (f : Nat) a c j, f ≠ 63 → f ≠ 64 → h2 (f, a, c) j = h (f, a, c) j := fun f a c j q1 q2 => e2 _ _ (by rintro ⟨i, _, _, _, ⟨v, _⟩ | ⟨v, _⟩⟩ <;> simp at v <;> omega)
  have ef : ∀ n, kk_ef h2 s n = kk_ef h s n := fun n => kk_efc (fun d _ _ => g 44 0 0 _ (by decide) (by decide)) (fun j => g 46 0 0 _ (by decide) (by decide))
  have no : ∀ n, 1 ≤ n → ¬ kk_op h2 s n := fun n n0 q => by
    obtain ⟨i, i0, i1, w1, w2⟩ := q
    rw [g 62 0 0 i (by decide) (by decide)] at w2
    by_cases z : 0 < h (63, 0, 0) i
    · have := (e1 i i0 i1 ⟨z, w2⟩).1
      omega
    · have y : h2 (63, 0, 0) i = h (63, 0, 0) i := e2 _ _ (by
        rintro ⟨k, k0, k1, ⟨k2, k3⟩, ⟨_, v⟩ | ⟨v, _⟩⟩
        · rw [← v] at k2; exact z k2
        · simp at v)
      omega
  have sw : ∀ n, 1 ≤ n → (kk_sw h2 s n ↔ h (41, 0, 0) (36 * s + n - 1) = 1 ∧ kk_ef h s n = 0) := fun n n0 => by
    unfold kk_sw
    rw [g 41 0 0 _ (by decide) (by decide), ef]
    exact ⟨fun q => ⟨q.1, q.2.1⟩, fun q => ⟨q.1, q.2, no n n0⟩⟩
  rw [mm_pU, r_194_0_3 (hy := hy)]
  refine m191 hy hs (fun d d0 d1 => ?_) (fun d d0 d1 => ?_) (fun h3 f1 f2 => ?_)
  · rw [g 44 0 0 _ (by decide) (by decide)]; exact hc d d0 d1
  · rw [g 44 0 0 _ (by decide) (by decide), g 41 0 0 _ (by decide) (by decide)]; exact hf d d0 d1
  · rw [mm_pU, r_194_0_6 (hy := hy)]
    refine K h3 (fun i i0 i1 q => ?_) (fun n n0 n1 q => f1 n n0 n1 ((sw n n0).2 q)) (fun x j q1 q2 => ?_)
    · have w := e1 i i0 i1 q
      have nn : ∀ (f : Nat) j, f = 63 ∨ f = 64 → h3 (f, 0, 0) j = h2 (f, 0, 0) j := fun f j hf => f2 _ _ (by
        rintro ⟨n, _, _, _, v⟩
        unfold kk_cx at v
        simp at v
        omega)
      refine ⟨by rw [nn 63 _ (by omega)]; exact w.1, fun a a0 a1 => by rw [nn 64 _ (by omega)]; exact w.2 a a0 a1⟩
    · rw [f2 x j (fun v => by
        obtain ⟨n, n0, n1, w, v⟩ := v
        exact q2 ⟨n, n0, n1, (sw n n0).1 w, v⟩)]
      exact e2 x j q1
end
/-- what a handle is here, told by what it is there -/
theorem kk_hop {h : mm_Id → Int → Int} {dh : Int → Int} (q : kk_d17 h dh) {i s : Int} (i0 : 0 ≤ i) (i1 : i < 8) : (0 < h (63, 0, 0) (i + 1) ∧ h (62, 0, 0) (i + 1) = s) ↔ (mm_isD (dh i) ∧ dh i = s) := by
  obtain ⟨a, c⟩ := q i i0 i1
  constructor
  · rintro ⟨w1, w2⟩
    by_cases z : mm_isD (dh i)
    · exact ⟨z, by have := (a z).2.2.2.1; omega⟩
    · have := (c z).1; omega
  · rintro ⟨z, e⟩
    have y := a z
    exact ⟨by omega, by have := y.2.2.2.1; omega⟩

