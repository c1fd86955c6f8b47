/-! for destroy: what keeps a tree, here and there; a tree that is no more -/
theorem kk_tpx (h : mm_Id → Int → Int) (x : Int) : kk_np h x ∨ ∃ s, kk_tp h x s := by
  obtain ⟨j, ⟨j0, j1⟩, jn, jp⟩ := kk_ff (fun s => kk_tl h x s) 13
  have j1 : j ≤ 13 := j1
  by_cases z : j < 13
  · exact Or.inr ⟨j, ⟨j0, z⟩, jp z, jn⟩
  · exact Or.inl (fun s s0 s1 => jn s s0 (by omega))
section
variable {h : mm_Id → Int → Int} {dh : Int → Int} {nx ns : Int} {Q : mm_V → mm_H → Prop}
theorem s72 (hx : 5275 ≤ nx) (K : Q (zI (mm_sm (fun i => if h (31, i, 0) 3 = 0 then 0 else 1) 5)) (mm_z h dh nx ns)) : mm_Cl 72 [zR (1, 0, 0)] (mm_z h dh nx ns) Q := by
  rw [r_72_e (hx := hx)]
  refine kk_sl0 (X := fun a i => mm_Wp 72 (mm_blk 72 1) [zR (1, 0, 0), zI a, zI i] [] (mm_z h dh nx ns) Q) (f := fun i => if h (31, i, 0) 3 = 0 then 0 else 1) 5 1 (by decide) (fun i _ _ => by split <;> omega) 0 (fun a i a1 a2 a3 a4 hX => ?_) ?_
  · rw [r_72_1 (hx := hx), if_pos (by omega)]
    refine ⟨by omega, ?_⟩
    split
    · rename_i h1
      rw [if_pos h1] at hX
      rw [r_72_3 (hx := hx), mm_wi (by omega) (by omega), mm_wi (by omega) (by omega)]
      exact hX
    · rename_i h1
      rw [if_neg h1] at hX
      rw [r_72_3 (hx := hx), mm_wi (by omega) (by omega), mm_wi (by omega) (by omega)]
      exact hX
  · rw [r_72_1 (hx := hx), if_neg (by decide)]
    have e : (0 : Int) + mm_sm (fun i => if h (31, i, 0) 3 = 0 then 0 else 1) 5 = mm_sm (fun i => if h (31, i, 0) 3 = 0 then 0 else 1) 5 := by omega
    rw [e]; exact K
theorem s75 (hx : 5275 ≤ nx) {x : Int} (K1 : (∃ i, (0 ≤ i ∧ i < 5) ∧ ¬ h (31, i, 0) 3 = 0 ∧ h (31, i, 0) 4 = x) → Q (zI 1) (mm_z h dh nx ns)) (K0 : (∀ i, 0 ≤ i → i < 5 → ¬ (¬ h (31, i, 0) 3 = 0 ∧ h (31, i, 0) 4 = x)) → Q (zI 0) (mm_z h dh nx ns)) : mm_Cl 75 [zR (1, 0, 0), zI x] (mm_z h dh nx ns) Q := by
  have Lp : ∀ (e : Nat) (u : Int), 5 - u = e → 0 ≤ u → (∀ i, 0 ≤ i → i < u → ¬ (¬ h (31, i, 0) 3 = 0 ∧ h (31, i, 0) 4 = x)) → mm_Wp 75 (mm_blk 75 1) [zR (1, 0, 0), zI x, zI u] [] (mm_z h dh nx ns) Q := by
    intro e
    induction e with
    | zero =>
      intro u e1 e2 e3
      rw [r_75_1 (hx := hx), if_neg (by omega)]
      exact K0 (fun i i0 i1 => e3 i i0 (by omega))
    | succ e ih =>
      intro u e1 e2 e3
      rw [r_75_1 (hx := hx), if_pos (by omega)]
      refine ⟨⟨by omega, by omega⟩, ?_⟩
      by_cases z : h (31, u, 0) 3 = 0
      · rw [if_pos z, r_75_2 (hx := hx), mm_wi (by omega) (by omega)]
        refine ih (u + 1) (by omega) (by omega) (fun i i0 i1 q => ?_)
        by_cases w : i = u
        · rw [w] at q; exact q.1 z
        · exact e3 i i0 (by omega) q
      · rw [if_neg z]
        refine ⟨⟨by omega, by omega⟩, ?_⟩
        by_cases y : h (31, u, 0) 4 = x
        · rw [if_pos y]
          exact K1 ⟨u, ⟨e2, by omega⟩, z, y⟩
        · rw [if_neg y, r_75_2 (hx := hx), mm_wi (by omega) (by omega)]
          refine ih (u + 1) (by omega) (by omega) (fun i i0 i1 q => ?_)
          by_cases w : i = u
          · rw [w] at q; exact y q.2
          · exact e3 i i0 (by omega) q
  rw [r_75_e (hx := hx)]
  exact Lp 5 0 (by omega) (by omega) (fun i a c => by omega)
theorem m253s (hy : 10581 ≤ nx) {x1 s : Int} {v5 v6 : mm_V} (K : mm_Wp 253 (mm_blk 253 2) [zR (40, 0, 0), zI x1, zI s, zI (mm_sm (fun k => if 0 < h (57, 0, 0) k then 1 else 0) 5), zI 5, v5, v6] [] (mm_z h dh nx ns) Q) : mm_Wp 253 (mm_blk 253 2) [zR (40, 0, 0), zI x1, zI s, zI 0, zI 0, v5, v6] [] (mm_z h dh nx ns) Q := by
  refine kk_sl0 (X := fun a i => mm_Wp 253 (mm_blk 253 2) [zR (40, 0, 0), zI x1, zI s, zI a, zI i, v5, v6] [] (mm_z h dh nx ns) Q) (f := fun k => if 0 < h (57, 0, 0) k then 1 else 0) 5 1 (by decide) (fun i _ _ => by split <;> omega) 0 (fun a i a1 a2 a3 a4 hX => ?_) ?_
  · rw [r_253_2 (hy := hy), if_pos (by omega)]
    refine ⟨by omega, ?_⟩
    split
    · rename_i h1
      rw [if_pos h1] at hX
      rw [r_253_4 (hy := hy), mm_wi (by omega) (by omega), mm_wi (by omega) (by omega)]
      exact hX
    · rename_i h1
      rw [if_neg h1] at hX
      rw [r_253_4 (hy := hy), mm_wi (by omega) (by omega), mm_wi (by omega) (by omega)]
      exact hX
  · have e : (0 : Int) + mm_sm (fun k => if 0 < h (57, 0, 0) k then 1 else 0) 5 = mm_sm (fun k => if 0 < h (57, 0, 0) k then 1 else 0) 5 := by omega
    show mm_Wp 253 (mm_blk 253 2) [zR (40, 0, 0), zI x1, zI s, zI (0 + mm_sm (fun k => if 0 < h (57, 0, 0) k then 1 else 0) 5), zI 5, v5, v6] [] (mm_z h dh nx ns) Q
    rw [e]; exact K
/-- what is of a tree -/
def kk_of (h : mm_Id → Int → Int) (s x k : Int) : Prop := 0 < h (57, 0, 0) k ∧ ((s < 5 ∧ 5 ≤ k ∧ h (58, 0, 0) k = x) ∨ (5 ≤ s ∧ k < 5 ∧ h (58, 0, 0) k = mm_w (-x)))
theorem m253f (hy : 10581 ≤ nx) {x1 s f0 : Int} {v3 v6 : mm_V} (hv3 : mm_wt v3 = 1) (hf0 : f0 = 0 ∨ f0 = 1) (K : ∀ f v, (f = 0 ∨ f = 1) → (f = 0 ↔ f0 = 0 ∧ ∀ k, 0 ≤ k → k < 13 → ¬ kk_of h s x1 k) → mm_Wp 253 (mm_blk 253 9) [zR (40, 0, 0), zI x1, zI s, v3, zI f, zI 13, v] [] (mm_z h dh nx ns) Q) :
    mm_Wp 253 (mm_blk 253 9) [zR (40, 0, 0), zI x1, zI s, v3, zI f0, zI 0, v6] [] (mm_z h dh nx ns) Q := by
  have Lp : ∀ (e : Nat) (u f : Int) (v : mm_V), 13 - u = e → 0 ≤ u → (f = 0 ∨ f = 1) → (f = 0 ↔ f0 = 0 ∧ ∀ k, 0 ≤ k → k < u → ¬ kk_of h s x1 k) → mm_Wp 253 (mm_blk 253 9) [zR (40, 0, 0), zI x1, zI s, v3, zI f, zI u, v] [] (mm_z h dh nx ns) Q := by
    intro e
    induction e with
    | zero =>
      intro u f v e1 e2 e3 e4
      have e5 : u = 13 := by omega
      subst e5
      exact K f v e3 e4
    | succ e ih =>
      intro u f v e1 e2 e3 e4
      have step : ∀ y, (y = 0 ∨ y = 1) → (y = 0 ↔ ¬ kk_of h s x1 u) → mm_Wp 253 (mm_blk 253 13) [zR (40, 0, 0), zI x1, zI s, v3, zI f, zI u, v] [zI y] (mm_z h dh nx ns) Q := fun y hy2 hy3 => by
        have nx1 : ∀ f2 v2, (f2 = 0 ∨ f2 = 1) → (f2 = 0 ↔ f = 0 ∧ y = 0) → mm_Wp 253 (mm_blk 253 16) [zR (40, 0, 0), zI x1, zI s, v3, zI f, zI u, v2] [zI f2] (mm_z h dh nx ns) Q := fun f2 v2 w1 w2 => by
          rw [r_253_16 (hvx3 := hv3) (hy := hy), mm_wi (by omega) (by omega)]
          refine ih (u + 1) f2 v2 (by omega) (by omega) w1 ?_
          rw [w2, e4, hy3]
          constructor
          · rintro ⟨⟨a1, a2⟩, a3⟩
            refine ⟨a1, fun k k0 k1 => ?_⟩
            by_cases w : k = u
            · rw [w]; exact a3
            · exact a2 k k0 (by omega)
          · rintro ⟨a1, a2⟩
            exact ⟨⟨a1, fun k k0 k1 => a2 k k0 (by omega)⟩, a2 u e2 (by omega)⟩
        rw [r_253_13 (hy := hy)]
        by_cases z : f = 0
        · rw [if_pos z]
          by_cases z2 : y = 0
          · rw [if_pos z2]
            exact nx1 0 _ (Or.inl rfl) (by simp [z, z2])
          · rw [if_neg z2, r_253_14 (hy := hy)]
            exact nx1 1 _ (Or.inr rfl) (by simp [z2])
        · rw [if_neg z, r_253_14 (hy := hy)]
          exact nx1 1 _ (Or.inr rfl) (by simp [z])
      have no : ¬ kk_of h s x1 u → mm_Wp 253 (mm_blk 253 12) [zR (40, 0, 0), zI x1, zI s, v3, zI f, zI u, v] [] (mm_z h dh nx ns) Q := fun w => by
        rw [r_253_12 (hy := hy)]
        exact step 0 (Or.inl rfl) ⟨fun _ => w, fun _ => rfl⟩
      have yes : kk_of h s x1 u → mm_Wp 253 (mm_blk 253 11) [zR (40, 0, 0), zI x1, zI s, v3, zI f, zI u, v] [] (mm_z h dh nx ns) Q := fun w => by
        rw [r_253_11 (hy := hy)]
        exact step 1 (Or.inr rfl) ⟨fun q => absurd q (by decide), fun q => absurd w q⟩
      rw [r_253_9 (hy := hy), if_pos (by omega)]
      refine ⟨⟨by omega, by omega⟩, ?_⟩
      by_cases z : 0 < h (57, 0, 0) u
      · rw [if_pos z]
        by_cases s5 : s < 5
        · rw [if_pos s5]
          by_cases u5 : u < 5
          · rw [if_pos u5]
            exact no (fun w => by unfold kk_of at w; omega)
          · rw [if_neg u5]
            refine ⟨⟨by omega, by omega⟩, ?_⟩
            by_cases y : h (58, 0, 0) u = x1
            · rw [if_pos y]; exact yes ⟨z, Or.inl ⟨s5, by omega, y⟩⟩
            · rw [if_neg y]; exact no (fun w => by unfold kk_of at w; omega)
        · rw [if_neg s5]
          by_cases u5 : u < 5
          · rw [if_pos u5]
            refine ⟨⟨by omega, by omega⟩, ?_⟩
            by_cases y : h (58, 0, 0) u = mm_w (-x1)
            · rw [if_pos y]; exact yes ⟨z, Or.inr ⟨by omega, u5, y⟩⟩
            · rw [if_neg y]; exact no (fun w => by unfold kk_of at w; omega)
          · rw [if_neg u5]
            exact no (fun w => by unfold kk_of at w; omega)
      · rw [if_neg z]
        exact no (fun w => z w.1)
  exact Lp 13 0 f0 v6 (by omega) (by omega) hf0 ⟨fun q => ⟨q, fun k k0 k1 => by omega⟩, fun q => q.1⟩
end
section
variable {h : mm_Id → Int → Int} {dh dh0 : Int → Int} {nx ns b : Int} {Q : mm_V → mm_H → Prop}
/-- a tree goes, there -/
theorem m253r (hy : 10581 ≤ nx) (hc : kk_core b h dh0) {G : mm_Id → Int → Int} {s : Int} {v1 v3 v4 v5 v6 : mm_V} (hv4 : mm_wt v4 = 1) (hs : 0 ≤ s ∧ s < 13) (mG : ∀ (x : mm_Id) k, 40 ≤ x.1 → ¬ (x = (40, 0, 0) ∧ k = 0) → G x k = h x k)
    (K : ∀ g0 gm : mm_Id → Int → Int, (∀ (x : mm_Id) k, x.1 ≠ 56 → x.1 ≠ 63 → x.1 ≠ 64 → ¬ (x = (57, 0, 0) ∧ k = s) → g0 x k = G x k) → g0 (57, 0, 0) s = 0 → (∀ n, 1 ≤ n → n < 37 → kk_mz gm (36 * s + n - 1)) → (∀ x k, ¬ (∃ n, 1 ≤ n ∧ n < 37 ∧ kk_cx (36 * s + n - 1) x k) → x.1 ≠ 56 → gm x k = g0 x k) →
      (∀ p, 0 ≤ p → p < 8 → mm_isD (dh0 p) ∧ dh0 p = s → g0 (63, 0, 0) (p + 1) = 0 ∧ ∀ a, 0 ≤ a → a < 2160 → g0 (64, 0, 0) (2160 * (p + 1) + a) = 0) → (∀ p, 0 ≤ p → p < 8 → ¬ (mm_isD (dh0 p) ∧ dh0 p = s) → g0 (63, 0, 0) (p + 1) = h (63, 0, 0) (p + 1) ∧ ∀ a, 0 ≤ a → a < 2160 → g0 (64, 0, 0) (2160 * (p + 1) + a) = h (64, 0, 0) (2160 * (p + 1) + a)) →
      mm_Cl 208 [zR (40, 0, 0)] (mm_z gm dh nx ns) (fun r h3 => mm_Wp 253 (bk_253_19.drop 21) [zR (40, 0, 0), v1, zI s, v3, v4, zI (kk_cnt (kk_lb h (-1))), zI (kk_cnt (kk_lb gm (-1)))] (mm_push r []) h3 Q)) :
    mm_Cl 199 [zR (40, 0, 0), zI (-1)] (mm_z G dh nx ns) (fun r h3 => mm_Wp 253 (bk_253_19.drop 3) [zR (40, 0, 0), v1, zI s, v3, v4, v5, v6] (mm_push r []) h3 Q) := by
  have gb : ∀ (x : mm_Id) k, x.1 = 41 ∨ x.1 = 43 → G x k = h x k := fun x k q => mG x k (by omega) (by rintro ⟨v, _⟩; rw [v] at q; simp at q)
  have lG : kk_lb G (-1) = kk_lb h (-1) := by
    funext c
    unfold kk_lb
    rw [kk_bse gb]
    have e : ∀ k, G (57, 0, 0) k = h (57, 0, 0) k := fun k => mG _ _ (by decide) (by simp)
    simp only [e]
  refine m199 hy (fun k k0 k1 => kk_bre gb (kk_brC hc ⟨k0, by omega⟩)) (fun g1 _ a2 => ?_)
  have a3 : ∀ (x : mm_Id) k, x.1 ≠ 56 → g1 x k = G x k := fun x k q => a2 x k (by rintro ⟨v, _⟩; rw [v] at q; exact q rfl)
  rw [lG, mm_pI, r_253_19_3 (hvx4 := hv4) (hy := hy)]
  refine m193 hy (fun g2 b1 b2 => ?_)
  have e63 : ∀ (f : Nat) k, f = 62 ∨ f = 63 ∨ f = 64 → g1 (f, 0, 0) k = h (f, 0, 0) k := fun f k q => by
    rw [a3 _ _ (by show f ≠ 56; omega)]
    exact mG _ _ (by show 40 ≤ f; omega) (by rintro ⟨v, _⟩; simp at v; omega)
  have O : ∀ p, 0 ≤ p → p < 8 → ((0 < g1 (63, 0, 0) (p + 1) ∧ g1 (62, 0, 0) (p + 1) = s) ↔ (mm_isD (dh0 p) ∧ dh0 p = s)) := fun p p0 p1 => by
    rw [e63 63 _ (by omega), e63 62 _ (by omega)]
    exact kk_hop (kk_h17 hc) p0 p1
  have b3 : ∀ (x : mm_Id) k, x.1 ≠ 63 → x.1 ≠ 64 → g2 x k = g1 x k := fun x k q q2 => b2 x k (by
    rintro ⟨p, _, _, _, ⟨v, _⟩ | ⟨v, _⟩⟩
    · rw [v] at q; exact q rfl
    · rw [v] at q2; exact q2 rfl)
  rw [mm_pU, r_253_19_7 (hy := hy)]
  refine ⟨⟨by omega, by omega⟩, ?_⟩
  obtain ⟨g0, hg0⟩ : ∃ q, q = mm_up g2 (57, 0, 0) s 0 := ⟨_, rfl⟩
  rw [← hg0]
  have f0 : ∀ (x : mm_Id) k, ¬ (x = (57, 0, 0) ∧ k = s) → g0 x k = g2 x k := fun x k q => by rw [hg0, mm_upne' q]
  refine m249 hy (by omega) (fun g3 c1 c2 => ?_)
  rw [mm_pU, r_253_19_15 (hy := hy)]
  have s3 : ∀ a n x k, a ≠ s → 1 ≤ n → n < 37 → kk_mx (36 * a + n - 1) x k → g3 x k = h x k := fun a n x k q n0 n1 hx2 => by
    have r := kk_mxr hx2
    rw [c2 x k (by
      rintro ⟨m, m0, m1, w⟩
      exact kk_mxd (a := 36 * a + n - 1) (b := 36 * s + m - 1) (by omega) hx2 (kk_cxm w)), f0 x k (by rintro ⟨v, _⟩; rw [v] at r; simp at r), b3 x k (by omega) (by omega), a3 x k (by omega)]
    exact mG x k (by omega) (by rintro ⟨v, _⟩; rw [v] at r; simp at r)
  refine m199 hy (fun a a0 a1 n p n0 n1 p0 p1 => ?_) (fun gm _ d2 => ?_)
  · by_cases q : a = s
    · rw [q, (c1 n n0 n1).2 p p0 p1]; omega
    · rw [s3 a n _ _ q n0 n1 (kk_m43 ⟨p0, p1⟩)]
      exact ((kk_MWC hc (s := a) ⟨a0, by omega⟩ ⟨n0, n1⟩).2.2.2 p p0 p1).1
  have d3 : ∀ (x : mm_Id) k, x.1 ≠ 56 → gm x k = g3 x k := fun x k q => d2 x k (by rintro ⟨v, _⟩; rw [v] at q; exact q rfl)
  have lgm : kk_lb g3 (-1) = kk_lb gm (-1) := by
    funext c
    unfold kk_lb
    rw [← kk_bse (fun x j q => d3 x j (by omega))]
    have e : ∀ k, g3 (57, 0, 0) k = gm (57, 0, 0) k := fun k => (d3 _ _ (by decide)).symm
    simp only [e]
  rw [mm_pI, r_253_19_18 (hy := hy), lgm]
  refine K g0 gm (fun x k q1 q2 q3 q4 => ?_) (by rw [hg0, mm_ups]) (fun n n0 n1 => ?_) (fun x k q q2 => by rw [d3 x k q2]; exact c2 x k q) (fun p p0 p1 q => ?_) (fun p p0 p1 q => ?_)
  · rw [f0 x k q4, b3 x k q2 q3, a3 x k q1]
  · have m := c1 n n0 n1
    unfold kk_mz
    rw [d3 _ _ (by decide), d3 _ _ (by decide), d3 _ _ (by decide), d3 _ _ (by decide)]
    exact ⟨m.1, fun p p0 p1 => by rw [d3 _ _ (by decide)]; exact m.2 p p0 p1⟩
  · have w := b1 (p + 1) (by omega) (by omega) ((O p p0 p1).2 q)
    rw [f0 _ _ (by simp)]
    exact ⟨w.1, fun a a0 a1 => by rw [f0 _ _ (by simp)]; exact w.2 a a0 a1⟩
  · have nq : ∀ (f : Nat) j, f = 63 ∧ j = p + 1 ∨ f = 64 ∧ 2160 * (p + 1) ≤ j ∧ j < 2160 * (p + 1) + 2160 → g0 (f, 0, 0) j = h (f, 0, 0) j := fun f j w => by
      rw [f0 _ _ (by rintro ⟨v, _⟩; simp at v; omega), b2 _ _ ?_]
      · exact e63 f j (by omega)
      · rintro ⟨m, m0, m1, w2, v⟩
        have y := (O (m - 1) (by omega) (by omega)).1 (by rw [show m - 1 + 1 = m by omega]; exact w2)
        have z : m - 1 = p := by
          simp at v
          omega
        rw [z] at y
        exact q y
    exact ⟨nq 63 _ (by omega), fun a a0 a1 => nq 64 _ (by omega)⟩
end

