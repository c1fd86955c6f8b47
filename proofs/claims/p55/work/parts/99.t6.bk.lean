/-! for back: the latest snapshot, here and there; unused files cleared there; a tree put back as it was -/
theorem s74 {h : mm_Id → Int → Int} {dh : Int → Int} {nx ns : Int} {Q : mm_V → mm_H → Prop} (hx : 5275 ≤ nx) {x : Int} (K : ∀ L, 0 ≤ L → (∀ i, 0 ≤ i → i < 8 → h (33, i, 0) 2 = x → h (33, i, 0) 1 ≤ L) → (L = 0 ∨ ∃ i, (0 ≤ i ∧ i < 8) ∧ h (33, i, 0) 2 = x ∧ h (33, i, 0) 1 = L) → Q (zI L) (mm_z h dh nx ns)) : mm_Cl 74 [zR (1, 0, 0), zI x] (mm_z h dh nx ns) Q := by
  have Lp : ∀ (e : Nat) (u L : Int), 8 - u = e → 0 ≤ u → 0 ≤ L → (∀ i, 0 ≤ i → i < u → h (33, i, 0) 2 = x → h (33, i, 0) 1 ≤ L) → (L = 0 ∨ ∃ i, (0 ≤ i ∧ i < 8) ∧ h (33, i, 0) 2 = x ∧ h (33, i, 0) 1 = L) → mm_Wp 74 (mm_blk 74 1) [zR (1, 0, 0), zI x, zI L, zI u] [] (mm_z h dh nx ns) Q := by
    intro e
    induction e with
    | zero =>
      intro u L e1 e2 e3 e4 e5
      rw [r_74_1 (hx := hx), if_neg (by omega)]
      exact K L e3 (fun i i0 i1 => e4 i i0 (by omega)) e5
    | succ e ih =>
      intro u L e1 e2 e3 e4 e5
      rw [r_74_1 (hx := hx), if_pos (by omega)]
      refine ⟨⟨by omega, by omega⟩, ?_⟩
      by_cases z : h (33, u, 0) 2 = x
      · rw [if_pos z]
        refine ⟨⟨by omega, by omega⟩, ?_⟩
        rw [r_74_2 (hx := hx), mm_wi (by omega) (by omega)]
        by_cases y : L < h (33, u, 0) 1
        · rw [if_pos y]
          refine ih (u + 1) _ (by omega) (by omega) (by omega) (fun i i0 i1 q => ?_) (Or.inr ⟨u, ⟨e2, by omega⟩, z, rfl⟩)
          by_cases w : i = u
          · rw [w]; exact Int.le_refl _
          · have := e4 i i0 (by omega) q; omega
        · rw [if_neg y]
          refine ih (u + 1) _ (by omega) (by omega) e3 (fun i i0 i1 q => ?_) e5
          by_cases w : i = u
          · rw [w]; omega
          · exact e4 i i0 (by omega) q
      · rw [if_neg z, r_74_2 (hx := hx), mm_wi (by omega) (by omega)]
        refine ih (u + 1) _ (by omega) (by omega) e3 (fun i i0 i1 q => ?_) e5
        by_cases w : i = u
        · rw [w] at q; exact absurd q z
        · exact e4 i i0 (by omega) q
  rw [r_74_e (hx := hx)]
  exact Lp 8 0 0 (by omega) (by omega) (by omega) (fun i a c => by omega) (Or.inl rfl)
section
variable {g : mm_Id → Int → Int} {dh : Int → Int} {nx ns : Int} {Q : mm_V → mm_H → Prop}
theorem m252l (hy : 10581 ≤ nx) {x1 x2 x3 x4 : Int} (K : ∀ f, (f = 0 ∧ ∀ k, 5 ≤ k → k < 13 → ¬ (x2 < g (57, 0, 0) k ∧ g (58, 0, 0) k = x1)) ∨ (f = 1 ∧ ∃ k, (5 ≤ k ∧ k < 13) ∧ x2 < g (57, 0, 0) k ∧ g (58, 0, 0) k = x1) → mm_Wp 252 (mm_blk 252 3) [zR (40, 0, 0), zI x1, zI x2, zI x3, zI x4, zI f, zI 13] [] (mm_z g dh nx ns) Q) :
    mm_Wp 252 (mm_blk 252 3) [zR (40, 0, 0), zI x1, zI x2, zI x3, zI x4, zI 0, zI 5] [] (mm_z g dh nx ns) Q := by
  have Lp : ∀ (e : Nat) (u f : Int), 13 - u = e → 5 ≤ u → (f = 0 ∧ ∀ k, 5 ≤ k → k < u → ¬ (x2 < g (57, 0, 0) k ∧ g (58, 0, 0) k = x1)) ∨ (f = 1 ∧ ∃ k, (5 ≤ k ∧ k < 13) ∧ x2 < g (57, 0, 0) k ∧ g (58, 0, 0) k = x1) → mm_Wp 252 (mm_blk 252 3) [zR (40, 0, 0), zI x1, zI x2, zI x3, zI x4, zI f, zI u] [] (mm_z g dh nx ns) Q := by
    intro e
    induction e with
    | zero =>
      intro u f e1 e2 e3
      have e4 : u = 13 := by omega
      subst e4
      exact K f e3
    | succ e ih =>
      intro u f e1 e2 e3
      rw [r_252_3 (hy := hy), if_pos (by omega)]
      rcases e3 with ⟨e3, e4⟩ | ⟨e3, e4⟩
      · rw [if_pos e3]
        refine ⟨⟨by omega, by omega⟩, ?_⟩
        by_cases z : x2 < g (57, 0, 0) u
        · rw [if_pos z]
          refine ⟨⟨by omega, by omega⟩, ?_⟩
          by_cases y : g (58, 0, 0) u = x1
          · rw [if_pos y, r_252_4 (hy := hy), r_252_6 (hy := hy), mm_wi (by omega) (by omega)]
            exact ih (u + 1) 1 (by omega) (by omega) (Or.inr ⟨rfl, u, ⟨e2, by omega⟩, z, y⟩)
          · rw [if_neg y, r_252_5 (hy := hy), r_252_6 (hy := hy), mm_wi (by omega) (by omega)]
            refine ih (u + 1) 0 (by omega) (by omega) (Or.inl ⟨rfl, fun k k0 k1 q => ?_⟩)
            by_cases w : k = u
            · rw [w] at q; exact y q.2
            · exact e4 k k0 (by omega) q
        · rw [if_neg z, r_252_5 (hy := hy), r_252_6 (hy := hy), mm_wi (by omega) (by omega)]
          refine ih (u + 1) 0 (by omega) (by omega) (Or.inl ⟨rfl, fun k k0 k1 q => ?_⟩)
          by_cases w : k = u
          · rw [w] at q; exact z q.1
          · exact e4 k k0 (by omega) q
      · rw [if_neg (by omega), r_252_4 (hy := hy), r_252_6 (hy := hy), mm_wi (by omega) (by omega)]
        exact ih (u + 1) 1 (by omega) (by omega) (Or.inr ⟨rfl, e4⟩)
  exact Lp 8 5 0 (by omega) (by omega) (Or.inl ⟨rfl, fun k k0 k1 => by omega⟩)
/-- files without entries are cleared there -/
theorem m252c (hy : 10581 ≤ nx) {s : Int} {v1 v2 v4 v5 : mm_V} (hs : 0 ≤ s ∧ s < 29) (hc : ∀ d, 1 ≤ d → d < 37 → 0 ≤ g (44, 0, 0) (36 * s + d - 1) ∧ g (44, 0, 0) (36 * s + d - 1) ≤ 24) (hf : ∀ d, 1 ≤ d → d < 37 → g (41, 0, 0) (36 * s + d - 1) = 1 → g (44, 0, 0) (36 * s + d - 1) = 0)
    (K : ∀ h2, (∀ n, 1 ≤ n → n < 37 → g (41, 0, 0) (36 * s + n - 1) = 1 ∧ kk_ef g s n = 0 → kk_mz h2 (36 * s + n - 1)) → (∀ x j, ¬ (∃ n, 1 ≤ n ∧ n < 37 ∧ (g (41, 0, 0) (36 * s + n - 1) = 1 ∧ kk_ef g s n = 0) ∧ kk_cx (36 * s + n - 1) x j) → h2 x j = g x j) → (∀ n, kk_ef h2 s n = kk_ef g s n) → mm_Wp 252 (mm_blk 252 11) [zR (40, 0, 0), v1, v2, zI s, v4, v5, zI 37] [] (mm_z h2 dh nx ns) Q) :
    mm_Wp 252 (mm_blk 252 11) [zR (40, 0, 0), v1, v2, zI s, v4, v5, zI 1] [] (mm_z g dh nx ns) Q := by
  have L : ∀ (k : Nat) (i : Int) (h : mm_Id → Int → Int), 37 - i = k → 1 ≤ i → (∀ n, 1 ≤ n → n < i → g (41, 0, 0) (36 * s + n - 1) = 1 ∧ kk_ef g s n = 0 → kk_mz h (36 * s + n - 1)) → (∀ x j, ¬ (∃ n, 1 ≤ n ∧ n < i ∧ (g (41, 0, 0) (36 * s + n - 1) = 1 ∧ kk_ef g s n = 0) ∧ kk_cx (36 * s + n - 1) x j) → h x j = g x j) →
      mm_Wp 252 (mm_blk 252 11) [zR (40, 0, 0), v1, v2, zI s, v4, v5, zI i] [] (mm_z h dh nx ns) Q := by
    intro k
    induction k with
    | zero =>
      intro i h e1 e2 a1 a2
      have e3 : i = 37 := by omega
      subst e3
      refine K h a1 a2 (fun n => kk_efc (fun d d1 d2 => ?_) (fun j => ?_))
      · by_cases c : g (41, 0, 0) (36 * s + d - 1) = 1 ∧ kk_ef g s d = 0
        · rw [(a1 d d1 (by omega) c).1.2.2.1, hf d d1 d2 c.1]
        · refine a2 _ _ ?_
          rintro ⟨n, n1, n2, n3, n4⟩
          unfold kk_cx at n4
          rcases n4 with ⟨_, q⟩ | ⟨q, _⟩
          · have : d = n := by omega
            rw [this] at c
            exact c n3
          · simp at q
      · refine a2 _ _ ?_
        rintro ⟨n, n1, n2, n3, n4⟩
        unfold kk_cx at n4
        simp at n4
    | succ k ih =>
      intro i h e1 e2 a1 a2
      have k41 : h (41, 0, 0) (36 * s + i - 1) = g (41, 0, 0) (36 * s + i - 1) := a2 _ _ (by
        rintro ⟨n, n1, n2, n3, n4⟩
        unfold kk_cx at n4
        rcases n4 with ⟨_, q⟩ | ⟨q, _⟩
        · omega
        · simp at q)
      have k44 : ∀ d, 1 ≤ d → d < 37 → h (44, 0, 0) (36 * s + d - 1) = g (44, 0, 0) (36 * s + d - 1) := by
        intro d d1 d2
        by_cases c : d < i ∧ g (41, 0, 0) (36 * s + d - 1) = 1 ∧ kk_ef g s d = 0
        · rw [(a1 d d1 c.1 c.2).1.2.2.1, hf d d1 d2 c.2.1]
        · exact a2 _ _ (by
            rintro ⟨n, n1, n2, n3, n4⟩
            unfold kk_cx at n4
            rcases n4 with ⟨_, q⟩ | ⟨q, _⟩
            · have : d = n := by omega
              rw [this] at c
              exact c ⟨n2, n3⟩
            · simp at q)
      have oth : ∀ j, h (46, 0, 0) j = g (46, 0, 0) j := fun j => a2 _ _ (by
        rintro ⟨n, n1, n2, n3, n4⟩
        unfold kk_cx at n4
        simp at n4)
      have ef : ∀ n, kk_ef h s n = kk_ef g s n := fun n => kk_efc k44 oth
      have skip : ¬ (g (41, 0, 0) (36 * s + i - 1) = 1 ∧ kk_ef g s i = 0) → mm_Wp 252 (mm_blk 252 12) [zR (40, 0, 0), v1, v2, zI s, v4, v5, zI i] [] (mm_z h dh nx ns) Q := by
        intro hn
        rw [r_252_12 (hy := hy), mm_wi (by omega) (by omega)]
        refine ih (i + 1) h (by omega) (by omega) (fun n c1 c2 c3 => ?_) (fun x j c => a2 x j (fun ⟨n, n1, n2, n3⟩ => c ⟨n, n1, by omega, n3⟩))
        by_cases z : n = i
        · rw [z] at c3; exact absurd c3 hn
        · exact a1 n c1 (by omega) c3
      rw [r_252_11 (hy := hy), if_neg (by omega)]
      refine m177 hy hs (by omega) (fun b hb => ?_)
      rw [mm_pI, r_252_11_7 (hy := hy)]
      rw [k41] at hb
      by_cases c1 : g (41, 0, 0) (36 * s + i - 1) = 1
      · rw [if_pos c1] at hb
        subst hb
        rw [if_neg (by decide)]
        refine m188 hy hs (fun d d1 d2 => by rw [k44 d d1 d2]; exact hc d d1 d2) ?_
        rw [mm_pI, r_252_11_12 (hy := hy), ef]
        by_cases c2 : kk_ef g s i = 0
        · rw [if_pos c2]
          refine m175 hy hs (by omega) ?_
          rw [mm_pI, r_252_11_17 (hy := hy)]
          refine m180 hy (by omega) (fun h2 f1 f2 f3 => ?_)
          rw [mm_pU, r_252_11_18 (hy := hy), r_252_12 (hy := hy), mm_wi (by omega) (by omega)]
          refine ih (i + 1) h2 (by omega) (by omega) (fun n b1 b2 b3 => ?_) (fun x j c => ?_)
          · by_cases z : n = i
            · rw [z]; exact ⟨f1, f2⟩
            · have w := a1 n b1 (by omega) b3
              have e : ∀ x j, kk_cx (36 * s + n - 1) x j → h2 x j = h x j := fun x j hx2 => by
                have d := kk_cxd (a := 36 * s + n - 1) (b := 36 * s + i - 1) (by omega) hx2
                exact f3 x j (fun y => d (Or.inl y)) (fun y => d (Or.inr y))
              refine ⟨⟨?_, ?_, ?_, ?_⟩, fun p p0 p1 => ?_⟩
              · rw [e _ _ (Or.inl ⟨by simp, rfl⟩)]; exact w.1.1
              · rw [e _ _ (Or.inl ⟨by simp, rfl⟩)]; exact w.1.2.1
              · rw [e _ _ (Or.inl ⟨by simp, rfl⟩)]; exact w.1.2.2.1
              · rw [e _ _ (Or.inl ⟨by simp, rfl⟩)]; exact w.1.2.2.2
              · rw [e _ _ (Or.inr ⟨rfl, by omega, by omega⟩)]; exact w.2 p p0 p1
          · have d : ¬ kk_cx (36 * s + i - 1) x j := fun y => c ⟨i, e2, by omega, ⟨c1, c2⟩, y⟩
            rw [f3 x j (fun y => d (Or.inl y)) (fun y => d (Or.inr y))]
            exact a2 x j (fun ⟨n, n1, n2, n3⟩ => c ⟨n, n1, by omega, n3⟩)
        · rw [if_neg c2]
          exact skip (fun w => c2 w.2)
      · rw [if_neg c1] at hb
        subst hb
        rw [if_pos rfl]
        exact skip (fun w => c1 w.1)
  exact L 36 1 g (by omega) (by omega) (fun n n1 n2 => by omega) (fun x j _ => rfl)
end
/-- blocks of what is used of a tree -/
theorem kk_ubl {b : Int} {h : mm_Id → Int → Int} {dh : Int → Int} (hW : kk_W b h dh) {s : Int} (hs : 0 ≤ s ∧ s < 13) : kk_S (fun n => if h (24, s, n) 0 = 1 ∧ h (24, s, n) 5 = 0 then 0 else h (24, s, n) 9) 36 = kk_cnt (fun c => ∃ n p, (1 ≤ n ∧ n < 37) ∧ (0 ≤ p ∧ p < 36) ∧ (¬ (h (24, s, n) 0 = 1 ∧ h (24, s, n) 5 = 0) ∧ h (27, s, n) p ≠ 0) ∧ h (43, 0, 0) (36 * (36 * s + n - 1) + p) = c) := by
  have sT := mm_T13 hs
  rw [← kk_lab (F := fun n p => ¬ (h (24, s, n) 0 = 1 ∧ h (24, s, n) 5 = 0) ∧ h (27, s, n) p ≠ 0) (lab := fun n p => h (43, 0, 0) (36 * (36 * s + n - 1) + p)) (fun n p n0 n1 p0 p1 q => ?_) (fun n p n2 p2 hn hp hn2 hp2 q q2 e => ?_)]
  · refine kk_Sc _ (fun n n0 n1 => ?_)
    show (if h (24, s, n) 0 = 1 ∧ h (24, s, n) 5 = 0 then 0 else h (24, s, n) 9) = mm_sm (fun p => kk_b (¬ (h (24, s, n) 0 = 1 ∧ h (24, s, n) 5 = 0) ∧ h (27, s, n) p ≠ 0)) 36
    by_cases z : h (24, s, n) 0 = 1 ∧ h (24, s, n) 5 = 0
    · rw [if_pos z]
      exact (sm_0I _ (fun p _ _ => kk_b0 (fun w => w.1 z))).symm
    · rw [if_neg z, (hW.1.2.1 s n sT n0 (by omega)).2.2.2.2.2.2.1]
      refine sm_cgI _ (fun p _ _ => ?_)
      by_cases y : h (27, s, n) p = 0
      · rw [if_pos y, kk_b0 (fun w => w.2 y)]
      · rw [if_neg y, kk_b1 ⟨z, y⟩]
  · have w := (kk_pcf hW hs ⟨n0, n1⟩ ⟨p0, p1⟩ q.2).2.2
    have y := (hW.1.2.2.2.2.1 s n hs.1 (by omega) n0 n1).2.2.2 p p0 p1
    show 1 ≤ h (43, 0, 0) (36 * (36 * s + n - 1) + p) ∧ h (43, 0, 0) (36 * (36 * s + n - 1) + p) ≤ 3000
    omega
  · have y := (hW.1.2.2.2.2.2.1 s n p s n2 p2 sT hn hp sT hn2 hp2 q.2 q2.2).2 e
    exact hW.1.2.2.2.2.2.2.1 s n p n2 p2 sT hn hp hn2 hp2 q.2 y
/-- a tree put back as it was -/
theorem kk_rst {b d : Int} {h g : mm_Id → Int → Int} {dh : Int → Int} (hc : kk_core b h dh) (hd : 0 ≤ d ∧ d < 5) (hno : 0 < kk_no h d) (mt : ∀ n, 1 ≤ n → n < 37 → kk_ms g (36 * d + n - 1) h (36 * d + n - 1)) (m28 : ∀ n, 1 ≤ n → n < 37 → kk_ms g (36 * 28 + n - 1) h (36 * d + n - 1))
    (fr : ∀ (x : mm_Id) j, ¬ kk_sx d x j → ¬ kk_sx 28 x j → x.1 ≠ 56 → ¬ (x = (40, 0, 0) ∧ j = 0) → g x j = h x j) : kk_core b g dh := by
  have KD := hc.1.2.2.1
  have C : ∀ (f : Nat) a c k, f < 40 → g (f, a, c) k = h (f, a, c) k := fun f a c k f0 => fr _ _ (kk_sx6 (by omega)) (kk_sx6 (by omega)) (by show f ≠ 56; omega) (by rintro ⟨v, _⟩; simp at v; omega)
  have M : ∀ (f : Nat) a c k, 53 < f → f ≠ 56 → g (f, a, c) k = h (f, a, c) k := fun f a c k f0 f1 => fr _ _ (kk_sx6 (by omega)) (kk_sx6 (by omega)) f1 (by rintro ⟨v, _⟩; simp at v; omega)
  have M40 : ∀ k, k ≠ 0 → g (40, 0, 0) k = h (40, 0, 0) k := fun k k0 => fr _ _ (kk_sx6 (by omega)) (kk_sx6 (by omega)) (by decide) (fun v => k0 v.2)
  have no : ∀ s, kk_no g s = kk_no h s := fun s => by unfold kk_no; rw [C 31 s 0 3 (by decide), C 33 _ 0 1 (by decide)]
  have mo : ∀ a x k, a ≠ d → a ≠ 28 → kk_sx a x k → g x k = h x k := fun a x k q q2 hx2 => by
    have r := kk_sxr hx2
    exact fr x k (kk_sxd q hx2) (kk_sxd q2 hx2) (by omega) (by rintro ⟨v, _⟩; rw [v] at r; simp at r)
  have D7 := KD.2.2.2.2.2.2.1 d hd.1 hd.2 hno
  have kd : kk_KD b g dh := by
    refine kk_KD1 (t := d) KD (by omega) KD.1 ?_ ?_ (fun i j _ _ => C 31 i 0 j (by decide)) (fun i j _ => C 33 i 0 j (by decide)) (fun i u _ => C 32 i 0 u (by decide)) (fun f k hf _ => M f 0 0 k (by omega) (by omega)) (fun i u _ _ _ => M 61 0 0 _ (by omega) (by omega)) ?_ (fun _ _ => ?_) (fun i i0 i1 => ?_) (fun w => by omega) ?_ (fun s n _ _ _ _ _ => C 24 s n 0 (by decide)) (fun w => ?_) (fun _ => ?_) (fun i n i0 i1 z n0 n1 => ?_) (kk_d17c (t := -1) (P := fun _ => False) (kk_h17 hc) (fun _ _ _ q => absurd q id) (fun i i0 i1 _ => ⟨fun q => ?_, rfl, M 63 0 0 _ (by omega) (by omega), fun a _ _ => M 64 0 0 _ (by omega) (by omega)⟩) (fun f i j hf => C f i 0 j (by omega)) (fun j => M 62 0 0 j (by omega) (by omega)) (fun s _ _ _ z => by rw [no]; exact z) (fun s n _ _ _ _ _ z => by rw [C 24 s n 0 (by decide)]; exact z)) ?_ ?_
    · rw [C 1 0 0 10 (by decide), M40 24 (by decide)]
      exact ⟨KD.2.1.1, Int.le_refl _, KD.2.1.2.2⟩
    · rw [C 1 0 0 11 (by decide), M40 25 (by decide)]
      exact ⟨KD.2.2.1.1, Int.le_refl _, KD.2.2.1.2.2⟩
    · rw [no, M 57 0 0 d (by omega) (by omega), C 1 0 0 10 (by decide)]
      exact ⟨kk_NC hc d hd.1 (by omega), by omega, fun _ => (KD.2.2.2.2.1 d hd.1 hd.2).2, fun w => by omega⟩
    · rw [C 31 d 0 4 (by decide), C 31 d 0 5 (by decide), M 58 0 0 d (by omega) (by omega), M 59 0 0 d (by omega) (by omega)]
      refine ⟨D7.1, D7.2.1, fun u u0 u1 => ?_⟩
      rw [C 32 d 0 u (by decide), M 61 0 0 _ (by omega) (by omega)]
      exact D7.2.2 u u0 u1
    · rw [C 31 i 0 6 (by decide)]; exact KD.2.2.2.2.2.2.2.1 i i0 i1
    · rw [M 60 0 0 d (by omega) (by omega)]; exact KD.2.2.2.2.2.2.2.2.2.1 d hd.1 (by omega)
    · rw [no] at w; omega
    · rw [C 24 d 1 0 (by decide)]; exact KD.2.2.2.2.2.2.2.2.2.2.2.1 d hd.1 (by omega) hno
    · rw [C 31 i 0 6 (by decide)] at z
      exact kk_d15x KD i0 i1 z n0 n1 (fun f k f0 f1 => ⟨C f _ n k (by omega), C f i n k (by omega)⟩)
    · unfold mm_isD at q; omega
    · intro a a0 a1
      rw [M 64 0 0 a (by omega) (by omega)]; exact kk_h18 hc a a0 a1
    · intro i n i0 i1 n0 n1 w w5
      rw [C 24 i n 0 (by decide)] at w
      rw [C 24 i n 5 (by decide)] at w5
      obtain ⟨j, hj, q1, q2⟩ := kk_h19 hc i n i0 i1 n0 n1 w w5
      exact ⟨j, hj, q1, by rw [C 34 j 0 2 (by decide)]; exact q2⟩
  refine ⟨kk_W1 (t := d) (u := d) (v := d) (D := fun _ => False) (C := False) (gm := g) hc (by omega) (by omega) (Or.inr ⟨by omega, by rw [kk_NC hc d hd.1 (by omega)]; exact hno⟩) (fun _ _ _ q => absurd q id) (fun n _ _ _ => kk_cpdr (fun f k f0 f1 => C f d n k (by omega))) (Or.inr (fun _ _ _ q => absurd q id)) (fun q => absurd q id) (fun f s n k f0 f1 _ _ => C f s n k (by omega)) (fun s p => C 27 s 0 p (by decide)) mt m28 mo (fun _ _ _ q => absurd q id) (fun _ _ _ _ _ _ _ _ => rfl) (fun _ => rfl) ?_ (fun k => C 16 0 0 k (by decide)) (fun _ => rfl) (fun k => M 54 0 0 k (by omega) (by omega)) (fun s => C 22 s 0 2 (by decide)) (fun c => M 55 0 0 c (by omega) (by omega)) (M40 18 (by decide)) (fun _ => by rw [kk_NC hc d hd.1 (by omega)]; exact hno) (fun k _ _ _ => ⟨M 57 0 0 k (by omega) (by omega), M 59 0 0 k (by omega) (by omega)⟩) (fun _ _ q => ?_) (fun s _ _ _ => no s) kd ?_, ?_⟩
  · exact kk_Rcong (fun a c k => C 27 a c k (by decide)) (C _ _ _ _ (by decide)) (C _ _ _ _ (by decide)) (fun r => C _ _ _ _ (by decide)) (fun r => C _ _ _ _ (by decide)) (fun r => C _ _ _ _ (by decide)) hc.1.1.2.2.2.2.2.2.2.1
  · rw [M 59 0 0 d (by omega) (by omega)]
    exact Int.le_trans (kk_cntle (fun c _ _ w => q c w)) ((hc.1.2.1.2.2.2.2.2.2 d hd.1 hd.2).1 hno)
  · intro x k q
    obtain ⟨f, a, c⟩ := x
    unfold kk_kgx at q
    rcases q with ⟨q, q2⟩ | q | q | q | q | ⟨q, q2⟩ | ⟨q, q2⟩
    · rw [q]; exact C 1 0 0 k (by decide)
    · simp at q; exact C f a c k (by omega)
    · simp at q; exact C f a c k (by omega)
    · simp at q; exact C f a c k (by omega)
    · simp at q; exact M f a c k (by omega) (by omega)
    · rw [q]; exact M40 k (by omega)
    · simp at q; exact C f a c k (by omega)
  · refine kk_KPc (fun t n t0 t1 n0 n1 => hc.1.1.2.1 t n (mm_T18 ⟨by omega, t1⟩) n0 n1) (fun s n s0 s1 n0 n1 => kk_MWC hc ⟨s0, s1⟩ ⟨n0, n1⟩) ?_ (fun s _ _ => no s) (fun f k hf => ?_) (fun f t n k f0 f1 _ _ _ => C f t n k (by omega)) (fun s x k s0 s1 hx2 => mo s x k (by omega) (by omega) hx2) (fun _ _ _ _ _ _ _ _ _ _ _ _ _ => C 16 0 0 _ (by decide)) (fun _ _ _ _ _ _ _ _ _ _ _ _ _ => M 54 0 0 _ (by omega) (by omega)) hc.2
    · rw [C 1 0 0 13 (by decide), M40 33 (by decide)]; exact kk_ac hc
    · unfold kk_q4 at hf; exact M f 0 0 k (by omega) (by omega)

