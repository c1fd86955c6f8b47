/-! both: what is put down; handles; the path -/
section
variable {hi : mm_Id → Int → Int} {dh : Int → Int} {nx ns : Int} {Q : mm_V → mm_H → Prop} {t n : Int}
def kk_q4 (f : Nat) : Prop := f = 57 ∨ f = 58 ∨ f = 59 ∨ f = 60
/-- what is put down of the reference lies there -/
def kk_dx (x : mm_Id) (j : Int) : Prop := (x = (57, 0, 0) ∨ x = (58, 0, 0) ∨ x = (59, 0, 0) ∨ x = (60, 0, 0)) ∧ 13 ≤ j ∧ j < 26 ∨ x = (61, 0, 0) ∧ 104 ≤ j ∧ j < 208 ∨ (∃ k, (0 ≤ k ∧ k < 13) ∧ kk_sx (13 + k) x j)
theorem kk_sx6 {s : Int} {f : Nat} {t n j : Int} (hf : f < 41 ∨ 53 < f) : ¬ kk_sx s (f, t, n) j := by
  rintro ⟨m, m1, m2, m3⟩
  exact kk_mx6 (k := 0) hf m3
theorem kk_sxd {s s2 : Int} (h : s ≠ s2) {x : mm_Id} {j : Int} (hx : kk_sx s x j) : ¬ kk_sx s2 x j := by
  obtain ⟨m, m1, m2, m3⟩ := hx
  rintro ⟨m', m1', m2', m3'⟩
  exact kk_mxd (by omega) m3 m3'
theorem m208 (hy : 10581 ≤ nx) (hh : ∀ k, 0 ≤ k → k < 13 → hi (60, 0, 0) k = 0 ∨ hi (60, 0, 0) k = 1) (hw : ∀ k n, 0 ≤ k → k < 13 → 1 ≤ n → n < 37 → kk_mw hi (36 * k + n - 1))
    (K : ∀ h2, h2 (40, 0, 0) 33 = 0 → (∀ k f, 0 ≤ k → k < 13 → kk_q4 f → h2 (f, 0, 0) (13 + k) = hi (f, 0, 0) k) → (∀ k u, 0 ≤ k → k < 13 → 0 ≤ u → u < 8 → h2 (61, 0, 0) (8 * (13 + k) + u) = hi (61, 0, 0) (8 * k + u)) → (∀ k n, 0 ≤ k → k < 13 → 1 ≤ n → n < 37 → kk_ms h2 (36 * (13 + k) + n - 1) hi (36 * k + n - 1)) →
      (∀ x j, ¬ kk_dx x j → ¬ (x = (40, 0, 0) ∧ j = 33) → h2 x j = hi x j) → Q zU (mm_z h2 dh nx ns)) : mm_Cl 208 [zR (40, 0, 0)] (mm_z hi dh nx ns) Q := by
  have L : ∀ (d : Nat) (k : Int) (h : mm_Id → Int → Int) (v : mm_V), 13 - k = d → 0 ≤ k → h (40, 0, 0) 33 = 0 → (∀ q f, 0 ≤ q → q < k → kk_q4 f → h (f, 0, 0) (13 + q) = hi (f, 0, 0) q) → (∀ q u, 0 ≤ q → q < k → 0 ≤ u → u < 8 → h (61, 0, 0) (8 * (13 + q) + u) = hi (61, 0, 0) (8 * q + u)) → (∀ q n, 0 ≤ q → q < k → 1 ≤ n → n < 37 → kk_ms h (36 * (13 + q) + n - 1) hi (36 * q + n - 1)) →
      (∀ x j, ¬ kk_dx x j → ¬ (x = (40, 0, 0) ∧ j = 33) → h x j = hi x j) → mm_Wp 208 (mm_blk 208 1) [zR (40, 0, 0), zI k, v] [] (mm_z h dh nx ns) Q := by
    intro d
    induction d with
    | zero =>
      intro k h v e1 e2 a1 a2 a3 a4 a5
      have e3 : k = 13 := by omega
      subst e3
      rw [r_208_1 (hy := hy), if_neg (by omega)]
      exact K h a1 a2 a3 a4 a5
    | succ d ih =>
      intro k h v e1 e2 a1 a2 a3 a4 a5
      have src : ∀ f, kk_q4 f → h (f, 0, 0) k = hi (f, 0, 0) k := fun f hf => a5 _ _ (by
        unfold kk_q4 at hf
        rintro (⟨_, q, _⟩ | ⟨q, _⟩ | ⟨q, _, q2⟩)
        · omega
        · injection q with q; omega
        · exact kk_sx6 (by omega) q2) (by unfold kk_q4 at hf; intro q; injection q.1 with q; omega)
      have src61 : ∀ u, 0 ≤ u → u < 8 → h (61, 0, 0) (8 * k + u) = hi (61, 0, 0) (8 * k + u) := fun u u1 u2 => a5 _ _ (by
        rintro (⟨q, _⟩ | ⟨_, q, _⟩ | ⟨q, _, q2⟩)
        · simp at q
        · omega
        · exact kk_sx6 (by omega) q2) (by simp)
      have srcn : ∀ x j, kk_sx k x j → h x j = hi x j := fun x j hx => a5 _ _ (by
        rintro (⟨q, _⟩ | ⟨q, _⟩ | ⟨q, q1, q2⟩)
        · rcases q with rfl | rfl | rfl | rfl <;> exact kk_sx6 (by omega) hx
        · subst q; exact kk_sx6 (by omega) hx
        · exact kk_sxd (by omega) hx q2) (by rintro ⟨rfl, _⟩; exact kk_sx6 (by omega) hx)
      rw [r_208_1 (hy := hy), if_pos (by omega), mm_wi (z := 13 + k) (by omega) (by omega)]
      simp only [mm_upf (show ¬ (58 : Nat) = 57 by decide), mm_upf (show ¬ (59 : Nat) = 58 by decide), mm_upf (show ¬ (59 : Nat) = 57 by decide), mm_upf (show ¬ (60 : Nat) = 59 by decide), mm_upf (show ¬ (60 : Nat) = 58 by decide), mm_upf (show ¬ (60 : Nat) = 57 by decide)]
      refine ⟨by omega, by omega, by omega, by omega, by omega, by omega, by omega, ⟨by rw [src 60 (by unfold kk_q4; omega)]; exact hh k e2 (by omega), by omega, by omega⟩, ?_⟩
      -- limits
      have L2 : ∀ (m : Nat) (u : Int) (g : mm_Id → Int → Int), 8 - u = m → 0 ≤ u → (∀ f, kk_q4 f → g (f, 0, 0) (13 + k) = hi (f, 0, 0) k) → (∀ w, 0 ≤ w → w < u → g (61, 0, 0) (8 * (13 + k) + w) = hi (61, 0, 0) (8 * k + w)) → (∀ x j, ¬ ((x = (57, 0, 0) ∨ x = (58, 0, 0) ∨ x = (59, 0, 0) ∨ x = (60, 0, 0)) ∧ j = 13 + k) → ¬ (x = (61, 0, 0) ∧ 8 * (13 + k) ≤ j ∧ j < 8 * (13 + k) + 8) → g x j = h x j) →
          mm_Wp 208 (mm_blk 208 2) [zR (40, 0, 0), zI k, zI u] [] (mm_z g dh nx ns) Q := by
        intro m
        induction m with
        | zero =>
          intro u g b1 b2 b3 b4 b5
          have b6 : u = 8 := by omega
          subst b6
          have gs : ∀ x j, kk_sx k x j ∨ kk_sx (13 + k) x j ∨ (∃ q, q ≠ 13 + k ∧ kk_sx q x j) → g x j = h x j := fun x j hx => b5 x j (by
            rintro ⟨q, _⟩
            have : ∀ s, ¬ kk_sx s x j := fun s => by rcases q with rfl | rfl | rfl | rfl <;> exact kk_sx6 (by omega)
            rcases hx with w | w | ⟨_, _, w⟩ <;> exact this _ w) (by
            rintro ⟨rfl, _⟩
            rcases hx with w | w | ⟨_, _, w⟩ <;> exact kk_sx6 (by omega) w)
          have mwk : ∀ n, 1 ≤ n → n < 37 → kk_mw g (36 * k + n - 1) := fun n n1 n2 => by
            have hq := hw k n e2 (by omega) n1 n2
            have z : ∀ f, kk_mf f → g (f, 0, 0) (36 * k + n - 1) = hi (f, 0, 0) (36 * k + n - 1) := fun f hf => by
              have sx : kk_sx k (f, 0, 0) (36 * k + n - 1) := ⟨n, n1, n2, Or.inl ⟨hf, rfl⟩⟩
              rw [gs _ _ (Or.inl sx), srcn _ _ sx]
            unfold kk_mw at hq ⊢
            rw [z 53 (by unfold kk_mf; omega), z 44 (by unfold kk_mf; omega), z 49 (by unfold kk_mf; omega)]
            exact hq
          rw [r_208_2 (hy := hy), if_neg (by omega), mm_wi (z := 13 + k) (by omega) (by omega)]
          refine m179 hy (by omega) (by omega) (by omega) mwk (fun g2 c1 c2 => ?_)
          rw [mm_pU, r_208_3_6 (hy := hy), mm_wi (by omega) (by omega)]
          have ns6 : ∀ f j, (f < 41 ∨ 53 < f) → g2 (f, 0, 0) j = g (f, 0, 0) j := fun f j hf => c2 _ _ (kk_sx6 hf)
          refine ih (k + 1) g2 _ (by omega) (by omega) ?_ (fun q f q1 q2 hf => ?_) (fun q u q1 q2 u1 u2 => ?_) (fun q n q1 q2 n1 n2 => ?_) (fun x j d1 d2 => ?_)
          · rw [ns6 40 33 (by omega), b5 _ _ (by simp) (by simp)]; exact a1
          · have hf2 := hf
            unfold kk_q4 at hf2
            rw [ns6 f _ (by omega)]
            by_cases z : q = k
            · rw [z]; exact b3 f hf
            · rw [b5 _ _ (by intro w; omega) (by intro w; injection w.1 with w; omega)]; exact a2 q f q1 (by omega) hf
          · rw [ns6 61 _ (by omega)]
            by_cases z : q = k
            · rw [z]; exact b4 u u1 u2
            · rw [b5 _ _ (by simp) (by omega)]; exact a3 q u q1 (by omega) u1 u2
          · by_cases z : q = k
            · subst z
              have hq := hw q n e2 (by omega) n1 n2
              have zz : ∀ x j, kk_mx (36 * q + n - 1) x j → g x j = hi x j := fun x j hx => by
                have sx : kk_sx q x j := ⟨n, n1, n2, hx⟩
                rw [gs _ _ (Or.inl sx), srcn _ _ sx]
              obtain ⟨w1, w2, w3, w4, w5⟩ := c1 n n1 n2
              have z44 := zz (44, 0, 0) _ (Or.inl ⟨by unfold kk_mf; omega, rfl⟩)
              have z49 := zz (49, 0, 0) _ (Or.inl ⟨by unfold kk_mf; omega, rfl⟩)
              refine ⟨fun f hf => by rw [w1 f hf, zz _ _ (Or.inl ⟨hf, rfl⟩)], fun p p1 p2 => by rw [w2 p p1 p2, zz _ _ (kk_m43 ⟨p1, p2⟩)], fun e y1 y2 => ?_, fun e y1 y2 => ?_, fun e y1 y2 => by rw [w5 e y1 y2, zz _ _ (kk_m52 ⟨y1, y2⟩)]⟩
              · have hq2 := hq.2.1
                obtain ⟨r1, r2⟩ := w3 e y1 (by rw [z44]; exact y2)
                rw [r1, r2, zz _ _ (kk_m45 (Or.inl rfl) (by omega)), zz _ _ (kk_m45 (Or.inr rfl) (by omega))]
                exact ⟨rfl, rfl⟩
              · have hq2 := hq.2.2
                obtain ⟨r1, r2⟩ := w4 e y1 (by rw [z49]; exact y2)
                rw [r1, r2, zz _ _ (kk_m50 (Or.inl rfl) (by omega)), zz _ _ (kk_m50 (Or.inr rfl) (by omega))]
                exact ⟨rfl, rfl⟩
            · have hq := hw q n q1 (by omega) n1 n2
              refine kk_msk (a4 q n q1 (by omega) n1 n2) hq.2.1 hq.2.2 (fun x j hx => ?_)
              have sx : kk_sx (13 + q) x j := ⟨n, n1, n2, hx⟩
              rw [c2 x j (kk_sxd (by omega) sx), gs x j (Or.inr (Or.inr ⟨13 + q, by omega, sx⟩))]
          · rw [c2 x j (fun w => d1 (Or.inr (Or.inr ⟨k, ⟨e2, by omega⟩, w⟩))), b5 x j (fun w => d1 (Or.inl ⟨w.1, by omega, by omega⟩)) (fun w => d1 (Or.inr (Or.inl ⟨w.1, by omega, by omega⟩)))]
            exact a5 x j d1 d2
        | succ m ihm =>
          intro u g b1 b2 b3 b4 b5
          have g61 : g (61, 0, 0) (8 * k + u) = hi (61, 0, 0) (8 * k + u) := by
            rw [b5 _ _ (by simp) (by omega)]; exact src61 u b2 (by omega)
          rw [r_208_2 (hy := hy), if_pos (by omega), mm_wi (z := 13 + k) (by omega) (by omega), mm_wi (z := 8 * k) (by omega) (by omega), mm_wi (z := 8 * (13 + k)) (by omega) (by omega), mm_wi (z := 8 * k + u) (by omega) (by omega), mm_wi (z := 8 * (13 + k) + u) (by omega) (by omega), mm_wi (z := u + 1) (by omega) (by omega), g61]
          refine ⟨by omega, by omega, ihm (u + 1) _ (by omega) (by omega) (fun f hf => ?_) (fun w w1 w2 => ?_) (fun x j d1 d2 => ?_)⟩
          · have hf2 := hf
            unfold kk_q4 at hf2
            rw [mm_upf (by omega)]; exact b3 f hf
          · by_cases z : w = u
            · rw [z, mm_ups]
            · rw [mm_upj (by omega)]; exact b4 w w1 (by omega)
          · rw [mm_upne' (fun w => d2 ⟨w.1, by omega, by omega⟩)]; exact b5 x j d1 d2
      refine L2 8 0 _ (by omega) (by omega) (fun f hf => ?_) (fun w w1 w2 => by omega) (fun x j d1 d2 => ?_)
      · have s57 := src 57 (by unfold kk_q4; omega)
        have s58 := src 58 (by unfold kk_q4; omega)
        have s59 := src 59 (by unfold kk_q4; omega)
        have s60 := src 60 (by unfold kk_q4; omega)
        unfold kk_q4 at hf
        rcases hf with rfl | rfl | rfl | rfl <;> simp [mm_up, *]
      · have c : ∀ f, (f = 57 ∨ f = 58 ∨ f = 59 ∨ f = 60) → ¬ (x = (f, 0, 0) ∧ j = 13 + k) := fun f hf w => d1 ⟨by rcases hf with rfl | rfl | rfl | rfl <;> simp [w.1], w.2⟩
        rw [mm_upne' (c 60 (by omega)), mm_upne' (c 59 (by omega)), mm_upne' (c 58 (by omega)), mm_upne' (c 57 (by omega))]
  rw [r_208_e (hy := hy)]
  exact L 13 0 _ _ (by omega) (by omega) mm_ups (fun q f a b => by omega) (fun q u a b => by omega) (fun q n a b => by omega) (fun x j _ b => mm_upne' b)
/-- the cls puts down -/
theorem s64 (hx : 5275 ≤ nx) (hR : kk_R hi) (hw : ∀ t n, 0 ≤ t → t < 18 → 1 ≤ n → n < 37 → kk_nw hi t n) (ha : ∀ t, 13 ≤ t → t < 18 → hi (22, t, 0) 2 = 1)
    (K : ∀ h2, kk_R h2 → (∀ i n, 0 ≤ i → i < 5 → hi (31, i, 0) 6 ≠ 0 → 1 ≤ n → n < 37 → kk_cpd h2 (13 + i) n hi i n) → (∀ i, 0 ≤ i → i < 5 → h2 (31, i, 0) 6 = 0) → h2 (1, 0, 0) 13 = 0 →
      (∀ x j, ¬ kk_ct x j → ¬ (∃ i, (0 ≤ i ∧ i < 5) ∧ hi (31, i, 0) 6 ≠ 0 ∧ kk_tr (13 + i) 1 37 x) → ¬ (∃ i, (0 ≤ i ∧ i < 5) ∧ x = (31, i, 0) ∧ j = 6) → ¬ (x = (1, 0, 0) ∧ j = 13) → h2 x j = hi x j) → Q (zI (hi (1, 0, 0) 13)) (mm_z h2 dh nx ns)) :
    mm_Cl 64 [zR (1, 0, 0)] (mm_z hi dh nx ns) Q := by
  have L : ∀ (d : Nat) (k : Int) (h : mm_Id → Int → Int), 5 - k = d → 0 ≤ k → kk_R h → (∀ i n, 0 ≤ i → i < k → hi (31, i, 0) 6 ≠ 0 → 1 ≤ n → n < 37 → kk_cpd h (13 + i) n hi i n) → (∀ i, 0 ≤ i → i < k → h (31, i, 0) 6 = 0) →
      (∀ x j, ¬ kk_ct x j → ¬ (∃ i, (0 ≤ i ∧ i < k) ∧ hi (31, i, 0) 6 ≠ 0 ∧ kk_tr (13 + i) 1 37 x) → ¬ (∃ i, (0 ≤ i ∧ i < k) ∧ x = (31, i, 0) ∧ j = 6) → h x j = hi x j) → mm_Wp 64 (mm_blk 64 1) [zR (1, 0, 0), zI k] [] (mm_z h dh nx ns) Q := by
    intro d
    induction d with
    | zero =>
      intro k h e1 e2 a1 a2 a3 a4
      have e3 : k = 5 := by omega
      subst e3
      rw [r_64_1 (hx := hx), if_neg (by omega), a4 (1, 0, 0) 13 (by unfold kk_ct; simp) (by unfold kk_tr; simp) (by simp)]
      refine K _ (kk_Rup (by omega) a1) (fun i n b1 b2 b3 b4 b5 => ?_) (fun i b1 b2 => by rw [mm_upf (by decide)]; exact a3 i b1 b2) mm_ups (fun x j b1 b2 b3 b4 => by rw [mm_upne' b4]; exact a4 x j b1 b2 b3)
      obtain ⟨⟨w1, w2, w3, w4⟩, w5, w6⟩ := a2 i n b1 b2 b3 b4 b5
      exact ⟨⟨fun f hf => by rw [mm_upf (by decide)]; exact w1 f hf, fun q e y1 y2 => by rw [mm_upf (by decide), mm_upf (by decide)]; exact w2 q e y1 y2, fun q e y1 y2 => by rw [mm_upf (by decide)]; exact w3 q e y1 y2, fun e y1 y2 => by rw [mm_upf (by decide), mm_upf (by decide)]; exact w4 e y1 y2⟩, by rw [mm_upf (by decide)]; exact w5, fun p y1 y2 => by rw [mm_upf (by decide)]; exact w6 p y1 y2⟩
    | succ d ih =>
      intro k h e1 e2 a1 a2 a3 a4
      have k6 : h (31, k, 0) 6 = hi (31, k, 0) 6 := a4 _ _ (by unfold kk_ct; simp) (by unfold kk_tr; simp) (by
        rintro ⟨i, i1, i2, _⟩
        injection i2 with _ i2
        injection i2 with i2
        omega)
      have nd : ∀ f t n j, (24 ≤ f ∧ f ≤ 30) → (0 ≤ t ∧ t < 18) → ¬ (∃ i, (0 ≤ i ∧ i < k) ∧ t = 13 + i) → h (f, t, n) j = hi (f, t, n) j := fun f t n j hf ht hn => a4 _ _ (kk_ctn hf.1) (by
        rintro ⟨i, i1, i2, i3⟩
        exact hn ⟨i, i1, i3.2.2.1⟩) (by
        rintro ⟨i, i1, i2, _⟩
        injection i2 with i2
        omega)
      rw [r_64_1 (hx := hx), if_pos (by omega), k6]
      refine ⟨by omega, ?_⟩
      split
      · rename_i h1
        rw [r_64_2 (hx := hx), mm_wi (by omega) (by omega)]
        refine ih (k + 1) h (by omega) (by omega) a1 (fun i n b1 b2 b3 b4 b5 => ?_) (fun i b1 b2 => ?_) (fun x j b1 b2 b3 => a4 x j b1 (fun ⟨i, i1, i2⟩ => b2 ⟨i, by omega, i2⟩) (fun ⟨i, i1, i2⟩ => b3 ⟨i, by omega, i2⟩))
        · by_cases z : i = k
          · rw [z] at b3; exact absurd h1 b3
          · exact a2 i n b1 (by omega) b3 b4 b5
        · by_cases z : i = k
          · rw [z, k6]; exact h1
          · exact a3 i b1 (by omega)
      · rename_i h1
        have hT : mm_isT (13 + k) := Or.inl ⟨by omega, by omega⟩
        have hT2 : mm_isT k := Or.inl ⟨by omega, by omega⟩
        have nwk : ∀ t, (0 ≤ t ∧ t < 18) → ¬ (∃ i, (0 ≤ i ∧ i < k) ∧ t = 13 + i) → ∀ n, 1 ≤ n → n < 37 → kk_nw h t n := fun t ht hn n n1 n2 => by
          have q := hw t n ht.1 ht.2 n1 n2
          unfold kk_nw at q ⊢
          rw [nd 24 t n 14 (by omega) ht hn, nd 24 t n 11 (by omega) ht hn, nd 24 t n 9 (by omega) ht hn, kk_nzc (g := hi (27, t, n)) (fun p _ _ => nd 27 t n p (by omega) ht hn)]
          exact q
        refine ⟨by omega, by omega, s165 hT hT2 hx (by omega) a1 (nwk (13 + k) (by omega) (by omega)) (nwk k (by omega) (by omega)) ?_ (fun g b1 b2 b3 => ?_)⟩
        · rw [a4 (22, 13 + k, 0) 2 (by unfold kk_ct; simp) (by unfold kk_tr; simp) (by simp), ha _ (by omega) (by omega)]
          unfold kk_as
          rw [if_neg (by omega)]
        · rw [mm_pU, r_64_1_20 (hx := hx), r_64_2 (hx := hx), mm_wi (by omega) (by omega)]
          have gk : ∀ x j, ¬ kk_ct x j → ¬ kk_tr (13 + k) 1 37 x → mm_up g (31, k, 0) 6 0 x j = if x = (31, k, 0) ∧ j = 6 then 0 else h x j := fun x j c1 c2 => by
            unfold mm_up
            split
            · rfl
            · exact b3 x j c1 c2
          refine ⟨by omega, ih (k + 1) _ (by omega) (by omega) (kk_Rup (by omega) b1) (fun i n c1 c2 c3 c4 c5 => ?_) (fun i c1 c2 => ?_) (fun x j c1 c2 c3 => ?_)⟩
          · by_cases z : i = k
            · subst z
              obtain ⟨⟨w1, w2, w3, w4⟩, w5, w6⟩ := b2 n c4 c5
              have s0 := nd 24 i n 0 (by omega) (by omega) (by omega)
              have s11 := nd 24 i n 11 (by omega) (by omega) (by omega)
              refine ⟨⟨fun f hf => by rw [mm_upf (by decide), w1 f hf, nd 24 i n f (by omega) (by omega) (by omega)], fun q e y1 y2 => ?_, fun q e y1 y2 => ?_, fun e y1 y2 => ?_⟩, by rw [mm_upf (by decide), w5, nd 24 i n 9 (by omega) (by omega) (by omega)], fun p y1 y2 => by rw [mm_upf (by decide), w6 p y1 y2, nd 27 i n p (by omega) (by omega) (by omega)]⟩
              · obtain ⟨r1, r2⟩ := w2 (by rw [s0]; exact q) e y1 y2
                rw [mm_upf (by decide), mm_upf (by decide), r1, r2, nd 25 i n e (by omega) (by omega) (by omega), nd 26 i n e (by omega) (by omega) (by omega)]
                exact ⟨rfl, rfl⟩
              · rw [mm_upf (by decide), w3 (by rw [s0]; exact q) e y1 y2, nd 30 i n e (by omega) (by omega) (by omega)]
              · obtain ⟨r1, r2⟩ := w4 e y1 (by rw [s11]; exact y2)
                rw [mm_upf (by decide), mm_upf (by decide), r1, r2, nd 28 i n e (by omega) (by omega) (by omega), nd 29 i n e (by omega) (by omega) (by omega)]
                exact ⟨rfl, rfl⟩
            · have kp : ∀ f j, 24 ≤ f → mm_up g (31, k, 0) 6 0 (f, 13 + i, n) j = h (f, 13 + i, n) j := fun f j hf => by
                rw [gk _ _ (kk_ctn hf) (by unfold kk_tr; intro q; have q3 : 13 + i = 13 + k := q.2.2.1; omega), if_neg (by
                  rintro ⟨q, _⟩
                  injection q with _ q
                  injection q with q1 q2
                  omega)]
              obtain ⟨⟨w1, w2, w3, w4⟩, w5, w6⟩ := a2 i n c1 (by omega) c3 c4 c5
              exact ⟨⟨fun f hf => by rw [kp 24 f (by omega)]; exact w1 f hf, fun q e y1 y2 => by rw [kp 25 e (by omega), kp 26 e (by omega)]; exact w2 q e y1 y2, fun q e y1 y2 => by rw [kp 30 e (by omega)]; exact w3 q e y1 y2, fun e y1 y2 => by rw [kp 28 e (by omega), kp 29 e (by omega)]; exact w4 e y1 y2⟩, by rw [kp 24 9 (by omega)]; exact w5, fun p y1 y2 => by rw [kp 27 p (by omega)]; exact w6 p y1 y2⟩
          · by_cases z : i = k
            · rw [z, mm_ups]
            · rw [gk _ _ (by unfold kk_ct; simp) (by unfold kk_tr; simp), if_neg (by simp; exact z)]
              exact a3 i c1 (by omega)
          · rw [gk x j c1 (fun q => c2 ⟨k, ⟨e2, by omega⟩, h1, q⟩), if_neg (fun q => c3 ⟨k, ⟨e2, by omega⟩, q.1, q.2⟩)]
            exact a4 x j c1 (fun ⟨i, i1, i2⟩ => c2 ⟨i, by omega, i2⟩) (fun ⟨i, i1, i2⟩ => c3 ⟨i, by omega, i2⟩)
  rw [r_64_e (hx := hx)]
  exact L 5 0 hi (by omega) (by omega) hR (fun i n a b => by omega) (fun i a b => by omega) (fun x j _ _ _ => rfl)
end

