/-! crash, there -/
/-- the reference's heap, where what is kept is as another's -/
def kk_cg (P G : mm_Id → Int → Int) : Prop := (∀ (x : mm_Id) j, 40 ≤ x.1 → ¬ (∃ k, (0 ≤ k ∧ k < 13) ∧ kk_sx (13 + k) x j) → ¬ (x = (40, 0, 0) ∧ j = 0) → G x j = P x j) ∧ ∀ k n, 0 ≤ k → k < 13 → 1 ≤ n → n < 37 → kk_ms G (36 * (13 + k) + n - 1) P (36 * (13 + k) + n - 1)
theorem kk_unk {b : Int} {P G : mm_Id → Int → Int} {dh : Int → Int} (hc : kk_core b P dh) {i n : Int} (hi : 0 ≤ i ∧ i < 5) (hn : 1 ≤ n ∧ n < 37) (ms : ∀ n, 1 ≤ n → n < 37 → kk_ms G (36 * i + n - 1) P (36 * (13 + i) + n - 1)) : (G (41, 0, 0) (36 * i + n - 1) = 1 ∧ kk_ef G i n = 0) ↔ kk_uk P i n := by
  have sT : mm_isT (13 + i) := mm_T18 ⟨by omega, by omega⟩
  rw [(ms n hn.1 hn.2).1 41 kk_f41, kk_efcp ms, ← kk_ecf (fun n n0 n1 => kk_NRC hc (t := 13 + i) (n := n) (by omega) ⟨n0, n1⟩) (fun n n0 n1 => (kk_NWC hc sT ⟨n0, n1⟩).2.1.1), (kk_nf hc (s := 13 + i) (by omega) hn).1]
  unfold kk_uk
  constructor
  · rintro ⟨q, q2⟩
    exact ⟨q, by rw [(kk_TWC hc sT).1 n hn.1 hn.2 (by omega)]; exact q2⟩
  · rintro ⟨q, q2⟩
    exact ⟨q, by rw [← (kk_TWC hc sT).1 n hn.1 hn.2 (by omega)]; exact q2⟩
section
variable {P : mm_Id → Int → Int} {dh dh0 : Int → Int} {nx ns b : Int} {Q : mm_V → mm_H → Prop}
/-- all is as it was kept -/
theorem m267a (hy : 10581 ≤ nx) (hc : kk_core b P dh0) {G : mm_Id → Int → Int} {v1 v4 : mm_V} {x2 : Int} (g : kk_cg P G)
    (K : ∀ H v, (∀ a n, 0 ≤ a → a < 13 → 1 ≤ n → n < 37 → kk_ms H (36 * a + n - 1) P (36 * (13 + a) + n - 1)) → (∀ x j, ¬ (∃ a, (0 ≤ a ∧ a < 13) ∧ kk_sx a x j) → H x j = G x j) → mm_Wp 267 (mm_blk 267 7) [zR (40, 0, 0), v1, zI x2, zI 1, v] [] (mm_z H dh nx ns) Q) :
    mm_Wp 267 (mm_blk 267 3) [zR (40, 0, 0), v1, zI x2, zI 0, v4] [] (mm_z G dh nx ns) Q := by
  have Lp : ∀ (e : Nat) (k : Int) (H : mm_Id → Int → Int) (v : mm_V), 13 - k = e → 0 ≤ k → (∀ a n, 0 ≤ a → a < k → 1 ≤ n → n < 37 → kk_ms H (36 * a + n - 1) P (36 * (13 + a) + n - 1)) → (∀ x j, ¬ (∃ a, (0 ≤ a ∧ a < k) ∧ kk_sx a x j) → H x j = G x j) → mm_Wp 267 (mm_blk 267 3) [zR (40, 0, 0), v1, zI x2, zI k, v] [] (mm_z H dh nx ns) Q := by
    intro e
    induction e with
    | zero =>
      intro k H v e1 e2 i1 i2
      have e3 : k = 13 := by omega
      subst e3
      rw [r_267_3 (hy := hy), if_neg (by omega)]
      exact K H v i1 i2
    | succ e ih =>
      intro k H v e1 e2 i1 i2
      have hP : ∀ (f : Nat) j, 57 ≤ f → H (f, 0, 0) j = P (f, 0, 0) j := fun f j f0 => by
        rw [i2 _ _ (by rintro ⟨a, _, w⟩; exact kk_sx6 (by omega) w)]
        exact g.1 _ _ (by show 40 ≤ f; omega) (by rintro ⟨a, _, w⟩; exact kk_sx6 (by omega) w) (by rintro ⟨w, _⟩; simp at w; omega)
      have q4 : ∀ (f : Nat), kk_q4 f → mm_up H (f, 0, 0) k (H (f, 0, 0) (13 + k)) = H := fun f hf => by
        have f0 : 57 ≤ f := by unfold kk_q4 at hf; omega
        have w : H (f, 0, 0) (13 + k) = H (f, 0, 0) k := by rw [hP f _ f0, hP f _ f0]; exact hc.2.2.2.1 k f e2 (by omega) hf
        rw [w]; exact mm_upself _ _ _
      have q6 : ∀ u, 0 ≤ u → u < 8 → mm_up H (61, 0, 0) (8 * k + u) (H (61, 0, 0) (8 * (13 + k) + u)) = H := fun u u0 u1 => by
        have w : H (61, 0, 0) (8 * (13 + k) + u) = H (61, 0, 0) (8 * k + u) := by rw [hP 61 _ (by omega), hP 61 _ (by omega)]; exact hc.2.2.2.2.1 k u e2 (by omega) u0 u1
        rw [w]; exact mm_upself _ _ _
      have h01 : H (60, 0, 0) (13 + k) = 0 ∨ H (60, 0, 0) (13 + k) = 1 := by
        rw [hP 60 _ (by omega)]; exact hc.1.2.2.1.2.2.2.2.2.2.2.2.2.1 _ (by omega) (by omega)
      rw [r_267_3 (hy := hy), if_pos (by omega), mm_wi (z := 13 + k) (by omega) (by omega), q4 57 (by simp [kk_q4]), q4 58 (by simp [kk_q4]), q4 59 (by simp [kk_q4]), q4 60 (by simp [kk_q4])]
      refine ⟨⟨by omega, by omega⟩, ⟨by omega, by omega⟩, ⟨by omega, by omega⟩, ⟨by omega, by omega⟩, ⟨by omega, by omega⟩, ⟨by omega, by omega⟩, ⟨by omega, by omega⟩, ⟨h01, by omega, by omega⟩, ?_⟩
      have Lu : ∀ (m : Nat) (u : Int), 8 - u = m → 0 ≤ u → mm_Wp 267 (mm_blk 267 4) [zR (40, 0, 0), v1, zI x2, zI k, zI u] [] (mm_z H dh nx ns) Q := by
        intro m
        induction m with
        | zero =>
          intro u m1 m2
          rw [r_267_4 (hy := hy), if_neg (by omega), mm_wi (z := 13 + k) (by omega) (by omega)]
          have mk : ∀ n, 1 ≤ n → n < 37 → kk_ms H (36 * (13 + k) + n - 1) P (36 * (13 + k) + n - 1) := fun n n0 n1 => by
            have w := kk_mwC hc (s := 13 + k) (n := n) (by omega) ⟨n0, n1⟩
            have m := g.2 k n e2 (by omega) n0 n1
            refine kk_mst (kk_msr ?_ ?_ (fun x j hx2 => i2 x j (by
              rintro ⟨a, ha, q⟩
              exact kk_sxd (s := 13 + k) (s2 := a) (by omega) ⟨n, n0, n1, hx2⟩ q))) m
            · rw [m.1 44 kk_f44]; exact w.2.1.2
            · rw [m.1 49 kk_f49]; exact w.2.2.2
          refine m179 hy (by omega) (by omega) (by omega) (fun n n0 n1 => kk_mwm (mk n n0 n1) (kk_mwC hc (by omega) ⟨n0, n1⟩)) (fun H2 a1 a2 => ?_)
          rw [mm_pU, r_267_5_6 (hy := hy), mm_wi (by omega) (by omega)]
          refine ih (k + 1) H2 _ (by omega) (by omega) (fun a n a0 a1' n0 n1 => ?_) (fun x j q => ?_)
          · by_cases z : a = k
            · rw [z]; exact kk_mst (a1 n n0 n1) (mk n n0 n1)
            · have w := kk_mwC hc (s := 13 + a) (n := n) (by omega) ⟨n0, n1⟩
              have m := i1 a n a0 (by omega) n0 n1
              refine kk_mst (kk_msr ?_ ?_ (fun x j hx2 => a2 x j (kk_sxd (s := a) (by omega) ⟨n, n0, n1, hx2⟩))) m
              · rw [m.1 44 kk_f44]; exact w.2.1.2
              · rw [m.1 49 kk_f49]; exact w.2.2.2
          · rw [a2 x j (fun w => q ⟨k, by omega, w⟩)]
            exact i2 x j (by
              rintro ⟨a, ha, w⟩
              exact q ⟨a, by omega, w⟩)
        | succ m ih2 =>
          intro u m1 m2
          rw [r_267_4 (hy := hy), if_pos (by omega), mm_wi (z := 13 + k) (by omega) (by omega), mm_wi (z := 8 * (13 + k)) (by omega) (by omega), mm_wi (z := 8 * (13 + k) + u) (by omega) (by omega), mm_wi (z := 8 * k) (by omega) (by omega), mm_wi (z := 8 * k + u) (by omega) (by omega), mm_wi (z := u + 1) (by omega) (by omega), q6 u m2 (by omega)]
          exact ⟨⟨by omega, by omega⟩, ⟨by omega, by omega⟩, ih2 (u + 1) (by omega) (by omega)⟩
      exact Lu 8 0 (by omega) (by omega)
  exact Lp 13 0 G v4 (by omega) (by omega) (fun a n a0 a1 => by omega) (fun _ _ _ => rfl)
/-- handles are forgotten -/
theorem m267b (hy : 10581 ≤ nx) {G : mm_Id → Int → Int} {v1 v4 : mm_V} {x2 : Int}
    (K : ∀ H : mm_Id → Int → Int, (∀ i, 1 ≤ i → i < 9 → H (63, 0, 0) i = 0) → (∀ a, 2160 ≤ a → a < 19440 → H (64, 0, 0) a = 0) → (∀ (x : mm_Id) j, x.1 ≠ 63 → x.1 ≠ 64 → H x j = G x j) → mm_Wp 267 (mm_blk 267 9) [zR (40, 0, 0), v1, zI x2, zI 0, v4] [] (mm_z (mm_up (mm_up H (40, 0, 0) 29 0) (40, 0, 0) 30 0) dh nx ns) Q) :
    mm_Wp 267 (mm_blk 267 7) [zR (40, 0, 0), v1, zI x2, zI 1, v4] [] (mm_z G dh nx ns) Q := by
  have Lp : ∀ (e : Nat) (k : Int) (H : mm_Id → Int → Int), 9 - k = e → 1 ≤ k → (∀ i, 1 ≤ i → i < k → H (63, 0, 0) i = 0) → (∀ a, 2160 ≤ a → a < 2160 * k → H (64, 0, 0) a = 0) → (∀ (x : mm_Id) j, x.1 ≠ 63 → x.1 ≠ 64 → H x j = G x j) → mm_Wp 267 (mm_blk 267 7) [zR (40, 0, 0), v1, zI x2, zI k, v4] [] (mm_z H dh nx ns) Q := by
    intro e
    induction e with
    | zero =>
      intro k H e1 e2 i1 i2 i3
      have e3 : k = 9 := by omega
      subst e3
      rw [r_267_7 (hy := hy), if_pos (by omega)]
      exact K H i1 (fun a a0 a1 => i2 a a0 (by omega)) i3
    | succ e ih =>
      intro k H e1 e2 i1 i2 i3
      rw [r_267_7 (hy := hy), if_neg (by omega)]
      refine m192 hy (by omega) (fun H2 a1 a2 a3 => ?_)
      rw [mm_pU, r_267_7_6 (hy := hy), mm_wi (by omega) (by omega)]
      refine ih (k + 1) H2 (by omega) (by omega) (fun i i0 i1' => ?_) (fun a a0 a1' => ?_) (fun x j q q2 => ?_)
      · by_cases z : i = k
        · rw [z]; exact a1
        · rw [a3 _ _ (fun w => z w.2) (by simp)]; exact i1 i i0 (by omega)
      · by_cases z : a < 2160 * k
        · rw [a3 _ _ (by simp) (fun w => by omega)]; exact i2 a a0 z
        · have := a2 (a - 2160 * k) (by omega) (by omega)
          rw [show 2160 * k + (a - 2160 * k) = a by omega] at this
          exact this
      · rw [a3 x j (by rintro ⟨v, _⟩; rw [v] at q; exact q rfl) (by rintro ⟨v, _⟩; rw [v] at q2; exact q2 rfl)]
        exact i3 x j q q2
  exact Lp 8 1 G (by omega) (by omega) (fun i i0 i1 => by omega) (fun a a0 a1 => by omega) (fun _ _ _ _ => rfl)
/-- trees are taken up -/
theorem m267c (hy : 10581 ≤ nx) (hc : kk_core b P dh0) {G : mm_Id → Int → Int} {v1 v4 : mm_V} {x2 : Int} (ms : ∀ a n, 0 ≤ a → a < 13 → 1 ≤ n → n < 37 → kk_ms G (36 * a + n - 1) P (36 * (13 + a) + n - 1)) (z63 : ∀ i, 1 ≤ i → i < 9 → G (63, 0, 0) i = 0)
    (K : ∀ H v, (∀ a n, 0 ≤ a → a < 5 → 1 ≤ n → n < 37 → kk_uk P a n → kk_mz H (36 * a + n - 1)) → (∀ x j, ¬ (∃ a n, (0 ≤ a ∧ a < 5) ∧ (1 ≤ n ∧ n < 37) ∧ kk_uk P a n ∧ kk_cx (36 * a + n - 1) x j) → H x j = G x j) → mm_Wp 267 (mm_blk 267 9) [zR (40, 0, 0), v1, zI x2, zI 5, v] [] (mm_z H dh nx ns) Q) :
    mm_Wp 267 (mm_blk 267 9) [zR (40, 0, 0), v1, zI x2, zI 0, v4] [] (mm_z G dh nx ns) Q := by
  have Lp : ∀ (e : Nat) (k : Int) (H : mm_Id → Int → Int), 5 - k = e → 0 ≤ k → (∀ a n, 0 ≤ a → a < k → 1 ≤ n → n < 37 → kk_uk P a n → kk_mz H (36 * a + n - 1)) → (∀ x j, ¬ (∃ a n, (0 ≤ a ∧ a < k) ∧ (1 ≤ n ∧ n < 37) ∧ kk_uk P a n ∧ kk_cx (36 * a + n - 1) x j) → H x j = G x j) → mm_Wp 267 (mm_blk 267 9) [zR (40, 0, 0), v1, zI x2, zI k, v4] [] (mm_z H dh nx ns) Q := by
    intro e
    induction e with
    | zero =>
      intro k H e1 e2 i1 i2
      have e3 : k = 5 := by omega
      subst e3
      exact K H v4 i1 i2
    | succ e ih =>
      intro k H e1 e2 i1 i2
      have mk : ∀ n, 1 ≤ n → n < 37 → kk_ms H (36 * k + n - 1) P (36 * (13 + k) + n - 1) := fun n n0 n1 => by
        have w := kk_mwC hc (s := 13 + k) (n := n) (by omega) ⟨n0, n1⟩
        have m := ms k n e2 (by omega) n0 n1
        refine kk_mst (kk_msr ?_ ?_ (fun x j hx2 => i2 x j (by
          rintro ⟨a, n2, ha, hn2, _, q⟩
          exact kk_mxd (a := 36 * k + n - 1) (b := 36 * a + n2 - 1) (by omega) hx2 (kk_cxm q)))) m
        · rw [m.1 44 kk_f44]; exact w.2.1.2
        · rw [m.1 49 kk_f49]; exact w.2.2.2
      have U : ∀ n, 1 ≤ n → n < 37 → ((H (41, 0, 0) (36 * k + n - 1) = 1 ∧ kk_ef H k n = 0) ↔ kk_uk P k n) := fun n n0 n1 => kk_unk hc ⟨e2, by omega⟩ ⟨n0, n1⟩ mk
      have h63 : ∀ i, 1 ≤ i → i < 9 → H (63, 0, 0) i = 0 := fun i i0 i1' => by
        rw [i2 _ _ (by
          rintro ⟨a, n2, ha, hn2, _, q⟩
          unfold kk_cx at q
          simp at q)]
        exact z63 i i0 i1'
      rw [r_267_9 (hy := hy), if_pos (by omega)]
      refine m194 hy (by omega) (fun n n0 n1 => ?_) (fun n n0 n1 => ?_) (fun H2 a1 a2 a3 => ?_)
      · rw [(mk n n0 n1).1 44 kk_f44]; exact (kk_mwC hc (s := 13 + k) (by omega) ⟨n0, n1⟩).2.1
      · rw [(mk n n0 n1).1 44 kk_f44, (mk n n0 n1).1 41 kk_f41]
        intro w
        exact (kk_MWC hc (s := 13 + k) (by omega) ⟨n0, n1⟩).2.2.1 (by omega)
      · have fr : ∀ x j, ¬ (∃ n, (1 ≤ n ∧ n < 37) ∧ kk_uk P k n ∧ kk_cx (36 * k + n - 1) x j) → H2 x j = H x j := fun x j q => a3 x j (by
          rintro ⟨i, i0, i1', ⟨w, _⟩, _⟩
          have := h63 i i0 i1'
          omega) (by
          rintro ⟨n, n0, n1, w, v⟩
          exact q ⟨n, ⟨n0, n1⟩, (U n n0 n1).1 w, v⟩)
        rw [mm_pU, r_267_9_6 (hy := hy), mm_wi (by omega) (by omega)]
        refine ih (k + 1) H2 (by omega) (by omega) (fun a n a0 a1' n0 n1 q => ?_) (fun x j q => ?_)
        · by_cases z : a = k
          · rw [z] at q ⊢; exact a2 n n0 n1 ((U n n0 n1).2 q)
          · have m := i1 a n a0 (by omega) n0 n1 q
            have e : ∀ x j, kk_cx (36 * a + n - 1) x j → H2 x j = H x j := fun x j hx2 => fr x j (by
              rintro ⟨n2, hn2, _, w⟩
              exact kk_cxd (a := 36 * a + n - 1) (b := 36 * k + n2 - 1) (by omega) hx2 w)
            refine ⟨⟨?_, ?_, ?_, ?_⟩, fun p p0 p1 => ?_⟩
            · rw [e _ _ (Or.inl ⟨by simp, rfl⟩)]; exact m.1.1
            · rw [e _ _ (Or.inl ⟨by simp, rfl⟩)]; exact m.1.2.1
            · rw [e _ _ (Or.inl ⟨by simp, rfl⟩)]; exact m.1.2.2.1
            · rw [e _ _ (Or.inl ⟨by simp, rfl⟩)]; exact m.1.2.2.2
            · rw [e _ _ (Or.inr ⟨rfl, by omega, by omega⟩)]; exact m.2 p p0 p1
        · rw [fr x j (by
            rintro ⟨n, hn, w, v⟩
            exact q ⟨k, n, by omega, hn, w, v⟩)]
          exact i2 x j (by
            rintro ⟨a, n, ha, hn, w, v⟩
            exact q ⟨a, n, by omega, hn, w, v⟩)
  exact Lp 5 0 G (by omega) (by omega) (fun a n a0 a1 => by omega) (fun _ _ _ => rfl)
theorem m267p (hy : 10581 ≤ nx) (hc : kk_core b P dh0) {G : mm_Id → Int → Int} {v1 v2 v3 v4 : mm_V} (hv1 : mm_wt v1 = 1) (g : kk_cg P G)
    (K : ∀ g1 gm v3 v4, (∀ a n, 0 ≤ a → a < 13 → 1 ≤ n → n < 37 → kk_ms g1 (36 * a + n - 1) P (36 * (13 + a) + n - 1)) → (∀ x j, ¬ (∃ a, (0 ≤ a ∧ a < 13) ∧ kk_sx a x j) → g1 x j = G x j) →
      (∀ a n, (0 ≤ a ∧ a < 5 ∧ kk_uk P a n) ∨ a = 26 ∨ a = 27 → 1 ≤ n → n < 37 → kk_mz gm (36 * a + n - 1)) → (∀ a n x j, ¬ ((0 ≤ a ∧ a < 5 ∧ kk_uk P a n) ∨ a = 26 ∨ a = 27) → 1 ≤ n → n < 37 → kk_mx (36 * a + n - 1) x j → gm x j = g1 x j) → (∀ j, gm (53, 0, 0) j = g1 (53, 0, 0) j) →
      (∀ (x : mm_Id) j, x.1 < 41 ∨ 53 < x.1 → x.1 ≠ 63 → x.1 ≠ 64 → ¬ (x = (40, 0, 0) ∧ (j = 29 ∨ j = 30 ∨ j = 34)) → gm x j = G x j) → (∀ i, 1 ≤ i → i < 9 → gm (63, 0, 0) i = 0) → (∀ a, 2160 ≤ a → a < 19440 → gm (64, 0, 0) a = 0) → (gm (40, 0, 0) 29 = 0 ∧ gm (40, 0, 0) 30 = 0 ∧ gm (40, 0, 0) 34 = 0) →
      mm_Cl 208 [zR (40, 0, 0)] (mm_z gm dh nx ns) (fun r h3 => mm_Wp 267 (bk_267_10.drop 11) [zR (40, 0, 0), v1, zI (G (40, 0, 0) 33), v3, v4] (mm_push r []) h3 Q)) :
    mm_Wp 267 (mm_blk 267 2) [zR (40, 0, 0), v1, v2, v3, v4] [] (mm_z G dh nx ns) Q := by
  rw [r_267_2 (hvx1 := hv1) (hy := hy)]
  refine m267a hy hc g (fun g1 w1 p1 p2 => ?_)
  refine m267b hy (fun g2 q1 q2 q3 => ?_)
  obtain ⟨g3, hg3⟩ : ∃ q, q = mm_up (mm_up g2 (40, 0, 0) 29 0) (40, 0, 0) 30 0 := ⟨_, rfl⟩
  rw [← hg3]
  have f3 : ∀ (x : mm_Id) j, ¬ (x = (40, 0, 0) ∧ (j = 29 ∨ j = 30)) → g3 x j = g2 x j := fun x j q => by rw [hg3, mm_upne' (fun v => q ⟨v.1, Or.inr v.2⟩), mm_upne' (fun v => q ⟨v.1, Or.inl v.2⟩)]
  have s3 : ∀ (x : mm_Id) j, 41 ≤ x.1 → x.1 ≤ 53 → g3 x j = g1 x j := fun x j q q2 => by rw [f3 x j (by rintro ⟨v, _⟩; rw [v] at q; simp at q), q3 x j (by omega) (by omega)]
  have ms3 : ∀ a n, 0 ≤ a → a < 13 → 1 ≤ n → n < 37 → kk_ms g3 (36 * a + n - 1) P (36 * (13 + a) + n - 1) := fun a n a0 a1 n0 n1 => by
    have w := kk_mwC hc (s := 13 + a) (n := n) (by omega) ⟨n0, n1⟩
    have m := p1 a n a0 a1 n0 n1
    refine kk_mst (kk_msr ?_ ?_ (fun x j hx2 => by have r := kk_mxr hx2; exact s3 x j r.1 r.2)) m
    · rw [m.1 44 kk_f44]; exact w.2.1.2
    · rw [m.1 49 kk_f49]; exact w.2.2.2
  refine m267c hy hc ms3 (fun i i0 i1 => by rw [f3 _ _ (by simp)]; exact q1 i i0 i1) (fun g4 w4 r1 r2 => ?_)
  rw [r_267_9 (hy := hy), if_neg (by decide)]
  refine m249 hy (by omega) (fun g5 t1 t2 => ?_)
  rw [mm_pU, r_267_10_6 (hy := hy)]
  refine m249 hy (by omega) (fun g6 u1 u2 => ?_)
  rw [mm_pU, r_267_10_9 (hy := hy)]
  have o6 : ∀ (x : mm_Id) j, x.1 < 41 ∨ 53 < x.1 → ¬ (x = (40, 0, 0) ∧ j = 34) → g6 x j = g3 x j := fun x j q q4 => by
    rw [u2 x j (by rintro ⟨n, _, _, w⟩; have r := kk_mxr (kk_cxm w); omega), t2 x j (by rintro ⟨n, _, _, w⟩; have r := kk_mxr (kk_cxm w); omega), mm_upne' q4, r2 x j (by rintro ⟨a, n, _, _, _, w⟩; have r := kk_mxr (kk_cxm w); omega)]
  have c45 : ∀ (x : mm_Id) j, 41 ≤ x.1 → mm_up g4 (40, 0, 0) 34 0 x j = g4 x j := fun x j q => mm_upne' (by rintro ⟨v, _⟩; rw [v] at q; simp at q)
  have mx6 : ∀ a n x j, ¬ ((0 ≤ a ∧ a < 5 ∧ kk_uk P a n) ∨ a = 26 ∨ a = 27) → 1 ≤ n → n < 37 → kk_mx (36 * a + n - 1) x j → g6 x j = g1 x j := fun a n x j q n0 n1 hx2 => by
    have r := kk_mxr hx2
    rw [u2 x j (by
      rintro ⟨m, m0, m1, w⟩
      exact kk_mxd (a := 36 * a + n - 1) (b := 36 * 27 + m - 1) (by omega) hx2 (kk_cxm w)), t2 x j (by
      rintro ⟨m, m0, m1, w⟩
      exact kk_mxd (a := 36 * a + n - 1) (b := 36 * 26 + m - 1) (by omega) hx2 (kk_cxm w)), c45 x j r.1, r2 x j (by
      rintro ⟨c, m, hc2, hm, w, v⟩
      by_cases z : 36 * a + n - 1 = 36 * c + m - 1
      · have z1 : a = c := by omega
        have z2 : n = m := by omega
        rw [z1, z2] at q
        exact q (Or.inl ⟨hc2.1, hc2.2, w⟩)
      · exact kk_mxd z hx2 (kk_cxm v)), s3 x j r.1 r.2]
  refine K g1 g6 _ _ p1 p2 (fun a n q n0 n1 => ?_) mx6 (fun j => ?_) (fun x j q q4 q5 q7 => ?_) (fun i i0 i1 => ?_) (fun a a0 a1 => ?_) ⟨?_, ?_, ?_⟩
  · have mze : ∀ (A B : mm_Id → Int → Int) k, (∀ x j, kk_cx k x j → A x j = B x j) → kk_mz B k → kk_mz A k := fun A B k e m => by
      refine ⟨⟨?_, ?_, ?_, ?_⟩, fun p p0 p1 => ?_⟩
      · rw [e _ _ (Or.inl ⟨by simp, rfl⟩)]; exact m.1.1
      · rw [e _ _ (Or.inl ⟨by simp, rfl⟩)]; exact m.1.2.1
      · rw [e _ _ (Or.inl ⟨by simp, rfl⟩)]; exact m.1.2.2.1
      · rw [e _ _ (Or.inl ⟨by simp, rfl⟩)]; exact m.1.2.2.2
      · rw [e _ _ (Or.inr ⟨rfl, by omega, by omega⟩)]; exact m.2 p p0 p1
    rcases q with q | q | q
    · refine mze g6 g4 _ (fun x j hx2 => ?_) (r1 a n q.1 q.2.1 n0 n1 q.2.2)
      have r := kk_mxr (kk_cxm hx2)
      rw [u2 x j (by
        rintro ⟨m, m0, m1, w⟩
        exact kk_cxd (a := 36 * a + n - 1) (b := 36 * 27 + m - 1) (by omega) hx2 w), t2 x j (by
        rintro ⟨m, m0, m1, w⟩
        exact kk_cxd (a := 36 * a + n - 1) (b := 36 * 26 + m - 1) (by omega) hx2 w), c45 x j r.1]
    · rw [q]
      refine mze g6 g5 _ (fun x j hx2 => ?_) (t1 n n0 n1)
      exact u2 x j (by
        rintro ⟨m, m0, m1, w⟩
        exact kk_cxd (a := 36 * 26 + n - 1) (b := 36 * 27 + m - 1) (by omega) hx2 w)
    · rw [q]; exact u1 n n0 n1
  · have c53 : ∀ k, ¬ kk_cx k (53, 0, 0) j := fun k w => by unfold kk_cx at w; simp at w
    rw [u2 _ _ (by rintro ⟨n, _, _, w⟩; exact c53 _ w), t2 _ _ (by rintro ⟨n, _, _, w⟩; exact c53 _ w), c45 _ _ (by decide), r2 _ _ (by rintro ⟨a, n, _, _, _, w⟩; exact c53 _ w), s3 _ _ (by decide) (by decide)]
  · rw [o6 x j q (fun v => q7 ⟨v.1, by omega⟩), f3 x j (fun v => q7 ⟨v.1, by omega⟩), q3 x j q4 q5]
    exact p2 x j (by rintro ⟨a, _, w⟩; exact kk_sx6 q w)
  · rw [o6 _ _ (by decide) (by simp), f3 _ _ (by simp)]; exact q1 i i0 i1
  · rw [o6 _ _ (by decide) (by simp), f3 _ _ (by simp)]; exact q2 a a0 a1
  · rw [o6 _ _ (by decide) (by simp), hg3, mm_upj (by decide), mm_ups]
  · rw [o6 _ _ (by decide) (by simp), hg3, mm_ups]
  · have c40 : ∀ k, ¬ kk_cx k (40, 0, 0) 34 := fun k w => by unfold kk_cx at w; simp at w
    rw [u2 _ _ (by rintro ⟨n, _, _, w⟩; exact c40 _ w), t2 _ _ (by rintro ⟨n, _, _, w⟩; exact c40 _ w), mm_ups]
end

