/-! the reference: blocks counted, blocks found -/
noncomputable def kk_cnt (P : Int → Prop) : Int := mm_sm (fun b => kk_b (1 ≤ b ∧ P b)) 3001
theorem kk_cntc {P R : Int → Prop} (h : ∀ b, 1 ≤ b → b ≤ 3000 → (P b ↔ R b)) : kk_cnt P = kk_cnt R := sm_congr _ (fun b _ b2 => by
  by_cases c : 1 ≤ (b : Int)
  · have := h b c (by omega)
    by_cases d : P b
    · rw [kk_b1 ⟨c, d⟩, kk_b1 ⟨c, this.1 d⟩]
    · rw [kk_b0 (fun q => d q.2), kk_b0 (fun q => d (this.2 q.2))]
  · rw [kk_b0 (fun q => c q.1), kk_b0 (fun q => c q.1)])
theorem kk_cnt1 {P R : Int → Prop} {v : Int} (hv : 1 ≤ v ∧ v ≤ 3000) (hn : ¬ P v) (h : ∀ b, 1 ≤ b → b ≤ 3000 → (R b ↔ P b ∨ b = v)) : kk_cnt R = kk_cnt P + 1 := by
  have e := sm_one (f := fun b => kk_b (1 ≤ b ∧ P b)) (g := fun b => kk_b (1 ≤ b ∧ R b)) 3001 v (by omega) (by omega) (fun b b1 b2 b3 => by
    by_cases c : 1 ≤ (b : Int)
    · have := h b c (by omega)
      by_cases d : P b
      · rw [kk_b1 ⟨c, this.2 (Or.inl d)⟩, kk_b1 ⟨c, d⟩]
      · rw [kk_b0 (fun q => by rcases this.1 q.2 with w | w; exact d w; exact b3 w), kk_b0 (fun q => d q.2)]
    · rw [kk_b0 (fun q => c q.1), kk_b0 (fun q => c q.1)])
  have e2 : kk_b (1 ≤ v ∧ R v) = 1 := kk_b1 ⟨hv.1, (h v hv.1 hv.2).2 (Or.inr rfl)⟩
  have e3 : kk_b (1 ≤ v ∧ P v) = 0 := kk_b0 (fun q => hn q.2)
  rw [e2, e3] at e
  exact e
theorem kk_cnt0 {P : Int → Prop} (h : ∀ b, 1 ≤ b → b ≤ 3000 → ¬ P b) : kk_cnt P = 0 := sm_zero _ (fun b _ b2 => by
  by_cases c : 1 ≤ (b : Int)
  · exact kk_b0 (fun q => h b c (by omega) q.2)
  · exact kk_b0 (fun q => c q.1))
theorem kk_cntle {P R : Int → Prop} (h : ∀ b, 1 ≤ b → b ≤ 3000 → P b → R b) : kk_cnt P ≤ kk_cnt R := sm_le _ (fun b _ b2 => by
  by_cases c : 1 ≤ (b : Int) ∧ P b
  · rw [kk_b1 c, kk_b1 ⟨c.1, h b c.1 (by omega) c.2⟩]; exact Int.le_refl 1
  · rw [kk_b0 c]; exact (kk_bb _).1)
theorem kk_cntnn (P : Int → Prop) : 0 ≤ kk_cnt P := sm_nn _ (fun _ _ _ => (kk_bb _).1)
theorem kk_cntub (P : Int → Prop) : kk_cnt P ≤ 3001 := by
  have := sm_ub (f := fun b => kk_b (1 ≤ b ∧ P b)) 1 3001 (fun _ _ _ => (kk_bb _).2)
  exact this
theorem kk_cntex {P : Int → Prop} (h : kk_cnt P < 3000) : ∃ b, 1 ≤ b ∧ b ≤ 3000 ∧ ¬ P b := by
  apply Classical.byContradiction
  intro hn
  have h2 : mm_sm (fun b => if 1 ≤ b then 1 else 0) 3001 ≤ kk_cnt P := sm_le _ (fun b _ b2 => by
    by_cases c : 1 ≤ (b : Int)
    · rw [if_pos c, kk_b1 ⟨c, Classical.byContradiction (fun q => hn ⟨b, c, by omega, q⟩)⟩]; exact Int.le_refl 1
    · rw [if_neg c]; exact (kk_bb _).1)
  have h3 : mm_sm (fun r => if 1 ≤ r then 1 else 0) 3001 = mm_sm (fun _ => 1) 3001 + ((if (1 : Int) ≤ 0 then 1 else 0) - 1) := sm_one 3001 0 (by omega) (by omega) (fun i a b c => by rw [if_pos (by omega)])
  rw [h3, sm_mul, if_neg (by omega)] at h2
  omega
/-- a slot has a block -/
def kk_bs (h : mm_Id → Int → Int) (s b : Int) : Prop := ∃ n p, (1 ≤ n ∧ n < 37) ∧ (0 ≤ p ∧ p < 36) ∧ h (41, 0, 0) (36 * s + n - 1) = 1 ∧ h (43, 0, 0) (36 * (36 * s + n - 1) + p) = b
/-- its pieces are blocks -/
def kk_br (h : mm_Id → Int → Int) (s : Int) : Prop := ∀ n p, 1 ≤ n → n < 37 → 0 ≤ p → p < 36 → 0 ≤ h (43, 0, 0) (36 * (36 * s + n - 1) + p) ∧ h (43, 0, 0) (36 * (36 * s + n - 1) + p) ≤ 3000
section
variable {hi : mm_Id → Int → Int} {dh : Int → Int} {nx ns : Int} {Q : mm_V → mm_H → Prop}
theorem m198 (hy : 10581 ≤ nx) (K : ∀ h2, (∀ b, 1 ≤ b → b ≤ 3000 → h2 (56, 0, 0) b = 0) → (∀ x j, ¬ (x = (56, 0, 0) ∧ 1 ≤ j ∧ j ≤ 3000) → h2 x j = hi x j) → Q zU (mm_z h2 dh nx ns)) : mm_Cl 198 [zR (40, 0, 0)] (mm_z hi dh nx ns) Q := by
  have L : ∀ (k : Nat) (i : Int) (h : mm_Id → Int → Int), 3001 - i = k → 1 ≤ i → (∀ b, 1 ≤ b → b < i → h (56, 0, 0) b = 0) → (∀ x j, ¬ (x = (56, 0, 0) ∧ 1 ≤ j ∧ j ≤ 3000) → h x j = hi x j) → mm_Wp 198 (mm_blk 198 1) [zR (40, 0, 0), zI i] [] (mm_z h dh nx ns) Q := by
    intro k
    induction k with
    | zero =>
      intro i h e1 e2 a1 a2
      rw [r_198_1 (hy := hy), if_pos (by omega)]
      exact K h (fun b b1 b2 => a1 b b1 (by omega)) a2
    | succ k ih =>
      intro i h e1 e2 a1 a2
      rw [r_198_1 (hy := hy), if_neg (by omega), mm_wi (by omega) (by omega)]
      refine ⟨by omega, ih (i + 1) _ (by omega) (by omega) (fun b b1 b2 => ?_) (fun x j b1 => ?_)⟩
      · by_cases c : b = i
        · rw [c, mm_ups]
        · rw [mm_upj c]; exact a1 b b1 (by omega)
      · rw [mm_upne' (fun q => b1 ⟨q.1, by omega, by omega⟩)]; exact a2 x j b1
  rw [r_198_e (hy := hy)]
  exact L 3000 1 hi (by omega) (by omega) (fun b b1 b2 => by omega) (fun x j _ => rfl)
/-- the blocks of a slot are marked as seen: how many were not -/
theorem m197 (hy : 10581 ≤ nx) {s : Int} (hs : 0 ≤ s ∧ s < 29) (hb : kk_br hi s)
    (K : ∀ h2, (∀ b, 1 ≤ b → b ≤ 3000 → (h2 (56, 0, 0) b ≠ 0 ↔ hi (56, 0, 0) b ≠ 0 ∨ kk_bs hi s b)) → (∀ x j, ¬ (x = (56, 0, 0) ∧ 1 ≤ j ∧ j ≤ 3000) → h2 x j = hi x j) → Q (zI (kk_cnt (fun b => h2 (56, 0, 0) b ≠ 0) - kk_cnt (fun b => hi (56, 0, 0) b ≠ 0))) (mm_z h2 dh nx ns)) :
    mm_Cl 197 [zR (40, 0, 0), zI s] (mm_z hi dh nx ns) Q := by
  have inner : ∀ (i : Int), 1 ≤ i → i < 37 → hi (41, 0, 0) (36 * s + i - 1) = 1 →
      (∀ h v4 v5, (∀ b, 1 ≤ b → b ≤ 3000 → (h (56, 0, 0) b ≠ 0 ↔ hi (56, 0, 0) b ≠ 0 ∨ ∃ n p, (1 ≤ n ∧ n < 37) ∧ (0 ≤ p ∧ p < 36) ∧ n < i + 1 ∧ hi (41, 0, 0) (36 * s + n - 1) = 1 ∧ hi (43, 0, 0) (36 * (36 * s + n - 1) + p) = b)) → (∀ x j, ¬ (x = (56, 0, 0) ∧ 1 ≤ j ∧ j ≤ 3000) → h x j = hi x j) →
        mm_Wp 197 (mm_blk 197 6) [zR (40, 0, 0), zI s, zI (kk_cnt (fun b => h (56, 0, 0) b ≠ 0) - kk_cnt (fun b => hi (56, 0, 0) b ≠ 0)), zI (36 * s + i - 1), v4, v5] [] (mm_z h dh nx ns) Q) →
      ∀ (k : Nat) (j : Int) h v5, 36 - j = k → 0 ≤ j → (∀ b, 1 ≤ b → b ≤ 3000 → (h (56, 0, 0) b ≠ 0 ↔ hi (56, 0, 0) b ≠ 0 ∨ ∃ n p, (1 ≤ n ∧ n < 37) ∧ (0 ≤ p ∧ p < 36) ∧ (n < i ∨ n = i ∧ p < j) ∧ hi (41, 0, 0) (36 * s + n - 1) = 1 ∧ hi (43, 0, 0) (36 * (36 * s + n - 1) + p) = b)) → (∀ x j, ¬ (x = (56, 0, 0) ∧ 1 ≤ j ∧ j ≤ 3000) → h x j = hi x j) →
        mm_Wp 197 (mm_blk 197 3) [zR (40, 0, 0), zI s, zI (kk_cnt (fun b => h (56, 0, 0) b ≠ 0) - kk_cnt (fun b => hi (56, 0, 0) b ≠ 0)), zI (36 * s + i - 1), zI j, v5] [] (mm_z h dh nx ns) Q := by
    intro i i1 i2 hk fin k
    induction k with
    | zero =>
      intro j h v5 e1 e2 a1 a2
      rw [r_197_3 (hy := hy), if_neg (by omega)]
      refine fin h _ _ (fun b b1 b2 => (a1 b b1 b2).trans ?_) a2
      constructor
      · rintro (q | ⟨n, p, q1, q2, q3, q4⟩)
        · exact Or.inl q
        · exact Or.inr ⟨n, p, q1, q2, by omega, q4⟩
      · rintro (q | ⟨n, p, q1, q2, q3, q4⟩)
        · exact Or.inl q
        · exact Or.inr ⟨n, p, q1, q2, by omega, q4⟩
    | succ k ih =>
      intro j h v5 e1 e2 a1 a2
      have pr := hb i j i1 i2 e2 (by omega)
      have hp : h (43, 0, 0) (36 * (36 * s + i - 1) + j) = hi (43, 0, 0) (36 * (36 * s + i - 1) + j) := a2 _ _ (by simp)
      rw [r_197_3 (hy := hy), if_pos (by omega), mm_wi (z := 36 * (36 * s + i - 1)) (by omega) (by omega), mm_wi (z := 36 * (36 * s + i - 1) + j) (by omega) (by omega), hp]
      generalize hbb : hi (43, 0, 0) (36 * (36 * s + i - 1) + j) = b0 at *
      refine ⟨by omega, ?_⟩
      have nxt : ∀ h2 v, (∀ b, 1 ≤ b → b ≤ 3000 → (h2 (56, 0, 0) b ≠ 0 ↔ h (56, 0, 0) b ≠ 0 ∨ b = b0)) → (∀ x j, ¬ (x = (56, 0, 0) ∧ 1 ≤ j ∧ j ≤ 3000) → h2 x j = hi x j) → mm_Wp 197 (mm_blk 197 5) [zR (40, 0, 0), zI s, zI (kk_cnt (fun b => h2 (56, 0, 0) b ≠ 0) - kk_cnt (fun b => hi (56, 0, 0) b ≠ 0)), zI (36 * s + i - 1), zI j, v] [] (mm_z h2 dh nx ns) Q := by
        intro h2 v c1 c2
        rw [r_197_5 (hy := hy), mm_wi (by omega) (by omega)]
        refine ih (j + 1) h2 v (by omega) (by omega) (fun b b1 b2 => ?_) c2
        rw [c1 b b1 b2, a1 b b1 b2]
        constructor
        · rintro ((q | ⟨n, p, q1, q2, q3, q4⟩) | q)
          · exact Or.inl q
          · exact Or.inr ⟨n, p, q1, q2, by omega, q4⟩
          · exact Or.inr ⟨i, j, ⟨i1, i2⟩, ⟨e2, by omega⟩, by omega, hk, by rw [hbb, q]⟩
        · rintro (q | ⟨n, p, q1, q2, q3, q4, q5⟩)
          · exact Or.inl (Or.inl q)
          · by_cases z : n = i ∧ p = j
            · rw [z.1, z.2, hbb] at q5
              exact Or.inr q5.symm
            · exact Or.inl (Or.inr ⟨n, p, q1, q2, by omega, q4, q5⟩)
      split
      · rename_i h0
        have e0 : ∀ b, 1 ≤ b → b ≤ 3000 → (h (56, 0, 0) b ≠ 0 ↔ h (56, 0, 0) b ≠ 0 ∨ b = b0) := fun b b1 b2 => ⟨Or.inl, fun q => by rcases q with q | q; exact q; omega⟩
        exact nxt h _ e0 a2
      · rename_i h0
        refine ⟨by omega, ?_⟩
        split
        · rename_i h1
          have ub := kk_cntub (fun b => h (56, 0, 0) b ≠ 0)
          have nn := kk_cntnn (fun b => hi (56, 0, 0) b ≠ 0)
          have ub2 := kk_cntub (fun b => hi (56, 0, 0) b ≠ 0)
          have nn2 := kk_cntnn (fun b => h (56, 0, 0) b ≠ 0)
          have c1 : ∀ b, 1 ≤ b → b ≤ 3000 → (mm_up h (56, 0, 0) b0 1 (56, 0, 0) b ≠ 0 ↔ h (56, 0, 0) b ≠ 0 ∨ b = b0) := by
            intro b b1 b2
            by_cases z : b = b0
            · rw [z, mm_ups]; simp
            · rw [mm_upj z]; simp [z]
          have e := kk_cnt1 (P := fun b => h (56, 0, 0) b ≠ 0) (R := fun b => mm_up h (56, 0, 0) b0 1 (56, 0, 0) b ≠ 0) (v := b0) (by omega) (fun q => q h1) c1
          rw [mm_wi (by omega) (by omega)]
          have := nxt (mm_up h (56, 0, 0) b0 1) (zI b0) c1 (fun x j b1 => by rw [mm_upne' (fun q => b1 ⟨q.1, by omega, by omega⟩)]; exact a2 x j b1)
          rw [e, show kk_cnt (fun b => h (56, 0, 0) b ≠ 0) + 1 - kk_cnt (fun b => hi (56, 0, 0) b ≠ 0) = kk_cnt (fun b => h (56, 0, 0) b ≠ 0) - kk_cnt (fun b => hi (56, 0, 0) b ≠ 0) + 1 by omega] at this
          exact ⟨by omega, this⟩
        · rename_i h1
          exact nxt h _ (fun b b1 b2 => ⟨Or.inl, fun q => by rcases q with q | q; exact q; rw [q]; exact h1⟩) a2
  have outer : ∀ (k : Nat) (i : Int) h v4 v5, 37 - i = k → 1 ≤ i → (∀ b, 1 ≤ b → b ≤ 3000 → (h (56, 0, 0) b ≠ 0 ↔ hi (56, 0, 0) b ≠ 0 ∨ ∃ n p, (1 ≤ n ∧ n < 37) ∧ (0 ≤ p ∧ p < 36) ∧ n < i ∧ hi (41, 0, 0) (36 * s + n - 1) = 1 ∧ hi (43, 0, 0) (36 * (36 * s + n - 1) + p) = b)) → (∀ x j, ¬ (x = (56, 0, 0) ∧ 1 ≤ j ∧ j ≤ 3000) → h x j = hi x j) →
      mm_Wp 197 (mm_blk 197 1) [zR (40, 0, 0), zI s, zI (kk_cnt (fun b => h (56, 0, 0) b ≠ 0) - kk_cnt (fun b => hi (56, 0, 0) b ≠ 0)), zI (36 * s + i - 1), v4, v5] [] (mm_z h dh nx ns) Q := by
    intro k
    induction k with
    | zero =>
      intro i h v4 v5 e1 e2 a1 a2
      rw [r_197_1 (hy := hy)]
      refine m175 hy hs (by omega) ?_
      rw [mm_pI, r_197_1_4 (hy := hy), if_pos (by omega)]
      refine K h (fun b b1 b2 => (a1 b b1 b2).trans ?_) a2
      constructor
      · rintro (q | ⟨n, p, q1, q2, q3, q4⟩)
        · exact Or.inl q
        · exact Or.inr ⟨n, p, q1, q2, q4⟩
      · rintro (q | ⟨n, p, q1, q2, q4⟩)
        · exact Or.inl q
        · exact Or.inr ⟨n, p, q1, q2, by omega, q4⟩
    | succ k ih =>
      intro i h v4 v5 e1 e2 a1 a2
      have six : ∀ h v4 v5, (∀ b, 1 ≤ b → b ≤ 3000 → (h (56, 0, 0) b ≠ 0 ↔ hi (56, 0, 0) b ≠ 0 ∨ ∃ n p, (1 ≤ n ∧ n < 37) ∧ (0 ≤ p ∧ p < 36) ∧ n < i + 1 ∧ hi (41, 0, 0) (36 * s + n - 1) = 1 ∧ hi (43, 0, 0) (36 * (36 * s + n - 1) + p) = b)) → (∀ x j, ¬ (x = (56, 0, 0) ∧ 1 ≤ j ∧ j ≤ 3000) → h x j = hi x j) →
          mm_Wp 197 (mm_blk 197 6) [zR (40, 0, 0), zI s, zI (kk_cnt (fun b => h (56, 0, 0) b ≠ 0) - kk_cnt (fun b => hi (56, 0, 0) b ≠ 0)), zI (36 * s + i - 1), v4, v5] [] (mm_z h dh nx ns) Q := by
        intro h v4 v5 c1 c2
        rw [r_197_6 (hy := hy), mm_wi (by omega) (by omega)]
        have := ih (i + 1) h v4 v5 (by omega) (by omega) c1 c2
        rw [show 36 * s + (i + 1) - 1 = 36 * s + i - 1 + 1 by omega] at this
        exact this
      have hk41 : h (41, 0, 0) (36 * s + i - 1) = hi (41, 0, 0) (36 * s + i - 1) := a2 _ _ (by simp)
      rw [r_197_1 (hy := hy)]
      refine m175 hy hs (by omega) ?_
      rw [mm_pI, r_197_1_4 (hy := hy), if_neg (by omega), hk41]
      refine ⟨by omega, ?_⟩
      split
      · rename_i h1
        refine inner i e2 (by omega) h1 six 36 0 h _ (by omega) (by omega) (fun b b1 b2 => (a1 b b1 b2).trans ?_) a2
        constructor
        · rintro (q | ⟨n, p, q1, q2, q3, q4⟩)
          · exact Or.inl q
          · exact Or.inr ⟨n, p, q1, q2, Or.inl q3, q4⟩
        · rintro (q | ⟨n, p, q1, q2, q3, q4⟩)
          · exact Or.inl q
          · exact Or.inr ⟨n, p, q1, q2, by omega, q4⟩
      · rename_i h1
        refine six h _ _ (fun b b1 b2 => (a1 b b1 b2).trans ?_) a2
        constructor
        · rintro (q | ⟨n, p, q1, q2, q3, q4⟩)
          · exact Or.inl q
          · exact Or.inr ⟨n, p, q1, q2, by omega, q4⟩
        · rintro (q | ⟨n, p, q1, q2, q3, q4, q5⟩)
          · exact Or.inl q
          · by_cases z : n = i
            · rw [z] at q4; exact absurd q4 h1
            · exact Or.inr ⟨n, p, q1, q2, by omega, q4, q5⟩
  rw [r_197_e (hy := hy)]
  refine m175 hy hs (by omega) ?_
  rw [mm_pI, r_197_0_5 (hy := hy)]
  have := outer 36 1 hi zU zU (by omega) (by omega) (fun b b1 b2 => ⟨Or.inl, fun q => by rcases q with q | ⟨n, p, q1, q2, q3, q4⟩; exact q; omega⟩) (fun x j _ => rfl)
  rw [show kk_cnt (fun b => hi (56, 0, 0) b ≠ 0) - kk_cnt (fun b => hi (56, 0, 0) b ≠ 0) = 0 by omega] at this
  exact this
/-- what all live trees but one hold -/
def kk_lb (h : mm_Id → Int → Int) (s b : Int) : Prop := ∃ k, (0 ≤ k ∧ k < 13) ∧ 0 < h (57, 0, 0) k ∧ k ≠ s ∧ kk_bs h k b
theorem kk_bsc {h g : mm_Id → Int → Int} {s b : Int} (hf : ∀ x j, ¬ (x = (56, 0, 0) ∧ 1 ≤ j ∧ j ≤ 3000) → h x j = g x j) : kk_bs h s b ↔ kk_bs g s b := by
  unfold kk_bs
  have e41 : ∀ j, h (41, 0, 0) j = g (41, 0, 0) j := fun j => hf _ _ (by simp)
  have e43 : ∀ j, h (43, 0, 0) j = g (43, 0, 0) j := fun j => hf _ _ (by simp)
  simp only [e41, e43]
theorem m199 (hy : 10581 ≤ nx) {s : Int} (hb : ∀ k, 0 ≤ k → k < 13 → kk_br hi k)
    (K : ∀ h2, (∀ b, 1 ≤ b → b ≤ 3000 → (h2 (56, 0, 0) b ≠ 0 ↔ kk_lb hi s b)) → (∀ x j, ¬ (x = (56, 0, 0) ∧ 1 ≤ j ∧ j ≤ 3000) → h2 x j = hi x j) → Q (zI (kk_cnt (kk_lb hi s))) (mm_z h2 dh nx ns)) :
    mm_Cl 199 [zR (40, 0, 0), zI s] (mm_z hi dh nx ns) Q := by
  have L : ∀ (k : Nat) (i : Int) (h : mm_Id → Int → Int), 13 - i = k → 0 ≤ i → (∀ b, 1 ≤ b → b ≤ 3000 → (h (56, 0, 0) b ≠ 0 ↔ ∃ q, (0 ≤ q ∧ q < i) ∧ 0 < hi (57, 0, 0) q ∧ q ≠ s ∧ kk_bs hi q b)) → (∀ x j, ¬ (x = (56, 0, 0) ∧ 1 ≤ j ∧ j ≤ 3000) → h x j = hi x j) →
      mm_Wp 199 (mm_blk 199 1) [zR (40, 0, 0), zI s, zI (kk_cnt (fun b => h (56, 0, 0) b ≠ 0)), zI i] [] (mm_z h dh nx ns) Q := by
    intro k
    induction k with
    | zero =>
      intro i h e1 e2 a1 a2
      have e3 : i = 13 := by omega
      subst e3
      rw [r_199_1 (hy := hy), if_neg (by omega), kk_cntc (R := kk_lb hi s) (fun b b1 b2 => a1 b b1 b2)]
      exact K h (fun b b1 b2 => a1 b b1 b2) a2
    | succ k ih =>
      intro i h e1 e2 a1 a2
      have r57 : h (57, 0, 0) i = hi (57, 0, 0) i := a2 _ _ (by simp)
      have ub := kk_cntub (fun b => h (56, 0, 0) b ≠ 0)
      have nn := kk_cntnn (fun b => h (56, 0, 0) b ≠ 0)
      have skip : ¬ (0 < hi (57, 0, 0) i ∧ i ≠ s) → mm_Wp 199 (mm_blk 199 2) [zR (40, 0, 0), zI s, zI (kk_cnt (fun b => h (56, 0, 0) b ≠ 0)), zI i] [zI (kk_cnt (fun b => h (56, 0, 0) b ≠ 0))] (mm_z h dh nx ns) Q := by
        intro hn
        rw [r_199_2 (hy := hy), r_199_3 (hy := hy), Int.add_zero, mm_wi (by omega) (by omega), mm_wi (by omega) (by omega)]
        refine ih (i + 1) h (by omega) (by omega) (fun b b1 b2 => (a1 b b1 b2).trans ?_) a2
        constructor
        · rintro ⟨q, q1, q2, q3⟩; exact ⟨q, by omega, q2, q3⟩
        · rintro ⟨q, q1, q2, q3, q4⟩
          by_cases z : q = i
          · rw [z] at q2 q3; exact absurd ⟨q2, q3⟩ hn
          · exact ⟨q, by omega, q2, q3, q4⟩
      rw [r_199_1 (hy := hy), if_pos (by omega), r57]
      refine ⟨by omega, ?_⟩
      split
      · rename_i h1
        split
        · rename_i h2
          exact skip (fun q => q.2 h2)
        · rename_i h2
          have hbr : kk_br h i := fun n p n1 n2 p1 p2 => by
            rw [a2 _ _ (by simp)]; exact hb i e2 (by omega) n p n1 n2 p1 p2
          refine m197 hy (by omega) hbr (fun g b1 b2 => ?_)
          have ub3 := kk_cntub (fun b => g (56, 0, 0) b ≠ 0)
          have nn3 := kk_cntnn (fun b => g (56, 0, 0) b ≠ 0)
          rw [mm_pI, r_199_1_15 (hy := hy), r_199_3 (hy := hy), show kk_cnt (fun b => h (56, 0, 0) b ≠ 0) + (kk_cnt (fun b => g (56, 0, 0) b ≠ 0) - kk_cnt (fun b => h (56, 0, 0) b ≠ 0)) = kk_cnt (fun b => g (56, 0, 0) b ≠ 0) by omega, mm_wi (by omega) (by omega), mm_wi (by omega) (by omega)]
          refine ih (i + 1) g (by omega) (by omega) (fun b c1 c2 => ?_) (fun x j c => by rw [b2 x j c]; exact a2 x j c)
          rw [b1 b c1 c2, a1 b c1 c2, kk_bsc a2]
          constructor
          · rintro (⟨q, q1, q2, q3⟩ | q)
            · exact ⟨q, by omega, q2, q3⟩
            · exact ⟨i, by omega, h1, h2, q⟩
          · rintro ⟨q, q1, q2, q3, q4⟩
            by_cases z : q = i
            · rw [z] at q4; exact Or.inr q4
            · exact Or.inl ⟨q, by omega, q2, q3, q4⟩
      · rename_i h1
        exact skip (fun q => h1 q.1)
  rw [r_199_e (hy := hy)]
  refine m198 hy (fun h b1 b2 => ?_)
  rw [mm_pU, r_199_0_2 (hy := hy)]
  have := L 13 0 h (by omega) (by omega) (fun b c1 c2 => ⟨fun q => absurd (b1 b c1 c2) q, fun ⟨q, q1, _⟩ => by omega⟩) b2
  rw [kk_cnt0 (P := fun b => h (56, 0, 0) b ≠ 0) (fun b c1 c2 q => q (b1 b c1 c2))] at this
  exact this
theorem m200 (hy : 10581 ≤ nx) {s : Int} (hs : 0 ≤ s ∧ s < 29) (hb : kk_br hi s) (K : ∀ h2, (∀ x j, ¬ (x = (56, 0, 0) ∧ 1 ≤ j ∧ j ≤ 3000) → h2 x j = hi x j) → Q (zI (kk_cnt (kk_bs hi s))) (mm_z h2 dh nx ns)) :
    mm_Cl 200 [zR (40, 0, 0), zI s] (mm_z hi dh nx ns) Q := by
  rw [r_200_e (hy := hy)]
  refine m198 hy (fun h b1 b2 => ?_)
  rw [mm_pU, r_200_0_2 (hy := hy)]
  have hbr : kk_br h s := fun n p n1 n2 p1 p2 => by rw [b2 _ _ (by simp)]; exact hb n p n1 n2 p1 p2
  refine m197 hy hs hbr (fun g c1 c2 => ?_)
  rw [mm_pI, r_200_0_5 (hy := hy), kk_cnt0 (P := fun b => h (56, 0, 0) b ≠ 0) (fun b d1 d2 q => q (b1 b d1 d2)), Int.sub_zero,
    kk_cntc (P := fun b => g (56, 0, 0) b ≠ 0) (R := kk_bs hi s) (fun b d1 d2 => by rw [c1 b d1 d2, kk_bsc b2]; simp [b1 b d1 d2])]
  exact K g (fun x j d => by rw [c2 x j d, b2 x j d])
theorem m201 (hy : 10581 ≤ nx) {s : Int} (hs : 0 ≤ s ∧ s < 26) (hb : ∀ k, 0 ≤ k → k < 29 → kk_br hi k)
    (K1 : ∀ h2, (∀ x j, ¬ (x = (56, 0, 0) ∧ 1 ≤ j ∧ j ≤ 3000) → h2 x j = hi x j) → kk_cnt (kk_lb hi (-1)) ≤ 400 → kk_cnt (kk_bs hi s) ≤ hi (59, 0, 0) s → Q (zI 1) (mm_z h2 dh nx ns))
    (K0 : ∀ h2, (∀ x j, ¬ (x = (56, 0, 0) ∧ 1 ≤ j ∧ j ≤ 3000) → h2 x j = hi x j) → ¬ (kk_cnt (kk_lb hi (-1)) ≤ 400 ∧ kk_cnt (kk_bs hi s) ≤ hi (59, 0, 0) s) → Q (zI 0) (mm_z h2 dh nx ns)) :
    mm_Cl 201 [zR (40, 0, 0), zI s] (mm_z hi dh nx ns) Q := by
  rw [r_201_e (hy := hy)]
  refine m199 hy (fun k k1 k2 => hb k k1 (by omega)) (fun h _ b2 => ?_)
  rw [mm_pI, r_201_0_3 (hy := hy)]
  generalize hcc : kk_cnt (kk_lb hi (-1)) = c1 at *
  by_cases h1 : 400 < c1
  · rw [if_pos h1]
    rw [r_201_1 (hy := hy), r_201_2 (hy := hy)]
    exact ⟨Or.inl rfl, K0 h b2 (fun q => by omega)⟩
  · rw [if_neg h1]
    have hbr : kk_br h s := fun n p n1 n2 p1 p2 => by rw [b2 _ _ (by simp)]; exact hb s hs.1 (by omega) n p n1 n2 p1 p2
    refine m200 hy (by omega) hbr (fun g c => ?_)
    have gf : ∀ x j, ¬ (x = (56, 0, 0) ∧ 1 ≤ j ∧ j ≤ 3000) → g x j = hi x j := fun x j d => by rw [c x j d, b2 x j d]
    rw [mm_pI, r_201_0_8 (hy := hy), gf (59, 0, 0) s (by simp), kk_cntc (P := kk_bs h s) (R := kk_bs hi s) (fun b _ _ => kk_bsc b2)]
    refine ⟨by omega, ?_⟩
    generalize hcd : kk_cnt (kk_bs hi s) = c2 at *
    by_cases h2 : hi (59, 0, 0) s < c2
    · rw [if_pos h2]
      rw [r_201_1 (hy := hy), r_201_2 (hy := hy)]
      exact ⟨Or.inl rfl, K0 g gf (fun q => by omega)⟩
    · rw [if_neg h2]
      rw [r_201_2 (hy := hy)]
      exact ⟨Or.inr rfl, K1 g gf (by omega) (by omega)⟩
end

