/-! the reference: new blocks, what users have, bytes, what is put down -/
def kk_any (h : mm_Id → Int → Int) (b : Int) : Prop := ∃ s, (0 ≤ s ∧ s < 29) ∧ kk_bs h s b
section
variable {hi : mm_Id → Int → Int} {dh : Int → Int} {nx ns : Int} {Q : mm_V → mm_H → Prop}
theorem m195 (hy : 10581 ≤ nx) (hb : ∀ k, 0 ≤ k → k < 29 → kk_br hi k)
    (K : ∀ h2, (∀ b, 1 ≤ b → b ≤ 3000 → (h2 (55, 0, 0) b ≠ 0 ↔ kk_any hi b)) → h2 (40, 0, 0) 18 = 0 → (∀ x j, x ≠ (55, 0, 0) → ¬ (x = (40, 0, 0) ∧ j = 18) → h2 x j = hi x j) → Q zU (mm_z h2 dh nx ns)) :
    mm_Cl 195 [zR (40, 0, 0)] (mm_z hi dh nx ns) Q := by
  -- what is marked so far
  have L5 : ∀ (s i : Int), 0 ≤ s → s < 29 → 1 ≤ i → i < 37 → hi (41, 0, 0) (36 * s + i - 1) = 1 →
      (∀ h v, (∀ b, 1 ≤ b → b ≤ 3000 → (h (55, 0, 0) b ≠ 0 ↔ ∃ q n p, (0 ≤ q ∧ q < 29) ∧ (1 ≤ n ∧ n < 37) ∧ (0 ≤ p ∧ p < 36) ∧ (q < s ∨ q = s ∧ n < i + 1) ∧ hi (41, 0, 0) (36 * q + n - 1) = 1 ∧ hi (43, 0, 0) (36 * (36 * q + n - 1) + p) = b)) → (∀ x j, x ≠ (55, 0, 0) → h x j = hi x j) → mm_Wp 195 (mm_blk 195 6) [zR (40, 0, 0), zI s, zI i, v] [] (mm_z h dh nx ns) Q) →
      ∀ (k : Nat) (j : Int) h, 36 - j = k → 0 ≤ j → (∀ b, 1 ≤ b → b ≤ 3000 → (h (55, 0, 0) b ≠ 0 ↔ ∃ q n p, (0 ≤ q ∧ q < 29) ∧ (1 ≤ n ∧ n < 37) ∧ (0 ≤ p ∧ p < 36) ∧ (q < s ∨ q = s ∧ (n < i ∨ n = i ∧ p < j)) ∧ hi (41, 0, 0) (36 * q + n - 1) = 1 ∧ hi (43, 0, 0) (36 * (36 * q + n - 1) + p) = b)) → (∀ x j, x ≠ (55, 0, 0) → h x j = hi x j) →
        mm_Wp 195 (mm_blk 195 5) [zR (40, 0, 0), zI s, zI i, zI j] [] (mm_z h dh nx ns) Q := by
    intro s i s1 s2 i1 i2 hk fin k
    induction k with
    | zero =>
      intro j h e1 e2 a1 a2
      rw [r_195_5 (hy := hy), if_neg (by omega)]
      refine fin h _ (fun b b1 b2 => (a1 b b1 b2).trans ⟨?_, ?_⟩) a2
      · rintro ⟨q, n, p, q1, q2, q3, q4, q5⟩; exact ⟨q, n, p, q1, q2, q3, by omega, q5⟩
      · rintro ⟨q, n, p, q1, q2, q3, q4, q5⟩; exact ⟨q, n, p, q1, q2, q3, by omega, q5⟩
    | succ k ih =>
      intro j h e1 e2 a1 a2
      rw [r_195_5 (hy := hy), if_pos (by omega)]
      refine m175 hy ⟨s1, s2⟩ ⟨i1, i2⟩ ?_
      have pr := hb s s1 s2 i j i1 i2 e2 (by omega)
      rw [mm_pI, r_195_5_11 (hy := hy), mm_wi (z := 36 * (36 * s + i - 1)) (by omega) (by omega), mm_wi (z := 36 * (36 * s + i - 1) + j) (by omega) (by omega), mm_wi (z := j + 1) (by omega) (by omega), a2 (43, 0, 0) _ (by simp)]
      refine ⟨by omega, by omega, ih (j + 1) _ (by omega) (by omega) (fun b b1 b2 => ?_) (fun x z b => by rw [mm_upx b]; exact a2 x z b)⟩
      by_cases c : b = hi (43, 0, 0) (36 * (36 * s + i - 1) + j)
      · rw [c, mm_ups]
        exact ⟨fun _ => ⟨s, i, j, ⟨s1, s2⟩, ⟨i1, i2⟩, by omega, by omega, hk, rfl⟩, fun _ => by decide⟩
      · rw [mm_upj c, a1 b b1 b2]
        constructor
        · rintro ⟨q, n, p, q1, q2, q3, q4, q5⟩; exact ⟨q, n, p, q1, q2, q3, by omega, q5⟩
        · rintro ⟨q, n, p, q1, q2, q3, q4, q5, q6⟩
          refine ⟨q, n, p, q1, q2, q3, ?_, q5, q6⟩
          apply Classical.byContradiction
          intro z
          have z2 : q = s ∧ n = i ∧ p = j := by omega
          rw [z2.1, z2.2.1, z2.2.2] at q6
          exact c q6.symm
  have L4 : ∀ (s : Int), 0 ≤ s → s < 29 →
      (∀ h v w, (∀ b, 1 ≤ b → b ≤ 3000 → (h (55, 0, 0) b ≠ 0 ↔ ∃ q n p, (0 ≤ q ∧ q < 29) ∧ (1 ≤ n ∧ n < 37) ∧ (0 ≤ p ∧ p < 36) ∧ q < s + 1 ∧ hi (41, 0, 0) (36 * q + n - 1) = 1 ∧ hi (43, 0, 0) (36 * (36 * q + n - 1) + p) = b)) → (∀ x j, x ≠ (55, 0, 0) → h x j = hi x j) → mm_Wp 195 (mm_blk 195 3) [zR (40, 0, 0), zI (s + 1), v, w] [] (mm_z h dh nx ns) Q) →
      ∀ (k : Nat) (i : Int) h v, 37 - i = k → 1 ≤ i → (∀ b, 1 ≤ b → b ≤ 3000 → (h (55, 0, 0) b ≠ 0 ↔ ∃ q n p, (0 ≤ q ∧ q < 29) ∧ (1 ≤ n ∧ n < 37) ∧ (0 ≤ p ∧ p < 36) ∧ (q < s ∨ q = s ∧ n < i) ∧ hi (41, 0, 0) (36 * q + n - 1) = 1 ∧ hi (43, 0, 0) (36 * (36 * q + n - 1) + p) = b)) → (∀ x j, x ≠ (55, 0, 0) → h x j = hi x j) →
        mm_Wp 195 (mm_blk 195 4) [zR (40, 0, 0), zI s, zI i, v] [] (mm_z h dh nx ns) Q := by
    intro s s1 s2 fin k
    induction k with
    | zero =>
      intro i h v e1 e2 a1 a2
      rw [r_195_4 (hy := hy), if_pos (by omega), mm_wi (by omega) (by omega)]
      refine fin h _ _ (fun b b1 b2 => (a1 b b1 b2).trans ⟨?_, ?_⟩) a2
      · rintro ⟨q, n, p, q1, q2, q3, q4, q5⟩; exact ⟨q, n, p, q1, q2, q3, by omega, q5⟩
      · rintro ⟨q, n, p, q1, q2, q3, q4, q5⟩; exact ⟨q, n, p, q1, q2, q3, by omega, q5⟩
    | succ k ih =>
      intro i h v e1 e2 a1 a2
      have six : ∀ h v, (∀ b, 1 ≤ b → b ≤ 3000 → (h (55, 0, 0) b ≠ 0 ↔ ∃ q n p, (0 ≤ q ∧ q < 29) ∧ (1 ≤ n ∧ n < 37) ∧ (0 ≤ p ∧ p < 36) ∧ (q < s ∨ q = s ∧ n < i + 1) ∧ hi (41, 0, 0) (36 * q + n - 1) = 1 ∧ hi (43, 0, 0) (36 * (36 * q + n - 1) + p) = b)) → (∀ x j, x ≠ (55, 0, 0) → h x j = hi x j) → mm_Wp 195 (mm_blk 195 6) [zR (40, 0, 0), zI s, zI i, v] [] (mm_z h dh nx ns) Q := by
        intro h v c1 c2
        rw [r_195_6 (hy := hy), mm_wi (by omega) (by omega)]
        exact ih (i + 1) h v (by omega) (by omega) c1 c2
      rw [r_195_4 (hy := hy), if_neg (by omega)]
      refine m177 hy ⟨s1, s2⟩ (by omega) (fun b hb2 => ?_)
      rw [a2 (41, 0, 0) _ (by simp)] at hb2
      rw [mm_pI, r_195_4_7 (hy := hy)]
      by_cases c : hi (41, 0, 0) (36 * s + i - 1) = 1
      · rw [if_pos c] at hb2
        subst hb2
        rw [if_neg (by decide)]
        refine L5 s i s1 s2 e2 (by omega) c six 36 0 h (by omega) (by omega) (fun b b1 b2 => (a1 b b1 b2).trans ⟨?_, ?_⟩) a2
        · rintro ⟨q, n, p, q1, q2, q3, q4, q5⟩; exact ⟨q, n, p, q1, q2, q3, by omega, q5⟩
        · rintro ⟨q, n, p, q1, q2, q3, q4, q5⟩; exact ⟨q, n, p, q1, q2, q3, by omega, q5⟩
      · rw [if_neg c] at hb2
        subst hb2
        rw [if_pos rfl]
        refine six h _ (fun b b1 b2 => (a1 b b1 b2).trans ⟨?_, ?_⟩) a2
        · rintro ⟨q, n, p, q1, q2, q3, q4, q5⟩; exact ⟨q, n, p, q1, q2, q3, by omega, q5⟩
        · rintro ⟨q, n, p, q1, q2, q3, q4, q5, q6⟩
          refine ⟨q, n, p, q1, q2, q3, ?_, q5, q6⟩
          apply Classical.byContradiction
          intro z
          have z2 : q = s ∧ n = i := by omega
          rw [z2.1, z2.2] at q5
          exact c q5
  have L3 : ∀ (k : Nat) (s : Int) h v w, 29 - s = k → 0 ≤ s → (∀ b, 1 ≤ b → b ≤ 3000 → (h (55, 0, 0) b ≠ 0 ↔ ∃ q n p, (0 ≤ q ∧ q < 29) ∧ (1 ≤ n ∧ n < 37) ∧ (0 ≤ p ∧ p < 36) ∧ q < s ∧ hi (41, 0, 0) (36 * q + n - 1) = 1 ∧ hi (43, 0, 0) (36 * (36 * q + n - 1) + p) = b)) → (∀ x j, x ≠ (55, 0, 0) → h x j = hi x j) →
      mm_Wp 195 (mm_blk 195 3) [zR (40, 0, 0), zI s, v, w] [] (mm_z h dh nx ns) Q := by
    intro k
    induction k with
    | zero =>
      intro s h v w e1 e2 a1 a2
      rw [r_195_3 (hy := hy), if_neg (by omega)]
      refine K _ (fun b b1 b2 => ?_) mm_ups (fun x j b1 b2 => by rw [mm_upne' b2]; exact a2 x j b1)
      rw [mm_upf (by decide), a1 b b1 b2]
      constructor
      · rintro ⟨q, n, p, q1, q2, q3, q4, q5⟩; exact ⟨q, q1, n, p, q2, q3, q5⟩
      · rintro ⟨q, q1, n, p, q2, q3, q5⟩; exact ⟨q, n, p, q1, q2, q3, by omega, q5⟩
    | succ k ih =>
      intro s h v w e1 e2 a1 a2
      rw [r_195_3 (hy := hy), if_pos (by omega)]
      refine L4 s e2 (by omega) (fun h v w c1 c2 => ih (s + 1) h v w (by omega) (by omega) c1 c2) 36 1 h _ (by omega) (by omega) (fun b b1 b2 => (a1 b b1 b2).trans ⟨?_, ?_⟩) a2
      · rintro ⟨q, n, p, q1, q2, q3, q4, q5⟩; exact ⟨q, n, p, q1, q2, q3, by omega, q5⟩
      · rintro ⟨q, n, p, q1, q2, q3, q4, q5⟩; exact ⟨q, n, p, q1, q2, q3, by omega, q5⟩
  have L1 : ∀ (k : Nat) (i : Int) h v w, 3001 - i = k → 1 ≤ i → (∀ b, 1 ≤ b → b < i → h (55, 0, 0) b = 0) → (∀ x j, x ≠ (55, 0, 0) → h x j = hi x j) → mm_Wp 195 (mm_blk 195 1) [zR (40, 0, 0), zI i, v, w] [] (mm_z h dh nx ns) Q := by
    intro k
    induction k with
    | zero =>
      intro i h v w e1 e2 a1 a2
      rw [r_195_1 (hy := hy), if_pos (by omega)]
      exact L3 29 0 h v w (by omega) (by omega) (fun b b1 b2 => ⟨fun q => absurd (a1 b b1 (by omega)) q, fun ⟨q, n, p, q1, q2, q3, q4, _⟩ => by omega⟩) a2
    | succ k ih =>
      intro i h v w e1 e2 a1 a2
      rw [r_195_1 (hy := hy), if_neg (by omega), mm_wi (by omega) (by omega)]
      refine ⟨by omega, ih (i + 1) _ _ _ (by omega) (by omega) (fun b b1 b2 => ?_) (fun x j b => by rw [mm_upx b]; exact a2 x j b)⟩
      by_cases c : b = i
      · rw [c, mm_ups]
      · rw [mm_upj c]; exact a1 b b1 (by omega)
  rw [r_195_e (hy := hy)]
  exact L1 3000 1 hi _ _ (by omega) (by omega) (fun b b1 b2 => by omega) (fun x j _ => rfl)
/-- a block that no tree has, all 0 -/
theorem m196 (hy : 10581 ≤ nx) (hb : ∀ k, 0 ≤ k → k < 29 → kk_br hi k) (hu : ∀ b, 1 ≤ b → b ≤ 3000 → kk_any hi b → hi (55, 0, 0) b ≠ 0) (hl : 0 ≤ hi (40, 0, 0) 18 ∧ hi (40, 0, 0) 18 ≤ 3000) (hc : kk_cnt (kk_any hi) < 3000)
    (K : ∀ h2 b, 1 ≤ b → b ≤ 3000 → ¬ kk_any hi b → (∀ q, 1 ≤ q → q ≤ 3000 → kk_any hi q → h2 (55, 0, 0) q ≠ 0) → h2 (55, 0, 0) b ≠ 0 → h2 (40, 0, 0) 18 = b → (∀ i, 0 ≤ i → i < 60 → h2 (54, 0, 0) (60 * b + i) = 0) →
      (∀ x j, x ≠ (55, 0, 0) → ¬ (x = (40, 0, 0) ∧ j = 18) → ¬ (x = (54, 0, 0) ∧ 60 * b ≤ j ∧ j < 60 * b + 60) → h2 x j = hi x j) → Q (zI b) (mm_z h2 dh nx ns)) :
    mm_Cl 196 [zR (40, 0, 0)] (mm_z hi dh nx ns) Q := by
  have four : ∀ h b v, 1 ≤ b → b ≤ 3000 → (∀ q, 1 ≤ q → q ≤ 3000 → kk_any hi q → h (55, 0, 0) q ≠ 0) → h (55, 0, 0) b = 0 → (∀ x j, x ≠ (55, 0, 0) → ¬ (x = (40, 0, 0) ∧ j = 18) → h x j = hi x j) → mm_Wp 196 (mm_blk 196 4) [zR (40, 0, 0), zI b, v] [] (mm_z h dh nx ns) Q := by
    intro h b v b1 b2 a1 a2 a3
    have nb : ¬ kk_any hi b := fun q => a1 b b1 b2 q a2
    have L : ∀ (k : Nat) (i : Int) g, 60 - i = k → 0 ≤ i → (∀ q, 1 ≤ q → q ≤ 3000 → kk_any hi q → g (55, 0, 0) q ≠ 0) → g (55, 0, 0) b ≠ 0 → g (40, 0, 0) 18 = b → (∀ e, 0 ≤ e → e < i → g (54, 0, 0) (60 * b + e) = 0) → (∀ x j, x ≠ (55, 0, 0) → ¬ (x = (40, 0, 0) ∧ j = 18) → ¬ (x = (54, 0, 0) ∧ 60 * b ≤ j ∧ j < 60 * b + 60) → g x j = hi x j) →
        mm_Wp 196 (mm_blk 196 5) [zR (40, 0, 0), zI b, zI i] [] (mm_z g dh nx ns) Q := by
      intro k
      induction k with
      | zero =>
        intro i g e1 e2 c1 c2 c3 c4 c5
        rw [r_196_5 (hy := hy), if_neg (by omega)]
        exact K g b b1 b2 nb c1 c2 c3 (fun e d1 d2 => c4 e d1 (by omega)) c5
      | succ k ih =>
        intro i g e1 e2 c1 c2 c3 c4 c5
        rw [r_196_5 (hy := hy), if_pos (by omega), mm_wi (z := 60 * b) (by omega) (by omega), mm_wi (z := 60 * b + i) (by omega) (by omega), mm_wi (z := i + 1) (by omega) (by omega), mm_bi (by omega) (by omega)]
        refine ⟨by omega, ih (i + 1) _ (by omega) (by omega) (fun q q1 q2 q3 => by rw [mm_upf (by decide)]; exact c1 q q1 q2 q3) (by rw [mm_upf (by decide)]; exact c2) (by rw [mm_upf (by decide)]; exact c3) (fun e d1 d2 => ?_) (fun x j d1 d2 d3 => ?_)⟩
        · by_cases z : e = i
          · rw [z, mm_ups]
          · rw [mm_upj (by omega)]; exact c4 e d1 (by omega)
        · rw [mm_upne' (fun q => d3 ⟨q.1, by omega, by omega⟩)]; exact c5 x j d1 d2 d3
    rw [r_196_4 (hy := hy)]
    refine ⟨by omega, L 60 0 _ (by omega) (by omega) (fun q q1 q2 q3 => ?_) (by rw [mm_upf (by decide), mm_ups]; decide) mm_ups (fun e d1 d2 => by omega) (fun x j d1 d2 d3 => ?_)⟩
    · rw [mm_upf (by decide)]
      by_cases z : q = b
      · rw [z, mm_ups]; decide
      · rw [mm_upj z]; exact a1 q q1 q2 q3
    · rw [mm_upne' d2, mm_upx d1]; exact a3 x j d1 d2
  have three : ∀ h, (∀ q, 1 ≤ q → q ≤ 3000 → (h (55, 0, 0) q ≠ 0 ↔ kk_any hi q)) → (∀ x j, x ≠ (55, 0, 0) → ¬ (x = (40, 0, 0) ∧ j = 18) → h x j = hi x j) → ∀ (k : Nat) (i : Int) v, 3000 - i = k → 1 ≤ i → (∀ q, 1 ≤ q → q < i → h (55, 0, 0) q ≠ 0) → mm_Wp 196 (mm_blk 196 3) [zR (40, 0, 0), zI i, v] [] (mm_z h dh nx ns) Q := by
    intro h a1 a2 k
    obtain ⟨f, f1, f2, f3⟩ := kk_cntex hc
    have ff : h (55, 0, 0) f = 0 := Classical.byContradiction (fun q => f3 ((a1 f f1 f2).1 q))
    induction k with
    | zero =>
      intro i v e1 e2 e3
      have e4 : i = 3000 := by omega
      subst e4
      have : f = 3000 := by
        apply Classical.byContradiction
        intro z
        exact e3 f f1 (by omega) ff
      subst this
      rw [r_196_3 (hy := hy), if_pos ff]
      exact ⟨by omega, four h _ _ (by omega) (by omega) (fun q q1 q2 q3 => (a1 q q1 q2).2 q3) ff a2⟩
    | succ k ih =>
      intro i v e1 e2 e3
      rw [r_196_3 (hy := hy)]
      refine ⟨by omega, ?_⟩
      split
      · rename_i h1
        exact four h i _ e2 (by omega) (fun q q1 q2 q3 => (a1 q q1 q2).2 q3) h1 a2
      · rename_i h1
        rw [mm_wi (by omega) (by omega)]
        exact ih (i + 1) v (by omega) (by omega) (fun q q1 q2 => by
          by_cases z : q = i
          · rw [z]; exact h1
          · exact e3 q q1 (by omega))
  have one : ∀ (k : Nat) (i : Int) v, 3001 - i = k → 1 ≤ i → mm_Wp 196 (mm_blk 196 1) [zR (40, 0, 0), zI i, v] [] (mm_z hi dh nx ns) Q := by
    intro k
    induction k with
    | zero =>
      intro i v e1 e2
      rw [r_196_1 (hy := hy), if_pos (by omega), r_196_2 (hy := hy), if_pos (by omega)]
      refine m195 hy hb (fun h b1 b2 b3 => ?_)
      rw [mm_pU, r_196_2_5 (hy := hy)]
      exact three h b1 b3 2999 1 _ (by omega) (by omega) (fun q q1 q2 => by omega)
    | succ k ih =>
      intro i v e1 e2
      rw [r_196_1 (hy := hy), if_neg (by omega)]
      refine ⟨by omega, ?_⟩
      split
      · rename_i h1
        rw [r_196_2 (hy := hy), if_neg (by omega)]
        exact four hi i _ e2 (by omega) hu h1 (fun _ _ _ _ => rfl)
      · rw [mm_wi (by omega) (by omega)]
        exact ih (i + 1) v (by omega) (by omega)
  rw [r_196_e (hy := hy), mm_wi (by omega) (by omega)]
  exact one (3001 - (hi (40, 0, 0) 18 + 1)).toNat _ _ (by omega) (by omega)
/-- the blocks of a user -/
def kk_ub (h : mm_Id → Int → Int) (s u : Int) : Int := kk_S (fun n => mm_sm (fun p => if (h (41, 0, 0) (36 * s + n - 1) = 1 ∧ h (47, 0, 0) (36 * s + n - 1) = u) ∧ 0 < h (43, 0, 0) (36 * (36 * s + n - 1) + p) then 1 else 0) 36) 36
theorem m205 (hy : 10581 ≤ nx) {s u : Int} (hs : 0 ≤ s ∧ s < 29) (K : Q (zI (kk_ub hi s u)) (mm_z hi dh nx ns)) : mm_Cl 205 [zR (40, 0, 0), zI s, zI u] (mm_z hi dh nx ns) Q := by
  rw [r_205_e (hy := hy)]
  refine m175 hy hs (by omega) ?_
  rw [mm_pI, r_205_0_5 (hy := hy)]
  have L := kk_sl (X := fun a i => ∀ v : mm_V, mm_Wp 205 (mm_blk 205 1) [zR (40, 0, 0), zI s, zI u, zI a, zI (36 * s + i - 1), v] [] (mm_z hi dh nx ns) Q) (f := fun n => mm_sm (fun p => if (hi (41, 0, 0) (36 * s + n - 1) = 1 ∧ hi (47, 0, 0) (36 * s + n - 1) = u) ∧ 0 < hi (43, 0, 0) (36 * (36 * s + n - 1) + p) then 1 else 0) 36) 36 36 (by decide) (fun i _ _ => ⟨sm_nn _ (fun _ _ _ => by split <;> omega), sm_ub 1 36 (fun _ _ _ => by split <;> omega)⟩)
  refine L (fun a i a1 a2 a3 a4 hX => ?_) ?_ zU
  · intro v
    have hk : 0 ≤ 36 * s + i - 1 ∧ 36 * s + i - 1 < 1044 := by omega
    have five : ∀ v, mm_Wp 205 (mm_blk 205 1) [zR (40, 0, 0), zI s, zI u, zI a, zI (36 * s + (i + 1) - 1), v] [] (mm_z hi dh nx ns) Q → mm_Wp 205 (mm_blk 205 5) [zR (40, 0, 0), zI s, zI u, zI a, zI (36 * s + i - 1), v] [] (mm_z hi dh nx ns) Q := by
      intro v h
      rw [r_205_5 (hy := hy), mm_wi (by omega) (by omega), show 36 * s + i - 1 + 1 = 36 * s + (i + 1) - 1 by omega]
      exact h
    rw [r_205_1 (hy := hy)]
    refine m175 hy hs (by omega) ?_
    rw [mm_pI, r_205_1_4 (hy := hy), if_neg (by omega)]
    by_cases c : hi (41, 0, 0) (36 * s + i - 1) = 1 ∧ hi (47, 0, 0) (36 * s + i - 1) = u
    · refine kk_sl0 (X := fun b p => mm_Wp 205 (mm_blk 205 2) [zR (40, 0, 0), zI s, zI u, zI b, zI (36 * s + i - 1), zI p] [] (mm_z hi dh nx ns) Q) (f := fun p => if (hi (41, 0, 0) (36 * s + i - 1) = 1 ∧ hi (47, 0, 0) (36 * s + i - 1) = u) ∧ 0 < hi (43, 0, 0) (36 * (36 * s + i - 1) + p) then 1 else 0) 36 1 (by decide) (fun p _ _ => by split <;> omega) a (fun b p b1 b2 b3 b4 hY => ?_) ?_
      · rw [r_205_2 (hy := hy), if_pos (by omega), if_pos c.1, if_pos c.2, mm_wi (z := 36 * (36 * s + i - 1)) (by omega) (by omega), mm_wi (z := 36 * (36 * s + i - 1) + p) (by omega) (by omega)]
        refine ⟨hk, hk, by omega, ?_⟩
        split
        · rename_i h
          rw [if_pos ⟨c, h⟩] at hY
          rw [r_205_4 (hy := hy), mm_wi (by omega) (by omega), mm_wi (by omega) (by omega)]
          exact hY
        · rename_i h
          rw [if_neg (fun q => h q.2)] at hY
          rw [r_205_4 (hy := hy), mm_wi (by omega) (by omega), mm_wi (by omega) (by omega)]
          exact hY
      · rw [r_205_2 (hy := hy), if_neg (by omega), r_205_5 (hy := hy), mm_wi (by omega) (by omega), show 36 * s + i - 1 + 1 = 36 * s + (i + 1) - 1 by omega]
        exact hX _
    · rw [sm_zero (f := fun p => if (hi (41, 0, 0) (36 * s + i - 1) = 1 ∧ hi (47, 0, 0) (36 * s + i - 1) = u) ∧ 0 < hi (43, 0, 0) (36 * (36 * s + i - 1) + p) then 1 else 0) 36 (fun _ _ _ => by rw [if_neg (fun q => c q.1)]), Int.add_zero] at hX
      rw [r_205_2 (hy := hy), if_pos (by omega)]
      refine ⟨hk, ?_⟩
      split
      · rename_i h1
        refine ⟨hk, ?_⟩
        rw [if_neg (fun q => c ⟨h1, q⟩)]
        exact five _ (hX _)
      · exact five _ (hX _)
  · intro v
    rw [r_205_1 (hy := hy)]
    refine m175 hy hs (by omega) ?_
    rw [mm_pI, r_205_1_4 (hy := hy), if_pos (by omega)]
    exact K
theorem m207 (hy : 10581 ≤ nx) {s n i : Int} (hs : 0 ≤ s ∧ s < 29) (hn : 1 ≤ n ∧ n < 37) (hi1 : 0 ≤ i ∧ i < 2160) (hb : kk_br hi s)
    (K : Q (zI (if hi (43, 0, 0) (36 * (36 * s + n - 1) + i / 60) = 0 then 0 else mm_and (hi (54, 0, 0) (60 * hi (43, 0, 0) (36 * (36 * s + n - 1) + i / 60) + i % 60)) 255)) (mm_z hi dh nx ns)) :
    mm_Cl 207 [zR (40, 0, 0), zI s, zI n, zI i] (mm_z hi dh nx ns) Q := by
  have e1 : Int.tdiv i 60 = i / 60 := Int.tdiv_eq_ediv_of_nonneg hi1.1
  have e2 : Int.tmod i 60 = i % 60 := Int.tmod_eq_emod_of_nonneg hi1.1
  have pr := hb n (i / 60) hn.1 hn.2 (by omega) (by omega)
  rw [r_207_e (hy := hy)]
  refine m175 hy hs hn ?_
  rw [mm_pI, r_207_0_6 (hy := hy), e1, e2, mm_wi (z := i / 60) (by omega) (by omega), mm_wi (z := 36 * (36 * s + n - 1)) (by omega) (by omega), mm_wi (z := 36 * (36 * s + n - 1) + i / 60) (by omega) (by omega)]
  refine ⟨by omega, ?_⟩
  split
  · rename_i h
    rw [r_207_2 (hy := hy)]
    rw [if_pos h] at K
    exact K
  · rename_i h
    rw [if_neg h] at K
    rw [mm_wi (z := 60 * hi (43, 0, 0) (36 * (36 * s + n - 1) + i / 60)) (by omega) (by omega), mm_wi (by omega) (by omega), r_207_2 (hy := hy)]
    exact ⟨by omega, K⟩
end

