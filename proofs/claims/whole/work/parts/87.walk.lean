/-! the calls of both: the walk along a path -/
theorem kk_i3 {P Q R : Prop} [Decidable P] [Decidable Q] [Decidable R] {A B : Prop} (F : P ∧ (¬ Q ∨ ¬ R)) : (if P then (if Q then (if R then A else B) else B) else A) = B := by
  rw [if_pos F.1]
  by_cases q : Q
  · rw [if_pos q, if_neg (by rcases F.2 with w | w; exact absurd q w; exact w)]
  · rw [if_neg q]
theorem kk_i3n {P Q R : Prop} [Decidable P] [Decidable Q] [Decidable R] {A B : Prop} (F : ¬ (P ∧ (¬ Q ∨ ¬ R))) : (if P then (if Q then (if R then A else B) else B) else A) = A := by
  by_cases p : P
  · have q : Q := Decidable.byContradiction (fun q => F ⟨p, Or.inl q⟩)
    have r : R := Decidable.byContradiction (fun r => F ⟨p, Or.inr r⟩)
    rw [if_pos p, if_pos q, if_pos r]
  · rw [if_neg p]
section
variable {hi : mm_Id → Int → Int} {dh : Int → Int} {nx ns : Int} {Q : mm_V → mm_H → Prop}
theorem s124 (hx : 5275 ≤ nx) {c m : Int} (ec : hi (5, 0, 0) 3 = c) (hc : 0 ≤ c) (hm : 0 ≤ m ∧ m ≤ 8) (h100 : c + m ≤ 100)
    (K : ∀ h2, h2 (5, 0, 0) 3 = c + m → (∀ j, 0 ≤ j → j < c → h2 (7, 0, 0) j = hi (7, 0, 0) j) → (∀ q, 0 ≤ q → q < m → h2 (7, 0, 0) (c + q) = hi (6, 0, 0) (m - 1 - q)) → (∀ x j, x ≠ (7, 0, 0) → ¬ (x = (5, 0, 0) ∧ j = 3) → h2 x j = hi x j) → Q zU (mm_z h2 dh nx ns)) : mm_Cl 124 [zR (5, 0, 0), zR (6, 0, 0), zI m] (mm_z hi dh nx ns) Q := by
  have L : ∀ (k : Nat) (i : Int) (g : mm_Id → Int → Int) (v : mm_V), i + 1 = k → i ≤ m - 1 → g (5, 0, 0) 3 = c + (m - 1 - i) → (∀ j, 0 ≤ j → j < c → g (7, 0, 0) j = hi (7, 0, 0) j) → (∀ q, 0 ≤ q → q < m - 1 - i → g (7, 0, 0) (c + q) = hi (6, 0, 0) (m - 1 - q)) → (∀ x j, x ≠ (7, 0, 0) → ¬ (x = (5, 0, 0) ∧ j = 3) → g x j = hi x j) →
      mm_Wp 124 (mm_blk 124 1) [zR (5, 0, 0), zR (6, 0, 0), v, zI i] [] (mm_z g dh nx ns) Q := by
    intro k
    induction k with
    | zero =>
      intro i g v e1 e2 e3 e4 e5 e6
      rw [r_124_1 (hx := hx), if_pos (by omega), r_124_2 (hx := hx)]
      exact K g (by omega) e4 (fun q q0 q1 => e5 q q0 (by omega)) e6
    | succ k ih =>
      intro i g v e1 e2 e3 e4 e5 e6
      rw [r_124_1 (hx := hx), if_neg (by omega), if_pos (by omega), mm_upf (by decide), e3, mm_wi (z := i + -1) (by omega) (by omega), mm_wi (by omega) (by omega)]
      refine ⟨by omega, by omega, ih (i + -1) _ v (by omega) (by omega) (by rw [mm_ups]; omega) (fun j j0 j1 => ?_) (fun q q0 q1 => ?_) (fun x j a1 a2 => ?_)⟩
      · rw [mm_upf (by decide), mm_upj (by omega)]; exact e4 j j0 j1
      · rw [mm_upf (by decide)]
        by_cases z : q = m - 1 - i
        · rw [z, mm_ups, e6 _ _ (by simp) (by simp)]
          congr 1; omega
        · rw [mm_upj (by omega)]; exact e5 q q0 (by omega)
      · rw [mm_upne' a2, mm_upx a1]; exact e6 x j a1 a2
  rw [r_124_e (hx := hx)]
  have em : (if 8 < m then (8 : Int) else m) = m := if_neg (by omega)
  rw [em, mm_wi (by omega) (by omega)]
  exact L m.toNat (m - 1) hi _ (by omega) (by omega) (by omega) (fun _ _ _ => rfl) (fun q a b => by omega) (fun _ _ _ _ => rfl)
theorem s124n (hx : 5275 ≤ nx) {t n : Int} (ht : mm_isT t) (hn : mm_isN n) {c m : Int} (ec : hi (5, 0, 0) 3 = c) (hc : 0 ≤ c) (hm : 0 ≤ m ∧ m ≤ 8) (h100 : c + m ≤ 100)
    (K : ∀ h2, h2 (5, 0, 0) 3 = c + m → (∀ j, 0 ≤ j → j < c → h2 (7, 0, 0) j = hi (7, 0, 0) j) → (∀ q, 0 ≤ q → q < m → h2 (7, 0, 0) (c + q) = hi (30, t, n) (m - 1 - q)) → (∀ x j, x ≠ (7, 0, 0) → ¬ (x = (5, 0, 0) ∧ j = 3) → h2 x j = hi x j) → Q zU (mm_z h2 dh nx ns)) : mm_Cl 124 [zR (5, 0, 0), zR (30, t, n), zI m] (mm_z hi dh nx ns) Q := by
  have L : ∀ (k : Nat) (i : Int) (g : mm_Id → Int → Int) (v : mm_V), i + 1 = k → i ≤ m - 1 → g (5, 0, 0) 3 = c + (m - 1 - i) → (∀ j, 0 ≤ j → j < c → g (7, 0, 0) j = hi (7, 0, 0) j) → (∀ q, 0 ≤ q → q < m - 1 - i → g (7, 0, 0) (c + q) = hi (30, t, n) (m - 1 - q)) → (∀ x j, x ≠ (7, 0, 0) → ¬ (x = (5, 0, 0) ∧ j = 3) → g x j = hi x j) →
      mm_Wp 124 (mm_blk 124 1) [zR (5, 0, 0), zR (30, t, n), v, zI i] [] (mm_z g dh nx ns) Q := by
    intro k
    induction k with
    | zero =>
      intro i g v e1 e2 e3 e4 e5 e6
      rw [r_124_1a (htx1 := ht) (hnx1 := hn) (hx := hx), if_pos (by omega), r_124_2 (hx := hx)]
      exact K g (by omega) e4 (fun q q0 q1 => e5 q q0 (by omega)) e6
    | succ k ih =>
      intro i g v e1 e2 e3 e4 e5 e6
      rw [r_124_1a (htx1 := ht) (hnx1 := hn) (hx := hx), if_neg (by omega), if_pos (by omega), mm_upf (by decide), e3, mm_wi (z := i + -1) (by omega) (by omega), mm_wi (by omega) (by omega)]
      refine ⟨by omega, by omega, ih (i + -1) _ v (by omega) (by omega) (by rw [mm_ups]; omega) (fun j j0 j1 => ?_) (fun q q0 q1 => ?_) (fun x j a1 a2 => ?_)⟩
      · rw [mm_upf (by decide), mm_upj (by omega)]; exact e4 j j0 j1
      · rw [mm_upf (by decide)]
        by_cases z : q = m - 1 - i
        · rw [z, mm_ups, e6 _ _ (by simp) (by simp)]
          congr 1; omega
        · rw [mm_upj (by omega)]; exact e5 q q0 (by omega)
      · rw [mm_upne' a2, mm_upx a1]; exact e6 x j a1 a2
  rw [r_124_ea (htx1 := ht) (hnx1 := hn) (hx := hx)]
  have em : (if 8 < m then (8 : Int) else m) = m := if_neg (by omega)
  rw [em, mm_wi (by omega) (by omega)]
  exact L m.toNat (m - 1) hi _ (by omega) (by omega) (by omega) (fun _ _ _ => rfl) (fun q a b => by omega) (fun _ _ _ _ => rfl)
/-- a link's names are put before what is ahead -/
theorem m216l (hy : 5306 ≤ nx) {k c m : Int} {v1 v2 v9 v10 : mm_V} {x3 x4 x7 : Int} (hk : 0 ≤ k ∧ k < 1044) (hc : 0 ≤ c) (hm : 0 ≤ m ∧ m ≤ 8) (h80 : c + m ≤ 80) {at0 : Int}
    (K : ∀ h2, (∀ j, 0 ≤ j → j < c → h2 (66, 0, 0) j = hi (66, 0, 0) j) → (∀ q, 0 ≤ q → q < m → h2 (66, 0, 0) (c + q) = hi (52, 0, 0) (8 * k + (m - 1 - q))) → (∀ x j, x ≠ (66, 0, 0) → h2 x j = hi x j) → ∀ v12, mm_Wp 216 (mm_blk 216 5) [zR (40, 0, 0), v1, v2, zI x3, zI x4, zI (c + m), zI (if hi (53, 0, 0) k = 0 then at0 else 1), zI x7, zI 0, v9, v10, zI k, v12] [] (mm_z h2 dh nx ns) Q) :
    mm_Wp 216 (mm_blk 216 22) [zR (40, 0, 0), v1, v2, zI x3, zI x4, zI c, zI at0, zI x7, zI 0, v9, v10, zI k, zI (m - 1)] [] (mm_z hi dh nx ns) Q := by
  have L : ∀ (l : Nat) (i : Int) (g : mm_Id → Int → Int), i + 1 = l → i ≤ m - 1 → (∀ j, 0 ≤ j → j < c → g (66, 0, 0) j = hi (66, 0, 0) j) → (∀ q, 0 ≤ q → q < m - 1 - i → g (66, 0, 0) (c + q) = hi (52, 0, 0) (8 * k + (m - 1 - q))) → (∀ x j, x ≠ (66, 0, 0) → g x j = hi x j) →
      mm_Wp 216 (mm_blk 216 22) [zR (40, 0, 0), v1, v2, zI x3, zI x4, zI (c + (m - 1 - i)), zI at0, zI x7, zI 0, v9, v10, zI k, zI i] [] (mm_z g dh nx ns) Q := by
    intro l
    induction l with
    | zero =>
      intro i g e1 e2 e4 e5 e6
      have ei : i = -1 := by omega
      subst ei
      have K2 := K g e4 (fun q q0 q1 => e5 q q0 (by omega)) e6 (zI (-1))
      rw [r_216_22 (hy := hy), if_pos (by decide), e6 _ _ (by simp)]
      refine ⟨hk, ?_⟩
      have ec : c + (m - 1 - -1) = c + m := by omega
      rw [ec]
      by_cases z : hi (53, 0, 0) k = 0
      · rw [if_pos z, r_216_25 (hy := hy)]
        rw [if_pos z] at K2
        exact K2
      · rw [if_neg z, r_216_25 (hy := hy)]
        rw [if_neg z] at K2
        exact K2
    | succ l ih =>
      intro i g e1 e2 e4 e5 e6
      have e8 : mm_w (mm_w (8 * k) + i) = 8 * k + i := by rw [mm_wi (z := 8 * k) (by omega) (by omega), mm_wi (by omega) (by omega)]
      have e9 : mm_w (i + -1) = i - 1 := by rw [mm_wi (by omega) (by omega)]; omega
      have e10 : mm_w (c + (m - 1 - i) + 1) = c + (m - 1 - (i - 1)) := by rw [mm_wi (by omega) (by omega)]; omega
      rw [r_216_22 (hy := hy), if_neg (by omega), e8, e9, e10]
      refine ⟨by omega, by omega, ih (i - 1) _ (by omega) (by omega) (fun j j0 j1 => ?_) (fun q q0 q1 => ?_) (fun x j a1 => ?_)⟩
      · rw [mm_upj (by omega)]; exact e4 j j0 j1
      · by_cases z : q = m - 1 - i
        · rw [z, mm_ups, e6 _ _ (by simp)]
          congr 1; omega
        · rw [mm_upj (by omega)]; exact e5 q q0 (by omega)
      · rw [mm_upx a1]; exact e6 x j a1
  have L0 := L m.toNat (m - 1) hi (by omega) (by omega) (fun _ _ _ => rfl) (fun q a b => by omega) (fun _ _ _ => rfl)
  have ec : c + (m - 1 - (m - 1)) = c := by omega
  rw [ec] at L0
  exact L0
/-- the path is laid out -/
theorem m216p (hy : 5306 ≤ nx) {m n : Int} {v1 v7 v8 v9 v10 v11 v12 : mm_V} {x3 x4 : Int} (hm : 0 ≤ m ∧ m ≤ 8)
    (K : ∀ h2, (∀ q, 0 ≤ q → q < m → h2 (66, 0, 0) q = hi (65, 0, 0) (m - 1 - q)) → (∀ x j, x ≠ (66, 0, 0) → h2 x j = hi x j) → mm_Wp 216 (mm_blk 216 5) [zR (40, 0, 0), v1, zI n, zI x3, zI x4, zI m, zI n, zI 0, zI 0, v9, v10, v11, v12] [] (mm_z h2 dh nx ns) Q) :
    mm_Wp 216 (mm_blk 216 3) [zR (40, 0, 0), v1, zI n, zI x3, zI x4, zI 0, zI (m - 1), v7, v8, v9, v10, v11, v12] [] (mm_z hi dh nx ns) Q := by
  have L : ∀ (l : Nat) (i : Int) (g : mm_Id → Int → Int), i + 1 = l → i ≤ m - 1 → (∀ q, 0 ≤ q → q < m - 1 - i → g (66, 0, 0) q = hi (65, 0, 0) (m - 1 - q)) → (∀ x j, x ≠ (66, 0, 0) → g x j = hi x j) →
      mm_Wp 216 (mm_blk 216 3) [zR (40, 0, 0), v1, zI n, zI x3, zI x4, zI (m - 1 - i), zI i, v7, v8, v9, v10, v11, v12] [] (mm_z g dh nx ns) Q := by
    intro l
    induction l with
    | zero =>
      intro i g e1 e2 e5 e6
      have ei : i = -1 := by omega
      subst ei
      have ec : m - 1 - -1 = m := by omega
      rw [r_216_3 (hy := hy), if_pos (by decide), ec]
      exact K g (fun q q0 q1 => e5 q q0 (by omega)) e6
    | succ l ih =>
      intro i g e1 e2 e5 e6
      have e9 : mm_w (i + -1) = i - 1 := by rw [mm_wi (by omega) (by omega)]; omega
      have e10 : mm_w (m - 1 - i + 1) = m - 1 - (i - 1) := by rw [mm_wi (by omega) (by omega)]; omega
      rw [r_216_3 (hy := hy), if_neg (by omega), e9, e10]
      refine ⟨by omega, by omega, ih (i - 1) _ (by omega) (by omega) (fun q q0 q1 => ?_) (fun x j a1 => ?_)⟩
      · by_cases z : q = m - 1 - i
        · rw [z, mm_ups, e6 _ _ (by simp)]
          congr 1; omega
        · rw [mm_upj (by omega)]; exact e5 q q0 (by omega)
      · rw [mm_upx a1]; exact e6 x j a1
  have L0 := L m.toNat (m - 1) hi (by omega) (by omega) (fun q a b => by omega) (fun _ _ _ => rfl)
  have ec : m - 1 - (m - 1) = 0 := by omega
  rw [ec] at L0
  exact L0
end

