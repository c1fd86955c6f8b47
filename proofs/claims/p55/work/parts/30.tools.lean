/-! tools of the walking -/
theorem mm_wi {z : Int} (h : -2147483648 ≤ z) (h2 : z < 2147483648) : mm_w z = z := by unfold mm_w; omega
theorem mm_bi {z : Int} (h : -128 ≤ z) (h2 : z < 128) : mm_b z = z := by unfold mm_b; omega
theorem mm_bb (z : Int) : -128 ≤ mm_b z ∧ mm_b z < 128 := by unfold mm_b; omega
theorem mm_ups {α : Type} {f : mm_Id → Int → α} {x : mm_Id} {j : Int} {v : α} : mm_up f x j v x j = v := by simp [mm_up]
theorem mm_upf {α : Type} {f : mm_Id → Int → α} {a b : Nat} {t n t2 n2 : Int} {j k : Int} {v : α} (h : ¬ b = a) : mm_up f (a, t, n) j v (b, t2, n2) k = f (b, t2, n2) k := by simp [mm_up, h]
theorem mm_upj {α : Type} {f : mm_Id → Int → α} {x y : mm_Id} {j k : Int} {v : α} (h : ¬ k = j) : mm_up f x j v y k = f y k := by simp [mm_up, h]
theorem mm_upx {α : Type} {f : mm_Id → Int → α} {x y : mm_Id} {j k : Int} {v : α} (h : ¬ y = x) : mm_up f x j v y k = f y k := by simp [mm_up, h]
/-- two lists side by side: a gap is made at i by going down from c; one is closed at p by going up to i -/
def mm_shu (f : mm_Id → Int → Int) (x y : mm_Id) (i c : Int) : mm_Id → Int → Int := fun z k => if (z = x ∨ z = y) ∧ i < k ∧ k ≤ c then f z (k - 1) else f z k
def mm_shd (f : mm_Id → Int → Int) (x y : mm_Id) (p i : Int) : mm_Id → Int → Int := fun z k => if (z = x ∨ z = y) ∧ p ≤ k ∧ k < i then f z (k + 1) else f z k
theorem mm_shu0 (f : mm_Id → Int → Int) (x y : mm_Id) (c : Int) : mm_shu f x y c c = f := by
  funext z k
  unfold mm_shu
  rw [if_neg (by omega)]
theorem mm_shd0 (f : mm_Id → Int → Int) (x y : mm_Id) (c : Int) : mm_shd f x y c c = f := by
  funext z k
  unfold mm_shd
  rw [if_neg (by omega)]
theorem mm_shu1 (f : mm_Id → Int → Int) {x y : mm_Id} {i c : Int} (h : i ≤ c) (hx : ¬ x = y) : mm_up (mm_up (mm_shu f x y i c) x i (mm_shu f x y i c x (i - 1))) y i (mm_up (mm_shu f x y i c) x i (mm_shu f x y i c x (i - 1)) y (i - 1)) = mm_shu f x y (i - 1) c := by
  funext z k
  unfold mm_up mm_shu
  grind
theorem mm_shd1 (f : mm_Id → Int → Int) {x y : mm_Id} {p i : Int} (h : p ≤ i) (hx : ¬ x = y) : mm_up (mm_up (mm_shd f x y p i) x i (mm_shd f x y p i x (i + 1))) y i (mm_up (mm_shd f x y p i) x i (mm_shd f x y p i x (i + 1)) y (i + 1)) = mm_shd f x y p (i + 1) := by
  funext z k
  unfold mm_up mm_shd
  grind
theorem mm_shuf {f : mm_Id → Int → Int} {x y z : mm_Id} {i c k : Int} (h1 : ¬ z = x) (h2 : ¬ z = y) : mm_shu f x y i c z k = f z k := by simp [mm_shu, h1, h2]
theorem mm_shdf {f : mm_Id → Int → Int} {x y z : mm_Id} {i c k : Int} (h1 : ¬ z = x) (h2 : ¬ z = y) : mm_shd f x y i c z k = f z k := by simp [mm_shd, h1, h2]
theorem mm_idf {a b : Nat} {t n t2 n2 : Int} (h : ¬ a = b) : ¬ ((a, t, n) : mm_Id) = (b, t2, n2) := by intro q; injection q with q; exact h q
section
variable {hi : mm_Id → Int → Int} {dh : Int → Int} {nx ns : Int} {Q : mm_V → mm_H → Prop} {t n : Int}
/-- how many names are less -/
theorem s98 (ht : mm_isT t) (hn : mm_isN n) (hx : 5275 ≤ nx) {x : Int} (hc : 0 ≤ hi (24, t, n) 6 ∧ hi (24, t, n) 6 ≤ 24)
    (K : ∀ p, 0 ≤ p → p ≤ hi (24, t, n) 6 → (∀ i, 0 ≤ i → i < p → hi (25, t, n) i < x) → (p < hi (24, t, n) 6 → x ≤ hi (25, t, n) p) → Q (zI p) (mm_z hi dh nx ns)) :
    mm_Cl 98 [zR (24, t, n), zI x] (mm_z hi dh nx ns) Q := by
  have L : ∀ (k : Nat) (p : Int), 0 ≤ p → hi (24, t, n) 6 - p = k → (∀ i, 0 ≤ i → i < p → hi (25, t, n) i < x) → mm_Wp 98 (mm_blk 98 1) [zR (24, t, n), zI x, zI p] [] (mm_z hi dh nx ns) Q := by
    intro k
    induction k with
    | zero =>
      intro p h1 h2 h3
      rw [r_98_1 (htx0 := ht) (hnx0 := hn) (hx := hx), if_neg (by omega), r_98_2 (hx := hx)]
      exact K p h1 (by omega) h3 (fun q => by omega)
    | succ k ih =>
      intro p h1 h2 h3
      rw [r_98_1 (htx0 := ht) (hnx0 := hn) (hx := hx), if_pos (by omega)]
      refine ⟨by omega, ?_⟩
      split
      · rename_i h4
        rw [mm_wi (by omega) (by omega)]
        exact ih (p + 1) (by omega) (by omega) (fun i a b => by
          by_cases e : i = p
          · rw [e]; exact h4
          · exact h3 i a (by omega))
      · rename_i h4
        rw [r_98_2 (hx := hx)]
        exact K p h1 (by omega) h3 (fun _ => by omega)
  rw [r_98_e (htx0 := ht) (hnx0 := hn) (hx := hx)]
  exact L (hi (24, t, n) 6).toNat 0 (by omega) (by omega) (fun i a b => by omega)
/-- sorted strictly, as far as a count -/
def mm_srt (f : Int → Int) (c : Int) : Prop := ∀ i j, 0 ≤ i → i < j → j < c → f i < f j
theorem s99 (ht : mm_isT t) (hn : mm_isN n) (hx : 5275 ≤ nx) {x : Int} (hc : 0 ≤ hi (24, t, n) 6 ∧ hi (24, t, n) 6 ≤ 24)
    (hs : mm_srt (hi (25, t, n)) (hi (24, t, n) 6))
    (K1 : ∀ p, 0 ≤ p → p < hi (24, t, n) 6 → hi (25, t, n) p = x → Q (zI (hi (26, t, n) p)) (mm_z hi dh nx ns))
    (K2 : (∀ p, 0 ≤ p → p < hi (24, t, n) 6 → ¬ hi (25, t, n) p = x) → Q (zI 0) (mm_z hi dh nx ns)) :
    mm_Cl 99 [zR (24, t, n), zI x] (mm_z hi dh nx ns) Q := by
  rw [r_99_e (htx0 := ht) (hnx0 := hn) (hx := hx)]
  refine s98 ht hn hx hc (fun p h1 h2 h3 h4 => ?_)
  have h5 : (p < hi (24, t, n) 6 → ¬ hi (25, t, n) p = x) → ∀ q, 0 ≤ q → q < hi (24, t, n) 6 → ¬ hi (25, t, n) q = x := by
    intro h6 q a b e
    by_cases c1 : q < p
    · have := h3 q a c1; omega
    · by_cases c2 : q = p
      · subst c2; exact h6 b e
      · have := hs p q h1 (by omega) b
        have := h4 (by omega)
        omega
  rw [mm_pI, r_99_0_3 (htx0 := ht) (hnx0 := hn) (hx := hx)]
  split
  · rename_i h6
    refine ⟨by omega, ?_⟩
    split
    · rename_i h7
      refine ⟨by omega, ?_⟩
      rw [r_99_2 (hx := hx)]
      exact K1 p h1 h6 h7
    · rename_i h7
      rw [r_99_1 (hx := hx), r_99_2 (hx := hx)]
      exact K2 (h5 (fun _ => h7))
  · rename_i h6
    rw [r_99_1 (hx := hx), r_99_2 (hx := hx)]
    exact K2 (h5 (fun q => absurd q h6))
/-- a name is entered -/
theorem s100 (ht : mm_isT t) (hn : mm_isN n) (hx : 5275 ≤ nx) {x m : Int} (hc : 0 ≤ hi (24, t, n) 6 ∧ hi (24, t, n) 6 < 24)
    (K : ∀ p, 0 ≤ p → p ≤ hi (24, t, n) 6 → (∀ i, 0 ≤ i → i < p → hi (25, t, n) i < x) → (p < hi (24, t, n) 6 → x ≤ hi (25, t, n) p) →
      Q zU (mm_z (mm_up (mm_up (mm_up (mm_shu hi (25, t, n) (26, t, n) p (hi (24, t, n) 6)) (25, t, n) p x) (26, t, n) p m) (24, t, n) 6 (hi (24, t, n) 6 + 1)) dh nx ns)) :
    mm_Cl 100 [zR (24, t, n), zI x, zI m] (mm_z hi dh nx ns) Q := by
  rw [r_100_e (htx0 := ht) (hnx0 := hn) (hx := hx), if_pos hc.2]
  refine s98 ht hn hx ⟨hc.1, by omega⟩ (fun p h1 h2 h3 h4 => ?_)
  rw [mm_pI, r_100_1_3 (htx0 := ht) (hnx0 := hn) (hx := hx)]
  have L : ∀ (k : Nat) (i : Int), i - p = k → i ≤ hi (24, t, n) 6 → mm_Wp 100 (mm_blk 100 2) [zR (24, t, n), zI x, zI m, zI p, zI i] [] (mm_z (mm_shu hi (25, t, n) (26, t, n) i (hi (24, t, n) 6)) dh nx ns) Q := by
    intro k
    induction k with
    | zero =>
      intro i e1 e2
      have e3 : i = p := by omega
      subst e3
      rw [r_100_2 (htx0 := ht) (hnx0 := hn) (hx := hx), if_neg (by omega)]
      refine ⟨by omega, by omega, ?_⟩
      rw [mm_upf (by decide), mm_upf (by decide), mm_shuf (mm_idf (by decide)) (mm_idf (by decide)), mm_wi (by omega) (by omega)]
      exact K i h1 h2 h3 h4
    | succ k ih =>
      intro i e1 e2
      rw [r_100_2 (htx0 := ht) (hnx0 := hn) (hx := hx), if_pos (by omega), mm_wi (z := i - 1) (by omega) (by omega), mm_wi (by omega) (by omega), mm_shu1 hi e2 (mm_idf (by decide))]
      exact ⟨by omega, by omega, by omega, by omega, ih (i - 1) (by omega) (by omega)⟩
  have L2 := L (hi (24, t, n) 6 - p).toNat (hi (24, t, n) 6) (by omega) (by omega)
  rw [mm_shu0] at L2
  exact L2
/-- a name is struck out -/
theorem s101 (ht : mm_isT t) (hn : mm_isN n) (hx : 5275 ≤ nx) {x : Int} (hc : 0 ≤ hi (24, t, n) 6 ∧ hi (24, t, n) 6 ≤ 24)
    (hs : mm_srt (hi (25, t, n)) (hi (24, t, n) 6))
    (K1 : ∀ p, 0 ≤ p → p < hi (24, t, n) 6 → hi (25, t, n) p = x → Q zU (mm_z (mm_shd (mm_up hi (24, t, n) 6 (hi (24, t, n) 6 - 1)) (25, t, n) (26, t, n) p (hi (24, t, n) 6 - 1)) dh nx ns))
    (K2 : (∀ p, 0 ≤ p → p < hi (24, t, n) 6 → ¬ hi (25, t, n) p = x) → Q zU (mm_z hi dh nx ns)) :
    mm_Cl 101 [zR (24, t, n), zI x] (mm_z hi dh nx ns) Q := by
  rw [r_101_e (htx0 := ht) (hnx0 := hn) (hx := hx)]
  refine s98 ht hn hx hc (fun p h1 h2 h3 h4 => ?_)
  have h5 : (p < hi (24, t, n) 6 → ¬ hi (25, t, n) p = x) → ∀ q, 0 ≤ q → q < hi (24, t, n) 6 → ¬ hi (25, t, n) q = x := by
    intro h6 q a b e
    by_cases c1 : q < p
    · have := h3 q a c1; omega
    · by_cases c2 : q = p
      · subst c2; exact h6 b e
      · have := hs p q h1 (by omega) b
        have := h4 (by omega)
        omega
  rw [mm_pI, r_101_0_3 (htx0 := ht) (hnx0 := hn) (hx := hx)]
  split
  · rename_i h6
    refine ⟨by omega, ?_⟩
    split
    · rename_i h7
      have hc2 : hi (24, t, n) 6 ≤ 24 := hc.2
      rw [mm_wi (by omega) (by omega)]
      have L : ∀ (k : Nat) (i : Int), hi (24, t, n) 6 - 1 - i = k → p ≤ i → mm_Wp 101 (mm_blk 101 3) [zR (24, t, n), zI x, zI p, zI i] [] (mm_z (mm_shd (mm_up hi (24, t, n) 6 (hi (24, t, n) 6 - 1)) (25, t, n) (26, t, n) p i) dh nx ns) Q := by
        intro k
        induction k with
        | zero =>
          intro i e1 e2
          have e3 : i = hi (24, t, n) 6 - 1 := by omega
          subst e3
          rw [r_101_3 (htx0 := ht) (hnx0 := hn) (hx := hx), mm_shdf (mm_idf (by decide)) (mm_idf (by decide)), mm_ups, if_neg (by omega)]
          exact K1 p h1 h6 h7
        | succ k ih =>
          intro i e1 e2
          rw [r_101_3 (htx0 := ht) (hnx0 := hn) (hx := hx), mm_shdf (mm_idf (by decide)) (mm_idf (by decide)), mm_ups, if_pos (by omega), mm_wi (z := i + 1) (by omega) (by omega), mm_shd1 _ e2 (mm_idf (by decide))]
          exact ⟨by omega, by omega, by omega, by omega, ih (i + 1) (by omega) (by omega)⟩
      have L2 := L (hi (24, t, n) 6 - 1 - p).toNat p (by omega) (by omega)
      rw [mm_shd0] at L2
      exact L2
    · rename_i h7
      rw [r_101_1 (hx := hx)]
      exact K2 (h5 (fun _ => h7))
  · rename_i h6
    rw [r_101_1 (hx := hx)]
    exact K2 (h5 (fun q => absurd q h6))
end

