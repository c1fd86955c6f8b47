/-! the reference: copies, entries counted, files swept -/
theorem kk_mx1 {a b e : Int} {f : Nat} (h : a ≠ b) (hf : f = 50 ∨ f = 51) (he : 0 ≤ e ∧ e < 4) : ¬ kk_mx b (f, 0, 0) (4 * a + e) := by
  unfold kk_mx kk_mf
  simp only
  omega
theorem kk_mx2 {a b e : Int} (h : a ≠ b) (he : 0 ≤ e ∧ e < 8) : ¬ kk_mx b (52, 0, 0) (8 * a + e) := by
  unfold kk_mx kk_mf
  simp only
  omega
theorem kk_mx3 {a b e : Int} (h : a ≠ b) (he : 0 ≤ e ∧ e < 36) : ¬ kk_mx b (43, 0, 0) (36 * a + e) := by
  unfold kk_mx kk_mf
  simp only
  omega
theorem kk_mx4 {a b e : Int} {f : Nat} (h : a ≠ b) (hf : f = 45 ∨ f = 46) (he : 0 ≤ e ∧ e < 24) : ¬ kk_mx b (f, 0, 0) (24 * a + e) := by
  unfold kk_mx kk_mf
  simp only
  omega
theorem kk_mx5 {a b : Int} {f : Nat} (h : a ≠ b) (hf : kk_mf f) : ¬ kk_mx b (f, 0, 0) a := by
  unfold kk_mf at hf
  unfold kk_mx kk_mf
  simp only
  omega
theorem kk_mx6 {b k j : Int} {f : Nat} {t n : Int} (hf : f < 41 ∨ 53 < f) : ¬ kk_mx b (f, t, n) j := by
  unfold kk_mx kk_mf
  simp only
  omega
theorem kk_m43 {b e : Int} (he : 0 ≤ e ∧ e < 36) : kk_mx b (43, 0, 0) (36 * b + e) := Or.inr (Or.inl ⟨rfl, by omega, by omega⟩)
theorem kk_m45 {b e : Int} {f : Nat} (hf : f = 45 ∨ f = 46) (he : 0 ≤ e ∧ e < 24) : kk_mx b (f, 0, 0) (24 * b + e) := Or.inr (Or.inr (Or.inl ⟨hf, by omega, by omega⟩))
theorem kk_m50 {b e : Int} {f : Nat} (hf : f = 50 ∨ f = 51) (he : 0 ≤ e ∧ e < 4) : kk_mx b (f, 0, 0) (4 * b + e) := Or.inr (Or.inr (Or.inr (Or.inl ⟨hf, by omega, by omega⟩)))
theorem kk_m52 {b e : Int} (he : 0 ≤ e ∧ e < 8) : kk_mx b (52, 0, 0) (8 * b + e) := Or.inr (Or.inr (Or.inr (Or.inr ⟨rfl, by omega, by omega⟩)))
section
variable {hi : mm_Id → Int → Int} {dh : Int → Int} {nx ns : Int} {Q : mm_V → mm_H → Prop}
theorem m178 (hy : 10581 ≤ nx) {a b : Int} (ha : 0 ≤ a ∧ a < 1044) (hb : 0 ≤ b ∧ b < 1044) (hab : a ≠ b) (hfr : hi (53, 0, 0) a = 0 ∨ hi (53, 0, 0) a = 1) (hc : 0 ≤ hi (44, 0, 0) a ∧ hi (44, 0, 0) a ≤ 24) (hk : 0 ≤ hi (49, 0, 0) a ∧ hi (49, 0, 0) a ≤ 4)
    (K : ∀ h2, kk_ms h2 b hi a → (∀ x j, ¬ kk_mx b x j → h2 x j = hi x j) → Q zU (mm_z h2 dh nx ns)) :
    mm_Cl 178 [zR (40, 0, 0), zI a, zI b] (mm_z hi dh nx ns) Q := by
  -- names
  have L7 : ∀ (d : Nat) (i : Int) (h : mm_Id → Int → Int), hi (44, 0, 0) a - i = d → 0 ≤ i → (∀ f, kk_mf f → h (f, 0, 0) b = hi (f, 0, 0) a) → (∀ p, 0 ≤ p → p < 36 → h (43, 0, 0) (36 * b + p) = hi (43, 0, 0) (36 * a + p)) → (∀ e, 0 ≤ e → e < i → h (45, 0, 0) (24 * b + e) = hi (45, 0, 0) (24 * a + e) ∧ h (46, 0, 0) (24 * b + e) = hi (46, 0, 0) (24 * a + e)) →
      (∀ e, 0 ≤ e → e < hi (49, 0, 0) a → h (50, 0, 0) (4 * b + e) = hi (50, 0, 0) (4 * a + e) ∧ h (51, 0, 0) (4 * b + e) = hi (51, 0, 0) (4 * a + e)) → (∀ e, 0 ≤ e → e < 8 → h (52, 0, 0) (8 * b + e) = hi (52, 0, 0) (8 * a + e)) → (∀ x j, ¬ kk_mx b x j → h x j = hi x j) →
      mm_Wp 178 (mm_blk 178 7) [zR (40, 0, 0), zI a, zI b, zI i] [] (mm_z h dh nx ns) Q := by
    intro d
    induction d with
    | zero =>
      intro i h e1 e2 a1 a2 a3 a4 a5 a6
      rw [r_178_7 (hy := hy), a6 (44, 0, 0) a (kk_mx5 hab (by unfold kk_mf; omega)), if_neg (by omega)]
      exact ⟨ha, K h ⟨a1, a2, fun e b1 b2 => a3 e b1 (by omega), a4, a5⟩ a6⟩
    | succ d ih =>
      intro i h e1 e2 a1 a2 a3 a4 a5 a6
      rw [r_178_7 (hy := hy), a6 (44, 0, 0) a (kk_mx5 hab (by unfold kk_mf; omega)), if_pos (by omega), mm_wi (z := 24 * a) (by omega) (by omega), mm_wi (z := 24 * b) (by omega) (by omega), mm_wi (z := 24 * a + i) (by omega) (by omega), mm_wi (z := 24 * b + i) (by omega) (by omega), mm_wi (z := i + 1) (by omega) (by omega), mm_upf (by decide),
        a6 (45, 0, 0) (24 * a + i) (kk_mx4 hab (Or.inl rfl) (by omega)), a6 (46, 0, 0) (24 * a + i) (kk_mx4 hab (Or.inr rfl) (by omega))]
      refine ⟨ha, by omega, by omega, by omega, by omega, ih (i + 1) _ (by omega) (by omega) (fun f hf => ?_) (fun p b1 b2 => ?_) (fun e b1 b2 => ?_) (fun e b1 b2 => ?_) (fun e b1 b2 => ?_) (fun x j b1 => ?_)⟩
      · unfold kk_mf at hf
        rw [mm_upf (by omega), mm_upf (by omega)]; exact a1 f hf
      · rw [mm_upf (by decide), mm_upf (by decide)]; exact a2 p b1 b2
      · rw [mm_upf (by decide)]
        by_cases c : e = i
        · rw [c, mm_ups, mm_ups]; exact ⟨rfl, rfl⟩
        · rw [mm_upj (by omega), mm_upj (by omega), mm_upf (by decide)]; exact a3 e b1 (by omega)
      · rw [mm_upf (by decide), mm_upf (by decide), mm_upf (by decide), mm_upf (by decide)]; exact a4 e b1 b2
      · rw [mm_upf (by decide), mm_upf (by decide)]; exact a5 e b1 b2
      · rw [mm_upne' (by intro q; apply b1; rw [q.1, q.2]; exact kk_m45 (by decide) (by omega)), mm_upne' (by intro q; apply b1; rw [q.1, q.2]; exact kk_m45 (by decide) (by omega))]; exact a6 x j b1
  -- pieces
  have L5 : ∀ (d : Nat) (i : Int) (h : mm_Id → Int → Int), 36 - i = d → 0 ≤ i → (∀ f, kk_mf f → h (f, 0, 0) b = hi (f, 0, 0) a) → (∀ p, 0 ≤ p → p < i → h (43, 0, 0) (36 * b + p) = hi (43, 0, 0) (36 * a + p)) →
      (∀ e, 0 ≤ e → e < hi (49, 0, 0) a → h (50, 0, 0) (4 * b + e) = hi (50, 0, 0) (4 * a + e) ∧ h (51, 0, 0) (4 * b + e) = hi (51, 0, 0) (4 * a + e)) → (∀ e, 0 ≤ e → e < 8 → h (52, 0, 0) (8 * b + e) = hi (52, 0, 0) (8 * a + e)) → (∀ x j, ¬ kk_mx b x j → h x j = hi x j) →
      mm_Wp 178 (mm_blk 178 5) [zR (40, 0, 0), zI a, zI b, zI i] [] (mm_z h dh nx ns) Q := by
    intro d
    induction d with
    | zero =>
      intro i h e1 e2 a1 a2 a4 a5 a6
      rw [r_178_5 (hy := hy), if_neg (by omega)]
      exact L7 (hi (44, 0, 0) a).toNat 0 h (by omega) (by omega) a1 (fun p b1 b2 => a2 p b1 (by omega)) (fun e b1 b2 => by omega) a4 a5 a6
    | succ d ih =>
      intro i h e1 e2 a1 a2 a4 a5 a6
      rw [r_178_5 (hy := hy), if_pos (by omega), mm_wi (z := 36 * a) (by omega) (by omega), mm_wi (z := 36 * b) (by omega) (by omega), mm_wi (z := 36 * a + i) (by omega) (by omega), mm_wi (z := 36 * b + i) (by omega) (by omega), mm_wi (z := i + 1) (by omega) (by omega),
        a6 (43, 0, 0) (36 * a + i) (kk_mx3 hab (by omega))]
      refine ⟨by omega, by omega, ih (i + 1) _ (by omega) (by omega) (fun f hf => ?_) (fun p b1 b2 => ?_) (fun e b1 b2 => ?_) (fun e b1 b2 => ?_) (fun x j b1 => ?_)⟩
      · unfold kk_mf at hf
        rw [mm_upf (by omega)]; exact a1 f hf
      · by_cases c : p = i
        · rw [c, mm_ups]
        · rw [mm_upj (by omega)]; exact a2 p b1 (by omega)
      · rw [mm_upf (by decide), mm_upf (by decide)]; exact a4 e b1 b2
      · rw [mm_upf (by decide)]; exact a5 e b1 b2
      · rw [mm_upne' (by intro q; apply b1; rw [q.1, q.2]; exact kk_m43 (by omega))]; exact a6 x j b1
  -- paths
  have L3 : ∀ (d : Nat) (i : Int) (h : mm_Id → Int → Int), 8 - i = d → 0 ≤ i → (∀ f, kk_mf f → h (f, 0, 0) b = hi (f, 0, 0) a) →
      (∀ e, 0 ≤ e → e < hi (49, 0, 0) a → h (50, 0, 0) (4 * b + e) = hi (50, 0, 0) (4 * a + e) ∧ h (51, 0, 0) (4 * b + e) = hi (51, 0, 0) (4 * a + e)) → (∀ e, 0 ≤ e → e < i → h (52, 0, 0) (8 * b + e) = hi (52, 0, 0) (8 * a + e)) → (∀ x j, ¬ kk_mx b x j → h x j = hi x j) →
      mm_Wp 178 (mm_blk 178 3) [zR (40, 0, 0), zI a, zI b, zI i] [] (mm_z h dh nx ns) Q := by
    intro d
    induction d with
    | zero =>
      intro i h e1 e2 a1 a4 a5 a6
      rw [r_178_3 (hy := hy), if_neg (by omega)]
      exact L5 36 0 h (by omega) (by omega) a1 (fun p b1 b2 => by omega) a4 (fun e b1 b2 => a5 e b1 (by omega)) a6
    | succ d ih =>
      intro i h e1 e2 a1 a4 a5 a6
      rw [r_178_3 (hy := hy), if_pos (by omega), mm_wi (z := 8 * a) (by omega) (by omega), mm_wi (z := 8 * b) (by omega) (by omega), mm_wi (z := 8 * a + i) (by omega) (by omega), mm_wi (z := 8 * b + i) (by omega) (by omega), mm_wi (z := i + 1) (by omega) (by omega),
        a6 (52, 0, 0) (8 * a + i) (kk_mx2 hab (by omega))]
      refine ⟨by omega, by omega, ih (i + 1) _ (by omega) (by omega) (fun f hf => ?_) (fun e b1 b2 => ?_) (fun p b1 b2 => ?_) (fun x j b1 => ?_)⟩
      · unfold kk_mf at hf
        rw [mm_upf (by omega)]; exact a1 f hf
      · rw [mm_upf (by decide), mm_upf (by decide)]; exact a4 e b1 b2
      · by_cases c : p = i
        · rw [c, mm_ups]
        · rw [mm_upj (by omega)]; exact a5 p b1 (by omega)
      · rw [mm_upne' (by intro q; apply b1; rw [q.1, q.2]; exact kk_m52 (by omega))]; exact a6 x j b1
  -- keys
  have L1 : ∀ (d : Nat) (i : Int) (h : mm_Id → Int → Int), hi (49, 0, 0) a - i = d → 0 ≤ i → (∀ f, kk_mf f → h (f, 0, 0) b = hi (f, 0, 0) a) →
      (∀ e, 0 ≤ e → e < i → h (50, 0, 0) (4 * b + e) = hi (50, 0, 0) (4 * a + e) ∧ h (51, 0, 0) (4 * b + e) = hi (51, 0, 0) (4 * a + e)) → (∀ x j, ¬ kk_mx b x j → h x j = hi x j) →
      mm_Wp 178 (mm_blk 178 1) [zR (40, 0, 0), zI a, zI b, zI i] [] (mm_z h dh nx ns) Q := by
    intro d
    induction d with
    | zero =>
      intro i h e1 e2 a1 a4 a6
      rw [r_178_1 (hy := hy), a6 (49, 0, 0) a (kk_mx5 hab (by unfold kk_mf; omega)), if_neg (by omega)]
      exact ⟨ha, L3 8 0 h (by omega) (by omega) a1 (fun e b1 b2 => a4 e b1 (by omega)) (fun p b1 b2 => by omega) a6⟩
    | succ d ih =>
      intro i h e1 e2 a1 a4 a6
      rw [r_178_1 (hy := hy), a6 (49, 0, 0) a (kk_mx5 hab (by unfold kk_mf; omega)), if_pos (by omega), mm_wi (z := 4 * a) (by omega) (by omega), mm_wi (z := 4 * b) (by omega) (by omega), mm_wi (z := 4 * a + i) (by omega) (by omega), mm_wi (z := 4 * b + i) (by omega) (by omega), mm_wi (z := i + 1) (by omega) (by omega), mm_upf (by decide),
        a6 (50, 0, 0) (4 * a + i) (kk_mx1 hab (Or.inl rfl) (by omega)), a6 (51, 0, 0) (4 * a + i) (kk_mx1 hab (Or.inr rfl) (by omega))]
      refine ⟨ha, by omega, by omega, by omega, by omega, ih (i + 1) _ (by omega) (by omega) (fun f hf => ?_) (fun e b1 b2 => ?_) (fun x j b1 => ?_)⟩
      · unfold kk_mf at hf
        rw [mm_upf (by omega), mm_upf (by omega)]; exact a1 f hf
      · rw [mm_upf (by decide)]
        by_cases c : e = i
        · rw [c, mm_ups, mm_ups]; exact ⟨rfl, rfl⟩
        · rw [mm_upj (by omega), mm_upj (by omega), mm_upf (by decide)]; exact a4 e b1 (by omega)
      · rw [mm_upne' (by intro q; apply b1; rw [q.1, q.2]; exact kk_m50 (by decide) (by omega)), mm_upne' (by intro q; apply b1; rw [q.1, q.2]; exact kk_m50 (by decide) (by omega))]; exact a6 x j b1
  rw [r_178_e (hy := hy)]
  simp only [mm_upf (show ¬ (42 : Nat) = 41 by decide), mm_upf (show ¬ (44 : Nat) = 42 by decide), mm_upf (show ¬ (44 : Nat) = 41 by decide), mm_upf (show ¬ (47 : Nat) = 44 by decide), mm_upf (show ¬ (47 : Nat) = 42 by decide), mm_upf (show ¬ (47 : Nat) = 41 by decide),
    mm_upf (show ¬ (48 : Nat) = 47 by decide), mm_upf (show ¬ (48 : Nat) = 44 by decide), mm_upf (show ¬ (48 : Nat) = 42 by decide), mm_upf (show ¬ (48 : Nat) = 41 by decide), mm_upf (show ¬ (53 : Nat) = 48 by decide), mm_upf (show ¬ (53 : Nat) = 47 by decide), mm_upf (show ¬ (53 : Nat) = 44 by decide), mm_upf (show ¬ (53 : Nat) = 42 by decide), mm_upf (show ¬ (53 : Nat) = 41 by decide),
    mm_upf (show ¬ (49 : Nat) = 53 by decide), mm_upf (show ¬ (49 : Nat) = 48 by decide), mm_upf (show ¬ (49 : Nat) = 47 by decide), mm_upf (show ¬ (49 : Nat) = 44 by decide), mm_upf (show ¬ (49 : Nat) = 42 by decide), mm_upf (show ¬ (49 : Nat) = 41 by decide)]
  refine ⟨ha, hb, ha, hb, ha, hb, ha, hb, ha, hb, ha, ⟨hfr, hb⟩, ha, hb, L1 (hi (49, 0, 0) a).toNat 0 _ (by omega) (by omega) (fun f hf => ?_) (fun e b1 b2 => by omega) (fun x j b1 => ?_)⟩
  · unfold kk_mf at hf
    rcases hf with rfl | rfl | rfl | rfl | rfl | rfl | rfl <;> simp [mm_up]
  · have c : ∀ f, kk_mf f → ¬ (x = (f, 0, 0) ∧ j = b) := fun f hf q => b1 (by unfold kk_mx; rw [q.1]; exact Or.inl ⟨hf, q.2⟩)
    unfold kk_mf at c
    rw [mm_upne' (c 49 (by omega)), mm_upne' (c 53 (by omega)), mm_upne' (c 48 (by omega)), mm_upne' (c 47 (by omega)), mm_upne' (c 44 (by omega)), mm_upne' (c 42 (by omega)), mm_upne' (c 41 (by omega))]
/-- what a slot's cells are -/
def kk_sx (s : Int) (x : mm_Id) (j : Int) : Prop := ∃ n, 1 ≤ n ∧ n < 37 ∧ kk_mx (36 * s + n - 1) x j
def kk_mw (h : mm_Id → Int → Int) (a : Int) : Prop := (h (53, 0, 0) a = 0 ∨ h (53, 0, 0) a = 1) ∧ (0 ≤ h (44, 0, 0) a ∧ h (44, 0, 0) a ≤ 24) ∧ (0 ≤ h (49, 0, 0) a ∧ h (49, 0, 0) a ≤ 4)
theorem kk_mxd {a b : Int} (hab : a ≠ b) {x : mm_Id} {j : Int} (h : kk_mx a x j) : ¬ kk_mx b x j := by
  unfold kk_mx at h ⊢
  have e : kk_mf x.1 → ¬ (x.1 = 43 ∨ x.1 = 45 ∨ x.1 = 46 ∨ x.1 = 50 ∨ x.1 = 51 ∨ x.1 = 52) := by unfold kk_mf; omega
  by_cases c : kk_mf x.1
  · have := e c
    simp only [c, true_and] at h ⊢
    omega
  · simp only [c, false_and, false_or] at h ⊢
    omega
theorem kk_msk {h g : mm_Id → Int → Int} {b a : Int} {h2 : mm_Id → Int → Int} (hm : kk_ms h b g a) (hc : 0 ≤ g (44, 0, 0) a ∧ g (44, 0, 0) a ≤ 24) (hk : 0 ≤ g (49, 0, 0) a ∧ g (49, 0, 0) a ≤ 4) (hf : ∀ x j, kk_mx b x j → h2 x j = h x j) : kk_ms h2 b g a := by
  obtain ⟨a1, a2, a3, a4, a5⟩ := hm
  refine ⟨fun f hf2 => ?_, fun p b1 b2 => ?_, fun e b1 b2 => ?_, fun e b1 b2 => ?_, fun e b1 b2 => ?_⟩
  · rw [hf _ _ (by unfold kk_mx; exact Or.inl ⟨hf2, rfl⟩)]; exact a1 f hf2
  · rw [hf _ _ (kk_m43 ⟨b1, b2⟩)]; exact a2 p b1 b2
  · rw [hf _ _ (kk_m45 (Or.inl rfl) (by omega)), hf _ _ (kk_m45 (Or.inr rfl) (by omega))]; exact a3 e b1 b2
  · rw [hf _ _ (kk_m50 (Or.inl rfl) (by omega)), hf _ _ (kk_m50 (Or.inr rfl) (by omega))]; exact a4 e b1 b2
  · rw [hf _ _ (kk_m52 ⟨b1, b2⟩)]; exact a5 e b1 b2
/-- a slot becomes as another -/
theorem m179 (hy : 10581 ≤ nx) {s t : Int} (hs : 0 ≤ s ∧ s < 29) (ht : 0 ≤ t ∧ t < 29) (hst : s ≠ t) (hw : ∀ n, 1 ≤ n → n < 37 → kk_mw hi (36 * s + n - 1))
    (K : ∀ h2, (∀ n, 1 ≤ n → n < 37 → kk_ms h2 (36 * t + n - 1) hi (36 * s + n - 1)) → (∀ x j, ¬ kk_sx t x j → h2 x j = hi x j) → Q zU (mm_z h2 dh nx ns)) :
    mm_Cl 179 [zR (40, 0, 0), zI s, zI t] (mm_z hi dh nx ns) Q := by
  have L : ∀ (d : Nat) (i : Int) (h : mm_Id → Int → Int), 37 - i = d → 1 ≤ i → (∀ n, 1 ≤ n → n < i → kk_ms h (36 * t + n - 1) hi (36 * s + n - 1)) → (∀ x j, ¬ (∃ n, 1 ≤ n ∧ n < i ∧ kk_mx (36 * t + n - 1) x j) → h x j = hi x j) →
      mm_Wp 179 (mm_blk 179 1) [zR (40, 0, 0), zI s, zI t, zI i] [] (mm_z h dh nx ns) Q := by
    intro d
    induction d with
    | zero =>
      intro i h e1 e2 a1 a2
      have e3 : i = 37 := by omega
      subst e3
      rw [r_179_1 (hy := hy), if_pos (by omega)]
      exact K h a1 a2
    | succ d ih =>
      intro i h e1 e2 a1 a2
      have src : ∀ f, kk_mf f → h (f, 0, 0) (36 * s + i - 1) = hi (f, 0, 0) (36 * s + i - 1) := fun f hf => a2 _ _ (by
        rintro ⟨n, n1, n2, n3⟩
        exact kk_mx5 (by omega) hf n3)
      obtain ⟨w1, w2, w3⟩ := hw i e2 (by omega)
      rw [r_179_1 (hy := hy), if_neg (by omega)]
      refine m175 hy hs (by omega) ?_
      rw [mm_pI, r_179_1_7 (hy := hy)]
      refine m175 hy ht (by omega) ?_
      rw [mm_pI, r_179_1_10 (hy := hy)]
      refine m178 hy (by omega) (by omega) (by omega) (by rw [src 53 (by unfold kk_mf; omega)]; exact w1) (by rw [src 44 (by unfold kk_mf; omega)]; exact w2) (by rw [src 49 (by unfold kk_mf; omega)]; exact w3) (fun g b1 b2 => ?_)
      rw [mm_pU, r_179_1_11 (hy := hy), mm_wi (by omega) (by omega)]
      have sr2 : ∀ x j, kk_mx (36 * s + i - 1) x j → h x j = hi x j := fun x j hx => a2 x j (by
        rintro ⟨n, n1, n2, n3⟩
        exact kk_mxd (by omega) hx n3)
      refine ih (i + 1) g (by omega) (by omega) (fun n c1 c2 => ?_) (fun x j c => ?_)
      · by_cases z : n = i
        · subst z
          obtain ⟨q1, q2, q3, q4, q5⟩ := b1
          refine ⟨fun f hf => by rw [q1 f hf, src f hf], fun p b1 b2 => ?_, fun e b1 b2 => ?_, fun e b1 b2 => ?_, fun e b1 b2 => ?_⟩
          · rw [q2 p b1 b2, sr2 _ _ (kk_m43 ⟨b1, b2⟩)]
          · obtain ⟨z1, z2⟩ := q3 e b1 (by rw [src 44 (by unfold kk_mf; omega)]; exact b2)
            rw [z1, z2, sr2 _ _ (kk_m45 (Or.inl rfl) (by omega)), sr2 _ _ (kk_m45 (Or.inr rfl) (by omega))]
            exact ⟨rfl, rfl⟩
          · obtain ⟨z1, z2⟩ := q4 e b1 (by rw [src 49 (by unfold kk_mf; omega)]; exact b2)
            rw [z1, z2, sr2 _ _ (kk_m50 (Or.inl rfl) (by omega)), sr2 _ _ (kk_m50 (Or.inr rfl) (by omega))]
            exact ⟨rfl, rfl⟩
          · rw [q5 e b1 b2, sr2 _ _ (kk_m52 ⟨b1, b2⟩)]
        · obtain ⟨v1, v2, v3⟩ := hw n c1 (by omega)
          exact kk_msk (a1 n c1 (by omega)) v2 v3 (fun x j hx => b2 x j (kk_mxd (by omega) hx))
      · rw [b2 x j (fun q => c ⟨i, e2, by omega, q⟩)]
        exact a2 x j (fun ⟨n, n1, n2, n3⟩ => c ⟨n, n1, by omega, n3⟩)
  rw [r_179_e (hy := hy)]
  exact L 36 1 hi (by omega) (by omega) (fun n a b => by omega) (fun x j _ => rfl)
end

