/-! the reference: its nodes, entries, copies -/
theorem mm_cmpl {u v : Int} : mm_cmp u v < 0 ↔ u < v := by
  unfold mm_cmp
  split
  · rename_i h; simp [h]
  · split <;> rename_i h1 h2 <;> omega
theorem mm_cmpg {u v : Int} : 0 < mm_cmp u v ↔ v < u := by
  unfold mm_cmp
  split
  · rename_i h; omega
  · split <;> rename_i h1 h2 <;> omega
/-- the cells of a node of the reference -/
def kk_mf (f : Nat) : Prop := f = 41 ∨ f = 42 ∨ f = 44 ∨ f = 47 ∨ f = 48 ∨ f = 49 ∨ f = 53
def kk_mx (b : Int) (x : mm_Id) (j : Int) : Prop := kk_mf x.1 ∧ j = b ∨ x.1 = 43 ∧ 36 * b ≤ j ∧ j < 36 * b + 36 ∨ (x.1 = 45 ∨ x.1 = 46) ∧ 24 * b ≤ j ∧ j < 24 * b + 24 ∨ (x.1 = 50 ∨ x.1 = 51) ∧ 4 * b ≤ j ∧ j < 4 * b + 4 ∨ x.1 = 52 ∧ 8 * b ≤ j ∧ j < 8 * b + 8
/-- a node of the reference is as another -/
def kk_ms (h : mm_Id → Int → Int) (b : Int) (g : mm_Id → Int → Int) (a : Int) : Prop :=
  (∀ f, kk_mf f → h (f, 0, 0) b = g (f, 0, 0) a) ∧ (∀ p, 0 ≤ p → p < 36 → h (43, 0, 0) (36 * b + p) = g (43, 0, 0) (36 * a + p)) ∧ (∀ e, 0 ≤ e → e < g (44, 0, 0) a → h (45, 0, 0) (24 * b + e) = g (45, 0, 0) (24 * a + e) ∧ h (46, 0, 0) (24 * b + e) = g (46, 0, 0) (24 * a + e)) ∧
  (∀ e, 0 ≤ e → e < g (49, 0, 0) a → h (50, 0, 0) (4 * b + e) = g (50, 0, 0) (4 * a + e) ∧ h (51, 0, 0) (4 * b + e) = g (51, 0, 0) (4 * a + e)) ∧ (∀ e, 0 ≤ e → e < 8 → h (52, 0, 0) (8 * b + e) = g (52, 0, 0) (8 * a + e))
section
variable {hi : mm_Id → Int → Int} {dh : Int → Int} {nx ns : Int} {Q : mm_V → mm_H → Prop}
theorem m174 (hy : 10581 ≤ nx) {v lo up : Int} (K1 : lo ≤ v ∧ v ≤ up → Q (zI 1) (mm_z hi dh nx ns)) (K0 : ¬ (lo ≤ v ∧ v ≤ up) → Q (zI 0) (mm_z hi dh nx ns)) : mm_Cl 174 [zL v, zL lo, zL up] (mm_z hi dh nx ns) Q := by
  rw [r_174_e (hy := hy)]
  split
  · rename_i h
    rw [mm_cmpl] at h
    rw [r_174_1 (hy := hy), r_174_2 (hy := hy)]
    exact ⟨Or.inl rfl, K0 (by omega)⟩
  · rename_i h
    rw [mm_cmpl] at h
    split
    · rename_i h2
      rw [mm_cmpg] at h2
      rw [r_174_1 (hy := hy), r_174_2 (hy := hy)]
      exact ⟨Or.inl rfl, K0 (by omega)⟩
    · rename_i h2
      rw [mm_cmpg] at h2
      rw [r_174_2 (hy := hy)]
      exact ⟨Or.inr rfl, K1 (by omega)⟩
theorem m175 (hy : 10581 ≤ nx) {s n : Int} (hs : 0 ≤ s ∧ s < 29) (hn : 1 ≤ n ∧ n < 37) (K : Q (zI (36 * s + n - 1)) (mm_z hi dh nx ns)) : mm_Cl 175 [zI s, zI n] (mm_z hi dh nx ns) Q := by
  rw [r_175_e (hy := hy), mm_wi (z := 36 * s) (by omega) (by omega), mm_wi (z := 36 * s + n) (by omega) (by omega), mm_wi (by omega) (by omega)]
  exact K
theorem m176 (hy : 10581 ≤ nx) {s n : Int} (hs : 0 ≤ s ∧ s < 29) (K1 : (1 ≤ n ∧ n < 37) → 0 < hi (41, 0, 0) (36 * s + n - 1) → Q (zI 1) (mm_z hi dh nx ns)) (K0 : ¬ ((1 ≤ n ∧ n < 37) ∧ 0 < hi (41, 0, 0) (36 * s + n - 1)) → Q (zI 0) (mm_z hi dh nx ns)) :
    mm_Cl 176 [zR (40, 0, 0), zI s, zI n] (mm_z hi dh nx ns) Q := by
  rw [r_176_e (hy := hy)]
  refine m174 hy (fun h => ?_) (fun h => ?_)
  · rw [mm_pI, r_176_0_5 (hy := hy), if_neg (by decide)]
    refine m175 hy hs (by omega) ?_
    rw [mm_pI, r_176_0_11 (hy := hy)]
    refine ⟨by omega, ?_⟩
    split
    · rename_i h2
      rw [r_176_2 (hy := hy)]
      exact ⟨Or.inr rfl, K1 (by omega) h2⟩
    · rename_i h2
      rw [r_176_1 (hy := hy), r_176_2 (hy := hy)]
      exact ⟨Or.inl rfl, K0 (fun q => h2 q.2)⟩
  · rw [mm_pI, r_176_0_5 (hy := hy), if_pos rfl, r_176_1 (hy := hy), r_176_2 (hy := hy)]
    exact ⟨Or.inl rfl, K0 (by omega)⟩
theorem m177 (hy : 10581 ≤ nx) {s n : Int} (hs : 0 ≤ s ∧ s < 29) (hn : 1 ≤ n ∧ n < 37) (K : ∀ b, (b = if hi (41, 0, 0) (36 * s + n - 1) = 1 then 1 else 0) → Q (zI b) (mm_z hi dh nx ns)) : mm_Cl 177 [zR (40, 0, 0), zI s, zI n] (mm_z hi dh nx ns) Q := by
  rw [r_177_e (hy := hy)]
  refine m175 hy hs hn ?_
  rw [mm_pI, r_177_0_5 (hy := hy)]
  refine ⟨by omega, ?_⟩
  split
  · rename_i h2
    rw [r_177_2 (hy := hy)]
    exact ⟨Or.inr rfl, K 1 (by rw [if_pos h2])⟩
  · rename_i h2
    rw [r_177_2 (hy := hy)]
    exact ⟨Or.inl rfl, K 0 (by rw [if_neg h2])⟩
theorem m180 (hy : 10581 ≤ nx) {k : Int} (hk : 0 ≤ k ∧ k < 1044) (K : ∀ h2, (h2 (41, 0, 0) k = 0 ∧ h2 (42, 0, 0) k = 0 ∧ h2 (44, 0, 0) k = 0 ∧ h2 (49, 0, 0) k = 0) → (∀ p, 0 ≤ p → p < 36 → h2 (43, 0, 0) (36 * k + p) = 0) →
      (∀ x j, ¬ ((x = (41, 0, 0) ∨ x = (42, 0, 0) ∨ x = (44, 0, 0) ∨ x = (49, 0, 0)) ∧ j = k) → ¬ (x = (43, 0, 0) ∧ 36 * k ≤ j ∧ j < 36 * k + 36) → h2 x j = hi x j) → Q zU (mm_z h2 dh nx ns)) :
    mm_Cl 180 [zR (40, 0, 0), zI k] (mm_z hi dh nx ns) Q := by
  have L : ∀ (d : Nat) (i : Int) (h : mm_Id → Int → Int), 36 - i = d → 0 ≤ i → (h (41, 0, 0) k = 0 ∧ h (42, 0, 0) k = 0 ∧ h (44, 0, 0) k = 0 ∧ h (49, 0, 0) k = 0) → (∀ p, 0 ≤ p → p < i → h (43, 0, 0) (36 * k + p) = 0) →
      (∀ x j, ¬ ((x = (41, 0, 0) ∨ x = (42, 0, 0) ∨ x = (44, 0, 0) ∨ x = (49, 0, 0)) ∧ j = k) → ¬ (x = (43, 0, 0) ∧ 36 * k ≤ j ∧ j < 36 * k + 36) → h x j = hi x j) → mm_Wp 180 (mm_blk 180 1) [zR (40, 0, 0), zI k, zI i] [] (mm_z h dh nx ns) Q := by
    intro d
    induction d with
    | zero =>
      intro i h e1 e2 a1 a2 a3
      rw [r_180_1 (hy := hy), if_neg (by omega)]
      exact K h a1 (fun p b1 b2 => a2 p b1 (by omega)) a3
    | succ d ih =>
      intro i h e1 e2 a1 a2 a3
      rw [r_180_1 (hy := hy), if_pos (by omega), mm_wi (z := 36 * k) (by omega) (by omega), mm_wi (z := 36 * k + i) (by omega) (by omega), mm_wi (z := i + 1) (by omega) (by omega)]
      refine ⟨by omega, ih (i + 1) _ (by omega) (by omega) ?_ (fun p b1 b2 => ?_) (fun x j b1 b2 => ?_)⟩
      · simp only [mm_upf (show ¬ (41 : Nat) = 43 by decide), mm_upf (show ¬ (42 : Nat) = 43 by decide), mm_upf (show ¬ (44 : Nat) = 43 by decide), mm_upf (show ¬ (49 : Nat) = 43 by decide)]
        exact a1
      · by_cases c : p = i
        · rw [c, mm_ups]
        · rw [mm_upj (by omega)]; exact a2 p b1 (by omega)
      · rw [mm_upne' (fun q => b2 ⟨q.1, by omega, by omega⟩)]; exact a3 x j b1 b2
  rw [r_180_e (hy := hy)]
  refine ⟨hk, hk, hk, hk, L 36 0 _ (by omega) (by omega) ?_ (fun p a b => by omega) (fun x j b1 b2 => ?_)⟩
  · simp [mm_up]
  · have b3 : ∀ f, (f = 41 ∨ f = 42 ∨ f = 44 ∨ f = 49) → ¬ (x = (f, 0, 0) ∧ j = k) := by
      intro f hf q
      apply b1
      rcases hf with rfl | rfl | rfl | rfl <;> simp [q.1, q.2]
    rw [mm_upne' (b3 49 (by omega)), mm_upne' (b3 44 (by omega)), mm_upne' (b3 42 (by omega)), mm_upne' (b3 41 (by omega))]
theorem m181 (hy : 10581 ≤ nx) {x : Int} (K1 : ∀ s, 0 ≤ s → s < 13 → (0 < hi (57, 0, 0) s ∧ hi (57, 0, 0) s = if s < 5 then x else mm_w (-x)) → (∀ j, 0 ≤ j → j < s → ¬ (0 < hi (57, 0, 0) j ∧ hi (57, 0, 0) j = if j < 5 then x else mm_w (-x))) → Q (zI s) (mm_z hi dh nx ns))
    (K0 : (∀ j, 0 ≤ j → j < 13 → ¬ (0 < hi (57, 0, 0) j ∧ hi (57, 0, 0) j = if j < 5 then x else mm_w (-x))) → Q (zI (-1)) (mm_z hi dh nx ns)) : mm_Cl 181 [zR (40, 0, 0), zI x] (mm_z hi dh nx ns) Q := by
  have L : ∀ (d : Nat) (i : Int), 13 - i = d → 0 ≤ i → (∀ j, 0 ≤ j → j < i → ¬ (0 < hi (57, 0, 0) j ∧ hi (57, 0, 0) j = if j < 5 then x else mm_w (-x))) → mm_Wp 181 (mm_blk 181 1) [zR (40, 0, 0), zI x, zI i] [] (mm_z hi dh nx ns) Q := by
    intro d
    induction d with
    | zero =>
      intro i e1 e2 e3
      rw [r_181_1 (hy := hy), if_neg (by omega)]
      exact K0 (fun j a b => e3 j a (by omega))
    | succ d ih =>
      intro i e1 e2 e3
      have four : ¬ (0 < hi (57, 0, 0) i ∧ hi (57, 0, 0) i = if i < 5 then x else mm_w (-x)) → mm_Wp 181 (mm_blk 181 4) [zR (40, 0, 0), zI x, zI i] [] (mm_z hi dh nx ns) Q := by
        intro h
        rw [r_181_4 (hy := hy), mm_wi (by omega) (by omega)]
        exact ih (i + 1) (by omega) (by omega) (fun j a b => by
          by_cases c : j = i
          · rw [c]; exact h
          · exact e3 j a (by omega))
      have three : ∀ y, (y = if i < 5 then x else mm_w (-x)) → 0 < hi (57, 0, 0) i → mm_Wp 181 (mm_blk 181 3) [zR (40, 0, 0), zI x, zI i] [zI y, zI (hi (57, 0, 0) i)] (mm_z hi dh nx ns) Q := by
        intro y hy2 hp
        rw [r_181_3 (hy := hy)]
        split
        · rename_i h
          exact K1 i e2 (by omega) ⟨hp, by rw [← hy2]; exact h⟩ e3
        · rename_i h
          exact four (fun q => h (by rw [hy2]; exact q.2))
      rw [r_181_1 (hy := hy), if_pos (by omega)]
      refine ⟨by omega, ?_⟩
      split
      · rename_i h1
        refine ⟨by omega, ?_⟩
        split
        · rename_i h2
          exact three x (by rw [if_pos h2]) h1
        · rename_i h2
          exact three _ (by rw [if_neg h2]) h1
      · rename_i h1
        exact four (fun q => h1 q.1)
  rw [r_181_e (hy := hy)]
  exact L 13 0 (by omega) (by omega) (fun j a b => by omega)
theorem m184 (hy : 10581 ≤ nx) {s n x : Int} (hs : 0 ≤ s ∧ s < 29) (hn : 1 ≤ n ∧ n < 37) (hc : 0 ≤ hi (44, 0, 0) (36 * s + n - 1) ∧ hi (44, 0, 0) (36 * s + n - 1) ≤ 24)
    (K1 : ∀ e, 0 ≤ e → e < hi (44, 0, 0) (36 * s + n - 1) → hi (45, 0, 0) (24 * (36 * s + n - 1) + e) = x → Q (zI e) (mm_z hi dh nx ns)) (K0 : (∀ e, 0 ≤ e → e < hi (44, 0, 0) (36 * s + n - 1) → ¬ hi (45, 0, 0) (24 * (36 * s + n - 1) + e) = x) → Q (zI (-1)) (mm_z hi dh nx ns)) :
    mm_Cl 184 [zR (40, 0, 0), zI s, zI n, zI x] (mm_z hi dh nx ns) Q := by
  rw [r_184_e (hy := hy)]
  refine m175 hy hs hn ?_
  rw [mm_pI, r_184_0_3 (hy := hy)]
  have hk : 0 ≤ 36 * s + n - 1 ∧ 36 * s + n - 1 < 1044 := by omega
  generalize 36 * s + n - 1 = k at *
  have L : ∀ (d : Nat) (i : Int), hi (44, 0, 0) k - i = d → 0 ≤ i → (∀ e, 0 ≤ e → e < i → ¬ hi (45, 0, 0) (24 * k + e) = x) → mm_Wp 184 (mm_blk 184 1) [zR (40, 0, 0), zI s, zI n, zI x, zI k, zI i] [] (mm_z hi dh nx ns) Q := by
    intro d
    induction d with
    | zero =>
      intro i e1 e2 e3
      rw [r_184_1 (hy := hy), if_neg (by omega)]
      exact ⟨hk, K0 (fun e a b => e3 e a (by omega))⟩
    | succ d ih =>
      intro i e1 e2 e3
      rw [r_184_1 (hy := hy), if_pos (by omega), mm_wi (z := 24 * k) (by omega) (by omega), mm_wi (z := 24 * k + i) (by omega) (by omega), mm_wi (z := i + 1) (by omega) (by omega)]
      refine ⟨hk, by omega, ?_⟩
      split
      · rename_i h
        exact K1 i e2 (by omega) h
      · rename_i h
        exact ih (i + 1) (by omega) (by omega) (fun e a b => by
          by_cases c : e = i
          · rw [c]; exact h
          · exact e3 e a (by omega))
  exact L (hi (44, 0, 0) k).toNat 0 (by omega) (by omega) (fun e a b => by omega)
theorem m185 (hy : 10581 ≤ nx) {s n e : Int} (hs : 0 ≤ s ∧ s < 29) (hn : 1 ≤ n ∧ n < 37) (he : 0 ≤ e ∧ e < 24) (K : Q (zI (hi (46, 0, 0) (24 * (36 * s + n - 1) + e))) (mm_z hi dh nx ns)) : mm_Cl 185 [zR (40, 0, 0), zI s, zI n, zI e] (mm_z hi dh nx ns) Q := by
  rw [r_185_e (hy := hy)]
  refine m175 hy hs hn ?_
  rw [mm_pI, r_185_0_6 (hy := hy), mm_wi (z := 24 * (36 * s + n - 1)) (by omega) (by omega), mm_wi (by omega) (by omega)]
  exact ⟨by omega, K⟩
theorem m186 (hy : 10581 ≤ nx) {s n x m : Int} (hs : 0 ≤ s ∧ s < 29) (hn : 1 ≤ n ∧ n < 37) (hc : 0 ≤ hi (44, 0, 0) (36 * s + n - 1) ∧ hi (44, 0, 0) (36 * s + n - 1) < 24)
    (K : ∀ p, 0 ≤ p → p ≤ hi (44, 0, 0) (36 * s + n - 1) → (∀ i, p ≤ i → i < hi (44, 0, 0) (36 * s + n - 1) → x < hi (45, 0, 0) (24 * (36 * s + n - 1) + i)) → (0 < p → hi (45, 0, 0) (24 * (36 * s + n - 1) + (p - 1)) ≤ x) →
      Q zU (mm_z (mm_up (mm_up (mm_up (mm_shu hi (45, 0, 0) (46, 0, 0) (24 * (36 * s + n - 1) + p) (24 * (36 * s + n - 1) + hi (44, 0, 0) (36 * s + n - 1))) (45, 0, 0) (24 * (36 * s + n - 1) + p) x) (46, 0, 0) (24 * (36 * s + n - 1) + p) m) (44, 0, 0) (36 * s + n - 1) (hi (44, 0, 0) (36 * s + n - 1) + 1)) dh nx ns)) :
    mm_Cl 186 [zR (40, 0, 0), zI s, zI n, zI x, zI m] (mm_z hi dh nx ns) Q := by
  rw [r_186_e (hy := hy)]
  refine m175 hy hs hn ?_
  rw [mm_pI, r_186_0_3 (hy := hy)]
  have hk : 0 ≤ 36 * s + n - 1 ∧ 36 * s + n - 1 < 1044 := by omega
  generalize 36 * s + n - 1 = k at *
  refine ⟨hk, ?_⟩
  generalize hcc : hi (44, 0, 0) k = c at *
  have L : ∀ (d : Nat) (i : Int), i = d → i ≤ c → (∀ q, i ≤ q → q < c → x < hi (45, 0, 0) (24 * k + q)) → mm_Wp 186 (mm_blk 186 1) [zR (40, 0, 0), zI s, zI n, zI x, zI m, zI k, zI i] [] (mm_z (mm_shu hi (45, 0, 0) (46, 0, 0) (24 * k + i) (24 * k + c)) dh nx ns) Q := by
    intro d
    have two : ∀ i, 0 ≤ i → i ≤ c → (∀ q, i ≤ q → q < c → x < hi (45, 0, 0) (24 * k + q)) → (0 < i → hi (45, 0, 0) (24 * k + (i - 1)) ≤ x) → mm_Wp 186 (mm_blk 186 2) [zR (40, 0, 0), zI s, zI n, zI x, zI m, zI k, zI i] [] (mm_z (mm_shu hi (45, 0, 0) (46, 0, 0) (24 * k + i) (24 * k + c)) dh nx ns) Q := by
      intro i i1 i2 i3 i4
      rw [r_186_2 (hy := hy), mm_wi (z := 24 * k) (by omega) (by omega), mm_wi (z := 24 * k + i) (by omega) (by omega), mm_upf (by decide), mm_upf (by decide), mm_shuf (mm_idf (by decide)) (mm_idf (by decide)), hcc, mm_wi (by omega) (by omega)]
      exact ⟨by omega, by omega, hk, hk, K i i1 i2 i3 i4⟩
    induction d with
    | zero =>
      intro i e1 e2 e3
      rw [r_186_1 (hy := hy), if_neg (by omega)]
      exact two i (by omega) e2 e3 (fun q => by omega)
    | succ d ih =>
      intro i e1 e2 e3
      have hrd : mm_shu hi (45, 0, 0) (46, 0, 0) (24 * k + i) (24 * k + c) (45, 0, 0) (24 * k + i - 1) = hi (45, 0, 0) (24 * k + i - 1) := by
        unfold mm_shu
        rw [if_neg (by omega)]
      rw [r_186_1 (hy := hy), if_pos (by omega), mm_wi (z := 24 * k) (by omega) (by omega), mm_wi (z := 24 * k + i) (by omega) (by omega), mm_wi (z := 24 * k + i - 1) (by omega) (by omega), mm_wi (z := i + (-1)) (by omega) (by omega)]
      refine ⟨by omega, ?_⟩
      split
      · rename_i h
        rw [mm_shu1 hi (by omega) (mm_idf (by decide))]
        rw [hrd] at h
        have := ih (i + (-1)) (by omega) (by omega) (fun q a b => by
          by_cases z : q = i - 1
          · rw [z, show 24 * k + (i - 1) = 24 * k + i - 1 by omega]; exact h
          · exact e3 q (by omega) b)
        rw [show 24 * k + (i + (-1)) = 24 * k + i - 1 by omega] at this
        exact ⟨by omega, by omega, by omega, by omega, this⟩
      · rename_i h
        rw [hrd] at h
        exact two i (by omega) e2 e3 (fun _ => by rw [show 24 * k + (i - 1) = 24 * k + i - 1 by omega]; omega)
  have := L c.toNat c (by omega) (by omega) (fun q a b => by omega)
  rw [mm_shu0] at this
  exact this
theorem m187 (hy : 10581 ≤ nx) {s n e0 : Int} (hs : 0 ≤ s ∧ s < 29) (hn : 1 ≤ n ∧ n < 37) (hc : hi (44, 0, 0) (36 * s + n - 1) ≤ 24) (he : 0 ≤ e0 ∧ e0 < hi (44, 0, 0) (36 * s + n - 1))
    (K : Q zU (mm_z (mm_shd (mm_up hi (44, 0, 0) (36 * s + n - 1) (hi (44, 0, 0) (36 * s + n - 1) - 1)) (45, 0, 0) (46, 0, 0) (24 * (36 * s + n - 1) + e0) (24 * (36 * s + n - 1) + (hi (44, 0, 0) (36 * s + n - 1) - 1))) dh nx ns)) :
    mm_Cl 187 [zR (40, 0, 0), zI s, zI n, zI e0] (mm_z hi dh nx ns) Q := by
  rw [r_187_e (hy := hy)]
  refine m175 hy hs hn ?_
  rw [mm_pI, r_187_0_3 (hy := hy)]
  have hk : 0 ≤ 36 * s + n - 1 ∧ 36 * s + n - 1 < 1044 := by omega
  generalize 36 * s + n - 1 = k at *
  refine ⟨hk, hk, ?_⟩
  generalize hcc : hi (44, 0, 0) k = c at *
  rw [mm_wi (by omega) (by omega)]
  have L : ∀ (d : Nat) (i : Int), c - 1 - i = d → e0 ≤ i → mm_Wp 187 (mm_blk 187 1) [zR (40, 0, 0), zI s, zI n, zI e0, zI k, zI i] [] (mm_z (mm_shd (mm_up hi (44, 0, 0) k (c - 1)) (45, 0, 0) (46, 0, 0) (24 * k + e0) (24 * k + i)) dh nx ns) Q := by
    intro d
    induction d with
    | zero =>
      intro i e1 e2
      have e3 : i = c - 1 := by omega
      subst e3
      rw [r_187_1 (hy := hy), mm_shdf (mm_idf (by decide)) (mm_idf (by decide)), mm_ups, if_neg (by omega)]
      exact ⟨hk, K⟩
    | succ d ih =>
      intro i e1 e2
      rw [r_187_1 (hy := hy), mm_shdf (mm_idf (by decide)) (mm_idf (by decide)), mm_ups, if_pos (by omega), mm_wi (z := 24 * k) (by omega) (by omega), mm_wi (z := 24 * k + i) (by omega) (by omega), mm_wi (z := 24 * k + i + 1) (by omega) (by omega), mm_wi (z := i + 1) (by omega) (by omega), mm_shd1 _ (by omega) (mm_idf (by decide))]
      have := ih (i + 1) (by omega) (by omega)
      rw [show 24 * k + (i + 1) = 24 * k + i + 1 by omega] at this
      exact ⟨hk, by omega, by omega, by omega, by omega, this⟩
  have := L (c - 1 - e0).toNat e0 (by omega) (by omega)
  rw [mm_shd0] at this
  exact this
end

