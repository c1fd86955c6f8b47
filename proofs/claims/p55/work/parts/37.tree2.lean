/-! trees: sums over nodes; nodes dropped; trees copied, cleared -/
def kk_S (f : Int → Int) (m : Nat) : Int := mm_sm (fun i => f (i + 1)) m
theorem kk_Snn {f : Int → Int} (m : Nat) (hb : ∀ i : Int, 1 ≤ i → i ≤ m → 0 ≤ f i) : 0 ≤ kk_S f m := sm_nn _ (fun i _ b => hb (i + 1) (by omega) (by omega))
theorem kk_Sub {f : Int → Int} (m : Nat) (B : Int) (hb : ∀ i : Int, 1 ≤ i → i ≤ m → f i ≤ B) : kk_S f m ≤ B * m := sm_ub B m (fun i _ b => hb (i + 1) (by omega) (by omega))
theorem kk_Sc {f g : Int → Int} (m : Nat) (h : ∀ i : Int, 1 ≤ i → i ≤ m → f i = g i) : kk_S f m = kk_S g m := sm_congr _ (fun i _ b => h (i + 1) (by omega) (by omega))
/-- a loop that sums, from 1 on -/
theorem kk_sl {X : Int → Int → Prop} {f : Int → Int} (m : Nat) (B : Int) (hB : 0 ≤ B) (hb : ∀ i : Int, 1 ≤ i → i ≤ m → 0 ≤ f i ∧ f i ≤ B) (step : ∀ a i : Int, 1 ≤ i → i ≤ m → 0 ≤ a → a ≤ B * m → X (a + f i) (i + 1) → X a i) (fin : X (kk_S f m) (m + 1)) : X 0 1 := by
  have key : ∀ (j k : Nat), k + j = m → X (kk_S f k) (k + 1) := by
    intro j
    induction j with
    | zero => intro k e; have e : k = m := by omega
              subst e; exact fin
    | succ j ih =>
      intro k e
      have h1 := ih (k + 1) (by omega)
      have h2 := kk_Sub (f := f) k B (fun i a b => (hb i a (by omega)).2)
      have h3 := kk_Snn (f := f) k (fun i a b => (hb i a (by omega)).1)
      have h4 : B * (k : Int) ≤ B * (m : Int) := Int.mul_le_mul_of_nonneg_left (by omega) hB
      refine step _ _ (by omega) (by omega) h3 (by omega) ?_
      exact h1
  exact key m 0 (by omega)
/-- the same, from 0 on -/
theorem kk_sl0 {X : Int → Int → Prop} {f : Int → Int} (m : Nat) (B : Int) (hB : 0 ≤ B) (hb : ∀ i : Int, 0 ≤ i → i < m → 0 ≤ f i ∧ f i ≤ B) (a0 : Int) (step : ∀ a i : Int, 0 ≤ i → i < m → a0 ≤ a → a ≤ a0 + B * m → X (a + f i) (i + 1) → X a i) (fin : X (a0 + mm_sm f m) m) : X a0 0 := by
  have key : ∀ (j k : Nat), k + j = m → X (a0 + mm_sm f k) k := by
    intro j
    induction j with
    | zero => intro k e; have e : k = m := by omega
              subst e; exact fin
    | succ j ih =>
      intro k e
      have h1 := ih (k + 1) (by omega)
      have h2 := sm_ub (f := f) B k (fun i a b => (hb i (by omega) (by omega)).2)
      have h3 := sm_nn (f := f) k (fun i a b => (hb i (by omega) (by omega)).1)
      have h4 : B * (k : Int) ≤ B * (m : Int) := Int.mul_le_mul_of_nonneg_left (by omega) hB
      refine step _ _ (by omega) (by omega) (by omega) (by omega) ?_
      have e2 : a0 + mm_sm f (k + 1) = a0 + mm_sm f k + f k := by show a0 + (mm_sm f k + f k) = _; omega
      rw [e2] at h1
      exact h1
  have := key m 0 (by omega)
  have e : a0 + mm_sm f 0 = a0 := by show a0 + 0 = a0; omega
  rw [e] at this
  exact this
def kk_cpd (h : mm_Id → Int → Int) (t n : Int) (g : mm_Id → Int → Int) (t1 n1 : Int) : Prop := kk_sd h t n g t1 n1 ∧ h (24, t, n) 9 = g (24, t1, n1) 9 ∧ ∀ p, 0 ≤ p → p < 36 → h (27, t, n) p = g (27, t1, n1) p
/-- a node's numbers are in their ranges -/
def kk_nw (h : mm_Id → Int → Int) (t n : Int) : Prop := (h (24, t, n) 14 = 0 ∨ h (24, t, n) 14 = 1) ∧ (0 ≤ h (24, t, n) 11 ∧ h (24, t, n) 11 ≤ 4) ∧ h (24, t, n) 9 = kk_nz (h (27, t, n))
def kk_tr (t lo hi : Int) (x : mm_Id) : Prop := 24 ≤ x.1 ∧ x.1 ≤ 30 ∧ x.2.1 = t ∧ lo ≤ x.2.2 ∧ x.2.2 < hi
/-- a node that is none -/
def kk_cl (h : mm_Id → Int → Int) (t n : Int) : Prop := (∀ f, kk_F f → h (24, t, n) f = if f = 3 then 61 else 0) ∧ h (24, t, n) 9 = 0 ∧ ∀ p, 0 ≤ p → p < 36 → h (27, t, n) p = 0
section
variable {hi : mm_Id → Int → Int} {dh : Int → Int} {nx ns : Int} {Q : mm_V → mm_H → Prop} {t n t1 n1 : Int}
theorem s158 (ht : mm_isT t) (hx : 5275 ≤ nx) (K1 : ∀ n, 1 ≤ n → n < 37 → hi (24, t, n) 0 = 0 → (∀ m, 1 ≤ m → m < n → hi (24, t, m) 0 ≠ 0) → Q (zI n) (mm_z hi dh nx ns)) (K0 : (∀ m, 1 ≤ m → m < 37 → hi (24, t, m) 0 ≠ 0) → Q (zI 0) (mm_z hi dh nx ns)) :
    mm_Cl 158 [zR (22, t, 0)] (mm_z hi dh nx ns) Q := by
  have L : ∀ (k : Nat) (i : Int), 37 - i = k → 1 ≤ i → (∀ m, 1 ≤ m → m < i → hi (24, t, m) 0 ≠ 0) → mm_Wp 158 (mm_blk 158 1) [zR (22, t, 0), zI i] [] (mm_z hi dh nx ns) Q := by
    intro k
    induction k with
    | zero =>
      intro i e1 e2 e3
      rw [r_158_1 (htx0 := ht) (hx := hx), if_pos (by omega)]
      exact K0 (fun m a b => e3 m a (by omega))
    | succ k ih =>
      intro i e1 e2 e3
      rw [r_158_1 (htx0 := ht) (hx := hx), if_neg (by omega)]
      refine ⟨by omega, ?_⟩
      split
      · rename_i h1
        exact K1 i e2 (by omega) h1 e3
      · rename_i h1
        rw [mm_wi (by omega) (by omega)]
        exact ih (i + 1) (by omega) (by omega) (fun m a b => by
          by_cases c : m = i
          · rw [c]; exact h1
          · exact e3 m a (by omega))
  rw [r_158_e (htx0 := ht) (hx := hx)]
  exact L 36 1 (by omega) (by omega) (fun m a b => by omega)
theorem s159 (ht : mm_isT t) (hx : 5275 ≤ nx) (K : Q (zI (kk_S (fun n => if hi (24, t, n) 0 = 0 then 0 else 1) 36)) (mm_z hi dh nx ns)) : mm_Cl 159 [zR (22, t, 0)] (mm_z hi dh nx ns) Q := by
  rw [r_159_e (htx0 := ht) (hx := hx)]
  refine kk_sl (X := fun a i => mm_Wp 159 (mm_blk 159 1) [zR (22, t, 0), zI a, zI i] [] (mm_z hi dh nx ns) Q) (f := fun n => if hi (24, t, n) 0 = 0 then 0 else 1) 36 1 (by decide) (fun i _ _ => by split <;> omega) (fun a i a1 a2 a3 a4 hX => ?_) ?_
  · rw [r_159_1 (htx0 := ht) (hx := hx), if_neg (by omega)]
    refine ⟨by omega, ?_⟩
    split
    · rename_i h1
      rw [if_pos h1] at hX
      rw [r_159_3 (htx0 := ht) (hx := hx), mm_wi (by omega) (by omega), mm_wi (by omega) (by omega)]
      exact hX
    · rename_i h1
      rw [if_neg h1] at hX
      rw [r_159_3 (htx0 := ht) (hx := hx), mm_wi (by omega) (by omega), mm_wi (by omega) (by omega)]
      exact hX
  · rw [r_159_1 (htx0 := ht) (hx := hx), if_pos (by omega)]
    exact K
theorem s160 (ht : mm_isT t) (hx : 5275 ≤ nx) (hb : ∀ n, 1 ≤ n → n < 37 → 0 ≤ hi (24, t, n) 9 ∧ hi (24, t, n) 9 ≤ 36) (K : Q (zI (kk_S (fun n => hi (24, t, n) 9) 36)) (mm_z hi dh nx ns)) : mm_Cl 160 [zR (22, t, 0)] (mm_z hi dh nx ns) Q := by
  rw [r_160_e (htx0 := ht) (hx := hx)]
  refine kk_sl (X := fun a i => mm_Wp 160 (mm_blk 160 1) [zR (22, t, 0), zI a, zI i] [] (mm_z hi dh nx ns) Q) (f := fun n => hi (24, t, n) 9) 36 36 (by decide) (fun i a b => hb i a (by omega)) (fun a i a1 a2 a3 a4 hX => ?_) ?_
  · have h1 := hb i a1 (by omega)
    rw [r_160_1 (htx0 := ht) (hx := hx), if_neg (by omega), mm_wi (by omega) (by omega), mm_wi (by omega) (by omega)]
    exact ⟨by omega, hX⟩
  · rw [r_160_1 (htx0 := ht) (hx := hx), if_pos (by omega)]
    exact K
theorem s96 (ht : mm_isT t) (hn : mm_isN n) (hx : 5275 ≤ nx) (K1 : hi (24, t, n) 0 = 1 ∧ hi (24, t, n) 5 = 0 → Q (zI 1) (mm_z hi dh nx ns)) (K0 : ¬ (hi (24, t, n) 0 = 1 ∧ hi (24, t, n) 5 = 0) → Q (zI 0) (mm_z hi dh nx ns)) : mm_Cl 96 [zR (24, t, n)] (mm_z hi dh nx ns) Q := by
  rw [r_96_e (htx0 := ht) (hnx0 := hn) (hx := hx)]
  split
  · split
    · rename_i h1 h2
      rw [r_96_2 (hx := hx)]
      exact ⟨Or.inr rfl, K1 ⟨h1, h2⟩⟩
    · rename_i h1 h2
      rw [r_96_1 (hx := hx), r_96_2 (hx := hx)]
      exact ⟨Or.inl rfl, K0 (fun q => h2 q.2)⟩
  · rename_i h1
    rw [r_96_1 (hx := hx), r_96_2 (hx := hx)]
    exact ⟨Or.inl rfl, K0 (fun q => h1 q.1)⟩
theorem s161 (ht : mm_isT t) (hx : 5275 ≤ nx) (hb : ∀ n, 1 ≤ n → n < 37 → 0 ≤ hi (24, t, n) 9 ∧ hi (24, t, n) 9 ≤ 36) (K : Q (zI (kk_S (fun n => if hi (24, t, n) 0 = 1 ∧ hi (24, t, n) 5 = 0 then 0 else hi (24, t, n) 9) 36)) (mm_z hi dh nx ns)) : mm_Cl 161 [zR (22, t, 0)] (mm_z hi dh nx ns) Q := by
  rw [r_161_e (htx0 := ht) (hx := hx)]
  refine kk_sl (X := fun a i => mm_Wp 161 (mm_blk 161 1) [zR (22, t, 0), zI a, zI i] [] (mm_z hi dh nx ns) Q) (f := fun n => if hi (24, t, n) 0 = 1 ∧ hi (24, t, n) 5 = 0 then 0 else hi (24, t, n) 9) 36 36 (by decide) (fun i a b => by have := hb i a (by omega); split <;> omega) (fun a i a1 a2 a3 a4 hX => ?_) ?_
  · have h1 := hb i a1 (by omega)
    rw [r_161_1 (htx0 := ht) (hx := hx), if_neg (by omega)]
    refine ⟨by omega, s96 ht ⟨by omega, by omega⟩ hx (fun h2 => ?_) (fun h2 => ?_)⟩
    · rw [if_pos h2] at hX
      rw [mm_pI, r_161_1_9 (htx0 := ht) (hx := hx), if_neg (by decide), r_161_3 (htx0 := ht) (hx := hx), mm_wi (by omega) (by omega), mm_wi (by omega) (by omega)]
      exact hX
    · rw [if_neg h2] at hX
      rw [mm_pI, r_161_1_9 (htx0 := ht) (hx := hx), if_pos rfl, r_161_3 (htx0 := ht) (hx := hx), mm_wi (by omega) (by omega), mm_wi (by omega) (by omega)]
      exact ⟨by omega, hX⟩
  · rw [r_161_1 (htx0 := ht) (hx := hx), if_pos (by omega)]
    exact K
theorem s162 (ht : mm_isT t) (hx : 5275 ≤ nx) {u : Int} (hb : ∀ n, 1 ≤ n → n < 37 → 0 ≤ hi (24, t, n) 9 ∧ hi (24, t, n) 9 ≤ 36) (K : Q (zI (kk_S (fun n => if hi (24, t, n) 2 = u then hi (24, t, n) 9 else 0) 36)) (mm_z hi dh nx ns)) : mm_Cl 162 [zR (22, t, 0), zI u] (mm_z hi dh nx ns) Q := by
  rw [r_162_e (htx0 := ht) (hx := hx)]
  refine kk_sl (X := fun a i => mm_Wp 162 (mm_blk 162 1) [zR (22, t, 0), zI u, zI a, zI i] [] (mm_z hi dh nx ns) Q) (f := fun n => if hi (24, t, n) 2 = u then hi (24, t, n) 9 else 0) 36 36 (by decide) (fun i a b => by have := hb i a (by omega); split <;> omega) (fun a i a1 a2 a3 a4 hX => ?_) ?_
  · have h1 := hb i a1 (by omega)
    rw [r_162_1 (htx0 := ht) (hx := hx), if_neg (by omega)]
    refine ⟨by omega, ?_⟩
    split
    · rename_i h2
      rw [if_pos h2] at hX
      rw [r_162_3 (htx0 := ht) (hx := hx), mm_wi (by omega) (by omega), mm_wi (by omega) (by omega)]
      exact ⟨by omega, hX⟩
    · rename_i h2
      rw [if_neg h2] at hX
      rw [r_162_3 (htx0 := ht) (hx := hx), mm_wi (by omega) (by omega), mm_wi (by omega) (by omega)]
      exact hX
  · rw [r_162_1 (htx0 := ht) (hx := hx), if_pos (by omega)]
    exact K
/-- pieces that no other live tree has -/
theorem s163 (ht : mm_isT t) (hx : 5275 ≤ nx) (hb : ∀ n, 1 ≤ n → n < 37 → hi (24, t, n) 9 = kk_nz (hi (27, t, n)))
    (K : Q (zI (kk_S (fun n => mm_sm (fun p => if (1 ≤ hi (27, t, n) p ∧ hi (27, t, n) p < 1701) ∧ hi (17, 0, 0) (hi (27, t, n) p) = 1 then 1 else 0) 36) 36)) (mm_z hi dh nx ns)) : mm_Cl 163 [zR (22, t, 0)] (mm_z hi dh nx ns) Q := by
  have hf : ∀ n, 0 ≤ mm_sm (fun p => if (1 ≤ hi (27, t, n) p ∧ hi (27, t, n) p < 1701) ∧ hi (17, 0, 0) (hi (27, t, n) p) = 1 then 1 else 0) 36 ∧ mm_sm (fun p => if (1 ≤ hi (27, t, n) p ∧ hi (27, t, n) p < 1701) ∧ hi (17, 0, 0) (hi (27, t, n) p) = 1 then 1 else 0) 36 ≤ 36 := fun n =>
    ⟨sm_nn _ (fun i _ _ => by split <;> omega), sm_ub 1 36 (fun i _ _ => by split <;> omega)⟩
  rw [r_163_e (htx0 := ht) (hx := hx)]
  have main : ∀ v : mm_V, mm_Wp 163 (mm_blk 163 1) [zR (22, t, 0), zI 0, zI 1, v] [] (mm_z hi dh nx ns) Q := by
    refine kk_sl (X := fun a i => ∀ v : mm_V, mm_Wp 163 (mm_blk 163 1) [zR (22, t, 0), zI a, zI i, v] [] (mm_z hi dh nx ns) Q) (f := fun n => mm_sm (fun p => if (1 ≤ hi (27, t, n) p ∧ hi (27, t, n) p < 1701) ∧ hi (17, 0, 0) (hi (27, t, n) p) = 1 then 1 else 0) 36) 36 36 (by decide) (fun i a b => hf i) (fun a i a1 a2 a3 a4 hX => ?_) ?_
    · intro v
      rw [r_163_1 (htx0 := ht) (hx := hx), if_neg (by omega)]
      by_cases hz : 0 < hi (24, t, i) 9
      · refine kk_sl0 (X := fun b p => mm_Wp 163 (mm_blk 163 2) [zR (22, t, 0), zI b, zI i, zI p] [] (mm_z hi dh nx ns) Q) (f := fun p => if (1 ≤ hi (27, t, i) p ∧ hi (27, t, i) p < 1701) ∧ hi (17, 0, 0) (hi (27, t, i) p) = 1 then 1 else 0) 36 1 (by decide) (fun p _ _ => by split <;> omega) a (fun b p b1 b2 b3 b4 hY => ?_) ?_
        · rw [r_163_2 (htx0 := ht) (hx := hx), if_pos hz, if_pos (by omega)]
          refine ⟨by omega, by omega, by omega, s126 hx (fun z hz => ?_)⟩
          rw [mm_pI, r_163_2_20 (htx0 := ht) (hx := hx)]
          rw [← hz] at hY
          have hz2 : z = 0 ∨ z = 1 := by rw [hz]; split <;> omega
          rcases hz2 with rfl | rfl
          · rw [if_pos rfl, r_163_4 (htx0 := ht) (hx := hx), mm_wi (by omega) (by omega), mm_wi (by omega) (by omega)]
            exact hY
          · rw [if_neg (by decide), r_163_4 (htx0 := ht) (hx := hx), mm_wi (by omega) (by omega), mm_wi (by omega) (by omega)]
            exact hY
        · rw [r_163_2 (htx0 := ht) (hx := hx), if_pos hz, if_neg (by omega), r_163_5 (htx0 := ht) (hx := hx), mm_wi (by omega) (by omega)]
          exact ⟨by omega, hX _⟩
      · have h2 := hb i a1 (by omega)
        have h3 : mm_sm (fun p => if (1 ≤ hi (27, t, i) p ∧ hi (27, t, i) p < 1701) ∧ hi (17, 0, 0) (hi (27, t, i) p) = 1 then 1 else 0) 36 = 0 := sm_zero _ (fun q c1 c2 => by
          rw [kk_nzI (f := hi (27, t, i)) (by omega) (by omega) (by omega), if_neg (by omega)])
        rw [h3, Int.add_zero] at hX
        rw [r_163_2 (htx0 := ht) (hx := hx), if_neg hz, r_163_5 (htx0 := ht) (hx := hx), mm_wi (by omega) (by omega)]
        exact ⟨by omega, hX _⟩
    · intro v
      rw [r_163_1 (htx0 := ht) (hx := hx), if_pos (by omega)]
      exact K
  exact main zU
theorem s95 (ht : mm_isT t) (hn : mm_isN n) (hx : 5275 ≤ nx) {k u : Int} (K : ∀ h2, (h2 (24, t, n) 0 = k ∧ h2 (24, t, n) 1 = 0 ∧ h2 (24, t, n) 2 = u ∧ h2 (24, t, n) 3 = 61 ∧ h2 (24, t, n) 4 = 0 ∧ h2 (24, t, n) 5 = 0 ∧ h2 (24, t, n) 6 = 0 ∧ h2 (24, t, n) 11 = 0 ∧ h2 (24, t, n) 14 = 0) → (∀ x j, ¬ (x = (24, t, n) ∧ kk_F j) → h2 x j = hi x j) → Q zU (mm_z h2 dh nx ns)) :
    mm_Cl 95 [zR (24, t, n), zI k, zI u] (mm_z hi dh nx ns) Q := by
  rw [r_95_e (htx0 := ht) (hnx0 := hn) (hx := hx)]
  refine K _ (by simp [mm_up]) (fun x j b => ?_)
  unfold kk_F at b
  unfold mm_up
  grind
theorem s110 (ht : mm_isT t) (hn : mm_isN n) (hx : 5275 ≤ nx) (hR : kk_R hi) (hb : hi (24, t, n) 9 = kk_nz (hi (27, t, n)))
    (K : ∀ h2, kk_R h2 → kk_cl h2 t n → (∀ x j, ¬ kk_ct x j → ¬ (x = (27, t, n) ∧ 0 ≤ j ∧ j < 36) → ¬ (x = (24, t, n) ∧ (kk_F j ∨ j = 9)) → h2 x j = hi x j) → Q zU (mm_z h2 dh nx ns)) :
    mm_Cl 110 [zR (24, t, n), zR (15, 0, 0), zI (kk_as t)] (mm_z hi dh nx ns) Q := by
  rw [r_110_e (htx0 := ht) (hnx0 := hn) (hx := hx)]
  refine s109 ht hn hx ⟨by omega, by omega⟩ hR hb (fun h a1 a2 a3 a4 => ?_)
  rw [mm_pU, r_110_0_5 (htx0 := ht) (hnx0 := hn) (hx := hx)]
  refine s95 ht hn hx (fun h2 b1 b2 => ?_)
  rw [mm_pU, r_110_0_9 (hx := hx)]
  have pz : ∀ p, 0 ≤ p → p < 36 → h2 (27, t, n) p = 0 := fun p c1 c2 => by rw [b2 _ _ (by simp), a2 p c1 c2, if_neg (by omega)]
  refine K h2 (kk_Rcong (fun _ _ _ => b2 _ _ (by simp)) (b2 _ _ (by simp)) (b2 _ _ (by simp)) (fun _ => b2 _ _ (by simp)) (fun _ => b2 _ _ (by simp)) (fun _ => b2 _ _ (by simp)) a1) ⟨fun f hf => ?_, ?_, pz⟩ (fun x j c1 c2 c3 => ?_)
  · unfold kk_F at hf
    obtain ⟨q0, q1, q2, q3, q4, q5, q6, q7, q8⟩ := b1
    rcases hf with rfl | rfl | rfl | rfl | rfl | rfl | rfl | rfl | rfl <;> simp [*]
  · rw [b2 _ _ (by unfold kk_F; simp), a3]
    exact kk_nz0 (fun p c1 c2 => by rw [a2 p c1 c2, if_neg (by omega)])
  · rw [b2 x j (fun q => c3 ⟨q.1, Or.inl q.2⟩), a4 x j c1 (by unfold kk_bk; intro q; rcases q with q | q; exact c2 q; exact c3 ⟨q.1, Or.inr q.2⟩)]
theorem kk_ctn {f : Nat} {t n j : Int} (h : 24 ≤ f) : ¬ kk_ct (f, t, n) j := by
  unfold kk_ct
  simp
  omega
/-- a tree becomes as another -/
theorem s165 (ht : mm_isT t) (ht1 : mm_isT t1) (hx : 5275 ≤ nx) (hne : t1 ≠ t) (hR : kk_R hi) (hw : ∀ n, 1 ≤ n → n < 37 → kk_nw hi t n) (hw1 : ∀ n, 1 ≤ n → n < 37 → kk_nw hi t1 n) (ha : hi (22, t, 0) 2 = kk_as t)
    (K : ∀ h2, kk_R h2 → (∀ n, 1 ≤ n → n < 37 → kk_cpd h2 t n hi t1 n) → (∀ x j, ¬ kk_ct x j → ¬ kk_tr t 1 37 x → h2 x j = hi x j) → Q zU (mm_z h2 dh nx ns)) :
    mm_Cl 165 [zR (22, t, 0), zR (22, t1, 0)] (mm_z hi dh nx ns) Q := by
  have L : ∀ (k : Nat) (i : Int) (h : mm_Id → Int → Int), 37 - i = k → 1 ≤ i → kk_R h → (∀ n, 1 ≤ n → n < i → kk_cpd h t n hi t1 n) → (∀ x j, ¬ kk_ct x j → ¬ kk_tr t 1 i x → h x j = hi x j) →
      mm_Wp 165 (mm_blk 165 1) [zR (22, t, 0), zR (22, t1, 0), zI i] [] (mm_z h dh nx ns) Q := by
    intro k
    induction k with
    | zero =>
      intro i h e1 e2 a1 a2 a3
      have e3 : i = 37 := by omega
      subst e3
      rw [r_165_1 (htx0 := ht) (htx1 := ht1) (hx := hx), if_pos (by omega)]
      exact K h a1 a2 a3
    | succ k ih =>
      intro i h e1 e2 a1 a2 a3
      have hi1 : mm_isN i := ⟨by omega, by omega⟩
      have src : ∀ f j, 24 ≤ f → h (f, t1, i) j = hi (f, t1, i) j := fun f j hf => a3 _ _ (kk_ctn hf) (by unfold kk_tr; simp [hne])
      have dst : ∀ f j, 24 ≤ f → h (f, t, i) j = hi (f, t, i) j := fun f j hf => a3 _ _ (kk_ctn hf) (by unfold kk_tr; simp)
      obtain ⟨w1, w2, w3⟩ := hw1 i e2 (by omega)
      obtain ⟨-, -, w4⟩ := hw i e2 (by omega)
      rw [r_165_1 (htx0 := ht) (htx1 := ht1) (hx := hx), if_neg (by omega), a3 (22, t, 0) 2 (by unfold kk_ct; simp) (by unfold kk_tr; simp), ha]
      refine ⟨by omega, by omega, s111 ht hi1 ht1 hi1 hx (by omega) a1 ?_ ?_ (fun g b1 b2 b3 b4 => ?_)⟩
      · rw [dst 24 9 (by omega), w4]; exact kk_nzc (fun p _ _ => (dst 27 p (by omega)).symm)
      · rw [src 24 9 (by omega), w3]; exact kk_nzc (fun p _ _ => (src 27 p (by omega)).symm)
      · have srcg : ∀ f j, 24 ≤ f → g (f, t1, i) j = hi (f, t1, i) j := fun f j hf => by
          rw [b4 _ _ (kk_ctn hf) (by intro q; obtain ⟨q, _⟩ := q; injection q with _ q; injection q with q; exact hne q) (by intro q; obtain ⟨q, _⟩ := q; injection q with _ q; injection q with q; exact hne q), src f j hf]
        rw [mm_pU, r_165_1_16 (htx0 := ht) (htx1 := ht1) (hx := hx)]
        refine ⟨by omega, by omega, s112 ht hi1 ht1 hi1 hx (by omega) (by rw [srcg 24 14 (by omega)]; exact w1) (by rw [srcg 24 11 (by omega)]; exact w2) (fun g2 c1 c2 => ?_)⟩
        have keep : ∀ x j, ¬ kk_ct x j → ¬ (kk_tr t i (i + 1) x) → g2 x j = h x j := fun x j d1 d2 => by
          have d3 : ∀ f, (24 ≤ f ∧ f ≤ 30) → x ≠ (f, t, i) := fun f hf q => d2 (by rw [q]; exact ⟨hf.1, hf.2, rfl, by simp, by simp; omega⟩)
          rw [c2 x j (by unfold kk_nd; intro q; rcases q with ⟨q, _⟩ | q | q | q | q | q; exact d3 24 (by omega) q; exact d3 25 (by omega) q; exact d3 26 (by omega) q; exact d3 28 (by omega) q; exact d3 29 (by omega) q; exact d3 30 (by omega) q),
            b4 x j d1 (fun q => d3 27 (by omega) q.1) (fun q => d3 24 (by omega) q.1)]
        rw [mm_pU, r_165_1_25 (htx0 := ht) (htx1 := ht1) (hx := hx), mm_wi (by omega) (by omega)]
        refine ih (i + 1) g2 (by omega) (by omega) ?_ (fun n d1 d2 => ?_) (fun x j d1 d2 => ?_)
        · exact kk_Rcong (fun _ _ _ => c2 _ _ (by unfold kk_nd; simp)) (c2 _ _ (by unfold kk_nd; simp)) (c2 _ _ (by unfold kk_nd; simp)) (fun _ => c2 _ _ (by unfold kk_nd; simp)) (fun _ => c2 _ _ (by unfold kk_nd; simp)) (fun _ => c2 _ _ (by unfold kk_nd; simp)) b1
        · by_cases c : n = i
          · subst c
            refine ⟨?_, ?_, fun p e3 e4 => ?_⟩
            · obtain ⟨q1, q2, q3, q4⟩ := c1
              refine ⟨fun f hf => by rw [q1 f hf, srcg 24 f (by omega)], fun e5 e e6 e7 => ?_, fun e5 e e6 e7 => ?_, fun e e6 e7 => ?_⟩
              · have := q2 (by rw [srcg 24 0 (by omega)]; exact e5) e e6 e7
                rw [srcg 25 e (by omega), srcg 26 e (by omega)] at this
                exact this
              · have := q3 (by rw [srcg 24 0 (by omega)]; exact e5) e e6 e7
                rw [srcg 30 e (by omega)] at this
                exact this
              · have := q4 e e6 (by rw [srcg 24 11 (by omega)]; exact e7)
                rw [srcg 28 e (by omega), srcg 29 e (by omega)] at this
                exact this
            · rw [c2 _ _ (by unfold kk_nd; simp), b3, src 24 9 (by omega)]
            · rw [c2 _ _ (by unfold kk_nd; simp), b2 p e3 e4, src 27 p (by omega)]
          · have kp : ∀ f j, 24 ≤ f → g2 (f, t, n) j = h (f, t, n) j := fun f j hf => keep _ _ (kk_ctn hf) (by unfold kk_tr; intro q; have q1 : i ≤ n := q.2.2.2.1; have q2 : n < i + 1 := q.2.2.2.2; omega)
            obtain ⟨⟨q1, q2, q3, q4⟩, q5, q6⟩ := a2 n d1 (by omega)
            refine ⟨⟨fun f hf => by rw [kp 24 f (by omega)]; exact q1 f hf, fun e5 e e6 e7 => ?_, fun e5 e e6 e7 => ?_, fun e e6 e7 => ?_⟩, by rw [kp 24 9 (by omega)]; exact q5, fun p e3 e4 => by rw [kp 27 p (by omega)]; exact q6 p e3 e4⟩
            · rw [kp 25 e (by omega), kp 26 e (by omega)]; exact q2 e5 e e6 e7
            · rw [kp 30 e (by omega)]; exact q3 e5 e e6 e7
            · rw [kp 28 e (by omega), kp 29 e (by omega)]; exact q4 e e6 e7
        · rw [keep x j d1 (fun q => d2 ⟨q.1, q.2.1, q.2.2.1, by have := q.2.2.2.1; omega, q.2.2.2.2⟩)]
          exact a3 x j d1 (fun q => d2 ⟨q.1, q.2.1, q.2.2.1, q.2.2.2.1, by have := q.2.2.2.2; omega⟩)
  rw [r_165_e (htx0 := ht) (htx1 := ht1) (hx := hx)]
  exact L 36 1 hi (by omega) (by omega) hR (fun n a b => by omega) (fun x j _ _ => rfl)
/-- a tree's nodes of a kind are dropped -/
theorem s167 (ht : mm_isT t) (hx : 5275 ≤ nx) (hR : kk_R hi) (hw : ∀ n, 1 ≤ n → n < 37 → hi (24, t, n) 9 = kk_nz (hi (27, t, n))) (ha : hi (22, t, 0) 2 = kk_as t)
    (K : ∀ h2, kk_R h2 → (∀ n, 1 ≤ n → n < 37 → (hi (24, t, n) 0 = 1 ∧ hi (24, t, n) 5 = 0) → kk_cl h2 t n) → (∀ x j, ¬ kk_ct x j → ¬ (kk_tr t 1 37 x ∧ hi (24, t, x.2.2) 0 = 1 ∧ hi (24, t, x.2.2) 5 = 0) → h2 x j = hi x j) → Q zU (mm_z h2 dh nx ns)) :
    mm_Cl 167 [zR (22, t, 0)] (mm_z hi dh nx ns) Q := by
  have L : ∀ (k : Nat) (i : Int) (h : mm_Id → Int → Int), 37 - i = k → 1 ≤ i → kk_R h → (∀ n, 1 ≤ n → n < i → (hi (24, t, n) 0 = 1 ∧ hi (24, t, n) 5 = 0) → kk_cl h t n) → (∀ x j, ¬ kk_ct x j → ¬ (kk_tr t 1 i x ∧ hi (24, t, x.2.2) 0 = 1 ∧ hi (24, t, x.2.2) 5 = 0) → h x j = hi x j) →
      mm_Wp 167 (mm_blk 167 1) [zR (22, t, 0), zI i] [] (mm_z h dh nx ns) Q := by
    intro k
    induction k with
    | zero =>
      intro i h e1 e2 a1 a2 a3
      have e3 : i = 37 := by omega
      subst e3
      rw [r_167_1 (htx0 := ht) (hx := hx), if_pos (by omega)]
      exact K h a1 a2 a3
    | succ k ih =>
      intro i h e1 e2 a1 a2 a3
      have hi1 : mm_isN i := ⟨by omega, by omega⟩
      have dst : ∀ f j, 24 ≤ f → h (f, t, i) j = hi (f, t, i) j := fun f j hf => a3 _ _ (kk_ctn hf) (by unfold kk_tr; simp)
      rw [r_167_1 (htx0 := ht) (hx := hx), if_neg (by omega)]
      refine ⟨by omega, s96 ht hi1 hx (fun h1 => ?_) (fun h1 => ?_)⟩
      · rw [dst 24 0 (by omega), dst 24 5 (by omega)] at h1
        rw [mm_pI, r_167_1_8 (htx0 := ht) (hx := hx), if_neg (by decide), a3 (22, t, 0) 2 (by unfold kk_ct; simp) (by unfold kk_tr; simp), ha]
        refine ⟨by omega, s110 ht hi1 hx a1 ?_ (fun g b1 b2 b3 => ?_)⟩
        · rw [dst 24 9 (by omega), hw i e2 (by omega)]; exact kk_nzc (fun p _ _ => (dst 27 p (by omega)).symm)
        · have keep : ∀ x j, ¬ kk_ct x j → ¬ (kk_tr t i (i + 1) x) → g x j = h x j := fun x j d1 d2 => by
            have d3 : ∀ f, (24 ≤ f ∧ f ≤ 30) → x ≠ (f, t, i) := fun f hf q => d2 (by rw [q]; exact ⟨hf.1, hf.2, rfl, by simp, by simp; omega⟩)
            exact b3 x j d1 (fun q => d3 27 (by omega) q.1) (fun q => d3 24 (by omega) q.1)
          rw [mm_pU, r_167_1_18 (htx0 := ht) (hx := hx), r_167_2 (htx0 := ht) (hx := hx), mm_wi (by omega) (by omega)]
          refine ih (i + 1) g (by omega) (by omega) b1 (fun n d1 d2 d3 => ?_) (fun x j d1 d2 => ?_)
          · by_cases c : n = i
            · rw [c]; exact b2
            · have kp : ∀ f j, 24 ≤ f → g (f, t, n) j = h (f, t, n) j := fun f j hf => keep _ _ (kk_ctn hf) (by unfold kk_tr; intro q; have q1 : i ≤ n := q.2.2.2.1; have q2 : n < i + 1 := q.2.2.2.2; omega)
              obtain ⟨q1, q2, q3⟩ := a2 n d1 (by omega) d3
              exact ⟨fun f hf => by rw [kp 24 f (by omega)]; exact q1 f hf, by rw [kp 24 9 (by omega)]; exact q2, fun p e3 e4 => by rw [kp 27 p (by omega)]; exact q3 p e3 e4⟩
          · rw [keep x j d1 (fun q => d2 ⟨⟨q.1, q.2.1, q.2.2.1, by have := q.2.2.2.1; omega, q.2.2.2.2⟩, by have : x.2.2 = i := by { have := q.2.2.2.1; have := q.2.2.2.2; omega }; rw [this]; exact h1⟩)]
            exact a3 x j d1 (fun q => d2 ⟨⟨q.1.1, q.1.2.1, q.1.2.2.1, q.1.2.2.2.1, by have := q.1.2.2.2.2; omega⟩, q.2⟩)
      · rw [dst 24 0 (by omega), dst 24 5 (by omega)] at h1
        rw [mm_pI, r_167_1_8 (htx0 := ht) (hx := hx), if_pos rfl, r_167_2 (htx0 := ht) (hx := hx), mm_wi (by omega) (by omega)]
        refine ih (i + 1) h (by omega) (by omega) a1 (fun n d1 d2 d3 => ?_) (fun x j d1 d2 => ?_)
        · by_cases c : n = i
          · rw [c] at d3; exact absurd d3 h1
          · exact a2 n d1 (by omega) d3
        · exact a3 x j d1 (fun q => d2 ⟨⟨q.1.1, q.1.2.1, q.1.2.2.1, q.1.2.2.2.1, by have := q.1.2.2.2.2; omega⟩, q.2⟩)
  rw [r_167_e (htx0 := ht) (hx := hx)]
  exact L 36 1 hi (by omega) (by omega) hR (fun n a b => by omega) (fun x j _ _ => rfl)
theorem s166 (ht : mm_isT t) (hx : 5275 ≤ nx) (hR : kk_R hi) (hw : ∀ n, 1 ≤ n → n < 37 → hi (24, t, n) 9 = kk_nz (hi (27, t, n))) (ha : hi (22, t, 0) 2 = kk_as t)
    (K : ∀ h2, kk_R h2 → (∀ n, 1 ≤ n → n < 37 → kk_cl h2 t n) → (∀ x j, ¬ kk_ct x j → ¬ kk_tr t 1 37 x → h2 x j = hi x j) → Q zU (mm_z h2 dh nx ns)) :
    mm_Cl 166 [zR (22, t, 0)] (mm_z hi dh nx ns) Q := by
  have L : ∀ (k : Nat) (i : Int) (h : mm_Id → Int → Int), 37 - i = k → 1 ≤ i → kk_R h → (∀ n, 1 ≤ n → n < i → kk_cl h t n) → (∀ x j, ¬ kk_ct x j → ¬ kk_tr t 1 i x → h x j = hi x j) →
      mm_Wp 166 (mm_blk 166 1) [zR (22, t, 0), zI i] [] (mm_z h dh nx ns) Q := by
    intro k
    induction k with
    | zero =>
      intro i h e1 e2 a1 a2 a3
      have e3 : i = 37 := by omega
      subst e3
      rw [r_166_1 (htx0 := ht) (hx := hx), if_pos (by omega)]
      exact K h a1 a2 a3
    | succ k ih =>
      intro i h e1 e2 a1 a2 a3
      have hi1 : mm_isN i := ⟨by omega, by omega⟩
      have dst : ∀ f j, 24 ≤ f → h (f, t, i) j = hi (f, t, i) j := fun f j hf => a3 _ _ (kk_ctn hf) (by unfold kk_tr; simp)
      rw [r_166_1 (htx0 := ht) (hx := hx), if_neg (by omega), a3 (22, t, 0) 2 (by unfold kk_ct; simp) (by unfold kk_tr; simp), ha]
      refine ⟨by omega, s110 ht hi1 hx a1 ?_ (fun g b1 b2 b3 => ?_)⟩
      · rw [dst 24 9 (by omega), hw i e2 (by omega)]; exact kk_nzc (fun p _ _ => (dst 27 p (by omega)).symm)
      · have keep : ∀ x j, ¬ kk_ct x j → ¬ (kk_tr t i (i + 1) x) → g x j = h x j := fun x j d1 d2 => by
          have d3 : ∀ f, (24 ≤ f ∧ f ≤ 30) → x ≠ (f, t, i) := fun f hf q => d2 (by rw [q]; exact ⟨hf.1, hf.2, rfl, by simp, by simp; omega⟩)
          exact b3 x j d1 (fun q => d3 27 (by omega) q.1) (fun q => d3 24 (by omega) q.1)
        rw [mm_pU, r_166_1_12 (htx0 := ht) (hx := hx), mm_wi (by omega) (by omega)]
        refine ih (i + 1) g (by omega) (by omega) b1 (fun n d1 d2 => ?_) (fun x j d1 d2 => ?_)
        · by_cases c : n = i
          · rw [c]; exact b2
          · have kp : ∀ f j, 24 ≤ f → g (f, t, n) j = h (f, t, n) j := fun f j hf => keep _ _ (kk_ctn hf) (by unfold kk_tr; intro q; have q1 : i ≤ n := q.2.2.2.1; have q2 : n < i + 1 := q.2.2.2.2; omega)
            obtain ⟨q1, q2, q3⟩ := a2 n d1 (by omega)
            exact ⟨fun f hf => by rw [kp 24 f (by omega)]; exact q1 f hf, by rw [kp 24 9 (by omega)]; exact q2, fun p e3 e4 => by rw [kp 27 p (by omega)]; exact q3 p e3 e4⟩
        · rw [keep x j d1 (fun q => d2 ⟨q.1, q.2.1, q.2.2.1, by have := q.2.2.2.1; omega, q.2.2.2.2⟩)]
          exact a3 x j d1 (fun q => d2 ⟨q.1, q.2.1, q.2.2.1, q.2.2.2.1, by have := q.2.2.2.2; omega⟩)
  rw [r_166_e (htx0 := ht) (hx := hx)]
  exact L 36 1 hi (by omega) (by omega) hR (fun n a b => by omega) (fun x j _ _ => rfl)
end

