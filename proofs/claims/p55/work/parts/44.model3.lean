/-! the reference: entries counted, files swept, handles forgotten, what the caller may -/
def kk_ed (h : mm_Id → Int → Int) (s d node : Int) : Int := mm_sm (fun e => if h (46, 0, 0) (24 * (36 * s + d - 1) + e) = node then 1 else 0) (h (44, 0, 0) (36 * s + d - 1)).toNat
def kk_ef (h : mm_Id → Int → Int) (s node : Int) : Int := kk_S (fun d => kk_ed h s d node) 36
def kk_op (h : mm_Id → Int → Int) (s n : Int) : Prop := ∃ i, 1 ≤ i ∧ i < 9 ∧ h (63, 0, 0) i = n ∧ h (62, 0, 0) i = s
def kk_cx (k : Int) (x : mm_Id) (j : Int) : Prop := (x = (41, 0, 0) ∨ x = (42, 0, 0) ∨ x = (44, 0, 0) ∨ x = (49, 0, 0)) ∧ j = k ∨ x = (43, 0, 0) ∧ 36 * k ≤ j ∧ j < 36 * k + 36
/-- a place of a node that is none -/
def kk_mz (h : mm_Id → Int → Int) (k : Int) : Prop := (h (41, 0, 0) k = 0 ∧ h (42, 0, 0) k = 0 ∧ h (44, 0, 0) k = 0 ∧ h (49, 0, 0) k = 0) ∧ ∀ p, 0 ≤ p → p < 36 → h (43, 0, 0) (36 * k + p) = 0
theorem kk_cxd {a b : Int} (hab : a ≠ b) {x : mm_Id} {j : Int} (h : kk_cx a x j) : ¬ kk_cx b x j := by
  unfold kk_cx at h ⊢
  rcases h with ⟨h, rfl⟩ | ⟨rfl, h1, h2⟩
  · rintro (⟨_, q⟩ | ⟨q, _⟩)
    · exact hab q
    · rw [q] at h; simp at h
  · rintro (⟨q, _⟩ | ⟨_, q⟩)
    · simp at q
    · omega
section
variable {hi : mm_Id → Int → Int} {dh : Int → Int} {nx ns : Int} {Q : mm_V → mm_H → Prop}
theorem m188 (hy : 10581 ≤ nx) {s node : Int} (hs : 0 ≤ s ∧ s < 29) (hc : ∀ d, 1 ≤ d → d < 37 → 0 ≤ hi (44, 0, 0) (36 * s + d - 1) ∧ hi (44, 0, 0) (36 * s + d - 1) ≤ 24) (K : Q (zI (kk_ef hi s node)) (mm_z hi dh nx ns)) : mm_Cl 188 [zR (40, 0, 0), zI s, zI node] (mm_z hi dh nx ns) Q := by
  rw [r_188_e (hy := hy)]
  refine kk_sl (X := fun a i => ∀ v : mm_V, mm_Wp 188 (mm_blk 188 1) [zR (40, 0, 0), zI s, zI node, zI a, zI i, v] [] (mm_z hi dh nx ns) Q) (f := fun d => kk_ed hi s d node) 36 24 (by decide) (fun i a b => ⟨sm_nn _ (fun _ _ _ => by split <;> omega), ?_⟩) (fun a i a1 a2 a3 a4 hX => ?_) ?_ zU
  · have := sm_ub (f := fun e => if hi (46, 0, 0) (24 * (36 * s + i - 1) + e) = node then 1 else 0) 1 (hi (44, 0, 0) (36 * s + i - 1)).toNat (fun _ _ _ => by split <;> omega)
    have := hc i a (by omega)
    unfold kk_ed
    omega
  · intro v
    have hk : 0 ≤ 36 * s + i - 1 ∧ 36 * s + i - 1 < 1044 := by omega
    have hcc := hc i a1 (by omega)
    rw [r_188_1 (hy := hy), if_neg (by omega)]
    have L := kk_sl0 (X := fun b e => mm_Wp 188 (mm_blk 188 2) [zR (40, 0, 0), zI s, zI node, zI b, zI i, zI e] [] (mm_z hi dh nx ns) Q) (f := fun e => if hi (46, 0, 0) (24 * (36 * s + i - 1) + e) = node then 1 else 0) (hi (44, 0, 0) (36 * s + i - 1)).toNat 1 (by decide) (fun p _ _ => by split <;> omega) a
    refine L (fun b e b1 b2 b3 b4 hY => ?_) ?_
    · rw [r_188_2 (hy := hy)]
      refine m175 hy hs (by omega) ?_
      rw [mm_pI, r_188_2_6 (hy := hy), if_pos (by omega)]
      refine ⟨hk, m185 hy hs (by omega) (by omega) ?_⟩
      rw [mm_pI, r_188_2_14 (hy := hy)]
      split
      · rename_i h
        rw [if_pos h] at hY
        rw [r_188_4 (hy := hy), mm_wi (by omega) (by omega), mm_wi (by omega) (by omega)]
        exact hY
      · rename_i h
        rw [if_neg h] at hY
        rw [r_188_4 (hy := hy), mm_wi (by omega) (by omega), mm_wi (by omega) (by omega)]
        exact hY
    · rw [r_188_2 (hy := hy)]
      refine m175 hy hs (by omega) ?_
      rw [mm_pI, r_188_2_6 (hy := hy), if_neg (by omega), mm_wi (by omega) (by omega)]
      exact ⟨hk, hX _⟩
  · intro v
    rw [r_188_1 (hy := hy), if_pos (by omega)]
    exact K
theorem m189 (hy : 10581 ≤ nx) {s node : Int} (hs : 0 ≤ s ∧ s < 29) (hc : ∀ d, 1 ≤ d → d < 37 → 0 ≤ hi (44, 0, 0) (36 * s + d - 1) ∧ hi (44, 0, 0) (36 * s + d - 1) ≤ 24)
    (K1 : ∀ d e, 1 ≤ d → d < 37 → 0 ≤ e → e < hi (44, 0, 0) (36 * s + d - 1) → hi (46, 0, 0) (24 * (36 * s + d - 1) + e) = node → Q (zI d) (mm_z hi dh nx ns))
    (K0 : (∀ d e, 1 ≤ d → d < 37 → 0 ≤ e → e < hi (44, 0, 0) (36 * s + d - 1) → hi (46, 0, 0) (24 * (36 * s + d - 1) + e) ≠ node) → Q (zI 0) (mm_z hi dh nx ns)) : mm_Cl 189 [zR (40, 0, 0), zI s, zI node] (mm_z hi dh nx ns) Q := by
  have L : ∀ (k : Nat) (i : Int) (v : mm_V), 37 - i = k → 1 ≤ i → (∀ d e, 1 ≤ d → d < i → 0 ≤ e → e < hi (44, 0, 0) (36 * s + d - 1) → hi (46, 0, 0) (24 * (36 * s + d - 1) + e) ≠ node) → mm_Wp 189 (mm_blk 189 1) [zR (40, 0, 0), zI s, zI node, zI i, v] [] (mm_z hi dh nx ns) Q := by
    intro k
    induction k with
    | zero =>
      intro i v e1 e2 e3
      rw [r_189_1 (hy := hy), if_pos (by omega)]
      exact K0 (fun d e a b => e3 d e a (by omega))
    | succ k ih =>
      intro i v e1 e2 e3
      have hk : 0 ≤ 36 * s + i - 1 ∧ 36 * s + i - 1 < 1044 := by omega
      have hcc := hc i e2 (by omega)
      rw [r_189_1 (hy := hy), if_neg (by omega)]
      have L2 : ∀ (m : Nat) (e : Int), hi (44, 0, 0) (36 * s + i - 1) - e = m → 0 ≤ e → (∀ q, 0 ≤ q → q < e → hi (46, 0, 0) (24 * (36 * s + i - 1) + q) ≠ node) → mm_Wp 189 (mm_blk 189 2) [zR (40, 0, 0), zI s, zI node, zI i, zI e] [] (mm_z hi dh nx ns) Q := by
        intro m
        induction m with
        | zero =>
          intro e b1 b2 b3
          rw [r_189_2 (hy := hy)]
          refine m175 hy hs (by omega) ?_
          rw [mm_pI, r_189_2_6 (hy := hy), if_neg (by omega), mm_wi (by omega) (by omega)]
          exact ⟨hk, ih (i + 1) _ (by omega) (by omega) (fun d q a b c1 c2 => by
            by_cases z : d = i
            · rw [z] at c2 ⊢; exact b3 q c1 (by omega)
            · exact e3 d q a (by omega) c1 c2)⟩
        | succ m ih2 =>
          intro e b1 b2 b3
          rw [r_189_2 (hy := hy)]
          refine m175 hy hs (by omega) ?_
          rw [mm_pI, r_189_2_6 (hy := hy), if_pos (by omega)]
          refine ⟨hk, m185 hy hs (by omega) (by omega) ?_⟩
          rw [mm_pI, r_189_2_13 (hy := hy)]
          split
          · rename_i h
            exact K1 i e e2 (by omega) b2 (by omega) h
          · rename_i h
            rw [mm_wi (by omega) (by omega)]
            exact ih2 (e + 1) (by omega) (by omega) (fun q a b => by
              by_cases z : q = e
              · rw [z]; exact h
              · exact b3 q a (by omega))
      exact L2 (hi (44, 0, 0) (36 * s + i - 1)).toNat 0 (by omega) (by omega) (fun q a b => by omega)
  rw [r_189_e (hy := hy)]
  exact L 36 1 zU (by omega) (by omega) (fun d e a b => by omega)
theorem m190 (hy : 10581 ≤ nx) {s n : Int} (K1 : kk_op hi s n → Q (zI 1) (mm_z hi dh nx ns)) (K0 : ¬ kk_op hi s n → Q (zI 0) (mm_z hi dh nx ns)) : mm_Cl 190 [zR (40, 0, 0), zI s, zI n] (mm_z hi dh nx ns) Q := by
  have L1 : ∀ (k : Nat) (i : Int), 9 - i = k → 1 ≤ i → kk_op hi s n → mm_Wp 190 (mm_blk 190 1) [zR (40, 0, 0), zI s, zI n, zI 1, zI i] [] (mm_z hi dh nx ns) Q := by
    intro k
    induction k with
    | zero =>
      intro i e1 e2 h
      rw [r_190_1 (hy := hy), if_pos (by omega)]
      exact ⟨Or.inr rfl, K1 h⟩
    | succ k ih =>
      intro i e1 e2 h
      rw [r_190_1 (hy := hy), if_neg (by omega), if_neg (by decide), r_190_2 (hy := hy), r_190_4 (hy := hy), mm_wi (by omega) (by omega)]
      exact ih (i + 1) (by omega) (by omega) h
  have L0 : ∀ (k : Nat) (i : Int), 9 - i = k → 1 ≤ i → (∀ q, 1 ≤ q → q < i → ¬ (hi (63, 0, 0) q = n ∧ hi (62, 0, 0) q = s)) → mm_Wp 190 (mm_blk 190 1) [zR (40, 0, 0), zI s, zI n, zI 0, zI i] [] (mm_z hi dh nx ns) Q := by
    intro k
    induction k with
    | zero =>
      intro i e1 e2 h
      rw [r_190_1 (hy := hy), if_pos (by omega)]
      exact ⟨Or.inl rfl, K0 (fun ⟨q, q1, q2, q3⟩ => h q q1 (by omega) q3)⟩
    | succ k ih =>
      intro i e1 e2 h
      have nn : ¬ (hi (63, 0, 0) i = n ∧ hi (62, 0, 0) i = s) → mm_Wp 190 (mm_blk 190 3) [zR (40, 0, 0), zI s, zI n, zI 0, zI i] [] (mm_z hi dh nx ns) Q := by
        intro q
        rw [r_190_3 (hy := hy), r_190_4 (hy := hy), mm_wi (by omega) (by omega)]
        exact ih (i + 1) (by omega) (by omega) (fun z a b => by
          by_cases c : z = i
          · rw [c]; exact q
          · exact h z a (by omega))
      rw [r_190_1 (hy := hy), if_neg (by omega), if_pos rfl]
      refine ⟨by omega, ?_⟩
      split
      · rename_i h1
        refine ⟨by omega, ?_⟩
        split
        · rename_i h2
          rw [r_190_2 (hy := hy), r_190_4 (hy := hy), mm_wi (by omega) (by omega)]
          exact L1 k (i + 1) (by omega) (by omega) ⟨i, e2, by omega, h1, h2⟩
        · rename_i h2
          exact nn (fun q => h2 q.2)
      · rename_i h1
        exact nn (fun q => h1 q.1)
  rw [r_190_e (hy := hy)]
  exact L0 8 1 (by omega) (by omega) (fun q a b => by omega)
/-- a file without entries that no handle is opn for -/
def kk_sw (h : mm_Id → Int → Int) (s n : Int) : Prop := h (41, 0, 0) (36 * s + n - 1) = 1 ∧ kk_ef h s n = 0 ∧ ¬ kk_op h s n
theorem kk_efc {h g : mm_Id → Int → Int} {s node : Int} (h1 : ∀ d, 1 ≤ d → d < 37 → h (44, 0, 0) (36 * s + d - 1) = g (44, 0, 0) (36 * s + d - 1)) (h2 : ∀ j, h (46, 0, 0) j = g (46, 0, 0) j) : kk_ef h s node = kk_ef g s node :=
  kk_Sc _ (fun d a b => by unfold kk_ed; rw [h1 d a (by omega)]; exact sm_congr _ (fun e _ _ => by rw [h2]))
theorem m191 (hy : 10581 ≤ nx) {s : Int} (hs : 0 ≤ s ∧ s < 29) (hc : ∀ d, 1 ≤ d → d < 37 → 0 ≤ hi (44, 0, 0) (36 * s + d - 1) ∧ hi (44, 0, 0) (36 * s + d - 1) ≤ 24) (hf : ∀ d, 1 ≤ d → d < 37 → hi (41, 0, 0) (36 * s + d - 1) = 1 → hi (44, 0, 0) (36 * s + d - 1) = 0)
    (K : ∀ h2, (∀ n, 1 ≤ n → n < 37 → kk_sw hi s n → kk_mz h2 (36 * s + n - 1)) → (∀ x j, ¬ (∃ n, 1 ≤ n ∧ n < 37 ∧ kk_sw hi s n ∧ kk_cx (36 * s + n - 1) x j) → h2 x j = hi x j) → Q zU (mm_z h2 dh nx ns)) :
    mm_Cl 191 [zR (40, 0, 0), zI s] (mm_z hi dh nx ns) Q := by
  have L : ∀ (k : Nat) (i : Int) (h : mm_Id → Int → Int), 37 - i = k → 1 ≤ i → (∀ n, 1 ≤ n → n < i → kk_sw hi s n → kk_mz h (36 * s + n - 1)) → (∀ x j, ¬ (∃ n, 1 ≤ n ∧ n < i ∧ kk_sw hi s n ∧ kk_cx (36 * s + n - 1) x j) → h x j = hi x j) →
      mm_Wp 191 (mm_blk 191 1) [zR (40, 0, 0), zI s, zI i] [] (mm_z h dh nx ns) Q := by
    intro k
    induction k with
    | zero =>
      intro i h e1 e2 a1 a2
      have e3 : i = 37 := by omega
      subst e3
      rw [r_191_1 (hy := hy), if_pos (by omega)]
      exact K h a1 a2
    | succ k ih =>
      intro i h e1 e2 a1 a2
      have k41 : h (41, 0, 0) (36 * s + i - 1) = hi (41, 0, 0) (36 * s + i - 1) := a2 _ _ (by
        rintro ⟨n, n1, n2, n3, n4⟩
        unfold kk_cx at n4
        rcases n4 with ⟨_, q⟩ | ⟨q, _⟩
        · omega
        · simp at q)
      have k44 : ∀ d, 1 ≤ d → d < 37 → h (44, 0, 0) (36 * s + d - 1) = hi (44, 0, 0) (36 * s + d - 1) := by
        intro d d1 d2
        by_cases c : d < i ∧ kk_sw hi s d
        · rw [(a1 d d1 c.1 c.2).1.2.2.1, hf d d1 d2 c.2.1]
        · exact a2 _ _ (by
            rintro ⟨n, n1, n2, n3, n4⟩
            unfold kk_cx at n4
            rcases n4 with ⟨_, q⟩ | ⟨q, _⟩
            · have : d = n := by omega
              rw [this] at c
              exact c ⟨n2, n3⟩
            · simp at q)
      have oth : ∀ f, (f = 46 ∨ f = 62 ∨ f = 63) → ∀ j, h (f, 0, 0) j = hi (f, 0, 0) j := fun f hf2 j => a2 _ _ (by
        rintro ⟨n, n1, n2, n3, n4⟩
        unfold kk_cx at n4
        simp at n4
        omega)
      have ef : ∀ n, kk_ef h s n = kk_ef hi s n := fun n => kk_efc k44 (oth 46 (by omega))
      have op : ∀ n, kk_op h s n ↔ kk_op hi s n := fun n => by
        unfold kk_op
        simp only [oth 62 (by omega), oth 63 (by omega)]
      have skip : ¬ kk_sw hi s i → mm_Wp 191 (mm_blk 191 2) [zR (40, 0, 0), zI s, zI i] [] (mm_z h dh nx ns) Q := by
        intro hn
        rw [r_191_2 (hy := hy), mm_wi (by omega) (by omega)]
        refine ih (i + 1) h (by omega) (by omega) (fun n c1 c2 c3 => ?_) (fun x j c => a2 x j (fun ⟨n, n1, n2, n3⟩ => c ⟨n, n1, by omega, n3⟩))
        by_cases z : n = i
        · rw [z] at c3; exact absurd c3 hn
        · exact a1 n c1 (by omega) c3
      rw [r_191_1 (hy := hy), if_neg (by omega)]
      refine m177 hy hs (by omega) (fun b hb => ?_)
      rw [mm_pI, r_191_1_7 (hy := hy)]
      rw [k41] at hb
      by_cases c1 : hi (41, 0, 0) (36 * s + i - 1) = 1
      · rw [if_pos c1] at hb
        subst hb
        rw [if_neg (by decide)]
        refine m188 hy hs (fun d d1 d2 => by rw [k44 d d1 d2]; exact hc d d1 d2) ?_
        rw [mm_pI, r_191_1_12 (hy := hy), ef]
        split
        · rename_i c2
          refine m190 hy (fun c3 => ?_) (fun c3 => ?_)
          · rw [mm_pI, r_191_1_17 (hy := hy), if_neg (by decide)]
            exact skip (fun q => q.2.2 ((op i).1 c3))
          · rw [mm_pI, r_191_1_17 (hy := hy), if_pos rfl]
            refine m175 hy hs (by omega) ?_
            rw [mm_pI, r_191_1_22 (hy := hy)]
            refine m180 hy (by omega) (fun g b1 b2 b3 => ?_)
            rw [mm_pU, r_191_1_23 (hy := hy), r_191_2 (hy := hy), mm_wi (by omega) (by omega)]
            have csw : kk_sw hi s i := ⟨c1, c2, fun q => c3 ((op i).2 q)⟩
            have fr : ∀ x j, ¬ kk_cx (36 * s + i - 1) x j → g x j = h x j := fun x j q => b3 x j (fun w => q (Or.inl w)) (fun w => q (Or.inr w))
            refine ih (i + 1) g (by omega) (by omega) (fun n d1 d2 d3 => ?_) (fun x j d => ?_)
            · by_cases z : n = i
              · rw [z]; exact ⟨b1, b2⟩
              · obtain ⟨⟨q1, q2, q3, q4⟩, q5⟩ := a1 n d1 (by omega) d3
                have z2 : 36 * s + n - 1 ≠ 36 * s + i - 1 := by omega
                refine ⟨⟨?_, ?_, ?_, ?_⟩, fun p p1 p2 => ?_⟩
                · rw [fr _ _ (kk_cxd z2 (Or.inl ⟨Or.inl rfl, rfl⟩))]; exact q1
                · rw [fr _ _ (kk_cxd z2 (Or.inl ⟨Or.inr (Or.inl rfl), rfl⟩))]; exact q2
                · rw [fr _ _ (kk_cxd z2 (Or.inl ⟨Or.inr (Or.inr (Or.inl rfl)), rfl⟩))]; exact q3
                · rw [fr _ _ (kk_cxd z2 (Or.inl ⟨Or.inr (Or.inr (Or.inr rfl)), rfl⟩))]; exact q4
                · rw [fr _ _ (kk_cxd z2 (Or.inr ⟨rfl, by omega, by omega⟩))]; exact q5 p p1 p2
            · rw [fr x j (fun q => d ⟨i, e2, by omega, csw, q⟩)]
              exact a2 x j (fun ⟨n, n1, n2, n3⟩ => d ⟨n, n1, by omega, n3⟩)
        · rename_i c2
          exact skip (fun q => c2 q.2.1)
      · rw [if_neg c1] at hb
        subst hb
        rw [if_pos rfl]
        exact skip (fun q => c1 q.1)
  rw [r_191_e (hy := hy)]
  exact L 36 1 hi (by omega) (by omega) (fun n a b => by omega) (fun x j _ => rfl)
theorem m192 (hy : 10581 ≤ nx) {i : Int} (hi1 : 0 ≤ i ∧ i < 9) (K : ∀ h2, h2 (63, 0, 0) i = 0 → (∀ a, 0 ≤ a → a < 2160 → h2 (64, 0, 0) (2160 * i + a) = 0) → (∀ x j, ¬ (x = (63, 0, 0) ∧ j = i) → ¬ (x = (64, 0, 0) ∧ 2160 * i ≤ j ∧ j < 2160 * i + 2160) → h2 x j = hi x j) → Q zU (mm_z h2 dh nx ns)) :
    mm_Cl 192 [zR (40, 0, 0), zI i] (mm_z hi dh nx ns) Q := by
  have L : ∀ (k : Nat) (a : Int) (h : mm_Id → Int → Int), 2160 - a = k → 0 ≤ a → h (63, 0, 0) i = 0 → (∀ b, 0 ≤ b → b < a → h (64, 0, 0) (2160 * i + b) = 0) → (∀ x j, ¬ (x = (63, 0, 0) ∧ j = i) → ¬ (x = (64, 0, 0) ∧ 2160 * i ≤ j ∧ j < 2160 * i + 2160) → h x j = hi x j) → mm_Wp 192 (mm_blk 192 1) [zR (40, 0, 0), zI i, zI a] [] (mm_z h dh nx ns) Q := by
    intro k
    induction k with
    | zero =>
      intro a h e1 e2 a1 a2 a3
      rw [r_192_1 (hy := hy), if_neg (by omega)]
      exact K h a1 (fun b b1 b2 => a2 b b1 (by omega)) a3
    | succ k ih =>
      intro a h e1 e2 a1 a2 a3
      rw [r_192_1 (hy := hy), if_pos (by omega), mm_wi (z := 2160 * i) (by omega) (by omega), mm_wi (z := 2160 * i + a) (by omega) (by omega), mm_wi (z := a + 1) (by omega) (by omega), mm_bi (by omega) (by omega)]
      refine ⟨by omega, ih (a + 1) _ (by omega) (by omega) (by rw [mm_upf (by decide)]; exact a1) (fun b b1 b2 => ?_) (fun x j b1 b2 => ?_)⟩
      · by_cases c : b = a
        · rw [c, mm_ups]
        · rw [mm_upj (by omega)]; exact a2 b b1 (by omega)
      · rw [mm_upne' (fun q => b2 ⟨q.1, by omega, by omega⟩)]; exact a3 x j b1 b2
  rw [r_192_e (hy := hy)]
  exact ⟨hi1, L 2160 0 _ (by omega) (by omega) mm_ups (fun b b1 b2 => by omega) (fun x j b1 b2 => mm_upne' b1)⟩
/-- the handles of a slot are closed -/
theorem m193 (hy : 10581 ≤ nx) {s : Int} (K : ∀ h2, (∀ i, 1 ≤ i → i < 9 → (0 < hi (63, 0, 0) i ∧ hi (62, 0, 0) i = s) → h2 (63, 0, 0) i = 0 ∧ ∀ a, 0 ≤ a → a < 2160 → h2 (64, 0, 0) (2160 * i + a) = 0) →
      (∀ x j, ¬ (∃ i, 1 ≤ i ∧ i < 9 ∧ (0 < hi (63, 0, 0) i ∧ hi (62, 0, 0) i = s) ∧ (x = (63, 0, 0) ∧ j = i ∨ x = (64, 0, 0) ∧ 2160 * i ≤ j ∧ j < 2160 * i + 2160)) → h2 x j = hi x j) → Q zU (mm_z h2 dh nx ns)) :
    mm_Cl 193 [zR (40, 0, 0), zI s] (mm_z hi dh nx ns) Q := by
  have L : ∀ (k : Nat) (i : Int) (h : mm_Id → Int → Int), 9 - i = k → 1 ≤ i → (∀ q, 1 ≤ q → q < i → (0 < hi (63, 0, 0) q ∧ hi (62, 0, 0) q = s) → h (63, 0, 0) q = 0 ∧ ∀ a, 0 ≤ a → a < 2160 → h (64, 0, 0) (2160 * q + a) = 0) →
      (∀ x j, ¬ (∃ q, 1 ≤ q ∧ q < i ∧ (0 < hi (63, 0, 0) q ∧ hi (62, 0, 0) q = s) ∧ (x = (63, 0, 0) ∧ j = q ∨ x = (64, 0, 0) ∧ 2160 * q ≤ j ∧ j < 2160 * q + 2160)) → h x j = hi x j) → mm_Wp 193 (mm_blk 193 1) [zR (40, 0, 0), zI s, zI i] [] (mm_z h dh nx ns) Q := by
    intro k
    induction k with
    | zero =>
      intro i h e1 e2 a1 a2
      have e3 : i = 9 := by omega
      subst e3
      rw [r_193_1 (hy := hy), if_pos (by omega)]
      exact K h a1 a2
    | succ k ih =>
      intro i h e1 e2 a1 a2
      have r63 : h (63, 0, 0) i = hi (63, 0, 0) i := a2 _ _ (by
        rintro ⟨q, q1, q2, q3, q4⟩
        simp at q4
        omega)
      have r62 : h (62, 0, 0) i = hi (62, 0, 0) i := a2 _ _ (by
        rintro ⟨q, q1, q2, q3, q4⟩
        simp at q4)
      have skip : ¬ (0 < hi (63, 0, 0) i ∧ hi (62, 0, 0) i = s) → mm_Wp 193 (mm_blk 193 2) [zR (40, 0, 0), zI s, zI i] [] (mm_z h dh nx ns) Q := by
        intro hn
        rw [r_193_2 (hy := hy), mm_wi (by omega) (by omega)]
        refine ih (i + 1) h (by omega) (by omega) (fun q c1 c2 c3 => ?_) (fun x j c => a2 x j (fun ⟨q, q1, q2, q3⟩ => c ⟨q, q1, by omega, q3⟩))
        by_cases z : q = i
        · rw [z] at c3; exact absurd c3 hn
        · exact a1 q c1 (by omega) c3
      rw [r_193_1 (hy := hy), if_neg (by omega), r63, r62]
      refine ⟨by omega, ?_⟩
      split
      · rename_i h1
        refine ⟨by omega, ?_⟩
        split
        · rename_i h2
          refine m192 hy (by omega) (fun g b1 b2 b3 => ?_)
          rw [mm_pU, r_193_1_17 (hy := hy), r_193_2 (hy := hy), mm_wi (by omega) (by omega)]
          refine ih (i + 1) g (by omega) (by omega) (fun q c1 c2 c3 => ?_) (fun x j c => ?_)
          · by_cases z : q = i
            · rw [z]; exact ⟨b1, b2⟩
            · obtain ⟨w1, w2⟩ := a1 q c1 (by omega) c3
              exact ⟨by rw [b3 _ _ (by simp; omega) (by simp)]; exact w1, fun a y1 y2 => by rw [b3 _ _ (by simp) (by simp; omega)]; exact w2 a y1 y2⟩
          · rw [b3 x j (fun q => c ⟨i, e2, by omega, ⟨h1, h2⟩, Or.inl q⟩) (fun q => c ⟨i, e2, by omega, ⟨h1, h2⟩, Or.inr q⟩)]
            exact a2 x j (fun ⟨q, q1, q2, q3⟩ => c ⟨q, q1, by omega, q3⟩)
        · rename_i h2
          exact skip (fun q => h2 q.2)
      · rename_i h1
        exact skip (fun q => h1 q.1)
  rw [r_193_e (hy := hy)]
  exact L 8 1 hi (by omega) (by omega) (fun q a b => by omega) (fun x j _ => rfl)
/-- whether the caller may -/
def kk_may (c o m r : Int) : Prop := c = 0 ∨ mm_and (if c = o then mm_shr m 3 else m) r ≠ 0
theorem m203 (hy : 10581 ≤ nx) {s n r : Int} (hs : 0 ≤ s ∧ s < 29) (hn : 1 ≤ n ∧ n < 37) (K1 : kk_may (hi (40, 0, 0) 29) (hi (47, 0, 0) (36 * s + n - 1)) (hi (48, 0, 0) (36 * s + n - 1)) r → Q (zI 1) (mm_z hi dh nx ns)) (K0 : ¬ kk_may (hi (40, 0, 0) 29) (hi (47, 0, 0) (36 * s + n - 1)) (hi (48, 0, 0) (36 * s + n - 1)) r → Q (zI 0) (mm_z hi dh nx ns)) :
    mm_Cl 203 [zR (40, 0, 0), zI s, zI n, zI r] (mm_z hi dh nx ns) Q := by
  rw [r_203_e (hy := hy)]
  refine m175 hy hs hn ?_
  rw [mm_pI, r_203_0_3 (hy := hy)]
  have two : ∀ y, (y = if hi (40, 0, 0) 29 = hi (47, 0, 0) (36 * s + n - 1) then mm_shr (hi (48, 0, 0) (36 * s + n - 1)) 3 else hi (48, 0, 0) (36 * s + n - 1)) → ¬ hi (40, 0, 0) 29 = 0 → mm_Wp 203 (mm_blk 203 2) [zR (40, 0, 0), zI s, zI n, zI r, zI (36 * s + n - 1)] [zI y] (mm_z hi dh nx ns) Q := by
    intro y hy2 h0
    rw [r_203_2 (hy := hy)]
    split
    · rename_i h
      rw [r_203_5 (hy := hy)]
      exact ⟨Or.inl rfl, K0 (by unfold kk_may; rw [← hy2]; rintro (q | q); exact h0 q; exact q h)⟩
    · rename_i h
      rw [r_203_3 (hy := hy), r_203_5 (hy := hy)]
      exact ⟨Or.inr rfl, K1 (by unfold kk_may; rw [← hy2]; exact Or.inr h)⟩
  split
  · rename_i h0
    rw [r_203_3 (hy := hy), r_203_5 (hy := hy)]
    exact ⟨Or.inr rfl, K1 (Or.inl h0)⟩
  · rename_i h0
    refine ⟨by omega, ?_⟩
    split
    · rename_i h1
      exact ⟨by omega, two _ (by rw [if_pos h1]) h0⟩
    · rename_i h1
      exact ⟨by omega, two _ (by rw [if_neg h1]) h0⟩
end

