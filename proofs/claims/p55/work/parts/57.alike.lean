/-! nodes compared, here and there -/
theorem kk_wh {X : Int → Int → Prop} {c : Int} {T : Int → Prop} (h0 : 0 ≤ c) (hS : ∀ i, 0 ≤ i → i < c → (T i → X 1 (i + 1)) → (¬ T i → X 0 (i + 1)) → X 1 i) (hE : (∀ i, 0 ≤ i → i < c → T i) → X 1 c) (hF : (∃ i, 0 ≤ i ∧ i < c ∧ ¬ T i) → ∀ i, 0 ≤ i → X 0 i) : X 1 0 := by
  have main : ∀ (k : Nat) (i : Int), 0 ≤ i → i + k = c → (∀ j, 0 ≤ j → j < i → T j) → X 1 i := by
    intro k
    induction k with
    | zero => intro i i0 i1 i2; rw [show i = c by omega]; exact hE (fun j j0 j1 => i2 j j0 (by omega))
    | succ k ih =>
      intro i i0 i1 i2
      refine hS i i0 (by omega) (fun t => ih (i + 1) (by omega) (by omega) (fun j j0 j1 => ?_)) (fun t => hF ⟨i, i0, by omega, t⟩ (i + 1) (by omega))
      by_cases e : j = i
      · rw [e]; exact t
      · exact i2 j j0 (by omega)
  exact main c.toNat 0 (by omega) (by omega) (fun j j0 j1 => by omega)
/-- byte of a file of the reference -/
def kk_by (h : mm_Id → Int → Int) (s n i : Int) : Int := if h (43, 0, 0) (36 * (36 * s + n - 1) + i / 60) = 0 then 0 else mm_and (h (54, 0, 0) (60 * h (43, 0, 0) (36 * (36 * s + n - 1) + i / 60) + i % 60)) 255
/-- two nodes of the reference are alike -/
def kk_ma (h : mm_Id → Int → Int) (a b : Int) (B : Prop) : Prop := h (41, 0, 0) a = h (41, 0, 0) b ∧ (h (41, 0, 0) a ≠ 0 → (h (47, 0, 0) a = h (47, 0, 0) b ∧ h (48, 0, 0) a = h (48, 0, 0) b ∧ h (49, 0, 0) a = h (49, 0, 0) b) ∧ (∀ e, 0 ≤ e → e < h (49, 0, 0) a → h (50, 0, 0) (4 * a + e) = h (50, 0, 0) (4 * b + e) ∧ h (51, 0, 0) (4 * a + e) = h (51, 0, 0) (4 * b + e)) ∧
  (h (41, 0, 0) a = 3 → (h (42, 0, 0) a = h (42, 0, 0) b ∧ h (53, 0, 0) a = h (53, 0, 0) b) ∧ ∀ e, 0 ≤ e → e < h (42, 0, 0) a → h (52, 0, 0) (8 * a + e) = h (52, 0, 0) (8 * b + e)) ∧
  (h (41, 0, 0) a = 2 → h (44, 0, 0) a = h (44, 0, 0) b ∧ ∀ e, 0 ≤ e → e < h (44, 0, 0) a → h (45, 0, 0) (24 * a + e) = h (45, 0, 0) (24 * b + e) ∧ h (46, 0, 0) (24 * a + e) = h (46, 0, 0) (24 * b + e)) ∧
  (h (41, 0, 0) a ≠ 2 → h (41, 0, 0) a ≠ 3 → h (42, 0, 0) a = h (42, 0, 0) b ∧ B))
section
variable {hi : mm_Id → Int → Int} {dh : Int → Int} {nx ns : Int} {Q : mm_V → mm_H → Prop}
theorem m258 (hy : 10581 ≤ nx) {s s2 n : Int} (hs : 0 ≤ s ∧ s < 29) (hs2 : 0 ≤ s2 ∧ s2 < 29) (hn : 1 ≤ n ∧ n < 37) (hb : kk_br hi s) (hb2 : kk_br hi s2) (hk : (0 ≤ hi (44, 0, 0) (36 * s + n - 1) ∧ hi (44, 0, 0) (36 * s + n - 1) ≤ 24) ∧ (0 ≤ hi (49, 0, 0) (36 * s + n - 1) ∧ hi (49, 0, 0) (36 * s + n - 1) ≤ 4)) (hl : (hi (41, 0, 0) (36 * s + n - 1) = 3 → 0 ≤ hi (42, 0, 0) (36 * s + n - 1) ∧ hi (42, 0, 0) (36 * s + n - 1) ≤ 8) ∧ (hi (41, 0, 0) (36 * s + n - 1) ≠ 3 → hi (41, 0, 0) (36 * s + n - 1) ≠ 2 → hi (41, 0, 0) (36 * s + n - 1) ≠ 0 → 0 ≤ hi (42, 0, 0) (36 * s + n - 1) ∧ hi (42, 0, 0) (36 * s + n - 1) ≤ 2160))
    (K1 : kk_ma hi (36 * s + n - 1) (36 * s2 + n - 1) (∀ i, 0 ≤ i → i < hi (42, 0, 0) (36 * s + n - 1) → kk_by hi s n i = kk_by hi s2 n i) → Q (zI 1) (mm_z hi dh nx ns)) (K0 : ¬ kk_ma hi (36 * s + n - 1) (36 * s2 + n - 1) (∀ i, 0 ≤ i → i < hi (42, 0, 0) (36 * s + n - 1) → kk_by hi s n i = kk_by hi s2 n i) → Q (zI 0) (mm_z hi dh nx ns)) : mm_Cl 258 [zR (40, 0, 0), zI s, zI s2, zI n] (mm_z hi dh nx ns) Q := by
  rw [r_258_e (hy := hy)]
  refine m175 hy hs hn ?_
  rw [mm_pI, r_258_0_3 (hy := hy)]
  refine m175 hy hs2 hn ?_
  have ha : 0 ≤ 36 * s + n - 1 ∧ 36 * s + n - 1 < 1044 := by omega
  have hbb : 0 ≤ 36 * s2 + n - 1 ∧ 36 * s2 + n - 1 < 1044 := by omega
  generalize ea : 36 * s + n - 1 = a at *
  generalize eb : 36 * s2 + n - 1 = b at *
  rw [mm_pI, r_258_0_7 (hy := hy)]
  refine ⟨ha, hbb, ?_⟩
  split
  rotate_left
  · rename_i c
    rw [r_258_2 (hy := hy), if_pos rfl, r_258_3 (hy := hy)]
    exact ⟨Or.inl rfl, K0 (fun q => c q.1)⟩
  rename_i c
  rw [r_258_2 (hy := hy), if_neg (by decide)]
  refine ⟨ha, ?_⟩
  split
  · rename_i c0
    rw [r_258_3 (hy := hy)]
    exact ⟨Or.inr rfl, K1 ⟨c, fun q => absurd c0 q⟩⟩
  rename_i c0
  -- a loop that begins with 0
  have f10 : ∀ v7, ¬ kk_ma hi a b (∀ i, 0 ≤ i → i < hi (42, 0, 0) a → kk_by hi s n i = kk_by hi s2 n i) → mm_Wp 258 (mm_blk 258 10) [zR (40, 0, 0), zI s, zI s2, zI n, zI a, zI b, zI 0, v7] [] (mm_z hi dh nx ns) Q := fun v7 q => by
    rw [r_258_10 (hy := hy), if_pos rfl]; exact K0 q
  have f7 : ∀ i, ¬ kk_ma hi a b (∀ i, 0 ≤ i → i < hi (42, 0, 0) a → kk_by hi s n i = kk_by hi s2 n i) → mm_Wp 258 (mm_blk 258 7) [zR (40, 0, 0), zI s, zI s2, zI n, zI a, zI b, zI 0, zI i] [] (mm_z hi dh nx ns) Q := fun i q => by
    rw [r_258_7 (hy := hy)]
    refine ⟨ha, ?_⟩
    split
    · rw [if_pos rfl]; exact f10 _ q
    · exact f10 _ q
  refine ⟨ha, hbb, ?_⟩
  have bad : ¬ (hi (47, 0, 0) a = hi (47, 0, 0) b ∧ hi (48, 0, 0) a = hi (48, 0, 0) b ∧ hi (49, 0, 0) a = hi (49, 0, 0) b) → ∀ v6 v7, mm_Wp 258 (mm_blk 258 5) [zR (40, 0, 0), zI s, zI s2, zI n, zI a, zI b, v6, v7] [] (mm_z hi dh nx ns) Q := fun q v6 v7 => by
    rw [r_258_5 (hy := hy), r_258_6 (hy := hy)]
    exact f7 0 (fun w => q (w.2 c0).1)
  split
  rotate_left
  · rename_i d; exact bad (fun q => d q.1) _ _
  rename_i d1
  refine ⟨ha, hbb, ?_⟩
  split
  rotate_left
  · rename_i d; exact bad (fun q => d q.2.1) _ _
  rename_i d2
  refine ⟨ha, hbb, ?_⟩
  split
  rotate_left
  · rename_i d; exact bad (fun q => d q.2.2) _ _
  rename_i d3
  rw [r_258_6 (hy := hy)]
  refine kk_wh (X := fun f i => mm_Wp 258 (mm_blk 258 7) [zR (40, 0, 0), zI s, zI s2, zI n, zI a, zI b, zI f, zI i] [] (mm_z hi dh nx ns) Q) (c := hi (49, 0, 0) a) (T := fun e => hi (50, 0, 0) (4 * a + e) = hi (50, 0, 0) (4 * b + e) ∧ hi (51, 0, 0) (4 * a + e) = hi (51, 0, 0) (4 * b + e)) hk.2.1 (fun i i0 i1 s1 s0 => ?_) (fun ka => ?_) (fun ⟨i, i0, i1, i2⟩ j _ => f7 j (fun w => i2 ((w.2 c0).2.1 i i0 i1)))
  · rw [r_258_7 (hy := hy), if_pos i1, if_neg (by decide), mm_wi (z := 4 * a) (by omega) (by omega), mm_wi (z := 4 * b) (by omega) (by omega), mm_wi (z := 4 * a + i) (by omega) (by omega), mm_wi (z := 4 * b + i) (by omega) (by omega)]
    refine ⟨ha, by omega, by omega, ?_⟩
    split
    · rename_i e1
      refine ⟨by omega, by omega, ?_⟩
      split
      · rename_i e2
        have e2 := mm_cmp0.1 e2
        rw [r_258_9 (hy := hy), mm_wi (by omega) (by omega)]; exact s1 ⟨e1, e2⟩
      · rename_i e2
        rw [r_258_8 (hy := hy), r_258_9 (hy := hy), mm_wi (by omega) (by omega)]; exact s0 (fun q => e2 (mm_cmp0.2 q.2))
    · rename_i e1
      rw [r_258_8 (hy := hy), r_258_9 (hy := hy), mm_wi (by omega) (by omega)]; exact s0 (fun q => e1 q.1)
  rw [r_258_7 (hy := hy), if_neg (by omega)]
  refine ⟨ha, ?_⟩
  rw [r_258_10 (hy := hy), if_neg (by decide)]
  refine ⟨ha, ?_⟩
  split
  · rename_i k3
    have hl3 := hl.1 k3
    have f17 : ∀ v7, ¬ kk_ma hi a b (∀ i, 0 ≤ i → i < hi (42, 0, 0) a → kk_by hi s n i = kk_by hi s2 n i) → mm_Wp 258 (mm_blk 258 14) [zR (40, 0, 0), zI s, zI s2, zI n, zI a, zI b, zI 0, zI v7] [] (mm_z hi dh nx ns) Q := fun v7 q => by
      rw [r_258_14 (hy := hy)]
      refine ⟨ha, ?_⟩
      split
      · rw [if_pos rfl, r_258_17 (hy := hy)]; exact ⟨Or.inl rfl, K0 q⟩
      · rw [r_258_17 (hy := hy)]; exact ⟨Or.inl rfl, K0 q⟩
    refine ⟨ha, hbb, ?_⟩
    split
    rotate_left
    · rename_i d
      rw [r_258_12 (hy := hy), r_258_13 (hy := hy)]
      exact f17 0 (fun w => d ((w.2 c0).2.2.1 k3).1.1)
    rename_i d4
    refine ⟨ha, hbb, ?_⟩
    split
    rotate_left
    · rename_i d
      rw [r_258_12 (hy := hy), r_258_13 (hy := hy)]
      exact f17 0 (fun w => d ((w.2 c0).2.2.1 k3).1.2)
    rename_i d5
    rw [r_258_13 (hy := hy)]
    refine kk_wh (X := fun f i => mm_Wp 258 (mm_blk 258 14) [zR (40, 0, 0), zI s, zI s2, zI n, zI a, zI b, zI f, zI i] [] (mm_z hi dh nx ns) Q) (c := hi (42, 0, 0) a) (T := fun e => hi (52, 0, 0) (8 * a + e) = hi (52, 0, 0) (8 * b + e)) hl3.1 (fun i i0 i1 s1 s0 => ?_) (fun kb => ?_) (fun ⟨i, i0, i1, i2⟩ j _ => f17 j (fun w => i2 (((w.2 c0).2.2.1 k3).2 i i0 i1)))
    · rw [r_258_14 (hy := hy), if_pos i1, if_neg (by decide), mm_wi (z := 8 * a) (by omega) (by omega), mm_wi (z := 8 * b) (by omega) (by omega), mm_wi (z := 8 * a + i) (by omega) (by omega), mm_wi (z := 8 * b + i) (by omega) (by omega)]
      refine ⟨ha, by omega, by omega, ?_⟩
      split
      · rename_i e1
        rw [r_258_16 (hy := hy), mm_wi (by omega) (by omega)]; exact s1 e1
      · rename_i e1
        rw [r_258_16 (hy := hy), mm_wi (by omega) (by omega)]; exact s0 e1
    · rw [r_258_14 (hy := hy), if_neg (by omega), r_258_17 (hy := hy)]
      exact ⟨ha, Or.inr rfl, K1 ⟨c, fun _ => ⟨⟨d1, d2, d3⟩, ka, fun _ => ⟨⟨d4, d5⟩, kb⟩, fun q => by omega, fun _ q => absurd k3 q⟩⟩⟩
  · rename_i k3
    refine ⟨ha, ?_⟩
    split
    · rename_i k2
      have f24 : ∀ v7, ¬ kk_ma hi a b (∀ i, 0 ≤ i → i < hi (42, 0, 0) a → kk_by hi s n i = kk_by hi s2 n i) → mm_Wp 258 (mm_blk 258 21) [zR (40, 0, 0), zI s, zI s2, zI n, zI a, zI b, zI 0, zI v7] [] (mm_z hi dh nx ns) Q := fun v7 q => by
        rw [r_258_21 (hy := hy)]
        refine ⟨ha, ?_⟩
        split
        · rw [if_pos rfl, r_258_24 (hy := hy)]; exact ⟨Or.inl rfl, K0 q⟩
        · rw [r_258_24 (hy := hy)]; exact ⟨Or.inl rfl, K0 q⟩
      refine ⟨ha, hbb, ?_⟩
      split
      rotate_left
      · rename_i d
        rw [r_258_20 (hy := hy)]
        exact f24 0 (fun w => d ((w.2 c0).2.2.2.1 k2).1)
      rename_i d4
      rw [r_258_20 (hy := hy)]
      refine kk_wh (X := fun f i => mm_Wp 258 (mm_blk 258 21) [zR (40, 0, 0), zI s, zI s2, zI n, zI a, zI b, zI f, zI i] [] (mm_z hi dh nx ns) Q) (c := hi (44, 0, 0) a) (T := fun e => hi (45, 0, 0) (24 * a + e) = hi (45, 0, 0) (24 * b + e) ∧ hi (46, 0, 0) (24 * a + e) = hi (46, 0, 0) (24 * b + e)) hk.1.1 (fun i i0 i1 s1 s0 => ?_) (fun kb => ?_) (fun ⟨i, i0, i1, i2⟩ j _ => f24 j (fun w => i2 (((w.2 c0).2.2.2.1 k2).2 i i0 i1)))
      · rw [r_258_21 (hy := hy), if_pos i1, if_neg (by decide), mm_wi (z := 24 * a) (by omega) (by omega), mm_wi (z := 24 * b) (by omega) (by omega), mm_wi (z := 24 * a + i) (by omega) (by omega), mm_wi (z := 24 * b + i) (by omega) (by omega)]
        refine ⟨ha, by omega, by omega, ?_⟩
        split
        · rename_i e1
          refine ⟨by omega, by omega, ?_⟩
          split
          · rename_i e2
            rw [r_258_23 (hy := hy), mm_wi (by omega) (by omega)]; exact s1 ⟨e1, e2⟩
          · rename_i e2
            rw [r_258_22 (hy := hy), r_258_23 (hy := hy), mm_wi (by omega) (by omega)]; exact s0 (fun q => e2 q.2)
        · rename_i e1
          rw [r_258_22 (hy := hy), r_258_23 (hy := hy), mm_wi (by omega) (by omega)]; exact s0 (fun q => e1 q.1)
      · rw [r_258_21 (hy := hy), if_neg (by omega), r_258_24 (hy := hy)]
        exact ⟨ha, Or.inr rfl, K1 ⟨c, fun _ => ⟨⟨d1, d2, d3⟩, ka, fun q => absurd q k3, fun _ => ⟨d4, kb⟩, fun q => absurd k2 q⟩⟩⟩
    · rename_i k2
      have hl1 := hl.2 k3 k2 c0
      have f31 : ∀ v7, ¬ kk_ma hi a b (∀ i, 0 ≤ i → i < hi (42, 0, 0) a → kk_by hi s n i = kk_by hi s2 n i) → mm_Wp 258 (mm_blk 258 28) [zR (40, 0, 0), zI s, zI s2, zI n, zI a, zI b, zI 0, zI v7] [] (mm_z hi dh nx ns) Q := fun v7 q => by
        rw [r_258_28 (hy := hy)]
        refine ⟨ha, ?_⟩
        split
        · rw [if_pos rfl, r_258_31 (hy := hy)]; exact ⟨Or.inl rfl, K0 q⟩
        · rw [r_258_31 (hy := hy)]; exact ⟨Or.inl rfl, K0 q⟩
      refine ⟨ha, hbb, ?_⟩
      split
      rotate_left
      · rename_i d
        rw [r_258_27 (hvx5 := mm_wI _) (hy := hy)]
        exact f31 0 (fun w => d ((w.2 c0).2.2.2.2 k2 k3).1)
      rename_i d4
      rw [r_258_27 (hvx5 := mm_wI _) (hy := hy)]
      refine kk_wh (X := fun f i => mm_Wp 258 (mm_blk 258 28) [zR (40, 0, 0), zI s, zI s2, zI n, zI a, zI b, zI f, zI i] [] (mm_z hi dh nx ns) Q) (c := hi (42, 0, 0) a) (T := fun i => kk_by hi s n i = kk_by hi s2 n i) hl1.1 (fun i i0 i1 s1 s0 => ?_) (fun kb => ?_) (fun ⟨i, i0, i1, i2⟩ j _ => f31 j (fun w => i2 (((w.2 c0).2.2.2.2 k2 k3).2 i i0 i1)))
      · rw [r_258_28 (hy := hy), if_pos i1, if_neg (by decide)]
        refine ⟨ha, m207 hy hs hn (by omega) hb ?_⟩
        rw [mm_pI, r_258_28_13 (hy := hy)]
        refine m207 hy hs2 hn (by omega) hb2 ?_
        rw [mm_pI, r_258_28_18 (hy := hy)]
        show (if kk_by hi s n i = kk_by hi s2 n i then _ else _)
        split
        · rename_i e1
          rw [r_258_30 (hvx5 := mm_wI _) (hy := hy), mm_wi (by omega) (by omega)]; exact s1 e1
        · rename_i e1
          rw [r_258_30 (hvx5 := mm_wI _) (hy := hy), mm_wi (by omega) (by omega)]; exact s0 e1
      · rw [r_258_28 (hy := hy), if_neg (by omega), r_258_31 (hy := hy)]
        exact ⟨ha, Or.inr rfl, K1 ⟨c, fun _ => ⟨⟨d1, d2, d3⟩, ka, fun q => absurd q k3, fun q => absurd q k2, fun _ _ => ⟨d4, kb⟩⟩⟩⟩
end

