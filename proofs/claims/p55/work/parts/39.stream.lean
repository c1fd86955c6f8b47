/-! a tree taken up by a stream: what it has, what comes, what goes -/
noncomputable def kk_b (P : Prop) : Int := @ite Int P (Classical.propDecidable P) 1 0
theorem kk_b1 {P : Prop} (h : P) : kk_b P = 1 := by unfold kk_b; exact if_pos h
theorem kk_b0 {P : Prop} (h : ¬ P) : kk_b P = 0 := by unfold kk_b; exact if_neg h
theorem kk_bb (P : Prop) : 0 ≤ kk_b P ∧ kk_b P ≤ 1 := by
  rcases Classical.em P with h | h
  · rw [kk_b1 h]; omega
  · rw [kk_b0 h]; omega
/-- how many rows are taken -/
def kk_us (h : mm_Id → Int → Int) : Int := mm_sm (fun r => if 1 ≤ r ∧ (0 < kc_A h r ∨ 0 < kc_K h r) then 1 else 0) 1701
theorem kk_free {h : mm_Id → Int → Int} (hR : kk_R h) (hu : kk_us h < 1700) : ∃ r, 1 ≤ r ∧ r < 1701 ∧ h (19, 0, 0) r = 0 := by
  apply Classical.byContradiction
  intro hn
  have h1 : ∀ r, 1 ≤ r → r < 1701 → (0 < kc_A h r ∨ 0 < kc_K h r) := by
    intro r a b
    have q := (hR.2.1 r a b).2.2
    apply Classical.byContradiction
    intro c
    rw [if_neg c] at q
    exact hn ⟨r, a, b, q⟩
  have h2 : mm_sm (fun r => if 1 ≤ r then 1 else 0) 1701 ≤ kk_us h := sm_le _ (fun r a b => by
    by_cases c : 1 ≤ (r : Int)
    · rw [if_pos c, if_pos ⟨c, h1 r c (by omega)⟩]; exact Int.le_refl 1
    · rw [if_neg c, if_neg (fun q => c q.1)]; exact Int.le_refl 0)
  have h3 : mm_sm (fun r => if 1 ≤ r then 1 else 0) 1701 = mm_sm (fun _ => 1) 1701 + ((if (1 : Int) ≤ 0 then 1 else 0) - 1) := sm_one 1701 0 (by omega) (by omega) (fun i a b c => by rw [if_pos (by omega)])
  rw [h3, sm_mul, if_neg (by omega)] at h2
  omega
theorem kk_freeN {h : mm_Id → Int → Int} (hR : kk_R h) {r : Int} (h1 : 1 ≤ r) (h2 : r < 1701) (h0 : h (19, 0, 0) r = 0) {t n p : Int} (ht : mm_isT t) (hn : mm_isN n) (hp : 0 ≤ p ∧ p < 36) : h (27, t, n) p ≠ r := by
  intro e
  have q := (hR.2.1 r h1 h2).2.2
  have k := kk_there (hi := h) ht hn hp
  rw [e] at k
  rw [h0, if_pos k] at q
  omega
/-- a new row is at most one more -/
theorem kk_us1 {h h2 : mm_Id → Int → Int} {v : Int} (hv : 1 ≤ v ∧ v < 1701) (hA : ∀ r, r ≠ v → kc_A h2 r ≤ kc_A h r) (hK : ∀ r, r ≠ v → kc_K h2 r ≤ kc_K h r) : kk_us h2 ≤ kk_us h + 1 := by
  have e := sm_one (f := fun r => if 1 ≤ r ∧ (0 < kc_A h r ∨ 0 < kc_K h r) then 1 else 0) (g := fun r => if r = v then 1 else (if 1 ≤ r ∧ (0 < kc_A h r ∨ 0 < kc_K h r) then 1 else 0)) 1701 v (by omega) (by omega) (fun i a b c => by rw [if_neg c])
  have l : kk_us h2 ≤ mm_sm (fun r => if r = v then 1 else (if 1 ≤ r ∧ (0 < kc_A h r ∨ 0 < kc_K h r) then 1 else 0)) 1701 := sm_le _ (fun r a b => by
    by_cases c : (r : Int) = v
    · rw [if_pos c]; split <;> omega
    · rw [if_neg c]
      have := hA r c
      have := hK r c
      split
      · rw [if_pos (by omega)]; exact Int.le_refl 1
      · split <;> omega)
  rw [e, if_pos rfl] at l
  unfold kk_us
  unfold kk_us at l
  split at l <;> omega
section
variable {hi : mm_Id → Int → Int} {dh : Int → Int} {nx ns : Int} {Q : mm_V → mm_H → Prop} {t n t1 n1 : Int}
/-- whether a tree, its unused files left out, is another -/
def kk_ua (h : mm_Id → Int → Int) (t t1 n : Int) : Prop := if h (24, t, n) 0 = 1 ∧ h (24, t, n) 5 = 0 then h (24, t1, n) 0 = 0 else kk_al h t n t1 n
def kk_nr (h : mm_Id → Int → Int) (t n : Int) : Prop := h (24, t, n) 9 = kk_nz (h (27, t, n)) ∧ (0 ≤ h (24, t, n) 6 ∧ h (24, t, n) 6 ≤ 24) ∧ (0 ≤ h (24, t, n) 11 ∧ h (24, t, n) 11 ≤ 4) ∧ (h (24, t, n) 0 = 3 → 0 ≤ h (24, t, n) 1 ∧ h (24, t, n) 1 ≤ 8)
theorem s168 (ht : mm_isT t) (ht1 : mm_isT t1) (hx : 5275 ≤ nx) (hR1 : kk_R1 hi) (hw : ∀ n, 1 ≤ n → n < 37 → kk_nr hi t n) (hw1 : ∀ n, 1 ≤ n → n < 37 → hi (24, t1, n) 9 = kk_nz (hi (27, t1, n)))
    (K1 : (∀ n, 1 ≤ n → n < 37 → kk_ua hi t t1 n) → Q (zI 1) (mm_z hi dh nx ns)) (K0 : (∃ n, 1 ≤ n ∧ n < 37 ∧ ¬ kk_ua hi t t1 n) → Q (zI 0) (mm_z hi dh nx ns)) :
    mm_Cl 168 [zR (22, t, 0), zR (22, t1, 0)] (mm_z hi dh nx ns) Q := by
  have no : ∀ (i : Int) v, (∃ n, 1 ≤ n ∧ n < 37 ∧ ¬ kk_ua hi t t1 n) → mm_Wp 168 (mm_blk 168 1) [zR (22, t, 0), zR (22, t1, 0), zI 0, zI i, v] [] (mm_z hi dh nx ns) Q := by
    intro i v h
    rw [r_168_1 (htx0 := ht) (htx1 := ht1) (hx := hx), if_pos rfl, r_168_5 (hx := hx)]
    exact ⟨Or.inl rfl, K0 h⟩
  have L : ∀ (k : Nat) (i : Int) v, 37 - i = k → 1 ≤ i → (∀ n, 1 ≤ n → n < i → kk_ua hi t t1 n) → mm_Wp 168 (mm_blk 168 1) [zR (22, t, 0), zR (22, t1, 0), zI 1, zI i, v] [] (mm_z hi dh nx ns) Q := by
    intro k
    induction k with
    | zero =>
      intro i v e1 e2 e3
      rw [r_168_1 (htx0 := ht) (htx1 := ht1) (hx := hx), if_neg (by decide), if_pos (by omega), r_168_5 (hx := hx)]
      exact ⟨Or.inr rfl, K1 (fun n a b => e3 n a (by omega))⟩
    | succ k ih =>
      intro i v e1 e2 e3
      have hi1 : mm_isN i := ⟨by omega, by omega⟩
      obtain ⟨w1, w2, w3, w4⟩ := hw i e2 (by omega)
      have nxt : ∀ v2 : mm_V, kk_ua hi t t1 i → mm_Wp 168 (mm_blk 168 4) [zR (22, t, 0), zR (22, t1, 0), zI 1, zI i, v2] [zI 1] (mm_z hi dh nx ns) Q := by
        intro v2 hq
        rw [r_168_4 (htx0 := ht) (htx1 := ht1) (hx := hx), mm_wi (by omega) (by omega)]
        exact ih (i + 1) v2 (by omega) (by omega) (fun n a b => by
          by_cases c : n = i
          · rw [c]; exact hq
          · exact e3 n a (by omega))
      have nn : ∀ v2 : mm_V, ¬ kk_ua hi t t1 i → mm_Wp 168 (mm_blk 168 4) [zR (22, t, 0), zR (22, t1, 0), zI 1, zI i, v2] [zI 0] (mm_z hi dh nx ns) Q := by
        intro v2 hq
        rw [r_168_4 (htx0 := ht) (htx1 := ht1) (hx := hx)]
        exact no _ _ ⟨i, e2, by omega, hq⟩
      rw [r_168_1 (htx0 := ht) (htx1 := ht1) (hx := hx), if_neg (by decide), if_neg (by omega)]
      refine ⟨by omega, s96 ht hi1 hx (fun h1 => ?_) (fun h1 => ?_)⟩
      · rw [mm_pI, r_168_1_12 (htx0 := ht) (htx1 := ht1) (htx4 := ht) (hnx4 := hi1) (hx := hx), if_neg (by decide)]
        refine ⟨by omega, ?_⟩
        split
        · rename_i h2
          exact nxt _ (by unfold kk_ua; rw [if_pos h1]; exact h2)
        · rename_i h2
          exact nn _ (by unfold kk_ua; rw [if_pos h1]; exact h2)
      · rw [mm_pI, r_168_1_12 (htx0 := ht) (htx1 := ht1) (htx4 := ht) (hnx4 := hi1) (hx := hx), if_pos rfl]
        refine ⟨by omega, s114 ht hi1 ht1 hi1 hx hR1 w1 (hw1 i e2 (by omega)) w2 w3 w4 (fun h2 => ?_) (fun h2 => ?_)⟩
        · rw [mm_pI, r_168_3_8 (htx0 := ht) (htx1 := ht1) (hx := hx)]
          exact nxt _ (by unfold kk_ua; rw [if_neg h1]; exact h2)
        · rw [mm_pI, r_168_3_8 (htx0 := ht) (htx1 := ht1) (hx := hx)]
          exact nn _ (by unfold kk_ua; rw [if_neg h1]; exact h2)
  rw [r_168_e (htx0 := ht) (htx1 := ht1) (hx := hx)]
  exact L 36 1 _ (by omega) (by omega) (fun n a b => by omega)
theorem s169 (ht : mm_isT t) (ht1 : mm_isT t1) (hx : 5275 ≤ nx) (hR1 : kk_R1 hi) (hw1 : ∀ n, 1 ≤ n → n < 37 → hi (24, t1, n) 9 = kk_nz (hi (27, t1, n)))
    (K : Q (zI (kk_S (fun n => mm_sm (fun p => kk_b (hi (27, t1, n) p ≠ 0 ∧ ¬ kk_kp hi t n t1 n p)) 36) 36)) (mm_z hi dh nx ns)) :
    mm_Cl 169 [zR (22, t, 0), zR (22, t1, 0)] (mm_z hi dh nx ns) Q := by
  rw [r_169_e (htx0 := ht) (htx1 := ht1) (hx := hx)]
  refine kk_sl (X := fun a i => ∀ v4 v5 : mm_V, mm_Wp 169 (mm_blk 169 1) [zR (22, t, 0), zR (22, t1, 0), zI a, zI i, v4, v5] [] (mm_z hi dh nx ns) Q) (f := fun n => mm_sm (fun p => kk_b (hi (27, t1, n) p ≠ 0 ∧ ¬ kk_kp hi t n t1 n p)) 36) 36 36 (by decide) (fun i _ _ => ⟨sm_nn _ (fun _ _ _ => (kk_bb _).1), sm_ub 1 36 (fun _ _ _ => (kk_bb _).2)⟩) (fun a i a1 a2 a3 a4 hX => ?_) ?_ zU zU
  · intro v4 v5
    have hi1 : mm_isN i := ⟨by omega, by omega⟩
    have hb := hw1 i a1 (by omega)
    rw [r_169_1 (htx0 := ht) (htx1 := ht1) (hx := hx), if_neg (by omega)]
    refine ⟨by omega, ?_⟩
    by_cases hz : 0 < hi (24, t1, i) 9
    · refine kk_sl0 (X := fun b p => mm_Wp 169 (mm_blk 169 2) [zR (22, t, 0), zR (22, t1, 0), zI b, zI i, zR (24, t1, i), zI p] [] (mm_z hi dh nx ns) Q) (f := fun p => kk_b (hi (27, t1, i) p ≠ 0 ∧ ¬ kk_kp hi t i t1 i p)) 36 1 (by decide) (fun p _ _ => kk_bb _) a (fun b p b1 b2 b3 b4 hY => ?_) ?_
      · have four : ∀ d, (d = kk_b (hi (27, t1, i) p ≠ 0 ∧ ¬ kk_kp hi t i t1 i p)) → (d = 0 ∨ d = 1) → ∀ v2 : mm_V, mm_Wp 169 (mm_blk 169 4) [zR (22, t, 0), zR (22, t1, 0), v2, zI i, zR (24, t1, i), zI p] [zI d, zI b] (mm_z hi dh nx ns) Q := by
          intro d hd hd2 v2
          rw [r_169_4 (htx0 := ht) (htx1 := ht1) (htx4 := ht1) (hnx4 := hi1) (hx := hx), mm_wi (by omega) (by omega), mm_wi (by omega) (by omega), hd]
          exact hY
        rw [r_169_2 (htx0 := ht) (htx1 := ht1) (htx4 := ht1) (hnx4 := hi1) (hx := hx), if_pos hz, if_pos (by omega)]
        refine ⟨by omega, ?_⟩
        split
        · rename_i h1
          rw [r_169_3 (htx0 := ht) (htx1 := ht1) (htx4 := ht1) (hnx4 := hi1) (hx := hx)]
          exact four 0 (by rw [kk_b0 (fun q => q.1 h1)]) (Or.inl rfl) _
        · rename_i h1
          refine ⟨by omega, s113 ht hi1 ht1 hi1 hx hR1 ⟨by omega, by omega⟩ (fun h2 => ?_) (fun h2 => ?_)⟩
          · rw [mm_pI, r_169_2_21 (htx0 := ht) (htx1 := ht1) (htx4 := ht1) (hnx4 := hi1) (hx := hx), if_neg (by decide), r_169_3 (htx0 := ht) (htx1 := ht1) (htx4 := ht1) (hnx4 := hi1) (hx := hx)]
            exact four 0 (by rw [kk_b0 (fun q => q.2 h2)]) (Or.inl rfl) _
          · rw [mm_pI, r_169_2_21 (htx0 := ht) (htx1 := ht1) (htx4 := ht1) (hnx4 := hi1) (hx := hx), if_pos rfl]
            exact four 1 (by rw [kk_b1 ⟨h1, h2⟩]) (Or.inr rfl) _
      · rw [r_169_2 (htx0 := ht) (htx1 := ht1) (htx4 := ht1) (hnx4 := hi1) (hx := hx), if_pos hz, if_neg (by omega), r_169_5 (htx0 := ht) (htx1 := ht1) (hx := hx), mm_wi (by omega) (by omega)]
        exact hX _ _
    · have h3 : mm_sm (fun p => kk_b (hi (27, t1, i) p ≠ 0 ∧ ¬ kk_kp hi t i t1 i p)) 36 = 0 := sm_zero _ (fun q c1 c2 => kk_b0 (fun w => w.1 (kk_nzI (f := hi (27, t1, i)) (by omega) (by omega) (by omega))))
      rw [h3, Int.add_zero] at hX
      rw [r_169_2 (htx0 := ht) (htx1 := ht1) (htx4 := ht1) (hnx4 := hi1) (hx := hx), if_neg hz, r_169_5 (htx0 := ht) (htx1 := ht1) (hx := hx), mm_wi (by omega) (by omega)]
      exact hX _ _
  · intro v4 v5
    rw [r_169_1 (htx0 := ht) (htx1 := ht1) (hx := hx), if_pos (by omega)]
    exact K
theorem s170 (ht : mm_isT t) (ht1 : mm_isT t1) (hx : 5275 ≤ nx) (hR1 : kk_R1 hi) (hw : ∀ n, 1 ≤ n → n < 37 → hi (24, t, n) 9 = kk_nz (hi (27, t, n)))
    (K : Q (zI (kk_S (fun n => mm_sm (fun p => kk_b (((1 ≤ hi (27, t, n) p ∧ hi (27, t, n) p < 1701) ∧ hi (17, 0, 0) (hi (27, t, n) p) = 1) ∧ ¬ kk_kp hi t n t1 n p)) 36) 36)) (mm_z hi dh nx ns)) :
    mm_Cl 170 [zR (22, t, 0), zR (22, t1, 0)] (mm_z hi dh nx ns) Q := by
  rw [r_170_e (htx0 := ht) (htx1 := ht1) (hx := hx)]
  refine kk_sl (X := fun a i => ∀ v4 v5 : mm_V, mm_Wp 170 (mm_blk 170 1) [zR (22, t, 0), zR (22, t1, 0), zI a, zI i, v4, v5] [] (mm_z hi dh nx ns) Q) (f := fun n => mm_sm (fun p => kk_b (((1 ≤ hi (27, t, n) p ∧ hi (27, t, n) p < 1701) ∧ hi (17, 0, 0) (hi (27, t, n) p) = 1) ∧ ¬ kk_kp hi t n t1 n p)) 36) 36 36 (by decide) (fun i _ _ => ⟨sm_nn _ (fun _ _ _ => (kk_bb _).1), sm_ub 1 36 (fun _ _ _ => (kk_bb _).2)⟩) (fun a i a1 a2 a3 a4 hX => ?_) ?_ zU zU
  · intro v4 v5
    have hi1 : mm_isN i := ⟨by omega, by omega⟩
    have hb := hw i a1 (by omega)
    rw [r_170_1 (htx0 := ht) (htx1 := ht1) (hx := hx), if_neg (by omega)]
    refine ⟨by omega, ?_⟩
    by_cases hz : 0 < hi (24, t, i) 9
    · refine kk_sl0 (X := fun b p => mm_Wp 170 (mm_blk 170 2) [zR (22, t, 0), zR (22, t1, 0), zI b, zI i, zR (24, t, i), zI p] [] (mm_z hi dh nx ns) Q) (f := fun p => kk_b (((1 ≤ hi (27, t, i) p ∧ hi (27, t, i) p < 1701) ∧ hi (17, 0, 0) (hi (27, t, i) p) = 1) ∧ ¬ kk_kp hi t i t1 i p)) 36 1 (by decide) (fun p _ _ => kk_bb _) a (fun b p b1 b2 b3 b4 hY => ?_) ?_
      · have four : ∀ d, (d = kk_b (((1 ≤ hi (27, t, i) p ∧ hi (27, t, i) p < 1701) ∧ hi (17, 0, 0) (hi (27, t, i) p) = 1) ∧ ¬ kk_kp hi t i t1 i p)) → (d = 0 ∨ d = 1) → ∀ v2 : mm_V, mm_Wp 170 (mm_blk 170 4) [zR (22, t, 0), zR (22, t1, 0), v2, zI i, zR (24, t, i), zI p] [zI d, zI b] (mm_z hi dh nx ns) Q := by
          intro d hd hd2 v2
          rw [r_170_4 (htx0 := ht) (htx1 := ht1) (htx4 := ht) (hnx4 := hi1) (hx := hx), mm_wi (by omega) (by omega), mm_wi (by omega) (by omega), hd]
          exact hY
        rw [r_170_2 (htx0 := ht) (htx1 := ht1) (htx4 := ht) (hnx4 := hi1) (hx := hx), if_pos hz, if_pos (by omega)]
        refine ⟨by omega, s126 hx (fun z hzz => ?_)⟩
        by_cases h1 : (1 ≤ hi (27, t, i) p ∧ hi (27, t, i) p < 1701) ∧ hi (17, 0, 0) (hi (27, t, i) p) = 1
        · rw [if_pos h1] at hzz
          subst hzz
          rw [mm_pI, r_170_2_14 (htx0 := ht) (htx1 := ht1) (htx4 := ht) (hnx4 := hi1) (hx := hx), if_neg (by decide)]
          refine ⟨by omega, s113 ht hi1 ht1 hi1 hx hR1 ⟨by omega, by omega⟩ (fun h2 => ?_) (fun h2 => ?_)⟩
          · rw [mm_pI, r_170_2_24 (htx0 := ht) (htx1 := ht1) (htx4 := ht) (hnx4 := hi1) (hx := hx), if_neg (by decide), r_170_3 (htx0 := ht) (htx1 := ht1) (htx4 := ht) (hnx4 := hi1) (hx := hx)]
            exact four 0 (by rw [kk_b0 (fun q => q.2 h2)]) (Or.inl rfl) _
          · rw [mm_pI, r_170_2_24 (htx0 := ht) (htx1 := ht1) (htx4 := ht) (hnx4 := hi1) (hx := hx), if_pos rfl]
            exact four 1 (by rw [kk_b1 ⟨h1, h2⟩]) (Or.inr rfl) _
        · rw [if_neg h1] at hzz
          subst hzz
          rw [mm_pI, r_170_2_14 (htx0 := ht) (htx1 := ht1) (htx4 := ht) (hnx4 := hi1) (hx := hx), if_pos rfl, r_170_3 (htx0 := ht) (htx1 := ht1) (htx4 := ht) (hnx4 := hi1) (hx := hx)]
          exact four 0 (by rw [kk_b0 (fun q => h1 q.1)]) (Or.inl rfl) _
      · rw [r_170_2 (htx0 := ht) (htx1 := ht1) (htx4 := ht) (hnx4 := hi1) (hx := hx), if_pos hz, if_neg (by omega), r_170_5 (htx0 := ht) (htx1 := ht1) (hx := hx), mm_wi (by omega) (by omega)]
        exact hX _ _
    · have h3 : mm_sm (fun p => kk_b (((1 ≤ hi (27, t, i) p ∧ hi (27, t, i) p < 1701) ∧ hi (17, 0, 0) (hi (27, t, i) p) = 1) ∧ ¬ kk_kp hi t i t1 i p)) 36 = 0 := sm_zero _ (fun q c1 c2 => kk_b0 (fun w => by
        have := kk_nzI (f := hi (27, t, i)) (by omega) (p := q) (by omega) (by omega)
        have := w.1.1.1
        omega))
      rw [h3, Int.add_zero] at hX
      rw [r_170_2 (htx0 := ht) (htx1 := ht1) (htx4 := ht) (hnx4 := hi1) (hx := hx), if_neg hz, r_170_5 (htx0 := ht) (htx1 := ht1) (hx := hx), mm_wi (by omega) (by omega)]
      exact hX _ _
  · intro v4 v5
    rw [r_170_1 (htx0 := ht) (htx1 := ht1) (hx := hx), if_pos (by omega)]
    exact K
end

