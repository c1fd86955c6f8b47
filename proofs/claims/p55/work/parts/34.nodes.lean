/-! the cls's nodes: blocks and the rest are copied -/
def kk_nz (f : Int → Int) : Int := mm_sm (fun p => if f p = 0 then 0 else 1) 36
theorem kk_nz0 {f : Int → Int} (h : ∀ p, 0 ≤ p → p < 36 → f p = 0) : kk_nz f = 0 := sm_zero _ (fun i a b => by rw [if_pos (h i (by omega) (by omega))])
theorem kk_nzI {f : Int → Int} (h : kk_nz f ≤ 0) {p : Int} (h0 : 0 ≤ p) (h1 : p < 36) : f p = 0 := by
  have := sm_ge (f := fun p => if f p = 0 then 0 else 1) 36 (fun i _ _ => by split <;> omega) h0 h1
  by_cases c : f p = 0
  · exact c
  · rw [if_neg c] at this
    unfold kk_nz at h
    omega
theorem kk_nznn (f : Int → Int) : 0 ≤ kk_nz f := sm_nn _ (fun i _ _ => by split <;> omega)
theorem kk_nzub (f : Int → Int) : kk_nz f ≤ 36 := sm_ub 1 36 (fun i _ _ => by split <;> omega)
theorem kk_nzc {f g : Int → Int} (h : ∀ p, 0 ≤ p → p < 36 → f p = g p) : kk_nz f = kk_nz g := sm_congr _ (fun i a b => by rw [h i (by omega) (by omega)])
theorem kk_nz1 {f g : Int → Int} {p : Int} (h0 : 0 ≤ p) (h1 : p < 36) (h : ∀ q, q ≠ p → g q = f q) : kk_nz g = kk_nz f + ((if g p = 0 then 0 else 1) - (if f p = 0 then 0 else 1)) :=
  sm_one 36 p h0 h1 (fun i _ _ e => by rw [h i e])
/-- whether a tree lies aside -/
def kk_as (t : Int) : Int := if 0 ≤ t ∧ t < 13 then 0 else 1
theorem kk_there {hi : mm_Id → Int → Int} {t n p : Int} (ht : mm_isT t) (hn : mm_isN n) (hp : 0 ≤ p ∧ p < 36) : 0 < kc_A hi (hi (27, t, n) p) ∨ 0 < kc_K hi (hi (27, t, n) p) := by
  by_cases c : 0 ≤ t ∧ t < 13
  · exact Or.inl (Int.lt_of_lt_of_le (by decide) (kc_Age c hn hp))
  · exact Or.inr (Int.lt_of_lt_of_le (by decide) (kc_Kge ht c hn hp))
theorem kk_upne {t n t2 n2 p p2 v : Int} {hi : mm_Id → Int → Int} {f : Nat} (h : ¬ (t2 = t ∧ n2 = n ∧ p2 = p)) : mm_up hi (f, t, n) p v (f, t2, n2) p2 = hi (f, t2, n2) p2 := by
  unfold mm_up
  rw [if_neg (by intro q; apply h; obtain ⟨q1, q2⟩ := q; injection q1 with _ q1; injection q1 with q1 q3; exact ⟨q1, q3, q2⟩)]
theorem kk_Rcong {h h2 : mm_Id → Int → Int} (hp : ∀ t n p, h2 (27, t, n) p = h (27, t, n) p) (h15 : h2 (15, 0, 0) 7 = h (15, 0, 0) 7) (h158 : h2 (15, 0, 0) 8 = h (15, 0, 0) 8) (h17 : ∀ r, h2 (17, 0, 0) r = h (17, 0, 0) r) (h18 : ∀ r, h2 (18, 0, 0) r = h (18, 0, 0) r) (h19 : ∀ r, h2 (19, 0, 0) r = h (19, 0, 0) r) (hR : kk_R h) : kk_R h2 := by
  obtain ⟨R1, R2, R3, R4, R5, R6, R7, R8⟩ := hR
  have cN : kc_N h2 = kc_N h := by
    funext t r
    exact sm_congr _ (fun i _ _ => sm_congr _ (fun j _ _ => by rw [hp]))
  have cA : kc_A h2 = kc_A h := by
    funext r
    unfold kc_A
    rw [cN]
  have cK : kc_K h2 = kc_K h := by
    funext r
    unfold kc_K
    rw [cN]
  refine ⟨fun t n p b1 b2 b3 b4 => by rw [hp]; exact R1 t n p b1 b2 b3 b4, fun r b1 b2 => ?_, ?_, ?_, ?_, ?_, ?_, ?_⟩
  · rw [h17, h18, h19, cA, cK]; exact R2 r b1 b2
  · unfold kk_hd; rw [h15, cA]; exact R3
  · rw [h158]; exact R4
  · rw [h158]; exact R5
  · rw [h17]; exact R6
  · rw [h18]; exact R7
  · rw [h19]; exact R8
/-- a store that touches neither rows nor pieces -/
theorem kk_Rup {h : mm_Id → Int → Int} {f : Nat} {t n j v : Int} (hf : f = 24 ∨ f = 25 ∨ f = 26 ∨ f = 28 ∨ f = 29 ∨ f = 30 ∨ f = 16 ∨ f < 15 ∨ 30 < f) (hR : kk_R h) : kk_R (mm_up h (f, t, n) j v) :=
  kk_Rcong (fun _ _ _ => mm_upf (by omega)) (mm_upf (by omega)) (mm_upf (by omega)) (fun _ => mm_upf (by omega)) (fun _ => mm_upf (by omega)) (fun _ => mm_upf (by omega)) hR
section
variable {hi : mm_Id → Int → Int} {dh : Int → Int} {nx ns : Int} {Q : mm_V → mm_H → Prop} {t n t1 n1 : Int}
theorem s111 (ht : mm_isT t) (hn : mm_isN n) (ht1 : mm_isT t1) (hn1 : mm_isN n1) (hx : 5275 ≤ nx) (hne : ¬ (t1 = t ∧ n1 = n)) (hR : kk_R hi) (hb : hi (24, t, n) 9 = kk_nz (hi (27, t, n))) (hb1 : hi (24, t1, n1) 9 = kk_nz (hi (27, t1, n1)))
    (K : ∀ h2, kk_R h2 → (∀ p, 0 ≤ p → p < 36 → h2 (27, t, n) p = hi (27, t1, n1) p) → h2 (24, t, n) 9 = hi (24, t1, n1) 9 → (∀ x j, ¬ kk_ct x j → ¬ (x = (27, t, n) ∧ 0 ≤ j ∧ j < 36) → ¬ (x = (24, t, n) ∧ j = 9) → h2 x j = hi x j) → Q zU (mm_z h2 dh nx ns)) :
    mm_Cl 111 [zR (24, t, n), zR (24, t1, n1), zR (15, 0, 0), zI (kk_as t)] (mm_z hi dh nx ns) Q := by
  have fin : ∀ h (v5 v6 : mm_V) (i : Int), kk_R h → (∀ p, 0 ≤ p → p < 36 → h (27, t, n) p = hi (27, t1, n1) p) → (∀ x j, ¬ kk_ct x j → ¬ (x = (27, t, n) ∧ 0 ≤ j ∧ j < 36) → h x j = hi x j) → mm_Wp 111 (mm_blk 111 4) [zR (24, t, n), zR (24, t1, n1), zR (15, 0, 0), zI (kk_as t), zI i, v5, v6] [] (mm_z h dh nx ns) Q := by
    intro h v5 v6 i a1 a2 a3
    rw [r_111_4 (htx0 := ht) (hnx0 := hn) (htx1 := ht1) (hnx1 := hn1) (hx := hx)]
    have e : h (24, t1, n1) 9 = hi (24, t1, n1) 9 := a3 _ _ (by unfold kk_ct; simp) (by simp)
    have pcs : ∀ t2 n2 p2, mm_up h (24, t, n) 9 (h (24, t1, n1) 9) (27, t2, n2) p2 = h (27, t2, n2) p2 := fun t2 n2 p2 => mm_upf (by decide)
    refine K _ ?_ (fun p b1 b2 => by rw [pcs]; exact a2 p b1 b2) (by rw [mm_ups, e]) (fun x j b1 b2 b3 => ?_)
    · exact kk_Rup (Or.inl rfl) a1
    · by_cases c : x = (24, t, n)
      · subst c
        rw [mm_upj (fun q => b3 ⟨rfl, q⟩)]; exact a3 _ _ b1 b2
      · rw [mm_upx c]; exact a3 _ _ b1 b2
  have loop : ∀ (k : Nat) (i : Int) (h : mm_Id → Int → Int) (v5 v6 : mm_V), 36 - i = k → 0 ≤ i → kk_R h → (∀ p, 0 ≤ p → p < i → h (27, t, n) p = hi (27, t1, n1) p) → (∀ p, i ≤ p → h (27, t, n) p = hi (27, t, n) p) → (∀ x j, ¬ kk_ct x j → ¬ (x = (27, t, n) ∧ 0 ≤ j ∧ j < 36) → h x j = hi x j) →
      mm_Wp 111 (mm_blk 111 1) [zR (24, t, n), zR (24, t1, n1), zR (15, 0, 0), zI (kk_as t), zI i, v5, v6] [] (mm_z h dh nx ns) Q := by
    intro k
    induction k with
    | zero =>
      intro i h v5 v6 e1 e2 a1 a2 a3 a4
      have e3 : i = 36 := by omega
      subst e3
      have q := fin h v5 v6 36 a1 a2 a4
      have q2 : mm_Wp 111 (mm_blk 111 2) [zR (24, t, n), zR (24, t1, n1), zR (15, 0, 0), zI (kk_as t), zI 36, v5, v6] [] (mm_z h dh nx ns) Q := by
        rw [r_111_2 (htx0 := ht) (hnx0 := hn) (htx1 := ht1) (hnx1 := hn1) (hx := hx), if_neg (by omega)]
        exact q
      rw [r_111_1 (htx0 := ht) (hnx0 := hn) (htx1 := ht1) (hnx1 := hn1) (hx := hx)]
      split
      · exact q2
      · split
        · exact q2
        · exact q
    | succ k ih =>
      intro i h v5 v6 e1 e2 a1 a2 a3 a4
      have s1 : h (24, t, n) 9 = hi (24, t, n) 9 := a4 _ _ (by unfold kk_ct; simp) (by simp)
      have s2 : h (24, t1, n1) 9 = hi (24, t1, n1) 9 := a4 _ _ (by unfold kk_ct; simp) (by simp)
      have s3 : ∀ p, h (27, t1, n1) p = hi (27, t1, n1) p := fun p => a4 _ _ (by unfold kk_ct; simp) (by intro q; obtain ⟨q, _⟩ := q; injection q with _ q; injection q with q1 q2; exact hne ⟨q1, q2⟩)
      have go : mm_Wp 111 (mm_blk 111 2) [zR (24, t, n), zR (24, t1, n1), zR (15, 0, 0), zI (kk_as t), zI i, v5, v6] [] (mm_z h dh nx ns) Q := by
        rw [r_111_2 (htx0 := ht) (hnx0 := hn) (htx1 := ht1) (hnx1 := hn1) (hx := hx), if_pos (by omega)]
        refine ⟨by omega, by omega, ?_⟩
        split
        · rename_i h1
          rw [r_111_3 (htx0 := ht) (hnx0 := hn) (htx1 := ht1) (hnx1 := hn1) (hx := hx), mm_wi (by omega) (by omega)]
          refine ih (i + 1) h _ _ (by omega) (by omega) a1 (fun p b1 b2 => ?_) (fun p b => a3 p (by omega)) a4
          by_cases c : p = i
          · rw [c, h1, s3]
          · exact a2 p b1 (by omega)
        · rename_i h1
          refine s128 hx (kk_smR a1) ?_
          rw [mm_pU, r_111_2_20 (htx0 := ht) (hnx0 := hn) (htx1 := ht1) (hnx1 := hn1) (hx := hx)]
          have hv := a1.1 t1 n1 i ht1 hn1 e2 (by omega)
          have ho := a1.1 t n i ht hn e2 (by omega)
          have hs0 := kk_smR a1
          have hs : kk_sm (kk_sha h (h (27, t1, n1) i) (kk_as t)) := by
            refine ⟨fun r b1 b2 => ?_, ?_⟩
            · have q := hs0.1 r b1 b2
              unfold kk_as
              by_cases c : 0 ≤ t ∧ t < 13
              · rw [if_pos c, kk_s17 hv, kk_s18]
                have q1 := kc_Aub h r
                by_cases r0 : r = 0
                · subst r0; rw [if_neg (by omega)]; omega
                · have q2 := (a1.2.1 r (by omega) b2).1
                  split <;> omega
              · rw [if_neg c, kk_s17a, kk_s18a hv]
                have q1 := kc_Kub h r
                by_cases r0 : r = 0
                · subst r0; rw [if_neg (by omega)]; omega
                · have q2 := (a1.2.1 r (by omega) b2).2.1
                  split <;> omega
            · have q := hs0.2
              have q1 := kk_hdub h
              have q2 := a1.2.2.1
              unfold kk_as
              by_cases c : 0 ≤ t ∧ t < 13
              · rw [if_pos c, kk_s15 hv]
                split <;> omega
              · rw [if_neg c, kk_s15a]; exact q
          refine s129 hx hs ?_
          rw [mm_pU, r_111_2_24 (htx0 := ht) (hnx0 := hn) (htx1 := ht1) (hnx1 := hn1) (hx := hx)]
          refine ⟨by omega, ?_⟩
          rw [r_111_3 (htx0 := ht) (hnx0 := hn) (htx1 := ht1) (hnx1 := hn1) (hx := hx), mm_wi (by omega) (by omega)]
          have mv := kk_move a1 ht hn ⟨e2, by omega⟩ hv rfl (Or.inr (kk_there ht1 hn1 ⟨e2, by omega⟩)) (Ne.symm h1)
          refine ih (i + 1) _ _ _ (by omega) (by omega) mv (fun p b1 b2 => ?_) (fun p b => ?_) (fun x j b1 b2 => ?_)
          · by_cases c : p = i
            · rw [c, mm_ups, s3]
            · rw [mm_upj c, kk_ltgf (by unfold kk_ct; simp), kk_shaf (by unfold kk_ct; simp)]
              exact a2 p b1 (by omega)
          · rw [mm_upj (by omega), kk_ltgf (by unfold kk_ct; simp), kk_shaf (by unfold kk_ct; simp)]
            exact a3 p (by omega)
          · by_cases c : x = (27, t, n)
            · subst c
              rw [mm_upj (by intro q; exact b2 ⟨rfl, by omega⟩), kk_ltgf b1, kk_shaf b1]
              exact a4 _ _ b1 b2
            · rw [mm_upx c, kk_ltgf b1, kk_shaf b1]
              exact a4 _ _ b1 b2
      rw [r_111_1 (htx0 := ht) (hnx0 := hn) (htx1 := ht1) (hnx1 := hn1) (hx := hx)]
      split
      · exact go
      · split
        · exact go
        · rename_i g1 g2
          refine fin h v5 v6 i a1 (fun p b1 b2 => ?_) a4
          by_cases c : p < i
          · exact a2 p b1 c
          · rw [a3 p (by omega), kk_nzI (f := hi (27, t, n)) (by rw [← hb, ← s1]; omega) b1 b2, kk_nzI (f := hi (27, t1, n1)) (by rw [← hb1, ← s2]; omega) b1 b2]
  rw [r_111_e (htx0 := ht) (hnx0 := hn) (htx1 := ht1) (hnx1 := hn1) (hx := hx)]
  exact loop 36 0 hi _ _ (by omega) (by omega) hR (fun p a b => by omega) (fun p _ => rfl) (fun x j _ _ => rfl)
end

