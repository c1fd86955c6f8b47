/-! the cls's rows: what its calls do -/
theorem mm_upself {α : Type} (f : mm_Id → Int → α) (x : mm_Id) (j : Int) : mm_up f x j (f x j) = f := by
  funext y k
  unfold mm_up
  split
  · rename_i h; rw [h.1, h.2]
  · rfl
theorem mm_upup {α : Type} (f : mm_Id → Int → α) (x : mm_Id) (j : Int) (u v : α) : mm_up (mm_up f x j u) x j v = mm_up f x j v := by
  funext y k
  unfold mm_up
  split <;> rfl
section
variable {hi : mm_Id → Int → Int} {dh : Int → Int} {nx ns : Int} {Q : mm_V → mm_H → Prop} {t n : Int}
theorem s126 (hx : 5275 ≤ nx) {x : Int} (K : ∀ b, (b = if (1 ≤ x ∧ x < 1701) ∧ hi (17, 0, 0) x = 1 then 1 else 0) → Q (zI b) (mm_z hi dh nx ns)) : mm_Cl 126 [zR (15, 0, 0), zI x] (mm_z hi dh nx ns) Q := by
  rw [r_126_e (hx := hx)]
  split
  · split
    · refine ⟨by omega, ?_⟩
      split
      · rename_i h1 h2 h3
        rw [r_126_2 (hx := hx)]
        exact ⟨Or.inr rfl, K 1 (by rw [if_pos ⟨⟨by omega, h2⟩, h3⟩])⟩
      · rename_i h1 h2 h3
        rw [r_126_1 (hx := hx), r_126_2 (hx := hx)]
        exact ⟨Or.inl rfl, K 0 (by rw [if_neg (fun q => h3 q.2)])⟩
    · rename_i h1 h2
      rw [r_126_1 (hx := hx), r_126_2 (hx := hx)]
      exact ⟨Or.inl rfl, K 0 (by rw [if_neg (by omega)])⟩
  · rename_i h1
    rw [r_126_1 (hx := hx), r_126_2 (hx := hx)]
    exact ⟨Or.inl rfl, K 0 (by rw [if_neg (by omega)])⟩
/-- counters are small -/
def kk_sm (hi : mm_Id → Int → Int) : Prop := (∀ r, 0 ≤ r → r < 1701 → 0 ≤ hi (17, 0, 0) r ∧ hi (17, 0, 0) r ≤ 20000 ∧ 0 ≤ hi (18, 0, 0) r ∧ hi (18, 0, 0) r ≤ 20000) ∧ 0 ≤ hi (15, 0, 0) 7 ∧ hi (15, 0, 0) 7 ≤ 2000
theorem kk_smR (h : kk_R hi) : kk_sm hi := by
  obtain ⟨R1, R2, R3, R4, R5, R6, R7, R8⟩ := h
  refine ⟨fun r a b => ?_, ?_, ?_⟩
  · by_cases e : r = 0
    · subst e; omega
    · obtain ⟨q1, q2, q3⟩ := R2 r (by omega) b
      have := kc_Ann hi r
      have := kc_Aub hi r
      have := kc_Knn hi r
      have := kc_Kub hi r
      omega
  · rw [R3]; exact kk_hdnn hi
  · rw [R3]; have := kk_hdub hi; omega
theorem s128 (hx : 5275 ≤ nx) {v a : Int} (hs : kk_sm hi) (K : Q zU (mm_z (kk_sha hi v a) dh nx ns)) : mm_Cl 128 [zR (15, 0, 0), zI v, zI a] (mm_z hi dh nx ns) Q := by
  rw [r_128_e (hx := hx)]
  unfold kk_sha at K
  by_cases c1 : v < 1
  · rw [if_pos c1, r_128_1 (hx := hx)]
    rw [if_pos (Or.inl c1)] at K
    exact K
  · rw [if_neg c1]
    by_cases c2 : v < 1701
    · rw [if_pos c2]
      rw [if_neg (by omega)] at K
      have hv := hs.1 v (by omega) c2
      have hh := hs.2
      by_cases c3 : a = 0
      · rw [if_pos c3]
        rw [if_pos c3] at K
        refine ⟨by omega, ?_⟩
        by_cases c4 : hi (17, 0, 0) v = 0
        · rw [if_pos c4, r_128_5 (hx := hx)]
          refine ⟨by omega, by omega, ?_⟩
          rw [r_128_6 (hx := hx), mm_upf (by decide), mm_wi (by omega) (by omega), mm_wi (by omega) (by omega)]
          rw [if_pos c4] at K
          exact K
        · rw [if_neg c4, r_128_5 (hx := hx)]
          refine ⟨by omega, by omega, ?_⟩
          rw [r_128_6 (hx := hx), mm_upf (by decide), mm_wi (by omega) (by omega), mm_wi (by omega) (by omega)]
          rw [if_neg c4] at K
          exact K
      · rw [if_neg c3]
        rw [if_neg c3] at K
        refine ⟨by omega, by omega, ?_⟩
        rw [r_128_6 (hx := hx), mm_wi (by omega) (by omega)]
        exact K
    · rw [if_neg c2, r_128_1 (hx := hx)]
      rw [if_pos (by omega)] at K
      exact K
theorem s129 (hx : 5275 ≤ nx) {v a : Int} (hs : kk_sm hi) (K : Q zU (mm_z (kk_ltg hi v a) dh nx ns)) : mm_Cl 129 [zR (15, 0, 0), zI v, zI a] (mm_z hi dh nx ns) Q := by
  rw [r_129_e (hx := hx)]
  unfold kk_ltg at K
  by_cases c1 : v < 1
  · rw [if_pos c1, r_129_1 (hx := hx)]
    rw [if_pos (Or.inl c1)] at K
    exact K
  · rw [if_neg c1]
    by_cases c2 : v < 1701
    · rw [if_pos c2]
      rw [if_neg (by omega)] at K
      have hv := hs.1 v (by omega) c2
      have hh := hs.2
      have key : ∀ (h2 : mm_Id → Int → Int) (vx : mm_V), Q zU (mm_z (mm_up h2 (19, 0, 0) v (if 0 < h2 (17, 0, 0) v ∨ 0 < h2 (18, 0, 0) v then 1 else 0)) dh nx ns) → mm_Wp 129 (mm_blk 129 6) [zR (15, 0, 0), zI v, vx] [] (mm_z h2 dh nx ns) Q := by
        intro h2 vx hq
        rw [r_129_6 (hx := hx)]
        refine ⟨by omega, ?_⟩
        split
        · rename_i h3
          rw [if_pos (Or.inl h3)] at hq
          rw [r_129_7 (hx := hx), r_129_9 (hx := hx)]
          exact ⟨⟨Or.inr rfl, by omega⟩, hq⟩
        · rename_i h3
          refine ⟨by omega, ?_⟩
          split
          · rename_i h4
            rw [if_pos (Or.inr h4)] at hq
            rw [r_129_7 (hx := hx), r_129_9 (hx := hx)]
            exact ⟨⟨Or.inr rfl, by omega⟩, hq⟩
          · rename_i h4
            rw [if_neg (by omega)] at hq
            rw [r_129_9 (hx := hx)]
            exact ⟨⟨Or.inl rfl, by omega⟩, hq⟩
      by_cases c3 : a = 0
      · rw [if_pos c3]
        rw [if_pos c3] at K
        refine ⟨by omega, by omega, by omega, ?_⟩
        rw [mm_ups, mm_wi (z := hi (17, 0, 0) v - 1) (by omega) (by omega), mm_upf (by decide)]
        by_cases c4 : hi (17, 0, 0) v - 1 = 0
        · rw [if_pos c4, r_129_5 (hx := hx), mm_wi (by omega) (by omega)]
          rw [if_pos c4] at K
          apply key
          rw [mm_upf (by decide), mm_ups, mm_upf (by decide), mm_upf (by decide)]
          exact K
        · rw [if_neg c4, r_129_5 (hx := hx), mm_wi (by omega) (by omega)]
          rw [if_neg c4] at K
          apply key
          rw [mm_upf (by decide), mm_ups, mm_upf (by decide), mm_upf (by decide)]
          exact K
      · rw [if_neg c3]
        rw [if_neg c3] at K
        refine ⟨by omega, by omega, ?_⟩
        rw [mm_wi (z := hi (18, 0, 0) v - 1) (by omega) (by omega)]
        apply key
        rw [mm_ups, mm_upf (by decide)]
        exact K
    · rw [if_neg c2, r_129_1 (hx := hx)]
      rw [if_pos (by omega)] at K
      exact K
/-- a free row is taken -/
theorem s127 (hx : 5275 ≤ nx) {o : Int} (ho : 0 ≤ o ∧ o < 1701) (hl : 0 ≤ hi (15, 0, 0) 8 ∧ hi (15, 0, 0) 8 < 1701) (hh : 0 ≤ hi (15, 0, 0) 7 ∧ hi (15, 0, 0) 7 ≤ 2000)
    (hf : ∃ r, 1 ≤ r ∧ r < 1701 ∧ hi (19, 0, 0) r = 0) (K : ∀ r, 1 ≤ r → r < 1701 → hi (19, 0, 0) r = 0 → Q (zI r) (mm_z (kk_tak hi o r) dh nx ns)) : mm_Cl 127 [zR (15, 0, 0), zI o] (mm_z hi dh nx ns) Q := by
  rw [r_127_e (hx := hx), if_neg (by omega), if_pos ho.2]
  generalize hL : hi (15, 0, 0) 8 = L0 at *
  have step : ∀ (y : Int) (i : Int) (u : Int), 1 ≤ y → y < 1701 → 1 ≤ i → i < 1701 → (hi (19, 0, 0) y ≠ 0 → mm_Wp 127 (mm_blk 127 3) [zR (15, 0, 0), zI o, zI (i + 1)] [] (mm_z (mm_up hi (15, 0, 0) 8 y) dh nx ns) Q) →
      mm_Wp 127 (mm_blk 127 5) [zR (15, 0, 0), zI o, zI i] [zI y, zR (15, 0, 0)] (mm_z (mm_up hi (15, 0, 0) 8 u) dh nx ns) Q := by
    intro y i u y1 y2 i1 i2 hn
    rw [r_127_5 (hx := hx), mm_upup]
    simp only [mm_ups, mm_upf, show ¬ (15 : Nat) = 19 by decide, show ¬ (15 : Nat) = 17 by decide, show ¬ (19 : Nat) = 15 by decide, not_false_eq_true, mm_upj, show ¬ (7 : Int) = 8 by decide, show ¬ (8 : Int) = 7 by decide]
    refine ⟨⟨by omega, y2⟩, ?_⟩
    split
    · rename_i h1
      refine ⟨⟨by omega, y2⟩, ⟨by omega, y2⟩, ?_, ?_⟩
      · rw [mm_wi (by omega) (by omega), mm_wi (by omega) (by omega)]
        omega
      · have k := K y y1 y2 h1
        unfold kk_tak at k
        rw [mm_wi (by omega) (by omega), mm_wi (by omega) (by omega), mm_wi (by omega) (by omega), Int.mul_comm o 60, Int.mul_comm y 60]
        have e1 : mm_cp (mm_up (mm_up (mm_up (mm_up hi (15, 0, 0) 8 y) (19, 0, 0) y 1) (17, 0, 0) y 1) (15, 0, 0) 7 (hi (15, 0, 0) 7 + 1)) (16, 0, 0) (60 * o) (16, 0, 0) (60 * y) 60 (15, 0, 0) 8 = y := by
          unfold mm_cp
          rw [if_neg (by simp), mm_upj (by decide), mm_upf (by decide), mm_upf (by decide), mm_ups]
        rw [e1]
        exact k
    · rename_i h1
      rw [mm_wi (by omega) (by omega)]
      exact hn h1
  have nxt : ∀ m, 0 ≤ m → m < 1700 → ∀ c, (c = if L0 + m < 1701 then L0 + m else L0 + m - 1700) → (if mm_w (c + 1) < 1701 then mm_w (c + 1) else 1) = (if L0 + (m + 1) < 1701 then L0 + (m + 1) else L0 + (m + 1) - 1700) := by
    intro m m1 m2 c hc
    subst hc
    by_cases c1 : L0 + m < 1701
    · rw [if_pos c1, mm_wi (by omega) (by omega)]
      by_cases c2 : L0 + m + 1 < 1701
      · rw [if_pos c2, if_pos (by omega)]; omega
      · rw [if_neg c2, if_neg (by omega)]; omega
    · rw [if_neg c1, mm_wi (by omega) (by omega), if_pos (by omega), if_neg (by omega)]; omega
  obtain ⟨r, r1, r2, r3⟩ := hf
  have loop : ∀ (k : Nat) (i : Int), 1701 - i = k → 1 ≤ i → (∀ m, 1 ≤ m → m < i → hi (19, 0, 0) (if L0 + m < 1701 then L0 + m else L0 + m - 1700) ≠ 0) →
      mm_Wp 127 (mm_blk 127 3) [zR (15, 0, 0), zI o, zI i] [] (mm_z (mm_up hi (15, 0, 0) 8 (if L0 + (i - 1) < 1701 then L0 + (i - 1) else L0 + (i - 1) - 1700)) dh nx ns) Q := by
    intro k
    induction k with
    | zero =>
      intro i e1 e2 e3
      exfalso
      by_cases c : L0 < r
      · have := e3 (r - L0) (by omega) (by omega)
        rw [if_pos (by omega), show L0 + (r - L0) = r by omega] at this
        exact this r3
      · have := e3 (r + 1700 - L0) (by omega) (by omega)
        rw [if_neg (by omega), show L0 + (r + 1700 - L0) - 1700 = r by omega] at this
        exact this r3
    | succ k ih =>
      intro i e1 e2 e3
      rw [r_127_3 (hx := hx), if_pos (by omega), mm_ups]
      have e4 := nxt (i - 1) (by omega) (by omega) _ rfl
      have e5 : i - 1 + 1 = i := by omega
      rw [e5] at e4
      have fin : ∀ y, y = (if L0 + i < 1701 then L0 + i else L0 + i - 1700) → mm_Wp 127 (mm_blk 127 5) [zR (15, 0, 0), zI o, zI i] [zI y, zR (15, 0, 0)] (mm_z (mm_up hi (15, 0, 0) 8 (if L0 + (i - 1) < 1701 then L0 + (i - 1) else L0 + (i - 1) - 1700)) dh nx ns) Q := by
        intro y hy
        refine step y i _ (by rw [hy]; split <;> omega) (by rw [hy]; split <;> omega) e2 (by omega) (fun h1 => ?_)
        have := ih (i + 1) (by omega) (by omega) (fun m m1 m2 => by
          by_cases c : m = i
          · rw [c, ← hy]; exact h1
          · exact e3 m m1 (by omega))
        rw [show i + 1 - 1 = i by omega, ← hy] at this
        exact this
      generalize (if L0 + (i - 1) < 1701 then L0 + (i - 1) else L0 + (i - 1) - 1700) = c at *
      by_cases h1 : mm_w (c + 1) < 1701
      · rw [if_pos h1] at e4 ⊢
        exact fin _ e4
      · rw [if_neg h1] at e4 ⊢
        exact fin _ e4
  have := loop 1700 1 (by omega) (by omega) (fun m m1 m2 => by omega)
  rw [show (1 : Int) - 1 = 0 by omega, Int.add_zero, if_pos hl.2, ← hL, mm_upself] at this
  exact this
theorem s130 (hx : 5275 ≤ nx) {r i : Int} (hr : 0 ≤ r ∧ r < 1701) (hi1 : 0 ≤ i ∧ i < 60) (K : Q (zI (if r = 0 then 0 else mm_and (hi (16, 0, 0) (60 * r + i)) 255)) (mm_z hi dh nx ns)) : mm_Cl 130 [zR (15, 0, 0), zI r, zI i] (mm_z hi dh nx ns) Q := by
  rw [r_130_e (hx := hx)]
  split
  · rw [if_pos hr.2, if_neg (by omega), if_pos hi1.2, mm_wi (z := r * 60) (by omega) (by omega), mm_wi (by omega) (by omega)]
    refine ⟨by omega, ?_⟩
    rw [r_130_2 (hx := hx), Int.mul_comm r 60]
    rw [if_neg (by omega)] at K
    exact K
  · rw [r_130_1 (hx := hx), r_130_2 (hx := hx)]
    rw [if_pos (by omega)] at K
    exact K
theorem s131 (hx : 5275 ≤ nx) {r i b : Int} (hr : 1 ≤ r ∧ r < 1701) (hi1 : 0 ≤ i ∧ i < 60) (K : Q zU (mm_z (mm_up hi (16, 0, 0) (60 * r + i) (mm_b b)) dh nx ns)) : mm_Cl 131 [zR (15, 0, 0), zI r, zI i, zI b] (mm_z hi dh nx ns) Q := by
  rw [r_131_e (hx := hx), if_pos (by omega), if_pos hr.2, if_neg (by omega), if_pos hi1.2, mm_wi (z := r * 60) (by omega) (by omega), mm_wi (z := r * 60 + i) (by omega) (by omega)]
  refine ⟨by omega, ?_⟩
  rw [r_131_1 (hx := hx), Int.mul_comm r 60, mm_bi (z := mm_b b) (mm_bb b).1 (mm_bb b).2]
  exact K
/-- zeros from a place on -/
theorem s132 (hx : 5275 ≤ nx) {r i : Int} (hr : 1 ≤ r ∧ r < 1701) (hi1 : 0 ≤ i ∧ i ≤ 60) (K : Q zU (mm_z (fun x j => if x = (16, 0, 0) ∧ 60 * r + i ≤ j ∧ j < 60 * r + 60 then 0 else hi x j) dh nx ns)) : mm_Cl 132 [zR (15, 0, 0), zI r, zI i] (mm_z hi dh nx ns) Q := by
  rw [r_132_e (hx := hx), show (if 0 < i then i else 0) = i by split <;> omega]
  have L : ∀ (k : Nat) (q : Int), 60 - q = k → i ≤ q → mm_Wp 132 (mm_blk 132 1) [zR (15, 0, 0), zI r, zI i, zI q] [] (mm_z (fun x j => if x = (16, 0, 0) ∧ 60 * r + i ≤ j ∧ j < 60 * r + q then 0 else hi x j) dh nx ns) Q := by
    intro k
    induction k with
    | zero =>
      intro q e1 e2
      have e3 : q = 60 := by omega
      subst e3
      rw [r_132_1 (hx := hx), if_pos (by omega), if_pos hr.2, if_neg (by omega), r_132_2 (hx := hx)]
      exact K
    | succ k ih =>
      intro q e1 e2
      rw [r_132_1 (hx := hx), if_pos (by omega), if_pos hr.2, if_pos (by omega), mm_wi (z := r * 60) (by omega) (by omega), mm_wi (z := r * 60 + q) (by omega) (by omega), mm_wi (z := q + 1) (by omega) (by omega)]
      refine ⟨by omega, ?_⟩
      have e4 : mm_up (fun x j => if x = (16, 0, 0) ∧ 60 * r + i ≤ j ∧ j < 60 * r + q then 0 else hi x j) (16, 0, 0) (r * 60 + q) (mm_b 0) = (fun x j => if x = (16, 0, 0) ∧ 60 * r + i ≤ j ∧ j < 60 * r + (q + 1) then 0 else hi x j) := by
        funext x j
        unfold mm_up
        rw [mm_bi (by omega) (by omega)]
        grind
      rw [e4]
      exact ih (q + 1) (by omega) (by omega)
  have := L (60 - i).toNat i (by omega) (by omega)
  have e : (fun (x : mm_Id) (j : Int) => if x = (16, 0, 0) ∧ 60 * r + i ≤ j ∧ j < 60 * r + i then 0 else hi x j) = hi := by
    funext x j
    rw [if_neg (by omega)]
  rw [e] at this
  exact this
/-- whether two rows have the same bytes -/
theorem s133 (hx : 5275 ≤ nx) {u v : Int} (hu : 0 ≤ u ∧ u < 1701) (hv : 0 ≤ v ∧ v < 1701) (K1 : (∀ i, 0 ≤ i → i < 60 → hi (16, 0, 0) (60 * u + i) = hi (16, 0, 0) (60 * v + i)) → Q (zI 1) (mm_z hi dh nx ns))
    (K0 : (∃ i, 0 ≤ i ∧ i < 60 ∧ hi (16, 0, 0) (60 * u + i) ≠ hi (16, 0, 0) (60 * v + i)) → Q (zI 0) (mm_z hi dh nx ns)) : mm_Cl 133 [zR (15, 0, 0), zI u, zI v] (mm_z hi dh nx ns) Q := by
  rw [r_133_e (hx := hx), if_neg (by omega), if_neg (by omega), if_pos hu.2, if_pos hv.2]
  have L : ∀ (k : Nat) (q : Int), 60 - q = k → 0 ≤ q → (∀ i, 0 ≤ i → i < q → hi (16, 0, 0) (60 * u + i) = hi (16, 0, 0) (60 * v + i)) → mm_Wp 133 (mm_blk 133 3) [zR (15, 0, 0), zI u, zI v, zI q] [] (mm_z hi dh nx ns) Q := by
    intro k
    induction k with
    | zero =>
      intro q e1 e2 e3
      rw [r_133_3 (hx := hx)]
      split
      · rename_i h1
        rw [r_133_5 (hx := hx)]
        exact K1 (fun i _ _ => by rw [h1])
      · rw [if_neg (by omega), r_133_5 (hx := hx)]
        exact K1 (fun i a b => e3 i a (by omega))
    | succ k ih =>
      intro q e1 e2 e3
      rw [r_133_3 (hx := hx)]
      split
      · rename_i h1
        rw [r_133_5 (hx := hx)]
        exact K1 (fun i _ _ => by rw [h1])
      · rw [if_pos (by omega), mm_wi (z := u * 60) (by omega) (by omega), mm_wi (z := v * 60) (by omega) (by omega), mm_wi (z := u * 60 + q) (by omega) (by omega), mm_wi (z := v * 60 + q) (by omega) (by omega), mm_wi (z := q + 1) (by omega) (by omega), Int.mul_comm u 60, Int.mul_comm v 60]
        refine ⟨by omega, by omega, ?_⟩
        split
        · rename_i h1
          exact ih (q + 1) (by omega) (by omega) (fun i a b => by
            by_cases c : i = q
            · rw [c]; exact h1
            · exact e3 i a (by omega))
        · rename_i h1
          exact K0 ⟨q, e2, by omega, h1⟩
  exact L 60 0 (by omega) (by omega) (fun i a b => by omega)
end

