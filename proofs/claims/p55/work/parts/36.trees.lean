/-! a piece gets a new row; pieces are let go; trees are copied and cleared -/
theorem mm_upne' {α : Type} {f : mm_Id → Int → α} {x y : mm_Id} {j k : Int} {v : α} (h : ¬ (y = x ∧ k = j)) : mm_up f x j v y k = f y k := by simp only [mm_up, if_neg h]
section
variable {hi : mm_Id → Int → Int} {o r q : Int}
theorem kk_t17 : kk_tak hi o r (17, 0, 0) q = if q = r then 1 else hi (17, 0, 0) q := by
  unfold kk_tak
  rw [mm_cpx (mm_idf (by decide)), mm_upf (by decide)]
  by_cases c : q = r
  · rw [c, mm_ups, if_pos rfl]
  · rw [mm_upj c, mm_upf (by decide), mm_upf (by decide), if_neg c]
theorem kk_t18 : kk_tak hi o r (18, 0, 0) q = hi (18, 0, 0) q := by
  unfold kk_tak
  rw [mm_cpx (mm_idf (by decide)), mm_upf (by decide), mm_upf (by decide), mm_upf (by decide), mm_upf (by decide)]
theorem kk_t19 : kk_tak hi o r (19, 0, 0) q = if q = r then 1 else hi (19, 0, 0) q := by
  unfold kk_tak
  rw [mm_cpx (mm_idf (by decide)), mm_upf (by decide), mm_upf (by decide)]
  by_cases c : q = r
  · rw [c, mm_ups, if_pos rfl]
  · rw [mm_upj c, mm_upf (by decide), if_neg c]
theorem kk_t15 : kk_tak hi o r (15, 0, 0) 7 = hi (15, 0, 0) 7 + 1 := by
  unfold kk_tak
  rw [mm_cpx (mm_idf (by decide)), mm_ups]
theorem kk_t158 : kk_tak hi o r (15, 0, 0) 8 = r := by
  unfold kk_tak
  rw [mm_cpx (mm_idf (by decide)), mm_upj (by decide), mm_upf (by decide), mm_upf (by decide), mm_ups]
theorem kk_tf {x : mm_Id} {j : Int} (h : ¬ kk_ct x j) (h2 : ¬ (x = (15, 0, 0) ∧ j = 8)) (h3 : ¬ (x = (16, 0, 0) ∧ 60 * r ≤ j ∧ j < 60 * r + 60)) : kk_tak hi o r x j = hi x j := by
  unfold kk_ct at h
  unfold kk_tak mm_cp mm_up
  grind
theorem kk_t16 {i : Int} (h : 0 ≤ i ∧ i < 60) : kk_tak hi o r (16, 0, 0) (60 * r + i) = hi (16, 0, 0) (60 * o + i) := by
  unfold kk_tak
  rw [mm_cps (by omega) (by omega), mm_upf (by decide), mm_upf (by decide), mm_upf (by decide), mm_upf (by decide)]
  congr 1
  omega
end
/-- a piece of a live tree moves to a new row -/
theorem kk_move2 {hi : mm_Id → Int → Int} {t n p v o' : Int} (hR : kk_R hi) (ht : 0 ≤ t ∧ t < 13) (hn : mm_isN n) (hp : 0 ≤ p ∧ p < 36) (hv : 1 ≤ v ∧ v < 1701) (hfree : hi (19, 0, 0) v = 0) :
    kk_R (mm_up (kk_ltg (kk_tak hi o' v) (hi (27, t, n) p) 0) (27, t, n) p v) := by
  obtain ⟨R1, R2, R3, R4, R5, R6, R7, R8⟩ := hR
  have htT : mm_isT t := Or.inl ⟨ht.1, by omega⟩
  generalize ho : hi (27, t, n) p = o at *
  have ho2 := R1 t n p htT hn hp.1 hp.2
  rw [ho] at ho2
  have hpc : ∀ t2 n2 p2, kk_ltg (kk_tak hi o' v) o 0 (27, t2, n2) p2 = hi (27, t2, n2) p2 := fun t2 n2 p2 => by
    rw [kk_ltgf (by unfold kk_ct; simp), kk_tf (by unfold kk_ct; simp) (by simp) (by simp)]
  have hd : kc_d1 hi (mm_up (kk_ltg (kk_tak hi o' v) o 0) (27, t, n) p v) t n p := by
    intro t2 n2 p2 h
    rw [kk_upne h, hpc]
  generalize hh : mm_up (kk_ltg (kk_tak hi o' v) o 0) (27, t, n) p v = h2 at *
  have hv2 : h2 (27, t, n) p = v := by rw [← hh, mm_ups]
  have hcA : ∀ r, kc_A h2 r = kc_A hi r + ((if v = r then 1 else 0) - (if o = r then 1 else 0)) := fun r => by rw [kc_A1 hd ht hn hp, hv2, ho]
  have hcK : ∀ r, kc_K h2 r = kc_K hi r := fun r => kc_Ko hd ht r
  have hA1 : 1 ≤ kc_A hi o := by rw [← ho]; exact kc_Age ht hn hp
  have hAn := kc_Ann hi
  have hKn := kc_Knn hi
  have hv3 := R2 v hv.1 hv.2
  have hv4 : kc_A hi v = 0 ∧ kc_K hi v = 0 := by
    have q := hv3.2.2
    rw [hfree] at q
    have := hAn v
    have := hKn v
    split at q <;> omega
  have hov : o ≠ v := by intro e; rw [e] at hA1; omega
  have hg : ∀ x j, ¬ x.1 = 27 → h2 x j = kk_ltg (kk_tak hi o' v) o 0 x j := fun x j hx => by
    rw [← hh, mm_upx (by intro q; exact hx (by rw [q]))]
  refine ⟨?_, ?_, ?_, ?_, ?_, ?_, ?_, ?_⟩
  · intro t2 n2 p2 a1 a2 a3 a4
    by_cases c : t2 = t ∧ n2 = n ∧ p2 = p
    · obtain ⟨rfl, rfl, rfl⟩ := c
      rw [hv2]; omega
    · rw [hd t2 n2 p2 c]; exact R1 t2 n2 p2 a1 a2 a3 a4
  · intro r r1 r2
    obtain ⟨q1, q2, q3⟩ := R2 r r1 r2
    have z1 := hAn r
    have z2 := hKn r
    have q5 : 1 ≤ o → hi (17, 0, 0) o = kc_A hi o ∧ hi (18, 0, 0) o = kc_K hi o := fun v1 => ⟨(R2 o v1 ho2.2).1, (R2 o v1 ho2.2).2.1⟩
    rw [hg _ _ (by simp), hg _ _ (by simp), hg _ _ (by simp), hcA, hcK, kk_l17 ho2, kk_l18, kk_l19 ho2, kk_t17, kk_t17, kk_t18, kk_t18, kk_t19, q1, q2, q3]
    clear hg hcA hcK hd hpc hh R1 R2 R3 hAn hKn q1 q2 q3 ho
    by_cases e1 : r = o
    · subst e1
      have q5 := q5 r1
      simp [hov, Ne.symm hov, r1, q5]
      grind
    · by_cases e2 : r = v
      · subst e2
        simp [e1, Ne.symm e1, r1, hv4]
      · simp [e1, e2, Ne.symm e1, Ne.symm e2]
  · rw [hg _ _ (by simp)]
    have zv : (if 0 < kc_A h2 v then (1 : Int) else 0) - (if 0 < kc_A hi v then 1 else 0) = 1 := by
      rw [hcA, if_pos rfl, if_neg hov, hv4.1]; rfl
    by_cases o0 : o = 0
    · have e := kk_hd1 (hi := hi) (h2 := h2) (j := v) hv (fun r a1 a2 a3 => by rw [hcA, if_neg (by omega), if_neg (by omega)]; omega)
      rw [e, zv, ← R3, kk_l15 ho2, kk_t15, if_neg (by omega)]
      omega
    · have o1 : 1 ≤ o := by omega
      have e := kk_hd2 (hi := hi) (h2 := h2) (i := v) (j := o) hv ⟨o1, ho2.2⟩ (Ne.symm hov) (fun r a1 a2 a3 a4 => by rw [hcA, if_neg (by omega), if_neg (by omega)]; omega)
      rw [e, zv, hcA, ← R3, if_neg (Ne.symm hov), if_pos rfl, kk_l15 ho2, kk_t15, kk_t17, if_neg hov, (R2 o o1 ho2.2).1]
      clear hg hcA hcK hd hpc hh R1 R2 R3 hAn hKn ho e zv
      simp [o1]
      grind
  · rw [hg _ _ (by simp), kk_ltgf (by unfold kk_ct; simp), kk_t158]; omega
  · rw [hg _ _ (by simp), kk_ltgf (by unfold kk_ct; simp), kk_t158]; omega
  · rw [hg _ _ (by simp), kk_l17 ho2, kk_t17, R6, if_neg (by omega), if_neg (by omega)]; rfl
  · rw [hg _ _ (by simp), kk_l18, kk_t18, R7]
  · rw [hg _ _ (by simp), kk_l19 ho2, kk_t19, R8, if_neg (by omega), if_neg (by omega)]
/-- a piece is let go -/
theorem kk_drop1 {hi : mm_Id → Int → Int} {t n p : Int} (hR : kk_R hi) (ht : mm_isT t) (hn : mm_isN n) (hp : 0 ≤ p ∧ p < 36) (hne : hi (27, t, n) p ≠ 0) : kk_R (mm_up (kk_ltg hi (hi (27, t, n) p) (kk_as t)) (27, t, n) p 0) := by
  have e : kk_sha hi 0 (kk_as t) = hi := by unfold kk_sha; rw [if_pos (by omega)]
  have := kk_move (v := 0) (a := kk_as t) hR ht hn hp (by omega) rfl (Or.inl rfl) (Ne.symm hne)
  rw [e] at this
  exact this
theorem kk_ltgup {hi : mm_Id → Int → Int} {t n p v o a : Int} : kk_ltg (mm_up hi (27, t, n) p v) o a = mm_up (kk_ltg hi o a) (27, t, n) p v := by
  funext x j
  unfold kk_ltg
  rw [mm_upf (by decide), mm_upf (by decide), mm_upf (by decide)]
  by_cases c : o < 1 ∨ 1701 ≤ o
  · rw [if_pos c, if_pos c]
  · rw [if_neg c, if_neg c]
    by_cases c2 : a = 0
    · rw [if_pos c2, if_pos c2]
      unfold mm_up
      grind
    · rw [if_neg c2, if_neg c2]
      unfold mm_up
      grind
section
variable {hi : mm_Id → Int → Int} {dh : Int → Int} {nx ns : Int} {Q : mm_V → mm_H → Prop} {t n t1 n1 : Int}
/-- what a node's blocks lie in -/
def kk_bk (t n : Int) (x : mm_Id) (j : Int) : Prop := x = (27, t, n) ∧ 0 ≤ j ∧ j < 36 ∨ x = (24, t, n) ∧ j = 9
/-- pieces from one on are let go -/
theorem s109 (ht : mm_isT t) (hn : mm_isN n) (hx : 5275 ≤ nx) {w : Int} (hw : 0 ≤ w ∧ w ≤ 36) (hR : kk_R hi) (hb : hi (24, t, n) 9 = kk_nz (hi (27, t, n)))
    (K : ∀ h2, kk_R h2 → (∀ p, 0 ≤ p → p < 36 → h2 (27, t, n) p = if p < w then hi (27, t, n) p else 0) → h2 (24, t, n) 9 = kk_nz (h2 (27, t, n)) → (∀ x j, ¬ kk_ct x j → ¬ kk_bk t n x j → h2 x j = hi x j) → Q zU (mm_z h2 dh nx ns)) :
    mm_Cl 109 [zR (24, t, n), zI w, zR (15, 0, 0), zI (kk_as t)] (mm_z hi dh nx ns) Q := by
  have loop : ∀ (k : Nat) (i : Int) (h : mm_Id → Int → Int), 36 - i = k → w ≤ i → kk_R h → (∀ p, 0 ≤ p → p < 36 → h (27, t, n) p = if p < w ∨ i ≤ p then hi (27, t, n) p else 0) → h (24, t, n) 9 = kk_nz (h (27, t, n)) → (∀ x j, ¬ kk_ct x j → ¬ kk_bk t n x j → h x j = hi x j) →
      mm_Wp 109 (mm_blk 109 1) [zR (24, t, n), zI w, zR (15, 0, 0), zI (kk_as t), zI i] [] (mm_z h dh nx ns) Q := by
    intro k
    induction k with
    | zero =>
      intro i h e1 e2 a1 a2 a3 a4
      have q : mm_Wp 109 (mm_blk 109 3) [zR (24, t, n), zI w, zR (15, 0, 0), zI (kk_as t), zI i] [] (mm_z h dh nx ns) Q := by
        rw [r_109_3 (hx := hx)]
        refine K h a1 (fun p b1 b2 => ?_) a3 a4
        rw [a2 p b1 b2]
        by_cases c : p < w
        · rw [if_pos (Or.inl c), if_pos c]
        · rw [if_neg (by omega), if_neg c]
      rw [r_109_1 (htx0 := ht) (hnx0 := hn) (hx := hx)]
      split
      · rw [if_neg (by omega)]; exact q
      · exact q
    | succ k ih =>
      intro i h e1 e2 a1 a2 a3 a4
      rw [r_109_1 (htx0 := ht) (hnx0 := hn) (hx := hx)]
      split
      · rename_i h1
        rw [if_pos (by omega)]
        refine ⟨by omega, ?_⟩
        split
        · rename_i h2
          rw [r_109_2 (htx0 := ht) (hnx0 := hn) (hx := hx), mm_wi (by omega) (by omega)]
          refine ih (i + 1) h (by omega) (by omega) a1 (fun p b1 b2 => ?_) a3 a4
          by_cases c : p = i
          · rw [c, h2, if_neg (by omega)]
          · rw [a2 p b1 b2]
            by_cases c2 : p < w ∨ i ≤ p
            · rw [if_pos c2, if_pos (by omega)]
            · rw [if_neg c2, if_neg (by omega)]
        · rename_i h2
          refine ⟨by omega, s129 hx (kk_smR a1) ?_⟩
          rw [mm_pU, r_109_1_18 (htx0 := ht) (hnx0 := hn) (hx := hx)]
          refine ⟨by omega, ?_⟩
          have u1 := kk_nznn (h (27, t, n))
          have u2 := kk_nzub (h (27, t, n))
          have u3 : kk_ltg h (h (27, t, n) i) (kk_as t) (24, t, n) 9 = h (24, t, n) 9 := kk_ltgf (by unfold kk_ct; simp)
          rw [r_109_2 (htx0 := ht) (hnx0 := hn) (hx := hx), mm_wi (z := i + 1) (by omega) (by omega), mm_upf (by decide), u3, mm_wi (by omega) (by omega)]
          have pcs : ∀ p, mm_up (mm_up (kk_ltg h (h (27, t, n) i) (kk_as t)) (27, t, n) i 0) (24, t, n) 9 (h (24, t, n) 9 - 1) (27, t, n) p = if p = i then 0 else h (27, t, n) p := by
            intro p
            rw [mm_upf (by decide)]
            by_cases c : p = i
            · rw [c, mm_ups, if_pos rfl]
            · rw [mm_upj c, if_neg c, kk_ltgf (by unfold kk_ct; simp)]
          refine ih (i + 1) _ (by omega) (by omega) (kk_Rup (Or.inl rfl) (kk_drop1 a1 ht hn (by omega) h2)) (fun p b1 b2 => ?_) ?_ (fun x j b1 b2 => ?_)
          · rw [pcs]
            by_cases c : p = i
            · rw [if_pos c, if_neg (by omega)]
            · rw [if_neg c, a2 p b1 b2]
              by_cases c2 : p < w ∨ i ≤ p
              · rw [if_pos c2, if_pos (by omega)]
              · rw [if_neg c2, if_neg (by omega)]
          · have e4 := kk_nz1 (f := h (27, t, n)) (g := mm_up (mm_up (kk_ltg h (h (27, t, n) i) (kk_as t)) (27, t, n) i 0) (24, t, n) 9 (h (24, t, n) 9 - 1) (27, t, n)) (p := i) (by omega) (by omega) (fun q hq => by rw [pcs, if_neg hq])
            rw [mm_ups, e4, pcs, if_pos rfl, if_pos rfl, if_neg h2, a3]
            omega
          · unfold kk_bk at b2
            rw [mm_upne' (by intro q; exact b2 (Or.inr q)), mm_upne' (by intro q; exact b2 (Or.inl ⟨q.1, by omega⟩)), kk_ltgf b1]
            exact a4 x j b1 (by unfold kk_bk; exact b2)
      · rename_i h1
        rw [r_109_3 (hx := hx)]
        refine K h a1 (fun p b1 b2 => ?_) a3 a4
        have z := kk_nzI (f := h (27, t, n)) (by omega) b1 b2
        split
        · rename_i c
          rw [a2 p b1 b2, if_pos (Or.inl c)]
        · exact z
  rw [r_109_e (htx0 := ht) (hnx0 := hn) (hx := hx), show (if 0 < w then w else 0) = w by split <;> omega]
  exact loop (36 - w).toNat w hi (by omega) (by omega) hR (fun p a b => by rw [if_pos (by omega)]) hb (fun x j _ _ => rfl)
end

