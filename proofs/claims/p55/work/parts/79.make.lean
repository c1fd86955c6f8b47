/-! the calls of both: make, makeLink -/
section
variable {h : mm_Id → Int → Int} {dh : Int → Int} {nx ns : Int} {Q : mm_V → mm_H → Prop}
/-- a node made here, with its entry -/
theorem s67 (hx : 5275 ≤ nx) {s d x k : Int} (hs : mm_isD s) (hd : 1 ≤ d ∧ d < 37) (kn : h (24, s, d) 0 ≠ 0) (W : kk_NW h s d)
    (K2 : h (24, s, d) 0 ≠ 2 → Q (zI (-3)) (mm_z h dh nx ns)) (K5 : h (24, s, d) 0 = 2 → ¬ kk_mc (h (1, 0, 0) 12) (h (24, s, d) 2) (h (24, s, d) 3) → Q (zI (-5)) (mm_z h dh nx ns))
    (K3 : h (24, s, d) 0 = 2 → kk_mc (h (1, 0, 0) 12) (h (24, s, d) 2) (h (24, s, d) 3) → ∀ p, 0 ≤ p → p < h (24, s, d) 6 → h (25, s, d) p = x → Q (zI (-3)) (mm_z h dh nx ns))
    (K4 : h (24, s, d) 0 = 2 → kk_mc (h (1, 0, 0) 12) (h (24, s, d) 2) (h (24, s, d) 3) → (∀ p, 0 ≤ p → p < h (24, s, d) 6 → ¬ h (25, s, d) p = x) → (¬ h (24, s, d) 6 < 24 ∨ ∀ j, 1 ≤ j → j < 37 → h (24, s, j) 0 ≠ 0) → Q (zI (-4)) (mm_z h dh nx ns))
    (K : h (24, s, d) 0 = 2 → kk_mc (h (1, 0, 0) 12) (h (24, s, d) 2) (h (24, s, d) 3) → (∀ p, 0 ≤ p → p < h (24, s, d) 6 → ¬ h (25, s, d) p = x) → h (24, s, d) 6 < 24 → ∀ m, 1 ≤ m → m < 37 → h (24, s, m) 0 = 0 → (∀ j, 1 ≤ j → j < m → h (24, s, j) 0 ≠ 0) → ∀ p, 0 ≤ p → p ≤ h (24, s, d) 6 → (∀ i, 0 ≤ i → i < p → h (25, s, d) i < x) → (p < h (24, s, d) 6 → x ≤ h (25, s, d) p) → ∀ h2 : mm_Id → Int → Int, (h2 (24, s, m) 0 = k ∧ h2 (24, s, m) 1 = 0 ∧ h2 (24, s, m) 2 = h (1, 0, 0) 12 ∧ h2 (24, s, m) 3 = 61 ∧ h2 (24, s, m) 4 = (if k = 1 then 0 else d) ∧ h2 (24, s, m) 5 = 1 ∧ h2 (24, s, m) 6 = 0 ∧ h2 (24, s, m) 11 = 0 ∧ h2 (24, s, m) 14 = 0) →
      (∀ i, h2 (25, s, d) i = kk_ins (h (25, s, d)) p (h (24, s, d) 6) x i ∧ h2 (26, s, d) i = kk_ins (h (26, s, d)) p (h (24, s, d) 6) m i) → h2 (24, s, d) 6 = h (24, s, d) 6 + 1 → (∀ y j, ¬ (y = (24, s, m) ∧ kk_F j) → y ≠ (25, s, d) → y ≠ (26, s, d) → ¬ (y = (24, s, d) ∧ j = 6) → h2 y j = h y j) → Q (zI m) (mm_z h2 dh nx ns)) :
    mm_Cl 67 [zR (1, 0, 0), zR (31, s, 0), zI d, zI x, zI k] (mm_z h dh nx ns) Q := by
  have hs2 := hs
  unfold mm_isD at hs2
  have sT : mm_isT s := by unfold mm_isT; omega
  have dN : mm_isN d := ⟨by omega, hd.2⟩
  have c6 := W.2.1
  have srt := W.2.2.2.2.2.2.2.2.2.2.2.1
  rw [r_67_e (htx1 := hs) (hx := hx)]
  refine s157 sT hx (fun _ _ => ?_) (fun q => absurd ⟨hd, kn⟩ q)
  rw [mm_pR, r_67_0_4a (htx1 := hs) (hty0 := sT) (hny0 := dN) (hx := hx)]
  by_cases kd : h (24, s, d) 0 = 2
  · rw [if_pos kd]
    refine s61 sT dN hx (fun w => ?_) (fun w => ?_)
    · rw [mm_pI, r_67_2_3 (htx1 := hs) (htx5 := sT) (hnx5 := dN) (hx := hx), if_neg (by decide)]
      refine s99 sT dN hx c6 srt (fun p p0 p1 p2 => ?_) (fun ab => ?_)
      · have := (W.2.2.2.2.2.2.2.2.2.2.2.2.2.1 p p0 p1).2.1
        rw [mm_pI, r_67_3_3 (htx1 := hs) (htx5 := sT) (hnx5 := dN) (hx := hx), if_neg (by omega)]
        exact K3 kd w p p0 p1 p2
      · rw [mm_pI, r_67_3_3 (htx1 := hs) (htx5 := sT) (hnx5 := dN) (hx := hx), if_pos rfl]
        refine s158 sT hx (fun m m0 m1 m2 m3 => ?_) (fun q => ?_)
        · rw [mm_pI, r_67_4_3 (htx1 := hs) (htx5 := sT) (hnx5 := dN) (hx := hx)]
          by_cases c24 : h (24, s, d) 6 < 24
          · have mN : mm_isN m := ⟨by omega, m1⟩
            have dm : d ≠ m := fun q => kn (by rw [q]; exact m2)
            rw [if_pos c24, if_neg (by omega)]
            refine ⟨⟨by omega, m1⟩, ?_⟩
            refine s95 sT mN hx (fun g gf ge => ?_)
            rw [mm_pU, r_67_6_11 (htx5 := sT) (hnx5 := dN) (htx7 := sT) (hnx7 := mN) (hx := hx)]
            have fin : ∀ v, (v = if k = 1 then 0 else d) → mm_Wp 67 (mm_blk 67 8) [zR (1, 0, 0), zR (31, s, 0), zI d, zI x, zI k, zR (24, s, d), zI m, zR (24, s, m)] [zI v, zR (24, s, m)] (mm_z (mm_up g (24, s, m) 5 1) dh nx ns) Q := fun v hv => by
              rw [r_67_8 (htx5 := sT) (hnx5 := dN) (hty1 := sT) (hny1 := mN) (hx := hx)]
              obtain ⟨G, hG⟩ : ∃ G, G = mm_up (mm_up g (24, s, m) 5 1) (24, s, m) 4 v := ⟨_, rfl⟩
              rw [← hG]
              have eG : ∀ y j, ¬ (y = (24, s, m) ∧ kk_F j) → G y j = h y j := fun y j q => by
                rw [hG, mm_upne' (fun w => q ⟨w.1, by rw [w.2]; exact kk_F4⟩), mm_upne' (fun w => q ⟨w.1, by rw [w.2]; exact kk_F5⟩)]
                exact ge y j q
              have gd : G (24, s, d) 6 = h (24, s, d) 6 := eG _ _ (by simp; omega)
              have g25 : ∀ i, G (25, s, d) i = h (25, s, d) i := fun i => eG _ _ (by simp)
              refine s100 sT dN hx (by rw [gd]; omega) (fun p p0 p1 p2 p3 => ?_)
              rw [gd] at p1 p3
              rw [mm_pU, r_67_8_5 (hx := hx), gd, kk_shuC (by simp) (by simp)]
              have sX := fun i => kk_shuX (f := G) (X := (25, s, d)) (Y := (26, s, d)) (W := (24, s, d)) (p := p) (c := h (24, s, d) 6) (x := x) (m := m) (j := 6) (v := h (24, s, d) 6 + 1) (o := 0) (by simp) (by simp) i
              have sY := fun i => kk_shuY (f := G) (X := (25, s, d)) (Y := (26, s, d)) (W := (24, s, d)) (p := p) (c := h (24, s, d) 6) (x := x) (m := m) (j := 6) (v := h (24, s, d) 6 + 1) (o := 0) (by simp) (by simp) i
              have sW := kk_shuW (f := G) (X := (25, s, d)) (Y := (26, s, d)) (W := (24, s, d)) (p := p) (c := h (24, s, d) 6) (x := x) (m := m) (j := 6) (v := h (24, s, d) 6 + 1) (o := 0) (by simp) (by simp)
              have sO := fun y j (a1 : ¬ (y = (24, s, d) ∧ j = 6)) (a2 : y ≠ (25, s, d)) (a3 : y ≠ (26, s, d)) => kk_shuO (f := G) (X := (25, s, d)) (Y := (26, s, d)) (W := (24, s, d)) (z := y) (i := j) (p := p) (c := h (24, s, d) 6) (x := x) (m := m) (j := 6) (v := h (24, s, d) 6 + 1) (o := 0) (fun q => a2 q.1) (fun q => a3 q.1) a1 p1
              simp only [Int.zero_add] at sX sY sW sO
              have cm : ∀ j, mm_up (mm_up (mm_up (mm_shu G (25, s, d) (26, s, d) p (h (24, s, d) 6)) (24, s, d) 6 (h (24, s, d) 6 + 1)) (25, s, d) p x) (26, s, d) p m (24, s, m) j = G (24, s, m) j := fun j => sO _ _ (by simp; omega) (by simp) (by simp)
              refine K kd w ab c24 m m0 m1 m2 m3 p p0 p1 (fun i i0 i1 => by rw [← g25]; exact p2 i i0 i1) (fun q => by rw [← g25]; exact p3 q) _ ?_ (fun i => ⟨?_, ?_⟩) sW (fun y j a1 a2 a3 a4 => by rw [sO y j a4 a2 a3]; exact eG y j a1)
              · obtain ⟨q0, q1, q2, q3, q4, q5, q6, q7, q8⟩ := gf
                rw [cm, cm, cm, cm, cm, cm, cm, cm, cm, hG, mm_upj (by decide), mm_upj (by decide), mm_upj (by decide), mm_upj (by decide), mm_upj (by decide), mm_upj (by decide), mm_upj (by decide), mm_upj (by decide), mm_ups, mm_upj (by decide), mm_ups, mm_upj (by decide), mm_upj (by decide), mm_upj (by decide), mm_upj (by decide), mm_upj (by decide), mm_upj (by decide)]
                exact ⟨q0, q1, q2, q3, hv, rfl, q6, q7, q8⟩
              · rw [sX i, show (fun i => G (25, s, d) i) = h (25, s, d) from funext g25]
              · rw [sY i, show (fun i => G (26, s, d) i) = h (26, s, d) from funext (fun i => eG _ _ (by simp))]
            split
            · rename_i k1
              exact fin 0 (by rw [if_pos k1])
            · rename_i k1
              exact fin d (by rw [if_neg k1])
          · rw [if_neg c24, r_67_5 (hx := hx)]
            exact K4 kd w ab (Or.inl c24)
        · rw [mm_pI, r_67_4_3 (htx1 := hs) (htx5 := sT) (hnx5 := dN) (hx := hx)]
          have b5 : mm_Wp 67 (mm_blk 67 5) [zR (1, 0, 0), zR (31, s, 0), zI d, zI x, zI k, zR (24, s, d), zI 0, zU] [] (mm_z h dh nx ns) Q := by
            rw [r_67_5 (hx := hx)]
            exact K4 kd w ab (Or.inr q)
          split
          · rw [if_pos rfl]; exact b5
          · exact b5
    · rw [mm_pI, r_67_2_3 (htx1 := hs) (htx5 := sT) (hnx5 := dN) (hx := hx), if_pos rfl]
      exact K5 kd w
  · rw [if_neg kd, r_67_1 (hx := hx)]
    exact K2 kd
end

section
variable {g : mm_Id → Int → Int} {dh : Int → Int} {nx ns : Int} {Q : mm_V → mm_H → Prop}
theorem m184y (hy : 10581 ≤ nx) {s n x c p : Int} (hs : 0 ≤ s ∧ s < 29) (hn : 1 ≤ n ∧ n < 37) (ec : g (44, 0, 0) (36 * s + n - 1) = c) (hc : 0 ≤ c ∧ c ≤ 24) (ex : ∃ e, (0 ≤ e ∧ e < c) ∧ g (45, 0, 0) (24 * (36 * s + n - 1) + e) = x) (K : ∀ e, 0 ≤ e → e < c → g (45, 0, 0) (24 * (36 * s + n - 1) + e) = x → Q (zI e) (mm_z g dh nx ns)) : mm_Cl 184 [zR (40, 0, 0), zI s, zI n, zI x] (mm_z g dh nx ns) Q := by
  refine m184 hy hs hn (by omega) (fun e e0 e1 e2 => K e e0 (by omega) e2) (fun q => ?_)
  obtain ⟨e, he, w⟩ := ex
  exact absurd w (q e he.1 (by omega))
theorem m184n (hy : 10581 ≤ nx) {s n x c : Int} (hs : 0 ≤ s ∧ s < 29) (hn : 1 ≤ n ∧ n < 37) (ec : g (44, 0, 0) (36 * s + n - 1) = c) (hc : 0 ≤ c ∧ c ≤ 24) (ab : ∀ e, 0 ≤ e → e < c → ¬ g (45, 0, 0) (24 * (36 * s + n - 1) + e) = x) (K : Q (zI (-1)) (mm_z g dh nx ns)) : mm_Cl 184 [zR (40, 0, 0), zI s, zI n, zI x] (mm_z g dh nx ns) Q :=
  m184 hy hs hn (by omega) (fun e e0 e1 e2 => absurd e2 (ab e e0 (by omega))) (fun _ => K)
/-- the first free number, there -/
theorem m213f (hy : 10581 ≤ nx) {s d x k fr m : Int} {v7 v8 : mm_V} (hs : 0 ≤ s ∧ s < 5) (hm : 1 ≤ m ∧ m ≤ 37) (mf : ∀ j, 1 ≤ j → j < m → 0 < g (41, 0, 0) (36 * s + j - 1)) (mz : m < 37 → ¬ 0 < g (41, 0, 0) (36 * s + m - 1)) (K : mm_Wp 213 (mm_blk 213 6) [zR (40, 0, 0), zI s, zI d, zI x, zI k, zI fr, zI m, v7, v8] [] (mm_z g dh nx ns) Q) :
    mm_Wp 213 (mm_blk 213 5) [zR (40, 0, 0), zI s, zI d, zI x, zI k, zI fr, zI 1, v7, v8] [] (mm_z g dh nx ns) Q := by
  have Lp : ∀ (e : Nat) (j : Int), m - j = e → 1 ≤ j → mm_Wp 213 (mm_blk 213 5) [zR (40, 0, 0), zI s, zI d, zI x, zI k, zI fr, zI j, v7, v8] [] (mm_z g dh nx ns) Q := by
    intro e
    induction e with
    | zero =>
      intro j e1 e2
      have e3 : j = m := by omega
      subst e3
      rw [r_213_5 (hy := hy)]
      by_cases z : 36 < j
      · rw [if_pos z]; exact K
      · rw [if_neg z]
        refine m175 hy (by omega) (by omega) ?_
        rw [mm_pI, r_213_5_8 (hy := hy), if_neg (mz (by omega))]
        exact ⟨by omega, K⟩
    | succ e ih =>
      intro j e1 e2
      rw [r_213_5 (hy := hy), if_neg (by omega)]
      refine m175 hy (by omega) (by omega) ?_
      rw [mm_pI, r_213_5_8 (hy := hy), if_pos (mf j e2 (by omega)), mm_wi (by omega) (by omega)]
      exact ⟨by omega, ih (j + 1) (by omega) (by omega)⟩
  exact Lp (m - 1).toNat 1 (by omega) (by omega)
/-- a node made there, as far as the act -/
theorem m213g (hy : 10581 ≤ nx) {s d x k fr m c : Int} {v7 v8 : mm_V} (hs : 0 ≤ s ∧ s < 5) (hd : 1 ≤ d ∧ d < 37) (hm : 1 ≤ m ∧ m < 37) (dm : d ≠ m) (ec : g (44, 0, 0) (36 * s + d - 1) = c) (hc : 0 ≤ c ∧ c < 24) (hfr : fr = 0 ∨ fr = 1) (h30 : 0 ≤ g (40, 0, 0) 30 ∧ g (40, 0, 0) 30 ≤ 8)
    (K : ∀ p gm, 0 ≤ p → p ≤ c → (∀ i, p ≤ i → i < c → x < g (45, 0, 0) (24 * (36 * s + d - 1) + i)) → (0 < p → g (45, 0, 0) (24 * (36 * s + d - 1) + (p - 1)) ≤ x) → (gm (41, 0, 0) (36 * s + m - 1) = k ∧ gm (42, 0, 0) (36 * s + m - 1) = (if k = 3 then g (40, 0, 0) 30 else 0) ∧ gm (44, 0, 0) (36 * s + m - 1) = 0 ∧ gm (49, 0, 0) (36 * s + m - 1) = 0 ∧ gm (47, 0, 0) (36 * s + m - 1) = g (40, 0, 0) 29 ∧ gm (48, 0, 0) (36 * s + m - 1) = 61 ∧ gm (53, 0, 0) (36 * s + m - 1) = fr) → (∀ i, 0 ≤ i → i < 36 → gm (43, 0, 0) (36 * (36 * s + m - 1) + i) = 0) → (k = 3 → ∀ i, 0 ≤ i → i < g (40, 0, 0) 30 → gm (52, 0, 0) (8 * (36 * s + m - 1) + i) = g (65, 0, 0) i) →
      gm (44, 0, 0) (36 * s + d - 1) = c + 1 → (∀ i, 0 ≤ i → i < c + 1 → gm (45, 0, 0) (24 * (36 * s + d - 1) + i) = kk_ins (fun i => g (45, 0, 0) (24 * (36 * s + d - 1) + i)) p c x i ∧ gm (46, 0, 0) (24 * (36 * s + d - 1) + i) = kk_ins (fun i => g (46, 0, 0) (24 * (36 * s + d - 1) + i)) p c m i) →
      (∀ y j, ¬ kk_mx (36 * s + m - 1) y j → ¬ (y = (44, 0, 0) ∧ j = 36 * s + d - 1) → ¬ ((y = (45, 0, 0) ∨ y = (46, 0, 0)) ∧ 24 * (36 * s + d - 1) ≤ j ∧ j < 24 * (36 * s + d - 1) + 24) → gm y j = g y j) → mm_Cl 209 [zR (40, 0, 0)] (mm_z gm dh nx ns) (fun r h3 => r = zU ∧ ∃ g2, h3 = mm_z g2 dh nx ns ∧ Q (zI m) h3)) :
    mm_Wp 213 (mm_blk 213 6) [zR (40, 0, 0), zI s, zI d, zI x, zI k, zI fr, zI m, v7, v8] [] (mm_z g dh nx ns) Q := by
  rw [r_213_6 (hy := hy)]
  refine m175 hy (by omega) hd ?_
  rw [mm_pI, r_213_6_5 (hy := hy), if_neg (by omega), if_neg (by omega)]
  refine ⟨by omega, ?_⟩
  refine m175 hy (by omega) hm ?_
  rw [mm_pI, r_213_8_3 (hy := hy)]
  generalize hM : 36 * s + m - 1 = M at *
  generalize hD : 36 * s + d - 1 = D at *
  have MD : D ≠ M := by omega
  have rM : 0 ≤ M ∧ M < 1044 := by omega
  refine m180 hy rM (fun g1 z1 z2 z3 => ?_)
  rw [mm_pU, r_213_8_7 (hy := hy)]
  have g1f : ∀ y j, ¬ kk_mx M y j → g1 y j = g y j := fun y j q => z3 y j (by
    rintro ⟨w, w2⟩
    exact q (Or.inl ⟨by rcases w with w | w | w | w <;> rw [w] <;> simp [kk_mf], w2⟩)) (by
    rintro ⟨w, w2⟩
    exact q (Or.inr (Or.inl ⟨by rw [w], w2⟩)))
  have g140 : ∀ j, g1 (40, 0, 0) j = g (40, 0, 0) j := fun j => g1f _ _ (kk_mx6 (k := 0) (by omega))
  -- behind the path, whatever it is
  have tail : ∀ (G : mm_Id → Int → Int) (v : mm_V), (G (41, 0, 0) M = k ∧ G (42, 0, 0) M = (if k = 3 then g (40, 0, 0) 30 else 0) ∧ G (44, 0, 0) M = 0 ∧ G (49, 0, 0) M = 0 ∧ G (47, 0, 0) M = g (40, 0, 0) 29 ∧ G (48, 0, 0) M = 61 ∧ G (53, 0, 0) M = fr) → (∀ i, 0 ≤ i → i < 36 → G (43, 0, 0) (36 * M + i) = 0) → (k = 3 → ∀ i, 0 ≤ i → i < g (40, 0, 0) 30 → G (52, 0, 0) (8 * M + i) = g (65, 0, 0) i) → (∀ y j, ¬ kk_mx M y j → G y j = g y j) → mm_Wp 213 (mm_blk 213 10) [zR (40, 0, 0), zI s, zI d, zI x, zI k, zI fr, zI m, zI M, v] [] (mm_z G dh nx ns) Q := fun G v a1 a2 a3 a4 => by
    rw [r_213_10 (hy := hy)]
    have cD : G (44, 0, 0) D = c := by rw [a4 _ _ (kk_mx5 MD kk_f44)]; exact ec
    have e45 : ∀ (f : Nat) i, (f = 45 ∨ f = 46) → 0 ≤ i → i < 24 → G (f, 0, 0) (24 * D + i) = g (f, 0, 0) (24 * D + i) := fun f i hf i0 i1 => a4 _ _ (kk_mx4 MD hf ⟨i0, i1⟩)
    refine m186 hy (by omega) hd (by rw [hD, cD]; omega) (fun p p0 p1 p2 p3 => ?_)
    rw [hD] at p1 p2 p3 ⊢
    rw [cD] at p1 p2 ⊢
    rw [mm_pU, r_213_10_6 (hy := hy), kk_shuC (by simp) (by simp)]
    have sX := fun i => kk_shuX (f := G) (X := (45, 0, 0)) (Y := (46, 0, 0)) (W := (44, 0, 0)) (p := p) (c := c) (x := x) (m := m) (j := D) (v := c + 1) (o := 24 * D) (by simp) (by simp) i
    have sY := fun i => kk_shuY (f := G) (X := (45, 0, 0)) (Y := (46, 0, 0)) (W := (44, 0, 0)) (p := p) (c := c) (x := x) (m := m) (j := D) (v := c + 1) (o := 24 * D) (by simp) (by simp) i
    have sW := kk_shuW (f := G) (X := (45, 0, 0)) (Y := (46, 0, 0)) (W := (44, 0, 0)) (p := p) (c := c) (x := x) (m := m) (j := D) (v := c + 1) (o := 24 * D) (by simp) (by simp)
    have sO := fun y j (q1 : ¬ (y = (44, 0, 0) ∧ j = D)) (q2 : ¬ ((y = (45, 0, 0) ∨ y = (46, 0, 0)) ∧ 24 * D ≤ j ∧ j < 24 * D + 24)) => kk_shuO (f := G) (X := (45, 0, 0)) (Y := (46, 0, 0)) (W := (44, 0, 0)) (z := y) (i := j) (p := p) (c := c) (x := x) (m := m) (j := D) (v := c + 1) (o := 24 * D) (fun q => q2 ⟨Or.inl q.1, by omega⟩) (fun q => q2 ⟨Or.inr q.1, by omega⟩) q1 p1
    have oM : ∀ (f : Nat) j, (f = 44 → j ≠ D) → f ≠ 45 → f ≠ 46 → mm_up (mm_up (mm_up (mm_shu G (45, 0, 0) (46, 0, 0) (24 * D + p) (24 * D + c)) (44, 0, 0) D (c + 1)) (45, 0, 0) (24 * D + p) x) (46, 0, 0) (24 * D + p) m (f, 0, 0) j = G (f, 0, 0) j := fun f j q q2 q3 => sO _ _ (by simp; omega) (by simp; omega)
    refine mm_Clm (fun r h3 q => ?_) (K p _ p0 p1 (fun i i0 i1 => by rw [← e45 45 i (Or.inl rfl) (by omega) (by omega)]; exact p2 i i0 i1) (fun q => by rw [← e45 45 (p - 1) (Or.inl rfl) (by omega) (by omega)]; exact p3 q) ?_ (fun i i0 i1 => ?_) (fun q i i0 i1 => ?_) sW (fun i i0 i1 => ⟨?_, ?_⟩) (fun y j q1 q2 q3 => by rw [sO y j q2 q3]; exact a4 y j q1))
    · obtain ⟨rfl, g2, rfl, q⟩ := q
      rw [mm_pU, r_213_10_8 (hy := hy)]
      exact q
    · rw [oM 41 _ (by omega) (by decide) (by decide), oM 42 _ (by omega) (by decide) (by decide), oM 44 _ (fun _ => Ne.symm MD) (by decide) (by decide), oM 49 _ (by omega) (by decide) (by decide), oM 47 _ (by omega) (by decide) (by decide), oM 48 _ (by omega) (by decide) (by decide), oM 53 _ (by omega) (by decide) (by decide)]
      exact a1
    · rw [oM 43 _ (by omega) (by decide) (by decide)]; exact a2 i i0 i1
    · rw [oM 52 _ (by omega) (by decide) (by decide)]; exact a3 q i i0 i1
    · rw [sX i]
      exact kk_insc (fun j j0 j1 => e45 45 j (Or.inl rfl) j0 (by omega)) p0 p1 i0 i1
    · rw [sY i]
      exact kk_insc (fun j j0 j1 => e45 46 j (Or.inr rfl) j0 (by omega)) p0 p1 i0 i1
  simp only [mm_upf (show ¬ (40 : Nat) = 41 by decide), mm_upf (show ¬ (40 : Nat) = 47 by decide), mm_upf (show ¬ (40 : Nat) = 48 by decide), mm_upf (show ¬ (40 : Nat) = 53 by decide), g140]
  refine ⟨rM, rM, rM, ⟨hfr, rM⟩, ?_⟩
  have mxU : ∀ (f : Nat) y j, kk_mf f → ¬ kk_mx M y j → ¬ (y = (f, 0, 0) ∧ j = M) := fun f y j hf q w => q (Or.inl ⟨by rw [w.1]; exact hf, w.2⟩)
  by_cases k3 : k = 3
  · rw [if_pos k3]
    refine ⟨rM, ?_⟩
    obtain ⟨G1, hG1⟩ : ∃ G1, G1 = mm_up (mm_up (mm_up (mm_up (mm_up g1 (41, 0, 0) M k) (47, 0, 0) M (g (40, 0, 0) 29)) (48, 0, 0) M 61) (53, 0, 0) M fr) (42, 0, 0) M (g (40, 0, 0) 30) := ⟨_, rfl⟩
    rw [← hG1]
    have Lp : ∀ (e : Nat) (i : Int) (G : mm_Id → Int → Int), g (40, 0, 0) 30 - i = e → 0 ≤ i → (∀ j, 0 ≤ j → j < i → G (52, 0, 0) (8 * M + j) = g (65, 0, 0) j) → (∀ y j, ¬ (y = (52, 0, 0) ∧ 8 * M ≤ j ∧ j < 8 * M + 8) → G y j = G1 y j) → mm_Wp 213 (mm_blk 213 9) [zR (40, 0, 0), zI s, zI d, zI x, zI k, zI fr, zI m, zI M, zI i] [] (mm_z G dh nx ns) Q := by
      intro e
      induction e with
      | zero =>
        intro i G e1 e2 q1 q2
        have G40 : G (40, 0, 0) 30 = g (40, 0, 0) 30 := by rw [q2 _ _ (by simp), hG1, mm_upf (by decide), mm_upf (by decide), mm_upf (by decide), mm_upf (by decide), mm_upf (by decide), g140]
        rw [r_213_9 (hy := hy), G40, if_neg (by omega)]
        refine tail G _ ?_ (fun j j0 j1 => ?_) (fun _ j j0 j1 => q1 j j0 (by omega)) (fun y j w => ?_)
        · rw [q2 _ _ (by simp), q2 _ _ (by simp), q2 _ _ (by simp), q2 _ _ (by simp), q2 _ _ (by simp), q2 _ _ (by simp), q2 _ _ (by simp), hG1, if_pos k3]
          refine ⟨?_, mm_ups, ?_, ?_, ?_, ?_, ?_⟩
          · rw [mm_upf (by decide), mm_upf (by decide), mm_upf (by decide), mm_upf (by decide), mm_ups]
          · rw [mm_upf (by decide), mm_upf (by decide), mm_upf (by decide), mm_upf (by decide), mm_upf (by decide)]; exact z1.2.2.1
          · rw [mm_upf (by decide), mm_upf (by decide), mm_upf (by decide), mm_upf (by decide), mm_upf (by decide)]; exact z1.2.2.2
          · rw [mm_upf (by decide), mm_upf (by decide), mm_upf (by decide), mm_ups]
          · rw [mm_upf (by decide), mm_upf (by decide), mm_ups]
          · rw [mm_upf (by decide), mm_ups]
        · rw [q2 _ _ (by simp), hG1, mm_upf (by decide), mm_upf (by decide), mm_upf (by decide), mm_upf (by decide), mm_upf (by decide)]
          exact z2 j j0 j1
        · rw [q2 y j (fun q => w (Or.inr (Or.inr (Or.inr (Or.inr ⟨by rw [q.1], q.2⟩))))), hG1, mm_upne' (mxU 42 y j kk_f42 w), mm_upne' (mxU 53 y j kk_f53 w), mm_upne' (mxU 48 y j kk_f48 w), mm_upne' (mxU 47 y j kk_f47 w), mm_upne' (mxU 41 y j kk_f41 w)]
          exact g1f y j w
      | succ e ih =>
        intro i G e1 e2 q1 q2
        have G40 : G (40, 0, 0) 30 = g (40, 0, 0) 30 := by rw [q2 _ _ (by simp), hG1, mm_upf (by decide), mm_upf (by decide), mm_upf (by decide), mm_upf (by decide), mm_upf (by decide), g140]
        have G65 : G (65, 0, 0) i = g (65, 0, 0) i := by rw [q2 _ _ (by simp), hG1, mm_upf (by decide), mm_upf (by decide), mm_upf (by decide), mm_upf (by decide), mm_upf (by decide), g1f _ _ (kk_mx6 (k := 0) (by omega))]
        rw [r_213_9 (hy := hy), G40, if_pos (by omega), mm_wi (z := 8 * M) (by omega) (by omega), mm_wi (z := 8 * M + i) (by omega) (by omega), mm_wi (z := i + 1) (by omega) (by omega), G65]
        refine ⟨by omega, by omega, ih (i + 1) _ (by omega) (by omega) (fun j j0 j1 => ?_) (fun y j w => ?_)⟩
        · by_cases z : j = i
          · rw [z, mm_ups]
          · rw [mm_upj (by omega)]; exact q1 j j0 (by omega)
        · rw [mm_upne' (fun q => w ⟨q.1, by omega, by omega⟩)]; exact q2 y j w
    exact Lp (g (40, 0, 0) 30).toNat 0 G1 (by omega) (by omega) (fun j j0 j1 => by omega) (fun _ _ _ => rfl)
  · rw [if_neg k3]
    refine tail _ _ ?_ (fun j j0 j1 => ?_) (fun q => absurd q k3) (fun y j w => ?_)
    · rw [if_neg k3]
      refine ⟨?_, ?_, ?_, ?_, ?_, ?_, mm_ups⟩
      · rw [mm_upf (by decide), mm_upf (by decide), mm_upf (by decide), mm_ups]
      · rw [mm_upf (by decide), mm_upf (by decide), mm_upf (by decide), mm_upf (by decide)]; exact z1.2.1
      · rw [mm_upf (by decide), mm_upf (by decide), mm_upf (by decide), mm_upf (by decide)]; exact z1.2.2.1
      · rw [mm_upf (by decide), mm_upf (by decide), mm_upf (by decide), mm_upf (by decide)]; exact z1.2.2.2
      · rw [mm_upf (by decide), mm_upf (by decide), mm_ups]
      · rw [mm_upf (by decide), mm_ups]
    · rw [mm_upf (by decide), mm_upf (by decide), mm_upf (by decide), mm_upf (by decide)]
      exact z2 j j0 j1
    · rw [mm_upne' (mxU 53 y j kk_f53 w), mm_upne' (mxU 48 y j kk_f48 w), mm_upne' (mxU 47 y j kk_f47 w), mm_upne' (mxU 41 y j kk_f41 w)]
      exact g1f y j w
end


