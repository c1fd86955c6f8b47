/-! receive, the reference: the walk over the nodes -/
section
variable {t : Int} {G c : mm_Id → Int → Int} {dh : Int → Int} {nx ns : Int} {Q : mm_V → mm_H → Prop}
noncomputable def kk_nn (G : mm_Id → Int → Int) (n p : Int) : Int := kk_b (kk_ctn2 G 27 n ∧ G (43, 0, 0) (36 * (36 * 27 + n - 1) + p) ≠ 0 ∧ ¬ kk_kr G n p)
noncomputable def kk_ns (G : mm_Id → Int → Int) (n : Int) : Int := kk_sf (kk_nn G n) 0 36
theorem kk_nsb (G : mm_Id → Int → Int) (n : Int) {p : Int} (p0 : 0 ≤ p) : 0 ≤ kk_sf (kk_nn G n) 0 p ∧ kk_sf (kk_nn G n) 0 p ≤ p := by
  have := kk_sfb (f := kk_nn G n) (lo := 0) p.toNat (fun q _ _ => kk_bb _)
  rw [show (0 : Int) + (p.toNat : Int) = p by omega] at this
  omega
theorem kk_nsB (G : mm_Id → Int → Int) {n : Int} (n1 : 1 ≤ n) : 0 ≤ kk_sf (kk_ns G) 1 n ∧ kk_sf (kk_ns G) 1 n ≤ 36 * (n - 1) := by
  have L : ∀ d : Nat, 0 ≤ kk_sf (kk_ns G) 1 (1 + d) ∧ kk_sf (kk_ns G) 1 (1 + d) ≤ 36 * d := by
    intro d
    induction d with
    | zero => rw [show (1 : Int) + ((0 : Nat) : Int) = 1 by omega, kk_sf0]; omega
    | succ d ih =>
      rw [show (1 : Int) + ((d + 1 : Nat) : Int) = (1 + (d : Int)) + 1 by omega, kk_sf1 _ (by omega)]
      have := kk_nsb G (1 + d) (p := 36) (by omega)
      unfold kk_ns at ih ⊢
      omega
  have := L (n - 1).toNat
  rw [show (1 : Int) + ((n - 1).toNat : Int) = n by omega] at this
  omega
theorem kk_ctX (X : kk_RX t G c) {s n : Int} (z : s ≠ t) (hn : 1 ≤ n ∧ n < 37) (GF : kk_GF t G) (hs : 0 ≤ s ∧ s < 29) : kk_ctn2 c s n ↔ kk_ctn2 G s n := by
  have e : kk_ef c s n = kk_ef G s n := by
    refine sm_cgI 36 (fun i i1 i2 => ?_)
    have f := kk_RXf X kk_f44 (s := s) (n := i + 1) z (by omega)
    have w := (GF.2.2.1 s (i + 1) hs.1 hs.2 (by omega) (by omega)).2.1
    show mm_sm _ _ = mm_sm _ _
    rw [f]
    refine sm_cgI _ (fun e e1 e2 => ?_)
    rw [X.2.2.1 (46, 0, 0) _ (by simp) (by simp) (by simp) (kk_sxd z ⟨i + 1, by omega, by omega, kk_m45 (Or.inr rfl) ⟨e1, by omega⟩⟩)]
  unfold kk_ctn2
  rw [kk_RXf X kk_f41 z hn, e]
/-- a new block takes a piece's bytes -/
theorem m264n (hy : 10581 ≤ nx) {n0 p x3 x6 : Int} {vx1 v8 v10 v11 : mm_V} (B : kk_Kb t G c n0 p) (GF : kk_GF t G) (ht : 0 ≤ t ∧ t < 13) (hn : 1 ≤ n0 ∧ n0 < 37) (hp : 0 ≤ p ∧ p < 36) (z : G (43, 0, 0) (36 * (36 * 27 + n0 - 1) + p) ≠ 0) (nk : ¬ kk_kr G n0 p) (hx3 : 0 ≤ x3 ∧ x3 ≤ 2000)
    (K : ∀ (c2 : mm_Id → Int → Int) (v10 v11 : mm_V), kk_Kb t G c2 n0 (p + 1) → mm_Wp 264 (mm_blk 264 16) [zR (40, 0, 0), vx1, zI t, zI (x3 + 1), zI n0, zI (36 * t + n0 - 1), zI x6, zI p, v8, zI (G (43, 0, 0) (36 * (36 * 27 + n0 - 1) + p)), v10, v11] [] (mm_z c2 dh nx ns) Q) :
    mm_Wp 264 (mm_blk 264 13) [zR (40, 0, 0), vx1, zI t, zI x3, zI n0, zI (36 * t + n0 - 1), zI x6, zI p, v8, zI (G (43, 0, 0) (36 * (36 * 27 + n0 - 1) + p)), v10, v11] [] (mm_z c dh nx ns) Q := by
  have X := B.1
  have B4 := B.2.2.2.1
  have yc := B.2.2.2.2.1
  have brG := GF.1 27 (by omega) (by omega) n0 p hn.1 hn.2 hp.1 hp.2
  obtain ⟨o, ho⟩ : ∃ o, o = G (43, 0, 0) (36 * (36 * 27 + n0 - 1) + p) := ⟨_, rfl⟩
  have aG : kk_any G o := ⟨27, by omega, n0, p, hn, hp, GF.2.1 27 (by omega) (by omega) n0 p hn.1 hn.2 hp.1 hp.2 z, ho.symm⟩
  have ac := kk_RXa ht GF X aG
  have rG := fun e e0 e1 => GF.2.2.2.2.2.2.2.2 n0 p e hn.1 hn.2 hp.1 hp.2 yc z e0 e1
  rw [← ho] at K rG brG z ⊢
  have x54 := fun e e0 e1 => X.2.1 o e aG (by omega) brG.2 e0 e1
  rw [r_264_13 (hy := hy)]
  refine m196 hy X.2.2.2.1 X.1.1 X.1.2 (by omega) (fun g b b1 b2 nb a1 a2 a3 a4 a5 => ?_)
  have ob : o ≠ b := fun e => nb (by rw [← e]; exact ac)
  rw [mm_pI, r_264_13_2 (hy := hy)]
  have L : ∀ (d : Nat) (i : Int) (g2 : mm_Id → Int → Int), 60 - i = d → 0 ≤ i → (∀ e, 0 ≤ e → e < i → g2 (54, 0, 0) (60 * b + e) = G (54, 0, 0) (60 * o + e)) → (∀ x j, ¬ (x = (54, 0, 0) ∧ 60 * b ≤ j ∧ j < 60 * b + 60) → g2 x j = g x j) →
      mm_Wp 264 (mm_blk 264 14) [zR (40, 0, 0), vx1, zI t, zI x3, zI n0, zI (36 * t + n0 - 1), zI x6, zI p, v8, zI o, zI b, zI i] [] (mm_z g2 dh nx ns) Q := by
    intro d
    induction d with
    | zero =>
      intro i g2 e1 e2 h1 h2
      rw [r_264_14 (hy := hy), if_neg (by omega), mm_wi (z := 36 * (36 * t + n0 - 1)) (by omega) (by omega), mm_wi (z := 36 * (36 * t + n0 - 1) + p) (by omega) (by omega), mm_wi (z := x3 + 1) (by omega) (by omega)]
      refine ⟨by omega, K _ _ _ (kk_jE (v := b) B GF ht hn hp (by rw [← ho]; exact z) (Or.inr ⟨nk, nb, fun e e0 e3 => ?_⟩) ⟨b1, b2⟩ (fun q q0 q1 w => ?_) ?_ mm_ups (fun q i' w q0 q1 i0 i1 => ?_) (fun x j w1 w2 w3 w4 => ?_))⟩
      · rw [mm_upf (by decide), ← ho]; exact h1 e e0 (by omega)
      · rw [mm_upf (by decide), h2 _ _ (by simp)]
        rcases w with w | w
        · exact a1 q q0 q1 w
        · rw [w]; exact a2
      · rw [mm_upf (by decide), h2 _ _ (by simp), a3]; omega
      · have qb : q ≠ b := fun e => nb (by rw [← e]; exact w)
        rw [mm_upf (by decide), h2 _ _ (by rintro ⟨_, y⟩; omega)]
        exact a5 _ _ (by simp) (by simp) (by rintro ⟨_, y⟩; omega)
      · rw [mm_upne' w4, h2 x j (fun y => w1 y.1)]
        exact a5 x j w2 w3 (fun y => w1 y.1)
    | succ d ih =>
      intro i g2 e1 e2 h1 h2
      have s : g2 (54, 0, 0) (60 * o + i) = G (54, 0, 0) (60 * o + i) := by
        rw [h2 _ _ (by rintro ⟨_, y⟩; omega), a5 _ _ (by simp) (by simp) (by rintro ⟨_, y⟩; omega)]
        exact x54 i e2 (by omega)
      have r := rG i e2 (by omega)
      rw [r_264_14 (hy := hy), if_pos (by omega), mm_wi (z := 60 * o) (by omega) (by omega), mm_wi (z := 60 * o + i) (by omega) (by omega), mm_wi (z := 60 * b) (by omega) (by omega), mm_wi (z := 60 * b + i) (by omega) (by omega), mm_wi (z := i + 1) (by omega) (by omega), s, mm_bi r.1 r.2]
      refine ⟨by omega, by omega, ih (i + 1) _ (by omega) (by omega) (fun e e0 e3 => ?_) (fun x j w1 => ?_)⟩
      · by_cases y : e = i
        · rw [y, mm_ups]
        · rw [mm_upj (by omega)]; exact h1 e e0 (by omega)
      · rw [mm_upne' (fun q => w1 ⟨q.1, by omega, by omega⟩)]; exact h2 x j w1
  exact L 60 0 g (by omega) (by omega) (fun e e0 e1 => by omega) (fun _ _ _ => rfl)
theorem m264l (hy : 10581 ≤ nx) {vx1 : mm_V} (GF : kk_GF t G) (ht : 0 ≤ t ∧ t < 13)
    (K : ∀ (gm : mm_Id → Int → Int) (v5 v6 v7 v8 v9 v10 v11 : mm_V), kk_KA t G gm 37 → mm_Cl 201 [zR (40, 0, 0), zI t] (mm_z gm dh nx ns) (fun r h3 => mm_Wp 264 (bk_264_18.drop 3) [zR (40, 0, 0), vx1, zI t, zI (kk_sf (kk_ns G) 1 37), zI 37, v5, v6, v7, v8, v9, v10, v11] (mm_push r []) h3 Q)) :
    ∀ (d : Nat) (n : Int) (c : mm_Id → Int → Int) (v5 v6 v7 v8 v9 v10 v11 : mm_V), 37 - n = d → 1 ≤ n → kk_KA t G c n → mm_Wp 264 (mm_blk 264 4) [zR (40, 0, 0), vx1, zI t, zI (kk_sf (kk_ns G) 1 n), zI n, v5, v6, v7, v8, v9, v10, v11] [] (mm_z c dh nx ns) Q := by
  intro d
  induction d with
  | zero =>
    intro n c v5 v6 v7 v8 v9 v10 v11 e1 e2 A
    have en : n = 37 := by omega
    rw [en] at A ⊢
    rw [r_264_4 (hy := hy), if_pos (by omega)]
    exact K c _ _ _ _ _ _ _ A
  | succ d ih =>
    intro n c v5 v6 v7 v8 v9 v10 v11 e1 e2 A
    have hn : 1 ≤ n ∧ n < 37 := ⟨e2, by omega⟩
    have X := A.1
    have nb := kk_nsB G e2
    have nx17 : ∀ (c2 : mm_Id → Int → Int) (v5 v6 v7 v8 v9 v10 v11 : mm_V), kk_KA t G c2 (n + 1) → mm_Wp 264 (mm_blk 264 17) [zR (40, 0, 0), vx1, zI t, zI (kk_sf (kk_ns G) 1 (n + 1)), zI n, v5, v6, v7, v8, v9, v10, v11] [] (mm_z c2 dh nx ns) Q := fun c2 v5 v6 v7 v8 v9 v10 v11 A2 => by
      rw [r_264_17 (hy := hy), mm_wi (z := n + 1) (by omega) (by omega)]
      exact ih (n + 1) c2 _ _ _ _ _ _ _ (by omega) (by omega) A2
    have s1 := kk_sf1 (kk_ns G) e2
    rw [r_264_4 (hy := hy), if_neg (by omega)]
    refine m175 hy (by omega) hn ?_
    rw [mm_pI, r_264_4_6 (hy := hy)]
    have r44 : ∀ s, 0 ≤ s → s < 29 → s ≠ t → ∀ d, 1 ≤ d → d < 37 → 0 ≤ c (44, 0, 0) (36 * s + d - 1) ∧ c (44, 0, 0) (36 * s + d - 1) ≤ 24 := fun s s0 s1 q d d0 d1 => by
      rw [kk_RXf X kk_f44 q ⟨d0, d1⟩]; exact (GF.2.2.1 s d s0 s1 d0 d1).2.1
    refine m261 hy (by omega) hn (fun d d0 d1 => r44 27 (by omega) (by omega) (by omega) d d0 d1) (fun w => ?_) (fun w => ?_)
    · rw [kk_ctX X (by omega) hn GF (by omega)] at w
      rw [mm_pI, r_264_4_11 (hy := hy), if_neg (by decide)]
      refine m175 hy (by omega) hn ?_
      have w27 := GF.2.2.1 27 n (by omega) (by omega) hn.1 hn.2
      rw [mm_pI, r_264_5_4 (hy := hy)]
      refine m178 hy (by omega) (by omega) (by omega) (by rw [kk_RXf X kk_f53 (by omega) hn]; exact w27.1) (by rw [kk_RXf X kk_f44 (by omega) hn]; exact w27.2.1) (by rw [kk_RXf X kk_f49 (by omega) hn]; exact w27.2.2) (fun c2 ms fr => ?_)
      have B := kk_jB A GF ht hn w ms fr
      have k41 : c2 (41, 0, 0) (36 * t + n - 1) = G (41, 0, 0) (36 * 27 + n - 1) := B.2.2.2.2.2.1.1 41 kk_f41
      rw [mm_pU, r_264_5_6 (hy := hy), k41]
      refine ⟨by omega, ?_⟩
      by_cases k1 : G (41, 0, 0) (36 * 27 + n - 1) = 1
      · rw [if_pos k1]
        refine m175 hy (by omega) hn ?_
        have X2 := B.1
        have e28 : c2 (41, 0, 0) (36 * 28 + n - 1) = G (41, 0, 0) (36 * 28 + n - 1) := kk_RXf X2 kk_f41 (by omega) hn
        rw [mm_pI, r_264_6_5 (hy := hy), e28]
        refine ⟨by omega, ?_⟩
        -- the pieces
        have L2 : ∀ x6, (x6 = 1 ∧ (G (41, 0, 0) (36 * 28 + n - 1) = 1 ∧ kk_ctn2 G 28 n)) ∨ (x6 = 0 ∧ ¬ (G (41, 0, 0) (36 * 28 + n - 1) = 1 ∧ kk_ctn2 G 28 n)) → ∀ (d2 : Nat) (p : Int) (c : mm_Id → Int → Int) (v8 v9 v10 v11 : mm_V), 36 - p = d2 → 0 ≤ p → kk_Kb t G c n p →
            mm_Wp 264 (mm_blk 264 9) [zR (40, 0, 0), vx1, zI t, zI (kk_sf (kk_ns G) 1 n + kk_sf (kk_nn G n) 0 p), zI n, zI (36 * t + n - 1), zI x6, zI p, v8, v9, v10, v11] [] (mm_z c dh nx ns) Q := by
          intro x6 hx6 d2
          induction d2 with
          | zero =>
            intro p c v8 v9 v10 v11 f1 f2 B
            have ep : p = 36 := by omega
            rw [ep] at B ⊢
            rw [r_264_9 (hy := hy), if_neg (by omega)]
            have z := nx17 c (zI (36 * t + n - 1)) (zI x6) (zI 36) v8 v9 v10 v11 (kk_jD B)
            rw [s1] at z
            exact z
          | succ d2 ih2 =>
            intro p c v8 v9 v10 v11 f1 f2 B
            have hp : 0 ≤ p ∧ p < 36 := ⟨f2, by omega⟩
            have X := B.1
            have e43 := B.2.2.2.2.2.2.2 p (Int.le_refl _) hp.2
            have pb := kk_nsb G n f2
            have s2 := kk_sf1 (kk_nn G n) f2
            have nx16 : ∀ (c2 : mm_Id → Int → Int) (v8 v9 v10 v11 : mm_V), kk_Kb t G c2 n (p + 1) → mm_Wp 264 (mm_blk 264 16) [zR (40, 0, 0), vx1, zI t, zI (kk_sf (kk_ns G) 1 n + kk_sf (kk_nn G n) 0 (p + 1)), zI n, zI (36 * t + n - 1), zI x6, zI p, v8, v9, v10, v11] [] (mm_z c2 dh nx ns) Q := fun c2 v8 v9 v10 v11 B2 => by
              rw [r_264_16 (hy := hy), mm_wi (z := p + 1) (by omega) (by omega)]
              exact ih2 (p + 1) c2 _ _ _ _ (by omega) (by omega) B2
            have same : kk_nn G n p = 0 → kk_sf (kk_ns G) 1 n + kk_sf (kk_nn G n) 0 p = kk_sf (kk_ns G) 1 n + kk_sf (kk_nn G n) 0 (p + 1) := fun q => by omega
            have more : kk_nn G n p = 1 → kk_sf (kk_ns G) 1 n + kk_sf (kk_nn G n) 0 p + 1 = kk_sf (kk_ns G) 1 n + kk_sf (kk_nn G n) 0 (p + 1) := fun q => by omega
            have br28 := GF.1 28 (by omega) (by omega) n p hn.1 hn.2 hp.1 hp.2
            have br27 := GF.1 27 (by omega) (by omega) n p hn.1 hn.2 hp.1 hp.2
            have st11 : ∀ y0 (v8 v9 : mm_V), y0 = (if x6 = 0 then 0 else G (43, 0, 0) (36 * (36 * 28 + n - 1) + p)) → mm_Wp 264 (mm_blk 264 11) [zR (40, 0, 0), vx1, zI t, zI (kk_sf (kk_ns G) 1 n + kk_sf (kk_nn G n) 0 p), zI n, zI (36 * t + n - 1), zI x6, zI p, v8, v9, v10, v11] [zI y0] (mm_z c dh nx ns) Q := fun y0 v8 v9 hy0 => by
              rw [r_264_11 (hy := hy), mm_wi (z := 36 * (36 * t + n - 1)) (by omega) (by omega), mm_wi (z := 36 * (36 * t + n - 1) + p) (by omega) (by omega), e43]
              refine ⟨by omega, ?_⟩
              by_cases z : G (43, 0, 0) (36 * (36 * 27 + n - 1) + p) = 0
              · rw [if_pos z, same (kk_b0 (fun q => q.2.1 z))]
                exact nx16 c _ _ _ _ (kk_jC B hp z)
              · rw [if_neg z]
                have neu : ¬ kk_kr G n p → mm_Wp 264 (mm_blk 264 13) [zR (40, 0, 0), vx1, zI t, zI (kk_sf (kk_ns G) 1 n + kk_sf (kk_nn G n) 0 p), zI n, zI (36 * t + n - 1), zI x6, zI p, zI y0, zI (G (43, 0, 0) (36 * (36 * 27 + n - 1) + p)), v10, v11] [] (mm_z c dh nx ns) Q := fun nk => by
                  refine m264n hy B GF ht hn hp z nk (by omega) (fun c2 v10 v11 B2 => ?_)
                  rw [more (kk_b1 ⟨w, z, nk⟩)]
                  exact nx16 c2 _ _ _ _ B2
                by_cases y : 0 < y0
                · rw [if_pos y]
                  have x1 : x6 ≠ 0 := fun q => by rw [if_pos q] at hy0; omega
                  rw [if_neg x1] at hy0
                  have old := (hx6.resolve_right (fun q => x1 q.1)).2
                  have a28 : kk_any G y0 := ⟨28, by omega, n, p, hn, hp, old.1, hy0.symm⟩
                  have a27 : kk_any G (G (43, 0, 0) (36 * (36 * 27 + n - 1) + p)) := ⟨27, by omega, n, p, hn, hp, k1, rfl⟩
                  have mbe : kk_mb c y0 (G (43, 0, 0) (36 * (36 * 27 + n - 1) + p)) ↔ kk_mb G y0 (G (43, 0, 0) (36 * (36 * 27 + n - 1) + p)) := by
                    constructor
                    · intro q i i0 i1
                      have := q i i0 i1
                      rw [X.2.1 y0 i a28 (by omega) (by omega) i0 i1, X.2.1 _ i a27 (by omega) (by omega) i0 i1] at this
                      exact this
                    · intro q i i0 i1
                      rw [X.2.1 y0 i a28 (by omega) (by omega) i0 i1, X.2.1 _ i a27 (by omega) (by omega) i0 i1]
                      exact q i i0 i1
                  refine m263 hy (by omega) (by omega) (fun mb => ?_) (fun mb => ?_)
                  · have kr : kk_kr G n p := ⟨old, by omega, by rw [← hy0]; exact mbe.1 mb⟩
                    rw [mm_pI, r_264_12_6 (hy := hy), if_neg (by decide), mm_wi (z := 36 * (36 * t + n - 1)) (by omega) (by omega), mm_wi (z := 36 * (36 * t + n - 1) + p) (by omega) (by omega), same (kk_b0 (fun q => q.2.2 kr))]
                    refine ⟨by omega, nx16 _ _ _ _ _ (kk_jE (v := y0) B GF ht hn hp z (Or.inl ⟨kr, hy0⟩) (by omega) (fun q q0 q1 w2 => ?_) ?_ mm_ups (fun q i _ _ _ _ _ => mm_upf (by decide)) (fun x i _ _ _ w4 => mm_upne' w4))⟩
                    · rw [mm_upf (by decide)]
                      refine X.1.1 q q0 q1 ?_
                      rcases w2 with w2 | w2
                      · exact w2
                      · rw [w2]; exact kk_RXa ht GF X a28
                    · rw [mm_upf (by decide)]; exact X.1.2
                  · rw [mm_pI, r_264_12_6 (hy := hy), if_pos rfl]
                    exact neu (fun q => mb (mbe.2 (by rw [hy0]; exact q.2.2)))
                · rw [if_neg y]
                  refine neu (fun q => y ?_)
                  have := hx6.resolve_right (fun w2 => w2.2 q.1)
                  rw [hy0, if_neg (by omega)]; exact q.2.1
            rw [r_264_9 (hy := hy), if_pos hp.2]
            by_cases x0 : x6 = 0
            · rw [if_pos x0]
              exact st11 0 _ _ (by rw [if_pos x0])
            · rw [if_neg x0]
              refine m175 hy (by omega) hn ?_
              rw [mm_pI, r_264_9_11 (hy := hy), mm_wi (z := 36 * (36 * 28 + n - 1)) (by omega) (by omega), mm_wi (z := 36 * (36 * 28 + n - 1) + p) (by omega) (by omega)]
              refine ⟨by omega, ?_⟩
              rw [kk_RXo X (s := 28) (by omega) hn hp]
              exact st11 _ _ _ (by rw [if_neg x0])
        have go : ∀ x6, (x6 = 1 ∧ (G (41, 0, 0) (36 * 28 + n - 1) = 1 ∧ kk_ctn2 G 28 n)) ∨ (x6 = 0 ∧ ¬ (G (41, 0, 0) (36 * 28 + n - 1) = 1 ∧ kk_ctn2 G 28 n)) → ∀ (v6 v7 v8 v9 v10 v11 : mm_V), mm_Wp 264 (mm_blk 264 8) [zR (40, 0, 0), vx1, zI t, zI (kk_sf (kk_ns G) 1 n), zI n, zI (36 * t + n - 1), v6, v7, v8, v9, v10, v11] [zI x6] (mm_z c2 dh nx ns) Q := fun x6 hx6 v6 v7 v8 v9 v10 v11 => by
          rw [r_264_8 (hy := hy)]
          have z := L2 x6 hx6 36 0 c2 v8 v9 v10 v11 (by omega) (by omega) B
          rw [kk_sf0, Int.add_zero] at z
          exact z
        by_cases o28 : G (41, 0, 0) (36 * 28 + n - 1) = 1
        · rw [if_pos o28]
          refine m261 hy (by omega) hn (fun d d0 d1 => ?_) (fun w2 => ?_) (fun w2 => ?_)
          · rw [kk_RXf X2 kk_f44 (by omega) ⟨d0, d1⟩]; exact (GF.2.2.1 28 d (by omega) (by omega) d0 d1).2.1
          · rw [kk_ctX X2 (by omega) hn GF (by omega)] at w2
            rw [mm_pI, r_264_6_12 (hy := hy), if_neg (by decide)]
            exact go 1 (Or.inl ⟨rfl, o28, w2⟩) _ _ _ _ _ _
          · rw [kk_ctX X2 (by omega) hn GF (by omega)] at w2
            rw [mm_pI, r_264_6_12 (hy := hy), if_pos rfl, r_264_7 (hy := hy)]
            exact go 0 (Or.inr ⟨rfl, fun q => w2 q.2⟩) _ _ _ _ _ _
        · rw [if_neg o28, r_264_7 (hy := hy)]
          exact go 0 (Or.inr ⟨rfl, fun q => o28 q.1⟩) _ _ _ _ _ _
      · rw [if_neg k1]
        have now : ∀ p, 0 ≤ p → p < 36 → G (43, 0, 0) (36 * (36 * 27 + n - 1) + p) = 0 := fun p p0 p1 => Classical.byContradiction (fun q => k1 (GF.2.1 27 (by omega) (by omega) n p hn.1 hn.2 p0 p1 q))
        have up : ∀ q : Nat, q ≤ 36 → kk_Kb t G c2 n q := by
          intro q
          induction q with
          | zero => intro _; exact B
          | succ q iq => intro h; exact kk_jC (iq (by omega)) (by omega) (now q (by omega) (by omega))
        have z0 : kk_ns G n = 0 := by
          have := kk_sfz (f := kk_nn G n) (lo := 0) 36 (fun p p0 p1 => kk_b0 (fun q => q.2.1 (now p p0 (by omega))))
          exact this
        have z := nx17 c2 (zI (36 * t + n - 1)) v6 v7 v8 v9 v10 v11 (kk_jD (up 36 (by omega)))
        rw [s1, z0, Int.add_zero] at z
        exact z
    · rw [kk_ctX X (by omega) hn GF (by omega)] at w
      rw [mm_pI, r_264_4_11 (hy := hy), if_pos rfl]
      refine m180 hy (by omega) (fun c2 z4 zp fr => ?_)
      rw [mm_pU, r_264_4_15 (hy := hy)]
      have z0 : kk_ns G n = 0 := by
        have := kk_sfz (f := kk_nn G n) (lo := 0) 36 (fun p p0 p1 => kk_b0 (fun q => w q.1))
        exact this
      have z := nx17 c2 (zI (36 * t + n - 1)) v6 v7 v8 v9 v10 v11 (kk_jA A GF ht hn w z4 zp fr)
      rw [s1, z0, Int.add_zero] at z
      exact z
end

