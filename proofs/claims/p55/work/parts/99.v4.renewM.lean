/-! the reference renews pieces of a file -/
section
variable {hi : mm_Id → Int → Int} {dh : Int → Int} {nx ns : Int} {Q : mm_V → mm_H → Prop}
theorem m219 (hy : 10581 ≤ nx) {t m p lim : Int} (ht : 0 ≤ t ∧ t < 29) (hm : 1 ≤ m ∧ m < 37) (hp : 0 ≤ p ∧ p < 36) (hl : 0 ≤ lim ∧ lim ≤ 2160) (hb : ∀ k, 0 ≤ k → k < 29 → kk_br hi k) (hu : ∀ b, 1 ≤ b → b ≤ 3000 → kk_any hi b → hi (55, 0, 0) b ≠ 0) (h18 : 0 ≤ hi (40, 0, 0) 18 ∧ hi (40, 0, 0) 18 ≤ 3000) (hc : kk_cnt (kk_any hi) < 3000)
    (hk : hi (41, 0, 0) (36 * t + m - 1) = 1) (r54 : ∀ i, 0 ≤ i → i < 60 → 0 < hi (43, 0, 0) (36 * (36 * t + m - 1) + p) → -128 ≤ hi (54, 0, 0) (60 * hi (43, 0, 0) (36 * (36 * t + m - 1) + p) + i) ∧ hi (54, 0, 0) (60 * hi (43, 0, 0) (36 * (36 * t + m - 1) + p) + i) < 128)
    (K : ∀ h2 b, 1 ≤ b → b ≤ 3000 → ¬ kk_any hi b → (∀ q, 1 ≤ q → q ≤ 3000 → kk_any hi q → h2 (55, 0, 0) q ≠ 0) → h2 (55, 0, 0) b ≠ 0 → (0 ≤ h2 (40, 0, 0) 18 ∧ h2 (40, 0, 0) 18 ≤ 3000) → h2 (43, 0, 0) (36 * (36 * t + m - 1) + p) = b →
      (∀ i, 0 ≤ i → i < 60 → h2 (54, 0, 0) (60 * b + i) = if 0 < hi (43, 0, 0) (36 * (36 * t + m - 1) + p) ∧ 60 * p + i < lim then hi (54, 0, 0) (60 * hi (43, 0, 0) (36 * (36 * t + m - 1) + p) + i) else 0) →
      (∀ x j, x ≠ (55, 0, 0) → ¬ (x = (40, 0, 0) ∧ j = 18) → ¬ (x = (54, 0, 0) ∧ 60 * b ≤ j ∧ j < 60 * b + 60) → ¬ (x = (43, 0, 0) ∧ j = 36 * (36 * t + m - 1) + p) → h2 x j = hi x j) → Q (zI b) (mm_z h2 dh nx ns)) :
    mm_Cl 219 [zR (40, 0, 0), zI t, zI m, zI p, zI lim] (mm_z hi dh nx ns) Q := by
  rw [r_219_e (hy := hy)]
  refine m175 hy ht hm ?_
  have w := hb t ht.1 ht.2 m p hm.1 hm.2 hp.1 hp.2
  rw [mm_pI, r_219_0_4 (hy := hy), mm_wi (z := 36 * (36 * t + m - 1)) (by omega) (by omega), mm_wi (z := 36 * (36 * t + m - 1) + p) (by omega) (by omega)]
  refine ⟨by omega, m196 hy hb hu h18 hc (fun g b b1 b2 nb a1 a2 a3 a4 a5 => ?_)⟩
  obtain ⟨o, ho⟩ : ∃ o, o = hi (43, 0, 0) (36 * (36 * t + m - 1) + p) := ⟨_, rfl⟩
  rw [← ho] at K r54 w ⊢
  have any : o ≠ 0 → kk_any hi o := fun _ => ⟨t, ht, m, p, hm, hp, hk, ho.symm⟩
  have ob : o ≠ 0 → o ≠ b := fun z e => nb (by rw [← e]; exact any z)
  rw [mm_pI, r_219_0_15 (hy := hy)]
  have four : ∀ (G : mm_Id → Int → Int) v, (∀ i, 0 ≤ i → i < 60 → G (54, 0, 0) (60 * b + i) = if 0 < o ∧ 60 * p + i < lim then hi (54, 0, 0) (60 * o + i) else 0) → (∀ x j, ¬ (x = (54, 0, 0) ∧ 60 * b ≤ j ∧ j < 60 * b + 60) → G x j = g x j) → mm_Wp 219 (mm_blk 219 4) [zR (40, 0, 0), zI t, zI m, zI p, zI lim, zI (36 * (36 * t + m - 1) + p), zI o, zI b, v] [] (mm_z G dh nx ns) Q := fun G v e1 e2 => by
    rw [r_219_4 (hy := hy)]
    refine ⟨by omega, K _ b b1 b2 nb (fun q q1 q2 q3 => ?_) ?_ ?_ mm_ups (fun i i0 i1 => ?_) (fun x j w1 w2 w3 w4 => ?_)⟩
    · rw [mm_upf (by decide), e2 _ _ (by simp)]; exact a1 q q1 q2 q3
    · rw [mm_upf (by decide), e2 _ _ (by simp)]; exact a2
    · rw [mm_upf (by decide), e2 _ _ (by simp), a3]; omega
    · rw [mm_upf (by decide)]; exact e1 i i0 i1
    · rw [mm_upne' w4, e2 x j w3]; exact a5 x j w1 w2 w3
  by_cases z : 0 < o
  · have L : ∀ (k : Nat) (i : Int) (G : mm_Id → Int → Int), 60 - i = k → 0 ≤ i → (∀ e, 0 ≤ e → e < 60 → G (54, 0, 0) (60 * b + e) = if e < i ∧ 60 * p + e < lim then hi (54, 0, 0) (60 * o + e) else 0) → (∀ x j, ¬ (x = (54, 0, 0) ∧ 60 * b ≤ j ∧ j < 60 * b + 60) → G x j = g x j) →
        mm_Wp 219 (mm_blk 219 1) [zR (40, 0, 0), zI t, zI m, zI p, zI lim, zI (36 * (36 * t + m - 1) + p), zI o, zI b, zI i] [] (mm_z G dh nx ns) Q := by
      intro k
      induction k with
      | zero =>
        intro i G k1 k2 e1 e2
        rw [r_219_1 (hy := hy), if_neg (by omega)]
        refine four G _ (fun e e0 e3 => ?_) e2
        rw [e1 e e0 e3]
        by_cases y : 60 * p + e < lim
        · rw [if_pos ⟨by omega, y⟩, if_pos ⟨z, y⟩]
        · rw [if_neg (fun q => y q.2), if_neg (fun q => y q.2)]
      | succ k ih =>
        intro i G k1 k2 e1 e2
        rw [r_219_1 (hy := hy), if_pos (by omega), if_pos z, mm_wi (z := 60 * p) (by omega) (by omega), mm_wi (z := 60 * p + i) (by omega) (by omega), mm_wi (z := 60 * o) (by omega) (by omega), mm_wi (z := 60 * o + i) (by omega) (by omega), mm_wi (z := 60 * b) (by omega) (by omega), mm_wi (z := 60 * b + i) (by omega) (by omega)]
        have nob := ob (by omega)
        have step : ∀ v, (v = if 60 * p + i < lim then hi (54, 0, 0) (60 * o + i) else 0) → mm_Wp 219 (mm_blk 219 3) [zR (40, 0, 0), zI t, zI m, zI p, zI lim, zI (36 * (36 * t + m - 1) + p), zI o, zI b, zI i] [zI v, zI (60 * b + i), zR (54, 0, 0)] (mm_z G dh nx ns) Q := fun v hv => by
          have vr : -128 ≤ v ∧ v < 128 := by
            rw [hv]
            split
            · exact r54 i k2 (by omega) z
            · omega
          rw [r_219_3 (hy := hy), mm_bi vr.1 vr.2, mm_wi (z := i + 1) (by omega) (by omega)]
          refine ⟨by omega, ih (i + 1) _ (by omega) (by omega) (fun e e0 e3 => ?_) (fun x j w1 => ?_)⟩
          · by_cases y : e = i
            · rw [y, mm_ups, hv]
              by_cases y2 : 60 * p + i < lim
              · rw [if_pos y2, if_pos ⟨by omega, y2⟩]
              · rw [if_neg y2, if_neg (fun q => y2 q.2)]
            · rw [mm_upj (by omega), e1 e e0 e3]
              by_cases y2 : e < i ∧ 60 * p + e < lim
              · rw [if_pos y2, if_pos ⟨by omega, y2.2⟩]
              · rw [if_neg y2, if_neg (by omega)]
          · rw [mm_upne' (fun q => w1 ⟨q.1, by omega, by omega⟩)]; exact e2 x j w1
        by_cases y : 60 * p + i < lim
        · rw [if_pos y]
          refine ⟨by omega, step _ ?_⟩
          rw [if_pos y, e2 _ _ (by simp; omega), a5 _ _ (by simp) (by simp) (by simp; omega)]
        · rw [if_neg y]
          exact step 0 (by rw [if_neg y])
    exact L 60 0 g (by omega) (by omega) (fun e e0 e3 => by rw [a4 e e0 e3, if_neg (by omega)]) (fun _ _ _ => rfl)
  · have o0 : o = 0 := by omega
    rw [r_219_1 (hy := hy), if_pos (by omega), if_neg z]
    exact four g _ (fun i i0 i1 => by rw [a4 i i0 i1, if_neg (fun q => z q.1)]) (fun _ _ _ => rfl)
end
/-- after pieces from lo to before j are renewed there -/
def kk_RI (t m lo j lim : Int) (G c : mm_Id → Int → Int) : Prop :=
  ((∀ b, 1 ≤ b → b ≤ 3000 → kk_any c b → c (55, 0, 0) b ≠ 0) ∧ (0 ≤ c (40, 0, 0) 18 ∧ c (40, 0, 0) 18 ≤ 3000)) ∧ (∀ p, lo ≤ p → p < j → 1 ≤ c (43, 0, 0) (36 * (36 * t + m - 1) + p) ∧ c (43, 0, 0) (36 * (36 * t + m - 1) + p) ≤ 3000) ∧
  (∀ p s n2 p2, lo ≤ p → p < j → 0 ≤ s → s < 29 → 1 ≤ n2 → n2 < 37 → 0 ≤ p2 → p2 < 36 → G (43, 0, 0) (36 * (36 * s + n2 - 1) + p2) = c (43, 0, 0) (36 * (36 * t + m - 1) + p) → s = t ∧ n2 = m ∧ lo ≤ p2 ∧ p2 < j) ∧
  (∀ p q, lo ≤ p → p < j → lo ≤ q → q < j → c (43, 0, 0) (36 * (36 * t + m - 1) + p) = c (43, 0, 0) (36 * (36 * t + m - 1) + q) → p = q) ∧
  (∀ p k, lo ≤ p → p < j → 0 ≤ k → k < 60 → c (54, 0, 0) (60 * c (43, 0, 0) (36 * (36 * t + m - 1) + p) + k) = if 0 < G (43, 0, 0) (36 * (36 * t + m - 1) + p) ∧ 60 * p + k < lim then G (54, 0, 0) (60 * G (43, 0, 0) (36 * (36 * t + m - 1) + p) + k) else 0) ∧
  (∀ r k, 0 ≤ k → k < 60 → (∀ p, lo ≤ p → p < j → r ≠ c (43, 0, 0) (36 * (36 * t + m - 1) + p)) → c (54, 0, 0) (60 * r + k) = G (54, 0, 0) (60 * r + k)) ∧
  (∀ x i, x ≠ (55, 0, 0) → ¬ (x = (40, 0, 0) ∧ i = 18) → x ≠ (54, 0, 0) → ¬ (x = (43, 0, 0) ∧ 36 * (36 * t + m - 1) + lo ≤ i ∧ i < 36 * (36 * t + m - 1) + j) → c x i = G x i) ∧
  (kk_cnt (kk_lb c (-1)) = kk_cnt (kk_lb G (-1)) + kk_sf (fun p => 1 - kk_b (G (43, 0, 0) (36 * (36 * t + m - 1) + p) ≠ 0 ∧ ¬ kk_lb G t (G (43, 0, 0) (36 * (36 * t + m - 1) + p)))) lo j) ∧
  (kk_cnt (kk_bs c t) = kk_cnt (kk_bs G t) + kk_sf (fun p => 1 - kk_b (G (43, 0, 0) (36 * (36 * t + m - 1) + p) ≠ 0)) lo j) ∧
  (kk_ub c t (G (47, 0, 0) (36 * t + m - 1)) = kk_ub G t (G (47, 0, 0) (36 * t + m - 1)) + kk_sf (fun p => 1 - kk_b (G (43, 0, 0) (36 * (36 * t + m - 1) + p) ≠ 0)) lo j) ∧
  (kk_Dm c t ∧ (∀ s, 0 ≤ s → s < 29 → kk_fo c s) ∧ (∀ s, 0 ≤ s → s < 29 → kk_br c s) ∧ (∀ b, kk_lb c t b ↔ kk_lb G t b)) ∧ kk_cnt (kk_any c) ≤ kk_cnt (kk_any G) + (j - lo)
theorem kk_RI0 {t m lo lim : Int} {G : mm_Id → Int → Int} (hu : ∀ b, 1 ≤ b → b ≤ 3000 → kk_any G b → G (55, 0, 0) b ≠ 0) (h18 : 0 ≤ G (40, 0, 0) 18 ∧ G (40, 0, 0) 18 ≤ 3000) (D : kk_Dm G t) (F : ∀ s, 0 ≤ s → s < 29 → kk_fo G s) (br : ∀ s, 0 ≤ s → s < 29 → kk_br G s) : kk_RI t m lo lo lim G G :=
  ⟨⟨hu, h18⟩, fun p a b => by omega, fun p _ _ _ a b => by omega, fun p q a b => by omega, fun p k a b => by omega, fun _ _ _ _ _ => rfl, fun _ _ _ _ _ _ => rfl, by rw [kk_sf0]; omega, by rw [kk_sf0]; omega, by rw [kk_sf0]; omega, ⟨D, F, br, fun _ => Iff.rfl⟩, by omega⟩
theorem kk_cnv1 {P R : Int → Prop} {v : Int} (h : ∀ c, P c → R c ∨ c = v) : kk_cnt P ≤ kk_cnt R + 1 := by
  have a : kk_cnt (fun c => R c ∨ c = v) ≤ kk_cnt R + kk_cnt (fun c => c = v) := kk_cnor
  have b : kk_cnt P ≤ kk_cnt (fun c => R c ∨ c = v) := kk_cntle (fun c _ _ q => h c q)
  have e : kk_cnt (fun c => c = v) ≤ 1 := by
    by_cases z : 1 ≤ v ∧ v ≤ 3000
    · rw [kk_cntm, kk_cmrem (P := fun c => c = v) (v := v) ⟨z.1, by omega⟩ rfl, kk_cmc (P := fun c => c = v ∧ c ≠ v) (R := fun _ => False) (fun c _ _ => ⟨fun q => q.2 q.1, fun q => absurd q id⟩)]
      have : kk_cm (fun _ => False) 3001 = 0 := sm_0I _ (fun i _ _ => kk_b0 (fun q => q.2))
      omega
    · have : kk_cnt (fun c => c = v) = 0 := sm_0I _ (fun i i0 i1 => kk_b0 (fun q => z (by have := q.2; omega)))
      omega
  omega
theorem m219R {t m lo j lim : Int} {G c : mm_Id → Int → Int} {dh : Int → Int} {nx ns : Int} {Q : mm_V → mm_H → Prop} (hy : 10581 ≤ nx) (I : kk_RI t m lo j lim G c) (ht : 0 ≤ t ∧ t < 13) (h57 : 0 < G (57, 0, 0) t) (hm : 1 ≤ m ∧ m < 37) (hlo : 0 ≤ lo) (hj : lo ≤ j ∧ j < 36) (hl : 0 ≤ lim ∧ lim ≤ 2160) (hk : G (41, 0, 0) (36 * t + m - 1) = 1) (hA : kk_cnt (kk_any G) ≤ 1200)
    (r54 : ∀ p i, 0 ≤ p → p < 36 → 0 ≤ i → i < 60 → 0 < G (43, 0, 0) (36 * (36 * t + m - 1) + p) → -128 ≤ G (54, 0, 0) (60 * G (43, 0, 0) (36 * (36 * t + m - 1) + p) + i) ∧ G (54, 0, 0) (60 * G (43, 0, 0) (36 * (36 * t + m - 1) + p) + i) < 128)
    (K : ∀ h2 b, kk_RI t m lo (j + 1) lim G h2 → Q (zI b) (mm_z h2 dh nx ns)) : mm_Cl 219 [zR (40, 0, 0), zI t, zI m, zI j, zI lim] (mm_z c dh nx ns) Q := by
  obtain ⟨⟨I1, I2⟩, I3, I4, I5, I6, I7, I8, I9, I10, I11, ⟨I12, I13, I14, I15⟩, I16⟩ := I
  have e41 : ∀ i, c (41, 0, 0) i = G (41, 0, 0) i := fun i => I8 _ _ (by simp) (by simp) (by simp) (by simp)
  have e47 : ∀ i, c (47, 0, 0) i = G (47, 0, 0) i := fun i => I8 _ _ (by simp) (by simp) (by simp) (by simp)
  have e57 : ∀ i, c (57, 0, 0) i = G (57, 0, 0) i := fun i => I8 _ _ (by simp) (by simp) (by simp) (by simp)
  have eo : c (43, 0, 0) (36 * (36 * t + m - 1) + j) = G (43, 0, 0) (36 * (36 * t + m - 1) + j) := I8 _ _ (by simp) (by simp) (by simp) (by simp)
  have ob : ∀ p, lo ≤ p → p < j → G (43, 0, 0) (36 * (36 * t + m - 1) + j) ≠ c (43, 0, 0) (36 * (36 * t + m - 1) + p) := fun p p0 p1 e => by
    have := I4 p t m j p0 p1 ht.1 (by omega) hm.1 hm.2 (by omega) hj.2 e
    omega
  have e54 : ∀ i, 0 ≤ i → i < 60 → c (54, 0, 0) (60 * G (43, 0, 0) (36 * (36 * t + m - 1) + j) + i) = G (54, 0, 0) (60 * G (43, 0, 0) (36 * (36 * t + m - 1) + j) + i) := fun i i0 i1 => I7 _ i i0 i1 ob
  have hp : 0 ≤ j ∧ j < 36 := ⟨by omega, hj.2⟩
  refine m219 hy (by omega) hm hp hl I14 I1 I2 (by omega) (by rw [e41]; exact hk) (fun i i0 i1 z => ?_) (fun g b b1 b2 nb a1 a2 a3 a4 a5 a6 => K g b ?_)
  · rw [eo] at z ⊢
    rw [e54 i i0 i1]
    exact r54 j i (by omega) hj.2 i0 i1 z
  rw [eo] at a5
  have st : kk_st t m j b c g := ⟨a4, fun i w => a6 _ _ (by simp) (by simp) (by simp) (fun v => w v.2), fun i => a6 _ _ (by simp) (by simp) (by simp) (by simp), fun i => a6 _ _ (by simp) (by simp) (by simp) (by simp), fun i => a6 _ _ (by simp) (by simp) (by simp) (by simp)⟩
  have hk2 : c (41, 0, 0) (36 * t + m - 1) = 1 := by rw [e41]; exact hk
  have n43 : ∀ p, p ≠ j → g (43, 0, 0) (36 * (36 * t + m - 1) + p) = c (43, 0, 0) (36 * (36 * t + m - 1) + p) := fun p w => st.2.1 _ (by omega)
  have nbs : ∀ s n q, 0 ≤ s → s < 29 → 1 ≤ n → n < 37 → 0 ≤ q → q < 36 → c (43, 0, 0) (36 * (36 * s + n - 1) + q) ≠ b := fun s n q s0 s1 n0 n1 q0 q1 e => nb ⟨s, ⟨s0, s1⟩, n, q, ⟨n0, n1⟩, ⟨q0, q1⟩, I13 s s0 s1 n q n0 n1 q0 q1 (by omega), e⟩
  have gb54 : ∀ i, ¬ (60 * b ≤ i ∧ i < 60 * b + 60) → g (54, 0, 0) i = c (54, 0, 0) i := fun i w => a6 _ _ (by simp) (by simp) (fun v => w v.2) (by simp)
  refine ⟨⟨fun q q1 q2 q3 => ?_, a3⟩, fun p p0 p1 => ?_, fun p s n2 p2 p0 p1 s0 s1 n0 n1 q0 q1 e => ?_, fun p q p0 p1 q0 q1 e => ?_, fun p k p0 p1 k0 k1 => ?_, fun r k k0 k1 w => ?_, fun x i w1 w2 w3 w4 => ?_, ?_, ?_, ?_, ⟨kk_stD st hm hp (Or.inr (fun n q n0 n1 q0 q1 => nbs t n q ht.1 (by omega) n0 n1 q0 q1)) I12, fun s s0 s1 => ?_, fun s s0 s1 => ?_, fun v => (kk_stlo st hm hp v).trans (I15 v)⟩, ?_⟩
  · rcases kk_stA st (by omega) hm hp q3 with y | y
    · exact a1 q q1 q2 y
    · rw [y]; exact a2
  · by_cases y : p = j
    · rw [y, a4]; exact ⟨b1, b2⟩
    · rw [n43 p y]; exact I3 p p0 (by omega)
  · by_cases y : p = j
    · rw [y, a4] at e
      by_cases y2 : s = t ∧ n2 = m ∧ lo ≤ p2 ∧ p2 < j + 1
      · exact y2
      · refine absurd ?_ (nbs s n2 p2 s0 s1 n0 n1 q0 q1)
        rw [← e]
        exact I8 _ _ (by simp) (by simp) (by simp) (fun v => y2 (by have := v.2; omega))
    · rw [n43 p y] at e
      have := I4 p s n2 p2 p0 (by omega) s0 s1 n0 n1 q0 q1 e
      omega
  · by_cases y : p = j <;> by_cases y2 : q = j
    · omega
    · rw [y, a4, n43 q y2] at e
      exact absurd e.symm (nbs t m q ht.1 (by omega) hm.1 hm.2 (by omega) (by omega))
    · rw [y2, a4, n43 p y] at e
      exact absurd e (nbs t m p ht.1 (by omega) hm.1 hm.2 (by omega) (by omega))
    · rw [n43 p y, n43 q y2] at e
      exact I5 p q p0 (by omega) q0 (by omega) e
  · by_cases y : p = j
    · rw [y, a4, a5 k k0 k1]
      by_cases y2 : 0 < G (43, 0, 0) (36 * (36 * t + m - 1) + j) ∧ 60 * j + k < lim
      · rw [if_pos y2, if_pos y2, e54 k k0 k1]
      · rw [if_neg y2, if_neg y2]
    · have := nbs t m p ht.1 (by omega) hm.1 hm.2 (by omega) (by omega)
      rw [n43 p y, gb54 _ (by omega)]
      exact I6 p k p0 (by omega) k0 k1
  · have y : r ≠ b := by rw [← a4]; exact w j hj.1 (by omega)
    rw [gb54 _ (by omega)]
    exact I7 r k k0 k1 (fun p p0 p1 => by rw [← n43 p (by omega)]; exact w p p0 (by omega))
  · rw [a6 x i w1 w2 (fun v => w3 v.1) (fun v => w4 ⟨v.1, by have := v.2; omega⟩)]
    exact I8 x i w1 w2 w3 (fun v => w4 ⟨v.1, by have := v.2; omega⟩)
  · have r := kk_stL st ht (by rw [e57]; exact h57) hm hp hk2 I12 (I14 t ht.1 (by omega)) (Or.inr ⟨⟨b1, b2⟩, fun q => nb (by obtain ⟨k, k1, _, _, k2⟩ := q; exact ⟨k, by omega, k2⟩)⟩)
    rw [if_neg (show ¬ b = 0 by omega), eo] at r
    have bb := kk_bc (P := G (43, 0, 0) (36 * (36 * t + m - 1) + j) ≠ 0 ∧ ¬ kk_lb c t (G (43, 0, 0) (36 * (36 * t + m - 1) + j))) (R := G (43, 0, 0) (36 * (36 * t + m - 1) + j) ≠ 0 ∧ ¬ kk_lb G t (G (43, 0, 0) (36 * (36 * t + m - 1) + j))) (by rw [I15])
    rw [bb] at r
    rw [kk_sf1 _ hj.1, r, I9]
    omega
  · have r := kk_stB st hm hp hk2 I12 (I14 t ht.1 (by omega)) (Or.inr ⟨⟨b1, b2⟩, fun q => nb ⟨t, by omega, q⟩⟩)
    rw [if_neg (show ¬ b = 0 by omega), eo] at r
    rw [kk_sf1 _ hj.1, r, I10]
    omega
  · have r := kk_stU st hm hp hk2 (I14 t ht.1 (by omega)) (by omega) (u := G (47, 0, 0) (36 * t + m - 1)) (e47 _)
    rw [if_neg (show ¬ b = 0 by omega), eo] at r
    rw [kk_sf1 _ hj.1, r, I11]
    omega
  · by_cases y : s = t
    · rw [y]; exact kk_stF st hp hk2 (I13 t ht.1 (by omega))
    · intro n q n0 n1 q0 q1 z
      rw [kk_sto st hm ⟨n0, n1⟩ hp ⟨q0, q1⟩ y] at z
      rw [st.2.2.1]
      exact I13 s s0 s1 n q n0 n1 q0 q1 z
  · intro n q n0 n1 q0 q1
    by_cases y : s = t
    · by_cases y2 : n = m ∧ q = j
      · rw [y, y2.1, y2.2, a4]; omega
      · rw [y, kk_stp st hp ⟨q0, q1⟩ y2]; exact I14 t ht.1 (by omega) n q n0 n1 q0 q1
    · rw [kk_sto st hm ⟨n0, n1⟩ hp ⟨q0, q1⟩ y]; exact I14 s s0 s1 n q n0 n1 q0 q1
  · have := kk_cnv1 (fun v q => kk_stA st (by omega) hm hp (c := v) q)
    omega

