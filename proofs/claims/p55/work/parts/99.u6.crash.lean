/-! crash, here: trees taken from what was kept -/
/-- the counters set right -/
theorem kk_cor {A : mm_Id → Int → Int} (r1 : kk_R1 A) (h8 : 0 ≤ A (15, 0, 0) 8 ∧ A (15, 0, 0) 8 < 1701) : ∃ B : mm_Id → Int → Int, kk_R B ∧ ∀ x j, ¬ kk_ct x j → B x j = A x j := by
  classical
  obtain ⟨B, hB⟩ : ∃ B : mm_Id → Int → Int, B = fun x j => if x = (15, 0, 0) ∧ j = 7 then kk_hd A else if x = (17, 0, 0) then (if j = 0 then 0 else kc_A A j) else if x = (18, 0, 0) then (if j = 0 then 0 else kc_K A j) else if x = (19, 0, 0) then (if j = 0 then 0 else if 0 < kc_A A j ∨ 0 < kc_K A j then 1 else 0) else A x j := ⟨_, rfl⟩
  have o : ∀ x j, ¬ kk_ct x j → B x j = A x j := fun x j q => by
    rw [hB]
    unfold kk_ct at q
    show (if x = (15, 0, 0) ∧ j = 7 then kk_hd A else if x = (17, 0, 0) then (if j = 0 then 0 else kc_A A j) else if x = (18, 0, 0) then (if j = 0 then 0 else kc_K A j) else if x = (19, 0, 0) then (if j = 0 then 0 else if 0 < kc_A A j ∨ 0 < kc_K A j then 1 else 0) else A x j) = A x j
    rw [if_neg (fun v => q (Or.inl v)), if_neg (fun v => q (Or.inr (Or.inl v))), if_neg (fun v => q (Or.inr (Or.inr (Or.inl v)))), if_neg (fun v => q (Or.inr (Or.inr (Or.inr v))))]
  have p : ∀ t n j, B (27, t, n) j = A (27, t, n) j := fun t n j => o _ _ (kk_ctn (by decide))
  have eA : ∀ r, kc_A B r = kc_A A r := fun r => by
    unfold kc_A kc_N kc_P
    simp only [p]
  have eK : ∀ r, kc_K B r = kc_K A r := fun r => by
    unfold kc_K kc_N kc_P
    simp only [p]
  have b17 : ∀ r, r ≠ 0 → B (17, 0, 0) r = kc_A A r := fun r q => by rw [hB]; simp [q]
  have b18 : ∀ r, r ≠ 0 → B (18, 0, 0) r = kc_K A r := fun r q => by rw [hB]; simp [q]
  have b19 : ∀ r, r ≠ 0 → B (19, 0, 0) r = if 0 < kc_A A r ∨ 0 < kc_K A r then 1 else 0 := fun r q => by rw [hB]; simp [q]
  have hd : kk_hd B = kk_hd A := by unfold kk_hd; simp only [eA]
  refine ⟨B, ⟨fun t n j a c d e => by rw [p]; exact r1 t n j a c d e, fun r r0 r1' => ?_, ?_, ?_, ?_, ?_, ?_, ?_⟩, o⟩
  · rw [b17 r (by omega), b18 r (by omega), b19 r (by omega), eA, eK]
    exact ⟨rfl, rfl, rfl⟩
  · rw [hd, hB]; simp
  · rw [o _ _ (by simp [kk_ct])]; exact h8.1
  · rw [o _ _ (by simp [kk_ct])]; exact h8.2
  · rw [hB]; simp
  · rw [hB]; simp
  · rw [hB]; simp
theorem kk_cpds {g h : mm_Id → Int → Int} {t n t1 n1 : Int} (c : kk_cpd g t n h t1 n1) : kk_cpd h t1 n1 g t n := by
  obtain ⟨⟨c1, c2, c3, c4⟩, c5, c6⟩ := c
  refine ⟨⟨fun f hf => (c1 f hf).symm, fun k e e0 e1 => ?_, fun k e e0 e1 => ?_, fun e e0 e1 => ?_⟩, c5.symm, fun p p0 p1 => (c6 p p0 p1).symm⟩
  · rw [c1 0 kk_F0] at k
    exact ⟨(c2 k e e0 e1).1.symm, (c2 k e e0 e1).2.symm⟩
  · rw [c1 0 kk_F0] at k
    exact (c3 k e e0 e1).symm
  · rw [c1 11 kk_F11] at e1
    exact ⟨(c4 e e0 e1).1.symm, (c4 e e0 e1).2.symm⟩
theorem kk_msj {g h k : mm_Id → Int → Int} {a b c : Int} (x : kk_ms g a k c) (y : kk_ms h b k c) : kk_ms g a h b := by
  obtain ⟨x1, x2, x3, x4, x5⟩ := x
  obtain ⟨y1, y2, y3, y4, y5⟩ := y
  refine ⟨fun f hf => by rw [x1 f hf, y1 f hf], fun p p0 p1 => by rw [x2 p p0 p1, y2 p p0 p1], fun e e0 e1 => ?_, fun e e0 e1 => ?_, fun e e0 e1 => by rw [x5 e e0 e1, y5 e e0 e1]⟩
  · rw [y1 44 kk_f44] at e1
    rw [(x3 e e0 e1).1, (x3 e e0 e1).2, (y3 e e0 e1).1, (y3 e e0 e1).2]
    exact ⟨rfl, rfl⟩
  · rw [y1 49 kk_f49] at e1
    rw [(x4 e e0 e1).1, (x4 e e0 e1).2, (y4 e e0 e1).1, (y4 e e0 e1).2]
    exact ⟨rfl, rfl⟩
/-- unused in what was kept -/
def kk_uk (P : mm_Id → Int → Int) (i n : Int) : Prop := P (24, 13 + i, n) 0 = 1 ∧ P (24, 13 + i, n) 5 = 0
/-- how far it has come, here -/
def kk_ci (P A : mm_Id → Int → Int) (dh0 : Int → Int) (i : Int) (B : mm_Id → Int → Int) (dh1 : Int → Int) : Prop :=
  kk_R B ∧ (∀ a n, 0 ≤ a → a < i → 1 ≤ n → n < 37 → kk_uk P a n → kk_cl B a n) ∧ (∀ a n, 0 ≤ a → a < i → 1 ≤ n → n < 37 → ¬ kk_uk P a n → kk_cpd B a n P (13 + a) n) ∧
  (∀ (f : Nat) a c k, f < 40 → ¬ (f = 15 ∧ k = 7) → f ≠ 17 → f ≠ 18 → f ≠ 19 → ¬ (24 ≤ f ∧ f ≤ 30 ∧ 0 ≤ a ∧ a < i ∧ 1 ≤ c ∧ c < 37) → ¬ (f = 31 ∧ 0 ≤ a ∧ a < i ∧ k = 6) → B (f, a, c) k = P (f, a, c) k) ∧
  (∀ a, 0 ≤ a → a < i → ¬ P (31, a, 0) 3 = 0 → B (31, a, 0) 6 = 1) ∧ (∀ a, 0 ≤ a → a < i → P (31, a, 0) 3 = 0 → B (31, a, 0) 6 = P (31, a, 0) 6 ∧ (P (31, a, 0) 6 = 0 → ∀ (f : Nat) n k, 24 ≤ f → f ≤ 30 → B (f, a, n) k = P (f, a, n) k)) ∧
  (∀ (x : mm_Id) k, 40 ≤ x.1 → B x k = A x k) ∧ (∀ q, 0 ≤ q → q < 8 → mm_isD (dh0 q) ∧ dh0 q < i → dh1 q = -1) ∧ (∀ q, 0 ≤ q → q < 8 → ¬ (mm_isD (dh0 q) ∧ dh0 q < i) → dh1 q = dh0 q)
theorem s41l {b : Int} {P A : mm_Id → Int → Int} {dh0 : Int → Int} {nx ns : Int} {Q : mm_V → mm_H → Prop} (hx : 5275 ≤ nx) (hc : kk_core b P dh0) {v1 v4 : mm_V} {x2 : Int} (eA : ∀ (x : mm_Id) k, x.1 < 40 → A x k = P x k)
    (K : ∀ B dh1 v, kk_ci P A dh0 5 B dh1 → mm_Cl 64 [zR (1, 0, 0)] (mm_z B dh1 nx ns) (fun r h3 => mm_Wp 41 (bk_41_7.drop 2) [zR (1, 0, 0), v1, zI x2, zI 5, v] (mm_push r []) h3 Q)) :
    mm_Wp 41 (mm_blk 41 4) [zR (1, 0, 0), v1, zI x2, zI 0, v4] [] (mm_z A dh0 nx ns) Q := by
  have KD := hc.1.2.2.1
  have h22 : ∀ a, mm_isT a → P (22, a, 0) 2 = kk_as a := hc.1.1.2.2.2.2.2.2.2.2.2.1
  have Lp : ∀ (e : Nat) (i : Int) (B : mm_Id → Int → Int) (dh1 : Int → Int) (v : mm_V), 5 - i = e → 0 ≤ i → kk_ci P A dh0 i B dh1 → mm_Wp 41 (mm_blk 41 4) [zR (1, 0, 0), v1, zI x2, zI i, v] [] (mm_z B dh1 nx ns) Q := by
    intro e
    induction e with
    | zero =>
      intro i B dh1 v e1 e2 I
      have e3 : i = 5 := by omega
      subst e3
      rw [r_41_4 (hx := hx), if_neg (by decide)]
      exact K B dh1 v I
    | succ e ih =>
      intro i B dh1 v e1 e2 I
      obtain ⟨I1, I2, I3, I4, I5, I6, I7, I8, I9⟩ := I
      have hD : mm_isD i := ⟨e2, by omega⟩
      have bI : ∀ (f : Nat) n k, 24 ≤ f → f ≤ 30 → B (f, i, n) k = P (f, i, n) k := fun f n k f0 f1 => I4 f i n k (by omega) (by omega) (by omega) (by omega) (by omega) (by omega) (by omega)
      have bK : ∀ (f : Nat) n k, 24 ≤ f → f ≤ 30 → B (f, 13 + i, n) k = P (f, 13 + i, n) k := fun f n k f0 f1 => I4 f _ n k (by omega) (by omega) (by omega) (by omega) (by omega) (by omega) (by omega)
      have b31 : ∀ k, B (31, i, 0) k = P (31, i, 0) k := fun k => I4 31 i 0 k (by decide) (by omega) (by decide) (by decide) (by decide) (by omega) (by omega)
      -- what comes behind the copy
      have mid : ∀ C : mm_Id → Int → Int, kk_R C → (∀ n, 1 ≤ n → n < 37 → kk_cpd C i n P (13 + i) n) → (∀ (f : Nat) a c k, f < 40 → ¬ (f = 15 ∧ k = 7) → f ≠ 17 → f ≠ 18 → f ≠ 19 → ¬ (24 ≤ f ∧ f ≤ 30 ∧ a = i ∧ 1 ≤ c ∧ c < 37) → C (f, a, c) k = B (f, a, c) k) → (∀ (x : mm_Id) k, 40 ≤ x.1 → C x k = B x k) → (P (31, i, 0) 6 = 0 → ∀ (f : Nat) n k, 24 ≤ f → f ≤ 30 → C (f, i, n) k = P (f, i, n) k) → mm_Wp 41 (mm_blk 41 5) [zR (1, 0, 0), v1, zI x2, zI i, zR (31, i, 0)] [] (mm_z C dh1 nx ns) Q := fun C cR cC cF c40 c0 => by
        have cI : ∀ (f : Nat) a c k, f < 40 → ¬ (f = 15 ∧ k = 7) → f ≠ 17 → f ≠ 18 → f ≠ 19 → ¬ (24 ≤ f ∧ f ≤ 30 ∧ 0 ≤ a ∧ a < i + 1 ∧ 1 ≤ c ∧ c < 37) → ¬ (f = 31 ∧ 0 ≤ a ∧ a < i ∧ k = 6) → C (f, a, c) k = P (f, a, c) k := fun f a c k f0 q1 q2 q3 q4 q5 q6 => by
          rw [cF f a c k f0 q1 q2 q3 q4 (by omega)]
          exact I4 f a c k f0 q1 q2 q3 q4 (by omega) q6
        have c31 : ∀ k, C (31, i, 0) k = P (31, i, 0) k := fun k => cI 31 i 0 k (by decide) (by omega) (by decide) (by decide) (by decide) (by omega) (by omega)
        have cO : ∀ (f : Nat) a n k, 24 ≤ f → f ≤ 30 → 0 ≤ a → a < i → C (f, a, n) k = B (f, a, n) k := fun f a n k f0 f1 a0 a1 => cF f a n k (by omega) (by omega) (by omega) (by omega) (by omega) (by omega)
        rw [r_41_5 (htx4 := hD) (hx := hx), c31]
        by_cases z : P (31, i, 0) 3 = 0
        · rw [if_pos z, r_41_6 (hx := hx), mm_wi (by omega) (by omega)]
          have k0 : ∀ n, 1 ≤ n → n < 37 → ¬ kk_uk P i n := fun n n0 n1 w => by
            have := hc.2.2.2.2.2.1 i e2 (by omega) (by rw [kk_n5 (by omega)]; exact z) n n0 n1
            unfold kk_uk at w
            omega
          have nd : ∀ q, 0 ≤ q → q < 8 → mm_isD (dh0 q) → dh0 q ≠ i := fun q q0 q1 d y => by
            have w := ((kk_h17 hc q q0 q1).1 d).2.2.2.2.1
            rw [y, kk_n5 (by omega)] at w
            omega
          refine ih (i + 1) C dh1 _ (by omega) (by omega) ⟨cR, fun a n a0 a1 n0 n1 q => ?_, fun a n a0 a1 n0 n1 q => ?_, fun f a c k f0 q1 q2 q3 q4 q5 q6 => cI f a c k f0 q1 q2 q3 q4 q5 (by omega), fun a a0 a1 q => ?_, fun a a0 a1 q => ?_, fun x k q => (c40 x k q).trans (I7 x k q), fun q q0 q1 w => I8 q q0 q1 ⟨w.1, by have := nd q q0 q1 w.1; omega⟩, fun q q0 q1 w => I9 q q0 q1 (fun w2 => w ⟨w2.1, by omega⟩)⟩
          · by_cases y : a = i
            · rw [y] at q; exact absurd q (k0 n n0 n1)
            · exact kk_cle (fun f k _ => cO f a n k (by omega) (by omega) a0 (by omega)) (I2 a n a0 (by omega) n0 n1 q)
          · by_cases y : a = i
            · rw [y]; exact cC n n0 n1
            · exact kk_cpdt (kk_cpdr (fun f k f0 f1 => cO f a n k f0 f1 a0 (by omega))) (I3 a n a0 (by omega) n0 n1 q)
          · by_cases y : a = i
            · rw [y] at q; exact absurd z q
            · rw [cF 31 a 0 6 (by decide) (by omega) (by decide) (by decide) (by decide) (by omega)]; exact I5 a a0 (by omega) q
          · by_cases y : a = i
            · rw [y]; exact ⟨c31 6, c0⟩
            · rw [cF 31 a 0 6 (by decide) (by omega) (by decide) (by decide) (by decide) (by omega)]
              have w := I6 a a0 (by omega) q
              exact ⟨w.1, fun w2 f n k f0 f1 => by rw [cO f a n k f0 f1 a0 (by omega)]; exact w.2 w2 f n k f0 f1⟩
        · rw [if_neg z]
          refine s65t hx hc hD (mm_tk hD) cR cC (by rw [cI 22 i 0 2 (by decide) (by omega) (by decide) (by decide) (by decide) (by omega) (by omega)]; exact h22 _ (mm_td hD)) (fun E dh2 eR ecl ecp eF e40 efl d1 d2 => ?_)
          rw [mm_pU, r_41_5_6 (hx := hx), r_41_6 (hx := hx), mm_wi (by omega) (by omega)]
          have eO : ∀ (f : Nat) a n k, 24 ≤ f → f ≤ 30 → 0 ≤ a → a < i → E (f, a, n) k = B (f, a, n) k := fun f a n k f0 f1 a0 a1 => (eF f a n k (by omega) (by omega) (by omega) (by omega) (by omega) (by omega) (by omega)).trans (cO f a n k f0 f1 a0 a1)
          have e316 : ∀ a, a ≠ i → E (31, a, 0) 6 = B (31, a, 0) 6 := fun a y => (eF 31 a 0 6 (by decide) (by omega) (by decide) (by decide) (by decide) (by omega) (by omega)).trans (cF 31 a 0 6 (by decide) (by omega) (by decide) (by decide) (by decide) (by omega))
          refine ih (i + 1) E dh2 _ (by omega) (by omega) ⟨eR, fun a n a0 a1 n0 n1 q => ?_, fun a n a0 a1 n0 n1 q => ?_, fun f a c k f0 q1 q2 q3 q4 q5 q6 => ?_, fun a a0 a1 q => ?_, fun a a0 a1 q => ?_, fun x k q => ((e40 x k q).trans (c40 x k q)).trans (I7 x k q), fun q q0 q1 w => ?_, fun q q0 q1 w => ?_⟩
          · by_cases y : a = i
            · rw [y] at q ⊢; exact ecl n n0 n1 q
            · exact kk_cle (fun f k _ => eO f a n k (by omega) (by omega) a0 (by omega)) (I2 a n a0 (by omega) n0 n1 q)
          · by_cases y : a = i
            · rw [y] at q ⊢; exact ecp n n0 n1 q
            · exact kk_cpdt (kk_cpdr (fun f k f0 f1 => eO f a n k f0 f1 a0 (by omega))) (I3 a n a0 (by omega) n0 n1 q)
          · rw [eF f a c k f0 q1 q2 q3 q4 (by omega) (by omega)]
            exact cI f a c k f0 q1 q2 q3 q4 q5 (by omega)
          · by_cases y : a = i
            · rw [y]; exact efl
            · rw [e316 a y]; exact I5 a a0 (by omega) q
          · by_cases y : a = i
            · rw [y] at q; exact absurd q z
            · rw [e316 a y]
              have w := I6 a a0 (by omega) q
              exact ⟨w.1, fun w2 f n k f0 f1 => by rw [eO f a n k f0 f1 a0 (by omega)]; exact w.2 w2 f n k f0 f1⟩
          · by_cases y : dh0 q = i
            · refine d1 q q0 q1 ?_
              rw [I9 q q0 q1 (by omega)]; exact y
            · have w2 := I8 q q0 q1 ⟨w.1, by omega⟩
              rw [d2 q q0 q1 (by rw [w2]; omega)]; exact w2
          · have w2 := I9 q q0 q1 (fun w2 => w ⟨w2.1, by omega⟩)
            rw [d2 q q0 q1 (fun w3 => w ⟨?_, by omega⟩)]
            · exact w2
            · rw [w2] at w3
              rw [w3]; exact hD
      rw [r_41_4 (hx := hx), if_pos (by omega)]
      refine ⟨⟨by omega, by omega⟩, ?_⟩
      rw [b31]
      by_cases z : P (31, i, 0) 6 = 0
      · rw [if_pos z]
        refine mid B I1 (fun n n0 n1 => ?_) (fun _ _ _ _ _ _ _ _ _ _ => rfl) (fun _ _ _ => rfl) (fun _ f n k f0 f1 => bI f n k f0 f1)
        exact kk_cpdt (kk_cpdr (fun f k f0 f1 => bI f n k f0 f1)) (kk_cpds (KD.2.2.2.2.2.2.2.2.2.2.2.2.1 i n e2 (by omega) z n0 n1))
      · rw [if_neg z]
        refine s165 (mm_td hD) (mm_tk hD) hx (by omega) I1 (fun n n0 n1 => kk_nwcp (kk_cpdr (fun f k f0 f1 => bI f n k f0 f1)) (kk_nwC hc (mm_td hD) ⟨n0, n1⟩)) (fun n n0 n1 => kk_nwcp (kk_cpdr (fun f k f0 f1 => bK f n k f0 f1)) (kk_nwC hc (mm_tk hD) ⟨n0, n1⟩)) (by rw [I4 22 i 0 2 (by decide) (by omega) (by decide) (by decide) (by decide) (by omega) (by omega)]; exact h22 _ (mm_td hD)) (fun C cR cC cF => ?_)
        rw [mm_pU, r_41_4_16 (htx4 := hD) (hx := hx)]
        refine mid C cR (fun n n0 n1 => kk_cpdt (cC n n0 n1) (kk_cpdr (fun f k f0 f1 => bK f n k f0 f1))) (fun f a c k f0 q1 q2 q3 q4 q5 => cF _ _ (by unfold kk_ct; simp; omega) (by unfold kk_tr; simp; omega)) (fun x k q => cF x k (by unfold kk_ct; rintro (⟨v, _⟩ | v | v | v) <;> (rw [v] at q; simp at q)) (by unfold kk_tr; omega)) (fun w => absurd w z)
  refine Lp 5 0 A dh0 v4 (by omega) (by omega) ⟨?_, fun a n a0 a1 => by omega, fun a n a0 a1 => by omega, fun f a c k f0 _ _ _ _ _ _ => eA _ k f0, fun a a0 a1 => by omega, fun a a0 a1 => by omega, fun _ _ _ => rfl, fun q _ _ w => by have := w.1; unfold mm_isD at this; omega, fun _ _ _ _ => rfl⟩
  exact kk_Rcong (fun a c k => eA _ k (by simp)) (eA _ _ (by decide)) (eA _ _ (by decide)) (fun r => eA _ _ (by decide)) (fun r => eA _ _ (by decide)) (fun r => eA _ _ (by decide)) hc.1.1.2.2.2.2.2.2.2.1

