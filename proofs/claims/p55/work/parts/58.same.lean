/-! nodes are alike here and there -/
theorem kk_a255 (z : Int) : mm_and z 255 = z % 256 := by
  unfold mm_and
  rw [← Int32.toInt_toBitVec, Int32.toBitVec_and]
  have h1 : (Int32.ofInt 255).toBitVec.msb = false := by decide
  have hm : ((Int32.ofInt z).toBitVec &&& (Int32.ofInt 255).toBitVec).msb = false := by
    rw [BitVec.msb_and, h1]; simp
  rw [BitVec.toInt_eq_toNat_of_msb hm, BitVec.toNat_and]
  have h2 : (Int32.ofInt 255).toBitVec.toNat = 2 ^ 8 - 1 := by decide
  rw [h2, Nat.and_two_pow_sub_one_eq_mod]
  have h3 : (Int32.ofInt z).toBitVec.toNat = (z % 4294967296).toNat := by
    show (BitVec.ofInt 32 z).toNat = _
    rw [BitVec.toNat_ofInt]
    rfl
  rw [h3]
  omega
theorem kk_byc {h : mm_Id → Int → Int} {t n : Int} (N : kk_NR h t n) (z0 : ∀ e, 0 ≤ e → e < 60 → h (16, 0, 0) e = 0) {i : Int} (hi : 0 ≤ i ∧ i < 2160) : kk_by h t n i = h (16, 0, 0) (60 * h (27, t, n) (i / 60) + i % 60) % 256 := by
  have E := N.2.2.2.2.2.2.2 (i / 60) (by omega) (by omega)
  unfold kk_by
  by_cases c : h (27, t, n) (i / 60) = 0
  · rw [if_pos (E.1.1 c), c, z0 _ (by omega) (by omega)]; rfl
  · rw [if_neg (fun q => c (E.1.2 q)), kk_a255, E.2 c (i % 60) (by omega) (by omega)]
theorem kk_alm {h : mm_Id → Int → Int} {t t2 n : Int} (N1 : kk_NR h t n) (N2 : kk_NR h t2 n) (W1 : kk_NW h t n) (W2 : kk_NW h t2 n) (hz : (∀ e, 0 ≤ e → e < 60 → h (16, 0, 0) e = 0) ∧ ∀ j, 0 ≤ j → j < 102060 → -128 ≤ h (16, 0, 0) j ∧ h (16, 0, 0) j < 128) (hr : ∀ p, 0 ≤ p → p < 36 → (0 ≤ h (27, t, n) p ∧ h (27, t, n) p < 1701) ∧ 0 ≤ h (27, t2, n) p ∧ h (27, t2, n) p < 1701) :
    kk_al h t n t2 n ↔ kk_ma h (36 * t + n - 1) (36 * t2 + n - 1) (∀ i, 0 ≤ i → i < h (42, 0, 0) (36 * t + n - 1) → kk_by h t n i = kk_by h t2 n i) := by
  have e1 := N1.1
  have e2 := N2.1
  unfold kk_al kk_ma
  rw [← e1, ← e2]
  refine and_congr_right (fun ke => ?_)
  by_cases k0 : h (24, t, n) 0 = 0
  · exact ⟨fun _ q => absurd k0 q, fun _ q => absurd k0 q⟩
  have m1 := N1.2.2.2.1 k0
  have m2 := N2.2.2.2.1 (by omega)
  have keys : (∀ e, 0 ≤ e → e < h (49, 0, 0) (36 * t + n - 1) → h (50, 0, 0) (4 * (36 * t + n - 1) + e) = h (50, 0, 0) (4 * (36 * t2 + n - 1) + e) ∧ h (51, 0, 0) (4 * (36 * t + n - 1) + e) = h (51, 0, 0) (4 * (36 * t2 + n - 1) + e)) ∧ h (24, t, n) 11 = h (24, t2, n) 11 ↔ h (24, t, n) 11 = h (24, t2, n) 11 ∧ ∀ e, 0 ≤ e → e < h (24, t, n) 11 → h (28, t, n) e = h (28, t2, n) e ∧ h (29, t, n) e = h (29, t2, n) e := by
    rw [← N1.2.2.1]
    constructor
    · rintro ⟨q1, q2⟩
      refine ⟨q2, fun e e0 e1 => ?_⟩
      have a := q1 e e0 e1
      rw [← (N1.2.2.2.2.2.1 e e0 e1).1, ← (N1.2.2.2.2.2.1 e e0 e1).2, ← (N2.2.2.2.2.2.1 e e0 (by omega)).1, ← (N2.2.2.2.2.2.1 e e0 (by omega)).2] at a
      exact a
    · rintro ⟨q2, q1⟩
      refine ⟨fun e e0 e1 => ?_, q2⟩
      rw [← (N1.2.2.2.2.2.1 e e0 e1).1, ← (N1.2.2.2.2.2.1 e e0 e1).2, ← (N2.2.2.2.2.2.1 e e0 (by omega)).1, ← (N2.2.2.2.2.2.1 e e0 (by omega)).2]
      exact q1 e e0 e1
  have ents : h (24, t, n) 0 ≠ 2 → h (24, t, n) 6 = h (24, t2, n) 6 ∧ ∀ e, 0 ≤ e → e < h (24, t, n) 6 → h (25, t, n) e = h (25, t2, n) e ∧ h (26, t, n) e = h (26, t2, n) e := fun k => by
    have a := W1.2.2.1 k
    have a2 := W2.2.2.1 (by omega)
    exact ⟨by omega, fun e e0 e1 => by omega⟩
  have rows : h (24, t, n) 0 ≠ 1 → ∀ p, 0 ≤ p → p < 36 → kk_rb h (h (27, t, n) p) (h (27, t2, n) p) := fun k p p0 p1 => by
    rw [W1.2.2.2.2.2.2.2.1 k p p0 p1, W2.2.2.2.2.2.2.2.1 (by omega) p p0 p1]
    exact fun _ _ _ => rfl
  constructor
  · intro q _
    obtain ⟨q1, q2, q3, q4, q5, q6, q7⟩ := q k0
    have ky := keys.2 q6
    refine ⟨⟨by omega, by omega, by rw [← N1.2.2.1, ← N2.2.2.1]; exact ky.2⟩, ky.1, fun k3 => ⟨⟨by omega, ?_⟩, fun e e0 e1 => ?_⟩, fun k2 => ⟨by rw [← N1.2.1, ← N2.2.1]; exact q5.1, fun e e0 e1 => ?_⟩, fun k2 k3 => ⟨by omega, fun i i0 i1 => ?_⟩⟩
    · have := (q7 k3).1; omega
    · rw [← m1.1] at e1
      rw [← N1.2.2.2.2.2.2.1 k3 e e0 e1, ← N2.2.2.2.2.2.2.1 (by omega) e e0 (by omega)]
      exact (q7 k3).2 e e0 e1
    · rw [← N1.2.1] at e1
      have a := q5.2 e e0 e1
      rw [← (N1.2.2.2.2.1 e e0 e1).1, ← (N1.2.2.2.2.1 e e0 e1).2, ← (N2.2.2.2.2.1 e e0 (by omega)).1, ← (N2.2.2.2.2.1 e e0 (by omega)).2]
      exact a
    · have k1 : h (24, t, n) 0 = 1 := by have := W1.1; omega
      have l1 := W1.2.2.2.2.2.2.2.2.2.2.1.1 k1
      rw [kk_byc N1 hz.1 (by omega), kk_byc N2 hz.1 (by omega), q4 (i / 60) (by omega) (by omega) (i % 60) (by omega) (by omega)]
  · intro q _
    obtain ⟨⟨q1, q2, q3⟩, q4, q5, q6, q7⟩ := q k0
    rw [← N1.2.2.1, ← N2.2.2.1] at q3
    have ky := keys.1 ⟨q4, q3⟩
    by_cases k3 : h (24, t, n) 0 = 3
    · obtain ⟨⟨a1, a2⟩, a3⟩ := q5 k3
      refine ⟨by omega, by omega, by omega, rows (by omega), ents (by omega), ky, fun _ => ⟨by omega, fun e e0 e1 => ?_⟩⟩
      rw [N1.2.2.2.2.2.2.1 k3 e e0 e1, N2.2.2.2.2.2.2.1 (by omega) e e0 (by omega)]
      exact a3 e e0 (by omega)
    · by_cases k2 : h (24, t, n) 0 = 2
      · obtain ⟨a1, a2⟩ := q6 k2
        have l1 := W1.2.2.2.2.2.2.2.2.2.2.1.2.1 k2
        have l2 := W2.2.2.2.2.2.2.2.2.2.2.1.2.1 (by omega)
        rw [← N1.2.1, ← N2.2.1] at a1
        refine ⟨by omega, by omega, by omega, rows (by omega), ⟨a1, fun e e0 e1 => ?_⟩, ky, fun q => absurd q k3⟩
        rw [(N1.2.2.2.2.1 e e0 e1).1, (N1.2.2.2.2.1 e e0 e1).2, (N2.2.2.2.2.1 e e0 (by omega)).1, (N2.2.2.2.2.1 e e0 (by omega)).2]
        exact a2 e e0 (by have := N1.2.1; omega)
      · obtain ⟨a1, a2⟩ := q7 k2 k3
        have k1 : h (24, t, n) 0 = 1 := by have := W1.1; omega
        have k12 : h (24, t2, n) 0 = 1 := by omega
        have l1 := W1.2.2.2.2.2.2.2.2.2.2.1.1 k1
        refine ⟨by omega, by omega, by omega, fun p p0 p1 e e0 e1 => ?_, ents (by omega), ky, fun q => absurd q k3⟩
        have d1 : (60 * p + e) / 60 = p := by omega
        have d2 : (60 * p + e) % 60 = e := by omega
        by_cases lt : 60 * p + e < h (24, t, n) 1
        · have a := a2 (60 * p + e) (by omega) (by omega)
          rw [kk_byc N1 hz.1 (by omega), kk_byc N2 hz.1 (by omega), d1, d2] at a
          have r := hr p p0 p1
          have b1 := hz.2 (60 * h (27, t, n) p + e) (by omega) (by omega)
          have b2 := hz.2 (60 * h (27, t2, n) p + e) (by omega) (by omega)
          omega
        · have a := W1.2.2.2.2.2.2.2.2.2.2.2.2.2.2.2.2 k1 (60 * p + e) (by omega) (by omega)
          have b := W2.2.2.2.2.2.2.2.2.2.2.2.2.2.2.2.2 k12 (60 * p + e) (by omega) (by omega)
          rw [d1, d2] at a b
          omega

