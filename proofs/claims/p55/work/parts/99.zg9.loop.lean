/-! the law's loop -/
theorem tt_a7 (z : Int) : mm_and z 7 = z % 8 := by
  unfold mm_and
  rw [← Int32.toInt_toBitVec, Int32.toBitVec_and]
  have h1 : (Int32.ofInt 7).toBitVec.msb = false := by decide
  have hm : ((Int32.ofInt z).toBitVec &&& (Int32.ofInt 7).toBitVec).msb = false := by
    rw [BitVec.msb_and, h1]; simp
  rw [BitVec.toInt_eq_toNat_of_msb hm, BitVec.toNat_and]
  have h2 : (Int32.ofInt 7).toBitVec.toNat = 2 ^ 3 - 1 := by decide
  rw [h2, Nat.and_two_pow_sub_one_eq_mod]
  have h3 : (Int32.ofInt z).toBitVec.toNat = (z % 4294967296).toNat := by
    show (BitVec.ofInt 32 z).toNat = _
    rw [BitVec.toNat_ofInt]
    rfl
  rw [h3]
  omega
theorem tt_a15 (z : Int) : mm_and z 15 = z % 16 := by
  unfold mm_and
  rw [← Int32.toInt_toBitVec, Int32.toBitVec_and]
  have h1 : (Int32.ofInt 15).toBitVec.msb = false := by decide
  have hm : ((Int32.ofInt z).toBitVec &&& (Int32.ofInt 15).toBitVec).msb = false := by
    rw [BitVec.msb_and, h1]; simp
  rw [BitVec.toInt_eq_toNat_of_msb hm, BitVec.toNat_and]
  have h2 : (Int32.ofInt 15).toBitVec.toNat = 2 ^ 4 - 1 := by decide
  rw [h2, Nat.and_two_pow_sub_one_eq_mod]
  have h3 : (Int32.ofInt z).toBitVec.toNat = (z % 4294967296).toNat := by
    show (BitVec.ofInt 32 z).toNat = _
    rw [BitVec.toNat_ofInt]
    rfl
  rw [h3]
  omega
theorem tt_a1023 (z : Int) : mm_and z 1023 = z % 1024 := by
  unfold mm_and
  rw [← Int32.toInt_toBitVec, Int32.toBitVec_and]
  have h1 : (Int32.ofInt 1023).toBitVec.msb = false := by decide
  have hm : ((Int32.ofInt z).toBitVec &&& (Int32.ofInt 1023).toBitVec).msb = false := by
    rw [BitVec.msb_and, h1]; simp
  rw [BitVec.toInt_eq_toNat_of_msb hm, BitVec.toNat_and]
  have h2 : (Int32.ofInt 1023).toBitVec.toNat = 2 ^ 10 - 1 := by decide
  rw [h2, Nat.and_two_pow_sub_one_eq_mod]
  have h3 : (Int32.ofInt z).toBitVec.toNat = (z % 4294967296).toNat := by
    show (BitVec.ofInt 32 z).toNat = _
    rw [BitVec.toNat_ofInt]
    rfl
  rw [h3]
  omega
theorem tt_tm {x : Int} (h : 0 ≤ x) (m : Int) (hm : 0 < m) : 0 ≤ Int.tmod x m ∧ Int.tmod x m < m := ⟨Int.tmod_nonneg _ h, Int.tmod_lt_of_pos _ hm⟩
theorem tt_cmp (n : Int) : mm_cmp n n = 0 := by unfold mm_cmp; rw [if_neg (by omega), if_pos rfl]
theorem tt_Jm {b b2 : Int} {g : mm_Id → Int → Int} {dh : Int → Int} {k : mm_H} (h : b ≤ b2) (J : tt_J b g dh k) : tt_J b2 g dh k := by
  obtain ⟨⟨b3, h3, c⟩, q⟩ := J
  exact ⟨⟨b3, by omega, c⟩, q⟩
section
variable {g : mm_Id → Int → Int} {dh : Int → Int} {k : mm_H} {Q : mm_V → mm_H → Prop} {b bad lost i : Int} {v6 v7 v8 v9 v10 : mm_V}
/-- the disks, one by one -/
theorem tt_lD (J : tt_J b g dh k) (q : tt_Q bad lost k) (K : mm_Wp 297 (mm_blk 297 1) [zR (90, 0, 0), zR (1, 0, 0), zR (1, 0, 100), zI bad, zI lost, zI (mm_w (i + 3)), v6, v7, v8, zI 6, v10] [] k Q) :
    ∀ (m : Nat) (d : Int), 6 - d = m → 1 ≤ d → mm_Wp 297 (mm_blk 297 39) [zR (90, 0, 0), zR (1, 0, 0), zR (1, 0, 100), zI bad, zI lost, zI i, v6, v7, v8, zI d, v10] [] k Q := by
  intro m
  induction m with
  | zero =>
    intro d e1 e2
    have ed : d = 6 := by omega
    subst ed
    rw [q_297_39 _ _ _ _ _ _ _ _ (tt_h1 J.2.2.2), if_neg (by omega)]
    exact K
  | succ m ih =>
    intro d e1 e2
    rw [q_297_39 _ _ _ _ _ _ _ _ (tt_h1 J.2.2.2), if_pos (by omega)]
    refine tt_46 J q ⟨by omega, by omega⟩ ?_
    have e : mm_w (d + 1) = d + 1 := mm_wid (by omega)
    have z := ih (d + 1) (by omega) (by omega)
    show mm_Wp 297 _ _ _ _ _
    rw [mm_pI, q_297_39_6]
    by_cases c : d = bad
    · rw [if_pos c]
      by_cases f : lost = 0
      · rw [if_pos f, q_297_42, if_pos c, if_pos f, if_pos rfl, e]
        exact z
      · rw [if_neg f, q_297_42, if_pos c, if_neg f, if_pos rfl, e]
        exact z
    · rw [if_neg c, q_297_42, if_neg c, if_pos rfl, e]
      exact z
/-- turn, alike, and the disks -/
theorem tt_l36 (J : tt_J b g dh k) (q : tt_Q bad lost k) (hb : b + 83 ≤ 1000000) (i0 : 0 ≤ i) (i1 : i < 150) (iN : i + 3 ≤ k.1 (90, 0, 0) (-1)) (h8 : mm_wt v8 = 1)
    (K : ∀ g2 dh2 k2, tt_J (b + 83) g2 dh2 k2 → tt_Q bad lost k2 → tt_Z k k2 → mm_Wp 297 (mm_blk 297 1) [zR (90, 0, 0), zR (1, 0, 0), zR (1, 0, 100), zI bad, zI lost, zI (mm_w (i + 3)), v6, v7, v8, zI 6, v10] [] k2 Q) :
    mm_Wp 297 (mm_blk 297 36) [zR (90, 0, 0), zR (1, 0, 0), zR (1, 0, 100), zI bad, zI lost, zI i, v6, v7, v8, v9, v10] [] k Q := by
  have e1 : mm_w (i + 1) = i + 1 := mm_wid (by omega)
  obtain ⟨m, a, S, G, Kt⟩ := tt_turn (k.1 (90, 0, 0) i) (k.1 (90, 0, 0) (i + 1))
  rw [q_297_36, e1]
  refine ⟨⟨i0, by omega⟩, ⟨by omega, by omega⟩, Kt _ _ _ (tt_h0 J.2.2.2) ?_⟩
  refine tt_pz (C2 := fun n r k2 => ∃ n2, r = zI n2 ∧ mm_Wp 297 (bk_297_36.drop 20) [zR (90, 0, 0), zR (1, 0, 0), zR (1, 0, 100), zI bad, zI lost, zI i, v6, v7, v8, v9, v10] (mm_push (zL n2) [zL n]) k2 Q) G J (by omega) (fun n k1 _ hx1 Z1 hq => ?_) (fun n g2 dh2 k2 _ J2 Z2 => ?_)
  · refine ⟨n, rfl, ?_⟩
    show mm_Wp 297 _ _ _ _ _
    rw [mm_pL, q_297_36_10, e1, Z1.2.2]
    exact ⟨⟨i0, by omega⟩, ⟨by omega, by omega⟩, Kt _ _ _ (tt_h1 hx1) hq⟩
  · refine ⟨n, rfl, ?_⟩
    rw [mm_pL, q_297_36_20, tt_cmp, if_pos rfl, e1, Z2.2.2]
    refine ⟨⟨by omega, by omega⟩, ?_⟩
    refine mm_Clm ?_ (tt_alike J2 (by omega))
    rintro r k3 ⟨er, g3, dh3, J3, Z3⟩
    subst er
    show mm_Wp 297 _ _ _ _ _
    rw [mm_pI, q_297_36_30 _ _ _ _ _ _ _ _ _ h8, if_neg (by decide)]
    have q3 := tt_QZ (tt_QZ q Z2) Z3
    rw [show b + 1 + 82 = b + 83 by omega] at J3
    exact tt_lD J3 q3 (K g3 dh3 k3 J3 q3 (tt_Zt Z2 Z3)) 5 1 (by omega) (by omega)
theorem tt_sw11 : mm_sw 11 0 = 6 ∧ mm_sw 11 1 = 6 ∧ mm_sw 11 2 = 10 ∧ mm_sw 11 3 = 17 ∧ mm_sw 11 4 = 17 ∧ mm_sw 11 5 = 25 ∧ mm_sw 11 6 = 35 ∧ mm_sw 11 7 = 36 := by decide
/-- what is done to the disks, then the rest -/
theorem tt_l5 {z d bar : Int} (J : tt_J b g dh k) (q : tt_Q bad lost k) (hb : b + 1 ≤ 1000000) (hd : 1 ≤ d ∧ d ≤ 5) (h9 : mm_wt v9 = 1)
    (hbar : (lost = 0 ∧ (bad = 0 ∨ bad = d) → bar = 1) ∧ (¬ (lost = 0 ∧ (bad = 0 ∨ bad = d)) → bar = -3))
    (K : ∀ bad2 lost2 g2 dh2 k2 v9 v10, tt_J (b + 1) g2 dh2 k2 → tt_Q bad2 lost2 k2 → k2.1 (90, 0, 0) = k.1 (90, 0, 0) → k2.2.2 = k.2.2 → mm_Wp 297 (mm_blk 297 36) [zR (90, 0, 0), zR (1, 0, 0), zR (1, 0, 100), zI bad2, zI lost2, zI i, zI z, zI d, zI bar, v9, v10] [] k2 Q) :
    mm_Wp 297 (mm_blk 297 5) [zR (90, 0, 0), zR (1, 0, 0), zR (1, 0, 100), zI bad, zI lost, zI i, zI z, zI d, v8, v9, v10] [zI bar] k Q := by
  have J1 := tt_Jm (b2 := b + 1) (by omega) J
  have hx := J.2.2.2
  have us : ∀ {k2}, tt_U k k2 → k2.1 (90, 0, 0) = k.1 (90, 0, 0) ∧ k2.2.2 = k.2.2 := fun U => ⟨U.2 _ (by decide), by rw [U.1]⟩
  have n31 : (-3 : Int) ≠ 1 := by decide
  obtain ⟨s0, s1, s2, s3, s4, s5, s6, s7⟩ := tt_sw11
  rw [q_297_5, tt_a7]
  obtain ⟨w, hw⟩ : ∃ w, w = z % 8 := ⟨_, rfl⟩
  have w0 : w = 0 ∨ w = 1 ∨ w = 2 ∨ w = 3 ∨ w = 4 ∨ w = 5 ∨ w = 6 ∨ w = 7 := by omega
  rw [← hw]
  have C6 : mm_Wp 297 (mm_blk 297 6) [zR (90, 0, 0), zR (1, 0, 0), zR (1, 0, 100), zI bad, zI lost, zI i, zI z, zI d, zI bar, v9, v10] [] k Q := by
    rw [q_297_6 _ _ _ _ _ _ _ _ (tt_h1 hx)]
    refine tt_42 J q hd ?_ (fun q1 q2 k2 U Q2 => ?_) (fun q0 => ?_)
    · rw [tt_a1023, mm_wid (by omega)]
      omega
    · show mm_Wp 297 _ _ _ _ _
      rw [mm_pI, q_297_6_11, if_pos (hbar.1 ⟨q1, q2⟩).symm, if_pos (hbar.1 ⟨q1, q2⟩), q_297_9]
      exact K d lost g dh k2 _ _ (tt_JU J1 U) (by rw [q1]; exact Q2) (us U).1 (us U).2
    · show mm_Wp 297 _ _ _ _ _
      rw [mm_pI, q_297_6_11, if_pos (hbar.2 q0).symm, if_neg (by rw [hbar.2 q0]; exact n31), q_297_9]
      exact K bad lost g dh k _ _ J1 q rfl rfl
  have C17 : mm_Wp 297 (mm_blk 297 17) [zR (90, 0, 0), zR (1, 0, 0), zR (1, 0, 100), zI bad, zI lost, zI i, zI z, zI d, zI bar, v9, v10] [] k Q := by
    have C19 : ∀ e : Int, mm_Wp 297 (mm_blk 297 19) [zR (90, 0, 0), zR (1, 0, 0), zR (1, 0, 100), zI bad, zI lost, zI i, zI z, zI d, zI bar, v9, v10] [zI e, zI d, zR (1, 0, 100)] k Q := fun e => by
      rw [q_297_19 _ _ _ _ _ _ _ _ _ _ (tt_h1 hx)]
      refine tt_44 J q hd (fun q1 q2 k2 U Q2 => ?_) (fun q0 k2 U Q2 => ?_)
      · show mm_Wp 297 _ _ _ _ _
        rw [mm_pI, q_297_19_1, if_neg (by omega), if_pos q2, q_297_21, if_pos rfl, if_neg (by omega), if_pos q2, q_297_23, q_297_24]
        exact K bad 0 g dh k2 _ _ (tt_JU J1 U) Q2 (us U).1 (us U).2
      · show mm_Wp 297 _ _ _ _ _
        rw [mm_pI, q_297_19_1]
        by_cases c : lost = 0
        · rw [if_pos c, q_297_20, q_297_21, if_pos rfl, if_pos c, q_297_23, q_297_24]
          rw [c] at Q2
          exact K bad 0 g dh k2 _ _ (tt_JU J1 U) Q2 (us U).1 (us U).2
        · have c1 : lost = 1 := by rcases q.2.2 with w | w; exact absurd w c; exact w
          have f : ¬ bad = d := fun w => q0 ⟨c1, w⟩
          rw [if_neg c, if_neg f, q_297_20, q_297_21, if_pos rfl, if_neg c, if_neg f, q_297_24]
          rw [c1] at Q2
          exact K bad 1 g dh k2 _ _ (tt_JU J1 U) Q2 (us U).1 (us U).2
    rw [q_297_17]
    by_cases c : mm_and z 128 = 128
    · rw [if_pos c]; exact C19 1
    · rw [if_neg c]; exact C19 0
  rcases w0 with e | e | e | e | e | e | e | e
  · rw [e, s0]; exact C6
  · rw [e, s1]; exact C6
  · rw [e, s2, q_297_10 _ _ _ _ _ _ _ _ (tt_h1 hx)]
    refine tt_43 J q hd (fun q1 q2 k2 U Q2 => ?_) (fun q0 => ?_)
    · show mm_Wp 297 _ _ _ _ _
      rw [mm_pI, q_297_10_3, if_pos (hbar.1 ⟨q1, q2⟩).symm, if_pos q1, if_pos (hbar.1 ⟨q1, q2⟩), q_297_12, q_297_14, if_pos (hbar.1 ⟨q1, q2⟩), q_297_16]
      exact K d 1 g dh k2 _ _ (tt_JU J1 U) Q2 (us U).1 (us U).2
    · show mm_Wp 297 _ _ _ _ _
      have b1 : ¬ bar = 1 := by rw [hbar.2 q0]; exact n31
      rw [mm_pI, q_297_10_3, if_pos (hbar.2 q0).symm]
      by_cases c : lost = 0
      · rw [if_pos c, if_neg b1, q_297_14, if_neg b1, q_297_16]
        have q2 := q
        rw [c] at q2
        exact K bad 0 g dh k _ _ J1 q2 rfl rfl
      · have c1 : lost = 1 := by rcases q.2.2 with w | w; exact absurd w c; exact w
        rw [if_neg c, q_297_12, q_297_14, if_neg b1, q_297_16]
        have q2 := q
        rw [c1] at q2
        exact K bad 1 g dh k _ _ J1 q2 rfl rfl
  · rw [e, s3]; exact C17
  · rw [e, s4]; exact C17
  · have C27 : ∀ cut : Int, mm_Wp 297 (mm_blk 297 27) [zR (90, 0, 0), zR (1, 0, 0), zR (1, 0, 100), zI bad, zI lost, zI i, zI z, zI d, zI bar, v9, v10] [zI cut] k Q := fun cut => by
      rw [q_297_27 _ _ _ _ _ _ _ _ _ rfl (tt_h1 hx)]
      refine tt_45 J q hb (fun q1 => ?_) (fun q1 k1 hx1 Q1 h90 h22 W => ?_)
      · have c : ¬ lost = 0 := by omega
        show mm_Wp 297 _ _ _ _ _
        rw [mm_pI, q_297_27_4, if_neg c, q_297_30, if_pos rfl, if_neg c, q_297_32, q_297_34 _ _ _ _ _ _ _ _ _ (tt_h0 hx), if_neg c]
        exact K bad lost g dh k _ _ J1 q rfl rfl
      · show mm_Wp 297 _ _ _ _ _
        rw [mm_pI, q_297_27_4, if_pos q1]
        by_cases f : cut = 0
        · rw [if_pos f] at Q1
          rw [if_pos f, if_pos f, q_297_30, if_pos rfl, if_pos q1, if_pos f, q_297_34 _ _ _ _ _ _ _ _ _ (tt_h0 hx1), if_pos q1]
          refine W _ (fun n g2 dh2 k2 n0 J2 Z2 => ?_)
          show mm_Wp 297 _ _ _ _ _
          rw [mm_pI, q_297_34_5, if_neg (by omega), q1]
          exact K 0 0 g2 dh2 k2 _ _ J2 (tt_QZ Q1 Z2) (Z2.2.2.trans h90) (Z2.1.trans h22)
        · rw [if_neg f] at Q1
          rw [if_neg f, if_neg f, q_297_30, if_pos rfl, if_pos q1, if_neg f, q_297_32, q_297_34 _ _ _ _ _ _ _ _ _ (tt_h0 hx1), if_pos q1]
          refine W _ (fun n g2 dh2 k2 n0 J2 Z2 => ?_)
          show mm_Wp 297 _ _ _ _ _
          rw [mm_pI, q_297_34_5, if_neg (by omega), q1]
          exact K bad 0 g2 dh2 k2 _ _ J2 (tt_QZ Q1 Z2) (Z2.2.2.trans h90) (Z2.1.trans h22)
    rw [e, s5, q_297_25]
    by_cases c : mm_and z 128 = 128
    · rw [if_pos c]; exact C27 1
    · rw [if_neg c]; exact C27 0
  · rw [e, s6, q_297_35 _ _ _ _ _ _ _ _ h9 (tt_h0 hx)]
    by_cases c : mm_and (mm_shr z 6) 3 = 0
    · rw [if_pos c]
      have hh : tt_I (Int.tmod (mm_and (mm_shr z 3) 7) 5) := by
        rw [tt_a7]
        have := tt_tm (x := mm_shr z 3 % 8) (by omega) 5 (by decide)
        exact ⟨by omega, by omega⟩
      refine tt_pr (C2 := fun n r h => mm_Wp 297 (bk_297_35.drop 20) [zR (90, 0, 0), zR (1, 0, 0), zR (1, 0, 100), zI bad, zI lost, zI i, zI z, zI d, zI bar, v9, zI (Int.tmod (mm_and (mm_shr z 3) 7) 5)] (mm_push r [zI n]) h Q) (tt_g41 hh) J hb (fun n k1 _ hx1 hq => ?_) (fun n g2 dh2 k2 _ J2 Z2 => ?_)
      · rw [mm_pI, q_297_35_17 _ _ _ _ _ _ _ _ _ (tt_h1 hx1)]; exact hq
      · rw [mm_pI, q_297_35_20, if_pos rfl]
        exact K bad lost g2 dh2 k2 _ _ J2 (tt_QZ q Z2) Z2.2.2 Z2.1
    · rw [if_neg c]
      exact K bad lost g dh k _ _ J1 q rfl rfl
  · rw [e, s7]
    exact K bad lost g dh k _ _ J1 q rfl rfl
/-- the end: both crash -/
theorem tt_l45 {v0 v3 v4 v5 : mm_V} (J : tt_J b g dh k) (hb : b + 165 ≤ 1000000) (KQ : ∀ k2, k2.2.2 = k.2.2 → Q (zI 1) k2) : mm_Wp 297 (mm_blk 297 45) [v0, zR (1, 0, 0), zR (1, 0, 100), v3, v4, v5, v6, v7, v8, v9, v10] [] k Q := by
  rw [q_297_45 _ _ _ _ _ _ _ _ _ (tt_h0 J.2.2.2)]
  refine tt_pr (C2 := fun n r h => mm_Wp 297 (bk_297_45.drop 6) [v0, zR (1, 0, 0), zR (1, 0, 100), v3, v4, v5, v6, v7, v8, v9, v10] (mm_push r [zI n]) h Q) (tt_g41 tt_Ic) J (by omega) (fun n k1 _ hx1 hq => ?_) (fun n g2 dh2 k2 _ J2 Z2 => ?_)
  · rw [mm_pI, q_297_45_3 _ _ _ _ _ _ _ _ _ _ (tt_h1 hx1)]; exact hq
  rw [mm_pI, q_297_45_6, if_pos rfl]
  refine mm_Clm ?_ (tt_alike J2 (by omega))
  rintro r k3 ⟨er, g3, dh3, J3, Z3⟩
  subst er
  show mm_Wp 297 _ _ _ _ _
  rw [mm_pI, q_297_45_11, if_neg (by decide)]
  refine mm_Clm ?_ (tt_alike J3 (by omega))
  rintro r k4 ⟨er, g4, dh4, J4, Z4⟩
  subst er
  show mm_Wp 297 _ _ _ _ _
  rw [mm_pI, q_297_45_16, if_neg (by decide), q_297_47]
  exact ⟨Or.inr rfl, KQ k4 (Z4.1.trans (Z3.1.trans Z2.1))⟩
end
/-- the loop -/
theorem tt_lawL {Q : mm_V → mm_H → Prop} {N : Int} {E : Int × Int} (nN : 0 ≤ N ∧ N ≤ 1000000) (KQ : ∀ k2 : mm_H, k2.2.2 = E → Q (zI 1) k2) : ∀ (m : Nat) (i b bad lost : Int) (g : mm_Id → Int → Int) (dh : Int → Int) (k : mm_H) (v6 v7 v8 v9 v10 : mm_V), 200 - i ≤ m → 0 ≤ i → i ≤ 152 → b ≤ 30 * i → tt_J b g dh k → tt_Q bad lost k → k.1 (90, 0, 0) (-1) = N → k.2.2 = E → mm_wt v9 = 1 →
    mm_Wp 297 (mm_blk 297 1) [zR (90, 0, 0), zR (1, 0, 0), zR (1, 0, 100), zI bad, zI lost, zI i, v6, v7, v8, v9, v10] [] k Q := by
  intro m
  induction m with
  | zero => intro i b bad lost g dh k v6 v7 v8 v9 v10 h1 h2 h3; omega
  | succ m ih =>
    intro i b bad lost g dh k v6 v7 v8 v9 v10 h1 h2 h3 hb J q hN hE h9
    have e3 : mm_w (i + 3) = i + 3 := mm_wid (by omega)
    have e2 : mm_w (i + 2) = i + 2 := mm_wid (by omega)
    rw [q_297_1, e3, e2, hN]
    by_cases c : N < i + 3
    · rw [if_pos c]
      exact tt_l45 J (by omega) (fun k2 w => KQ k2 (w.trans hE))
    rw [if_neg c]
    by_cases f : i < 150
    · rw [if_pos f]
      refine ⟨⟨by omega, by omega⟩, ?_⟩
      obtain ⟨z, hz⟩ : ∃ z, z = k.1 (90, 0, 0) (i + 2) := ⟨_, rfl⟩
      rw [← hz]
      obtain ⟨d, ed⟩ : ∃ d, d = mm_w (1 + Int.tmod (mm_and (mm_shr z 3) 15) 5) := ⟨_, rfl⟩
      have hd : 1 ≤ d ∧ d ≤ 5 := by
        rw [tt_a15] at ed
        have := tt_tm (x := mm_shr z 3 % 16) (by omega) 5 (by decide)
        rw [mm_wid (by omega)] at ed
        omega
      rw [← ed]
      have go : ∀ bar : Int, ((lost = 0 ∧ (bad = 0 ∨ bad = d) → bar = 1) ∧ (¬ (lost = 0 ∧ (bad = 0 ∨ bad = d)) → bar = -3)) → mm_Wp 297 (mm_blk 297 5) [zR (90, 0, 0), zR (1, 0, 0), zR (1, 0, 100), zI bad, zI lost, zI i, zI z, zI d, v8, v9, v10] [zI bar] k Q := fun bar hbar =>
        tt_l5 J q (by omega) hd h9 hbar (fun bad2 lost2 g2 dh2 k2 v9 v10 J2 q2 h90 h22 => tt_l36 J2 q2 (by omega) h2 f (by rw [h90]; omega) rfl (fun g3 dh3 k3 J3 q3 Z3 => by
          rw [e3]
          exact ih (i + 3) (b + 1 + 83) bad2 lost2 g3 dh3 k3 _ _ _ _ _ (by omega) (by omega) (by omega) (by omega) J3 q3 (by rw [Z3.2.2, h90]; exact hN) (Z3.1.trans (h22.trans hE)) rfl))
      have b3 : ¬ (lost = 0 ∧ (bad = 0 ∨ bad = d)) → mm_Wp 297 (mm_blk 297 3) [zR (90, 0, 0), zR (1, 0, 0), zR (1, 0, 100), zI bad, zI lost, zI i, zI z, zI d, v8, v9, v10] [] k Q := fun w => by
        rw [q_297_3]
        exact go (-3) ⟨fun u => absurd u w, fun _ => rfl⟩
      have b2 : (bad = 0 ∨ bad = d) → mm_Wp 297 (mm_blk 297 2) [zR (90, 0, 0), zR (1, 0, 0), zR (1, 0, 100), zI bad, zI lost, zI i, zI z, zI d, v8, v9, v10] [] k Q := fun w => by
        rw [q_297_2]
        by_cases u : lost = 0
        · rw [if_pos u]; exact go 1 ⟨fun _ => rfl, fun x => absurd ⟨u, w⟩ x⟩
        · rw [if_neg u]; exact b3 (fun x => u x.1)
      by_cases u : bad = 0
      · rw [if_pos u]; exact b2 (Or.inl u)
      · rw [if_neg u]
        by_cases u2 : bad = d
        · rw [if_pos u2]; exact b2 (Or.inr u2)
        · rw [if_neg u2]; exact b3 (fun x => x.2.elim u u2)
    · rw [if_neg f]
      exact tt_l45 J (by omega) (fun k2 w => KQ k2 (w.trans hE))
