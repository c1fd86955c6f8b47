/-! the law: its loop -/
section
variable {h : mm_Id → Int → Int} {dh : Int → Int} {nx ns N : Int} {S : Int → Int} {Q : mm_V → mm_H → Prop}
theorem kk_sw9 : ∀ v : Nat, v < 64 → 52 ≤ v → mm_sw 9 v = 82 := by decide
theorem kk_lawL (hy : 5306 ≤ nx) (sN : S (-1) = N) (nN : 0 ≤ N ∧ N ≤ 3585) (sr : ∀ j, 0 ≤ j → j < N → -2147483648 ≤ S j ∧ S j < 2147483648) (KQ : ∀ g d, Q (zI 1) (mm_z g d nx ns)) : ∀ (M : Nat) (x3 b : Int) (h : mm_Id → Int → Int) (dh : Int → Int), N - x3 ≤ M → 1 ≤ x3 → x3 ≤ 3600 → 7 * b ≤ 1600 * (x3 - 1) → kk_core b h dh → kk_sI h → (∀ j, h (90, 0, 0) j = S j) →
    mm_Wp 297 (mm_blk 297 1) [zR (90, 0, 0), zR (1, 0, 0), zR (40, 0, 0), zI x3] [] (mm_z h dh nx ns) Q := by
  intro M
  induction M with
  | zero =>
    intro x3 b h dh m1 m2 m3 m4 hc hs s90
    rw [r_297_1 (hy := hy), s90, sN, mm_wi (by omega) (by omega), if_pos (by omega)]
    exact KQ h dh
  | succ M ih =>
    intro x3 b h dh m1 m2 m3 m4 hc hs s90
    rw [r_297_1 (hy := hy), s90, sN, mm_wi (by omega) (by omega)]
    by_cases c : N - 7 < x3
    · rw [if_pos c]
      exact KQ h dh
    · rw [if_neg c]
      refine ⟨by omega, ?_⟩
      have L : kk_LW h S N x3 := ⟨s90, sN, by omega, sr⟩
      have hb : b + 1600 ≤ 1000000 := by omega
      have K : ∀ g d, kk_core (b + 1600) g d → kk_sI g → (∀ j, g (90, 0, 0) j = S j) → mm_Wp 297 (mm_blk 297 82) [zR (90, 0, 0), zR (1, 0, 0), zR (40, 0, 0), zI x3] [] (mm_z g d nx ns) Q := fun g d c1 c2 c3 => by
        rw [r_297_82 (hy := hy), mm_wi (by omega) (by omega)]
        exact ih (x3 + 7) (b + 1600) g d (by omega) (by omega) (by omega) (by omega) c1 c2 c3
      rw [s90, kk_a63]
      obtain ⟨v, hv⟩ : ∃ v, v = S x3 % 64 := ⟨_, rfl⟩
      have v0 : 0 ≤ v ∧ v < 64 := by omega
      rw [← hv]
      clear hv
      by_cases q : v = 0
      · rw [q, show mm_sw 9 0 = 2 by decide]
        exact kk_case0 hy hc hs hb L K
      have q0 := q
      clear q
      by_cases q : v = 1
      · rw [q, show mm_sw 9 1 = 3 by decide]
        exact kk_case1 hy hc hs hb L K
      have q1 := q
      clear q
      by_cases q : v = 2
      · rw [q, show mm_sw 9 2 = 4 by decide]
        exact kk_case2 hy hc hs hb L K
      have q2 := q
      clear q
      by_cases q : v = 3
      · rw [q, show mm_sw 9 3 = 9 by decide]
        exact kk_case3 hy hc hs hb L K
      have q3 := q
      clear q
      by_cases q : v = 4
      · rw [q, show mm_sw 9 4 = 14 by decide]
        exact kk_case4 hy hc hs hb L K
      have q4 := q
      clear q
      by_cases q : v = 5
      · rw [q, show mm_sw 9 5 = 15 by decide]
        exact kk_case5 hy hc hs hb L K
      have q5 := q
      clear q
      by_cases q : v = 6
      · rw [q, show mm_sw 9 6 = 16 by decide]
        exact kk_case6 hy hc hs hb L K
      have q6 := q
      clear q
      by_cases q : v = 7
      · rw [q, show mm_sw 9 7 = 17 by decide]
        exact kk_case7 hy hc hs hb L K
      have q7 := q
      clear q
      by_cases q : v = 8
      · rw [q, show mm_sw 9 8 = 18 by decide]
        exact kk_case8 hy hc hs hb L K
      have q8 := q
      clear q
      by_cases q : v = 9
      · rw [q, show mm_sw 9 9 = 19 by decide]
        exact kk_case9 hy hc hs hb L K
      have q9 := q
      clear q
      by_cases q : v = 10
      · rw [q, show mm_sw 9 10 = 20 by decide]
        exact kk_case10 hy hc hs hb L K
      have q10 := q
      clear q
      by_cases q : v = 11
      · rw [q, show mm_sw 9 11 = 21 by decide]
        exact kk_case11 hy hc hs hb L K
      have q11 := q
      clear q
      by_cases q : v = 12
      · rw [q, show mm_sw 9 12 = 22 by decide]
        exact kk_case12 hy hc hs hb L K
      have q12 := q
      clear q
      by_cases q : v = 13
      · rw [q, show mm_sw 9 13 = 23 by decide]
        exact kk_case13 hy hc hs hb L K
      have q13 := q
      clear q
      by_cases q : v = 14
      · rw [q, show mm_sw 9 14 = 24 by decide]
        exact kk_case14 hy hc hs hb L K
      have q14 := q
      clear q
      by_cases q : v = 15
      · rw [q, show mm_sw 9 15 = 25 by decide]
        exact kk_case15 hy hc hs hb L K
      have q15 := q
      clear q
      by_cases q : v = 16
      · rw [q, show mm_sw 9 16 = 26 by decide]
        exact kk_case16 hy hc hs hb L K
      have q16 := q
      clear q
      by_cases q : v = 17
      · rw [q, show mm_sw 9 17 = 31 by decide]
        exact kk_case17 hy hc hs hb L K
      have q17 := q
      clear q
      by_cases q : v = 18
      · rw [q, show mm_sw 9 18 = 32 by decide]
        exact kk_case18 hy hc hs hb L K
      have q18 := q
      clear q
      by_cases q : v = 19
      · rw [q, show mm_sw 9 19 = 33 by decide]
        exact kk_case19 hy hc hs hb L K
      have q19 := q
      clear q
      by_cases q : v = 20
      · rw [q, show mm_sw 9 20 = 34 by decide]
        exact kk_case20 hy hc hs hb L K
      have q20 := q
      clear q
      by_cases q : v = 21
      · rw [q, show mm_sw 9 21 = 35 by decide]
        exact kk_case21 hy hc hs hb L K
      have q21 := q
      clear q
      by_cases q : v = 22
      · rw [q, show mm_sw 9 22 = 36 by decide]
        exact kk_case22 hy hc hs hb L K
      have q22 := q
      clear q
      by_cases q : v = 23
      · rw [q, show mm_sw 9 23 = 37 by decide]
        exact kk_case23 hy hc hs hb L K
      have q23 := q
      clear q
      by_cases q : v = 24
      · rw [q, show mm_sw 9 24 = 38 by decide]
        exact kk_case24 hy hc hs hb L K
      have q24 := q
      clear q
      by_cases q : v = 25
      · rw [q, show mm_sw 9 25 = 39 by decide]
        exact kk_case25 hy hc hs hb L K
      have q25 := q
      clear q
      by_cases q : v = 26
      · rw [q, show mm_sw 9 26 = 40 by decide]
        exact kk_case26 hy hc hs hb L K
      have q26 := q
      clear q
      by_cases q : v = 27
      · rw [q, show mm_sw 9 27 = 41 by decide]
        exact kk_case27 hy hc hs hb L K
      have q27 := q
      clear q
      by_cases q : v = 28
      · rw [q, show mm_sw 9 28 = 42 by decide]
        exact kk_case28 hy hc hs hb L K
      have q28 := q
      clear q
      by_cases q : v = 29
      · rw [q, show mm_sw 9 29 = 43 by decide]
        exact kk_case29 hy hc hs hb L K
      have q29 := q
      clear q
      by_cases q : v = 30
      · rw [q, show mm_sw 9 30 = 44 by decide]
        exact kk_case30 hy hc hs hb L K
      have q30 := q
      clear q
      by_cases q : v = 31
      · rw [q, show mm_sw 9 31 = 45 by decide]
        exact kk_case31 hy hc hs hb L K
      have q31 := q
      clear q
      by_cases q : v = 32
      · rw [q, show mm_sw 9 32 = 50 by decide]
        exact kk_case32 hy hc hs hb L K
      have q32 := q
      clear q
      by_cases q : v = 33
      · rw [q, show mm_sw 9 33 = 51 by decide]
        exact kk_case33 hy hc hs hb L K
      have q33 := q
      clear q
      by_cases q : v = 34
      · rw [q, show mm_sw 9 34 = 56 by decide]
        exact kk_case34 hy hc hs hb L K
      have q34 := q
      clear q
      by_cases q : v = 35
      · rw [q, show mm_sw 9 35 = 57 by decide]
        exact kk_case35 hy hc hs hb L K
      have q35 := q
      clear q
      by_cases q : v = 36
      · rw [q, show mm_sw 9 36 = 58 by decide]
        exact kk_case36 hy hc hs hb L K
      have q36 := q
      clear q
      by_cases q : v = 37
      · rw [q, show mm_sw 9 37 = 59 by decide]
        exact kk_case37 hy hc hs hb L K
      have q37 := q
      clear q
      by_cases q : v = 38
      · rw [q, show mm_sw 9 38 = 60 by decide]
        exact kk_case38 hy hc hs hb L K
      have q38 := q
      clear q
      by_cases q : v = 39
      · rw [q, show mm_sw 9 39 = 61 by decide]
        exact kk_case39 hy hc hs hb L K
      have q39 := q
      clear q
      by_cases q : v = 40
      · rw [q, show mm_sw 9 40 = 62 by decide]
        exact kk_case40 hy hc hs hb L K
      have q40 := q
      clear q
      by_cases q : v = 41
      · rw [q, show mm_sw 9 41 = 63 by decide]
        exact kk_case41 hy hc hs hb L K
      have q41 := q
      clear q
      by_cases q : v = 42
      · rw [q, show mm_sw 9 42 = 64 by decide]
        exact kk_case42 hy hc hs hb L K
      have q42 := q
      clear q
      by_cases q : v = 43
      · rw [q, show mm_sw 9 43 = 65 by decide]
        exact kk_case43 hy hc hs hb L K
      have q43 := q
      clear q
      by_cases q : v = 44
      · rw [q, show mm_sw 9 44 = 70 by decide]
        exact kk_case44 hy hc hs hb L K
      have q44 := q
      clear q
      by_cases q : v = 45
      · rw [q, show mm_sw 9 45 = 75 by decide]
        exact kk_case45 hy hc hs hb L K
      have q45 := q
      clear q
      by_cases q : v = 46
      · rw [q, show mm_sw 9 46 = 76 by decide]
        exact kk_case46 hy hc hs hb L K
      have q46 := q
      clear q
      by_cases q : v = 47
      · rw [q, show mm_sw 9 47 = 77 by decide]
        exact kk_case47 hy hc hs hb L K
      have q47 := q
      clear q
      by_cases q : v = 48
      · rw [q, show mm_sw 9 48 = 78 by decide]
        exact kk_case48 hy hc hs hb L K
      have q48 := q
      clear q
      by_cases q : v = 49
      · rw [q, show mm_sw 9 49 = 79 by decide]
        exact kk_case49 hy hc hs hb L K
      have q49 := q
      clear q
      by_cases q : v = 50
      · rw [q, show mm_sw 9 50 = 80 by decide]
        exact kk_case50 hy hc hs hb L K
      have q50 := q
      clear q
      by_cases q : v = 51
      · rw [q, show mm_sw 9 51 = 81 by decide]
        exact kk_case51 hy hc hs hb L K
      have q51 := q
      clear q
      have z := kk_sw9 v.toNat (by omega) (by omega)
      rw [show ((v.toNat : Nat) : Int) = v by omega] at z
      rw [z]
      exact K h dh (kk_coreU ⟨by omega, hb⟩ hc) hs s90
end
