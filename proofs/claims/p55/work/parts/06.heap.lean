/-! the layout: which cell is made as the how-many-th -/
theorem mm_SHn {x : mm_Id} {v w : Nat × Int} (h : mm_on x v = w) (hw : w ≠ (0, 0)) : x.2.1 = 0 ∧ x.2.2 = 0 ∧ v = w := by
  unfold mm_on at h
  split at h
  · rename_i q; exact ⟨q.1, q.2, h⟩
  · exact absurd h.symm hw
theorem mm_SHi {x : mm_Id} {n : Int} {v w : Nat × Int} (h : mm_oi x n v = w) (hw : w ≠ (0, 0)) : 0 ≤ x.2.1 ∧ x.2.1 < n ∧ x.2.2 = 0 ∧ v = w := by
  unfold mm_oi at h
  split at h
  · rename_i q; exact ⟨q.1, q.2.1, q.2.2, h⟩
  · exact absurd h.symm hw
theorem mm_SHt {x : mm_Id} {v w : Nat × Int} (h : mm_ot x v = w) (hw : w ≠ (0, 0)) : (0 ≤ x.2.1 ∧ x.2.1 < 18 ∨ x.2.1 = 26 ∨ x.2.1 = 27) ∧ x.2.2 = 0 ∧ v = w := by
  unfold mm_ot at h
  split at h
  · rename_i q; exact ⟨q.1, q.2, h⟩
  · exact absurd h.symm hw
theorem mm_SHx {x : mm_Id} {v w : Nat × Int} (h : mm_ox x v = w) (hw : w ≠ (0, 0)) : (0 ≤ x.2.1 ∧ x.2.1 < 18 ∨ x.2.1 = 26 ∨ x.2.1 = 27) ∧ 0 ≤ x.2.2 ∧ x.2.2 ≤ 36 ∧ v = w := by
  unfold mm_ox at h
  split at h
  · rename_i q; exact ⟨q.1, q.2.1, q.2.2, h⟩
  · exact absurd h.symm hw
theorem mm_bt_of {t n : Int} {j : Nat} (h0 : 0 ≤ n) (hj : j < 7) : mm_bt t (2 + 7 * n + j) = (24 + j, t, n) := by
  unfold mm_bt
  rw [if_neg (by omega), if_neg (by omega)]
  have e1 : (24 + (2 + 7 * n + (j : Int) - 2) % 7).toNat = 24 + j := by omega
  have e2 : (2 + 7 * n + (j : Int) - 2) / 7 = n := by omega
  rw [e1, e2]
theorem mm_be_tb {t k : Int} (ht : 0 ≤ t ∧ t < 18 ∨ t = 26 ∨ t = 27) (h0 : 0 ≤ k) (hk : k < 261) : mm_beo (mm_tb t + k) = mm_bt t k := by
  unfold mm_beo mm_tb
  rcases ht with ⟨h1, h2⟩ | rfl | rfl
  · by_cases a : t < 5
    · simp only [if_pos a]
      rw [if_neg (by omega), if_neg (by omega), if_neg (by omega), if_pos (by omega), if_neg (by omega), if_neg (by omega), if_pos (by omega)]
      have e1 : (545 + 524 * t + k - 543) / 524 = t := by omega
      have e2 : (545 + 524 * t + k - 543) % 524 - 2 = k := by omega
      rw [e1, e2]
    · simp only [if_neg a]
      by_cases b : t < 13
      · simp only [if_pos b]
        rw [if_neg (by omega), if_neg (by omega), if_neg (by omega), if_neg (by omega), if_pos (by omega), if_neg (by omega)]
        have e1 : (3164 + 262 * (t - 5) + k - 3163) / 262 + 5 = t := by omega
        have e2 : (3164 + 262 * (t - 5) + k - 3163) % 262 - 1 = k := by omega
        rw [e1, e2]
      · simp only [if_neg b, if_pos h2]
        rw [if_neg (by omega), if_neg (by omega), if_neg (by omega), if_pos (by omega), if_neg (by omega), if_neg (by omega), if_neg (by omega)]
        have e1 : (806 + 524 * (t - 13) + k - 543) / 524 + 13 = t := by omega
        have e2 : (806 + 524 * (t - 13) + k - 543) % 524 - 263 = k := by omega
        rw [e1, e2]
  · rw [if_neg (by omega : ¬ (26 : Int) < 5), if_neg (by omega : ¬ (26 : Int) < 13), if_neg (by omega : ¬ (26 : Int) < 18), if_neg (by omega), if_pos (by omega)]
    congr 1
    omega
  · rw [if_neg (by omega : ¬ (27 : Int) < 5), if_neg (by omega : ¬ (27 : Int) < 13), if_neg (by omega : ¬ (27 : Int) < 18), if_neg (by omega), if_neg (by omega), if_pos (by omega)]
    congr 1
    omega
theorem mm_be1 (f : Nat) (h : f < 90) (h2 : f < 22 ∧ 0 < f ∨ 40 ≤ f) : mm_beo (if f < 22 then (f : Int) - 1 else (f : Int) + 5235) = (f, 0, 0) := by
  unfold mm_beo
  rcases h2 with ⟨a, b⟩ | a
  · rw [if_pos a, if_pos (by omega)]
    have : ((f : Int) - 1 + 1).toNat = f := by omega
    rw [this]
  · rw [if_neg (by omega : ¬ f < 22), if_neg (by omega), if_neg (by omega), if_neg (by omega), if_neg (by omega), if_neg (by omega), if_neg (by omega)]
    have : ((f : Int) + 5235 - 5235).toNat = f := by omega
    rw [this]
theorem mm_be31 {d : Int} (h0 : 0 ≤ d) (h : d < 5) : mm_beo (543 + 524 * d) = (31, d, 0) ∧ mm_beo (544 + 524 * d) = (32, d, 0) := by
  unfold mm_beo
  constructor
  · rw [if_neg (by omega), if_neg (by omega), if_neg (by omega), if_pos (by omega), if_pos (by omega)]
    have : (543 + 524 * d - 543) / 524 = d := by omega
    rw [this]
  · rw [if_neg (by omega), if_neg (by omega), if_neg (by omega), if_pos (by omega), if_neg (by omega), if_pos (by omega)]
    have : (544 + 524 * d - 543) / 524 = d := by omega
    rw [this]
theorem mm_be33 {d : Int} (h0 : 0 ≤ d) (h : d < 8) : mm_beo (3163 + 262 * d) = (33, d, 0) ∧ mm_beo (5259 + 2 * d) = (34, d, 0) ∧ mm_beo (5260 + 2 * d) = (35, d, 0) := by
  unfold mm_beo
  refine ⟨?_, ?_, ?_⟩
  · rw [if_neg (by omega), if_neg (by omega), if_neg (by omega), if_neg (by omega), if_pos (by omega), if_pos (by omega)]
    have : (3163 + 262 * d - 3163) / 262 = d := by omega
    rw [this]
  · rw [if_neg (by omega), if_neg (by omega), if_neg (by omega), if_neg (by omega), if_neg (by omega), if_pos (by omega), if_pos (by omega)]
    have : (5259 + 2 * d - 5259) / 2 = d := by omega
    rw [this]
  · rw [if_neg (by omega), if_neg (by omega), if_neg (by omega), if_neg (by omega), if_neg (by omega), if_pos (by omega), if_neg (by omega)]
    have : (5260 + 2 * d - 5259) / 2 = d := by omega
    rw [this]
/-- a cell of the law's making: it is that which is made at its place -/
theorem mm_beo_off : ∀ (x : mm_Id), mm_SHo x ≠ (0, 0) → x.1 < 90 → mm_beo (mm_offo x) = x ∧ 0 ≤ mm_offo x ∧ (x.1 < 36 ↔ mm_offo x < 5275) := by
  intro ⟨f, t, n⟩ h hf
  generalize hv : mm_SHo (f, t, n) = v at h
  have hf : f < 90 := hf
  have one : ∀ w : Nat × Int, mm_on (f, t, n) w = v → mm_offo (f, t, n) = (if f < 22 then (f : Int) - 1 else (f : Int) + 5235) → (f < 22 ∧ 0 < f ∨ 40 ≤ f) → mm_beo (mm_offo (f, t, n)) = (f, t, n) ∧ 0 ≤ mm_offo (f, t, n) ∧ (f < 36 ↔ mm_offo (f, t, n) < 5275) := by
    intro w hw e q
    obtain ⟨h1, h2, -⟩ := mm_SHn hw h
    dsimp only at h1 h2
    subst h1; subst h2
    rw [e]
    exact ⟨mm_be1 f hf q, by split <;> omega, by split <;> omega⟩
  have node : ∀ (w : Nat × Int) (j : Nat), f = 24 + j → j < 7 → mm_ox (f, t, n) w = v → mm_offo (f, t, n) = mm_tb t + 2 + 7 * n + j → mm_beo (mm_offo (f, t, n)) = (f, t, n) ∧ 0 ≤ mm_offo (f, t, n) ∧ (f < 36 ↔ mm_offo (f, t, n) < 5275) := by
    intro w j ej hj hw e
    obtain ⟨h1, h2, h3, -⟩ := mm_SHx hw h
    dsimp only at h1 h2 h3
    have e2 : mm_tb t + 2 + 7 * n + (j : Int) = mm_tb t + (2 + 7 * n + j) := by omega
    rw [e, e2, mm_be_tb h1 (by omega) (by omega), mm_bt_of h2 hj, ← ej]
    exact ⟨rfl, by unfold mm_tb; (repeat' split) <;> omega, by unfold mm_tb; (repeat' split) <;> omega⟩
  unfold mm_SHo at hv
  split at hv <;> (try (rename_i e; have e := (show f = _ from e); subst e))
  all_goals first
    | (refine one _ hv ?_ (by omega); rfl)
    | (refine node _ 0 rfl (by omega) hv ?_; rfl)
    | (refine node _ 1 rfl (by omega) hv ?_; rfl)
    | (refine node _ 2 rfl (by omega) hv ?_; rfl)
    | (refine node _ 3 rfl (by omega) hv ?_; rfl)
    | (refine node _ 4 rfl (by omega) hv ?_; rfl)
    | (refine node _ 5 rfl (by omega) hv ?_; rfl)
    | (refine node _ 6 rfl (by omega) hv ?_; rfl)
    | (exact absurd hv.symm h)
    | omega
    | skip
  · obtain ⟨h1, h2, -⟩ := mm_SHt hv h
    dsimp only at h1 h2
    subst h2
    have e := mm_be_tb h1 (k := 0) (by omega) (by omega)
    rw [Int.add_zero] at e
    exact ⟨by show mm_beo (mm_tb t) = _; rw [e]; rfl, by show 0 ≤ mm_tb t; unfold mm_tb; (repeat' split) <;> omega, by show 22 < 36 ↔ mm_tb t < 5275; unfold mm_tb; (repeat' split) <;> omega⟩
  · obtain ⟨h1, h2, -⟩ := mm_SHt hv h
    dsimp only at h1 h2
    subst h2
    have e := mm_be_tb h1 (k := 1) (by omega) (by omega)
    exact ⟨by show mm_beo (mm_tb t + 1) = _; rw [e]; rfl, by show 0 ≤ mm_tb t + 1; unfold mm_tb; (repeat' split) <;> omega, by show 23 < 36 ↔ mm_tb t + 1 < 5275; unfold mm_tb; (repeat' split) <;> omega⟩
  · obtain ⟨h1, h2, h3, -⟩ := mm_SHi hv h
    dsimp only at h1 h2 h3
    subst h3
    exact ⟨(mm_be31 h1 h2).1, by show 0 ≤ 543 + 524 * t; omega, by show 31 < 36 ↔ 543 + 524 * t < 5275; omega⟩
  · obtain ⟨h1, h2, h3, -⟩ := mm_SHi hv h
    dsimp only at h1 h2 h3
    subst h3
    exact ⟨(mm_be31 h1 h2).2, by show 0 ≤ 544 + 524 * t; omega, by show 32 < 36 ↔ 544 + 524 * t < 5275; omega⟩
  · obtain ⟨h1, h2, h3, -⟩ := mm_SHi hv h
    dsimp only at h1 h2 h3
    subst h3
    exact ⟨(mm_be33 h1 h2).1, by show 0 ≤ 3163 + 262 * t; omega, by show 33 < 36 ↔ 3163 + 262 * t < 5275; omega⟩
  · obtain ⟨h1, h2, h3, -⟩ := mm_SHi hv h
    dsimp only at h1 h2 h3
    subst h3
    exact ⟨(mm_be33 h1 h2).2.1, by show 0 ≤ 5259 + 2 * t; omega, by show 34 < 36 ↔ 5259 + 2 * t < 5275; omega⟩
  · obtain ⟨h1, h2, h3, -⟩ := mm_SHi hv h
    dsimp only at h1 h2 h3
    subst h3
    exact ⟨(mm_be33 h1 h2).2.2, by show 0 ≤ 5260 + 2 * t; omega, by show 35 < 36 ↔ 5260 + 2 * t < 5275; omega⟩
theorem mm_off_bt {t k : Int} (h0 : 0 ≤ k) : mm_offo (mm_bt t k) = mm_tb t + k := by
  unfold mm_bt
  by_cases a : k = 0
  · rw [if_pos a, a, Int.add_zero]; rfl
  · rw [if_neg a]
    by_cases b : k = 1
    · rw [if_pos b, b]; rfl
    · rw [if_neg b]
      have q : (k - 2) % 7 = 0 ∨ (k - 2) % 7 = 1 ∨ (k - 2) % 7 = 2 ∨ (k - 2) % 7 = 3 ∨ (k - 2) % 7 = 4 ∨ (k - 2) % 7 = 5 ∨ (k - 2) % 7 = 6 := by omega
      rcases q with q | q | q | q | q | q | q <;> rw [q]
      · show mm_tb t + 2 + 7 * ((k - 2) / 7) + 0 = _; omega
      · show mm_tb t + 2 + 7 * ((k - 2) / 7) + 1 = _; omega
      · show mm_tb t + 2 + 7 * ((k - 2) / 7) + 2 = _; omega
      · show mm_tb t + 2 + 7 * ((k - 2) / 7) + 3 = _; omega
      · show mm_tb t + 2 + 7 * ((k - 2) / 7) + 4 = _; omega
      · show mm_tb t + 2 + 7 * ((k - 2) / 7) + 5 = _; omega
      · show mm_tb t + 2 + 7 * ((k - 2) / 7) + 6 = _; omega
theorem mm_off1 (f : Nat) (h2 : f < 22 ∨ 40 ≤ f) : mm_offo (f, 0, 0) = if f < 22 then (f : Int) - 1 else (f : Int) + 5235 := by
  unfold mm_offo
  split <;> first | rfl | (rename_i e; have e := (show f = _ from e); omega)
/-- what is made as the k-th lies at the k-th place -/
theorem mm_offo_be {k : Int} (h0 : 0 ≤ k) : mm_offo (mm_beo k) = k := by
  unfold mm_beo
  by_cases a1 : k < 21
  · rw [if_pos a1, mm_off1 _ (by omega), if_pos (by omega)]; omega
  rw [if_neg a1]
  by_cases a2 : k < 282
  · rw [if_pos a2, mm_off_bt (by omega)]; unfold mm_tb; (repeat' split) <;> omega
  rw [if_neg a2]
  by_cases a3 : k < 543
  · rw [if_pos a3, mm_off_bt (by omega)]; unfold mm_tb; (repeat' split) <;> omega
  rw [if_neg a3]
  by_cases a4 : k < 3163
  · rw [if_pos a4]
    by_cases b : (k - 543) % 524 = 0
    · rw [if_pos b]; show 543 + 524 * ((k - 543) / 524) = k; omega
    rw [if_neg b]
    by_cases c : (k - 543) % 524 = 1
    · rw [if_pos c]; show 544 + 524 * ((k - 543) / 524) = k; omega
    rw [if_neg c]
    by_cases d : (k - 543) % 524 < 263
    · rw [if_pos d, mm_off_bt (by omega)]; unfold mm_tb; (repeat' split) <;> omega
    · rw [if_neg d, mm_off_bt (by omega)]; unfold mm_tb; (repeat' split) <;> omega
  rw [if_neg a4]
  by_cases a5 : k < 5259
  · rw [if_pos a5]
    by_cases b : (k - 3163) % 262 = 0
    · rw [if_pos b]; show 3163 + 262 * ((k - 3163) / 262) = k; omega
    · rw [if_neg b, mm_off_bt (by omega)]; unfold mm_tb; (repeat' split) <;> omega
  rw [if_neg a5]
  by_cases a6 : k < 5275
  · rw [if_pos a6]
    by_cases b : (k - 5259) % 2 = 0
    · rw [if_pos b]; show 5259 + 2 * ((k - 5259) / 2) = k; omega
    · rw [if_neg b]; show 5260 + 2 * ((k - 5259) / 2) = k; omega
  · rw [if_neg a6, mm_off1 _ (by omega), if_neg (by omega)]; omega
/-- the kinds of 1 to 9 are of the law's making -/
theorem mm_kd90o {x : mm_Id} {kd : Nat} {n : Int} (h : mm_SHo x = (kd, n)) (h1 : 1 ≤ kd) (h9 : kd ≤ 9) : x.1 < 90 := by
  rcases Nat.lt_or_ge x.1 90 with q | q
  · exact q
  exfalso
  have hne : ((kd, n) : Nat × Int) ≠ (0, 0) := fun e => by have := congrArg Prod.fst e; dsimp only at this; omega
  unfold mm_SHo at h
  split at h <;> (try (rename_i e; omega))
  · have := congrArg Prod.fst (mm_SHn h hne).2.2; dsimp only at this; omega
  · exact hne h.symm
theorem mm_fl1 (x : mm_Id) : (mm_fl x).1 = x.1 := by unfold mm_fl; split <;> rfl
theorem mm_fl0 {x : mm_Id} (h : x.2.2 < 100) : mm_fl x = x := by unfold mm_fl; rw [if_neg (by omega)]
theorem mm_flp {x : mm_Id} (h : x.1 < 36) (h2 : 100 ≤ x.2.2) : mm_fl x = (x.1, x.2.1, x.2.2 - 100) := by unfold mm_fl; rw [if_pos ⟨h, h2⟩]
theorem mm_SH_lo {x : mm_Id} (h : x.2.2 < 100) : mm_SH x = mm_SHo x := by unfold mm_SH; rw [mm_fl0 h]
theorem mm_off_lo {x : mm_Id} (h1 : x.1 < 36) (h : x.2.2 < 100) : mm_off x = mm_offo x := by unfold mm_off; rw [if_pos h1, if_neg (by omega)]
theorem mm_kd90 {x : mm_Id} {kd : Nat} {n : Int} (h : mm_SH x = (kd, n)) (h1 : 1 ≤ kd) (h9 : kd ≤ 9) : x.1 < 90 := by
  have := mm_kd90o (x := mm_fl x) h h1 h9
  rwa [mm_fl1] at this
/-- where a node's number lies, of a cell that has a shape -/
theorem mm_SHr {x : mm_Id} (h : mm_SHo x ≠ (0, 0)) : 0 ≤ x.2.2 ∧ x.2.2 ≤ 36 := by
  obtain ⟨v, hv⟩ : ∃ v, v = mm_SHo x := ⟨_, rfl⟩
  rw [← hv] at h
  have hv := hv.symm
  unfold mm_SHo at hv
  split at hv <;> first
    | (have q := mm_SHn hv h; omega)
    | (have q := mm_SHi hv h; omega)
    | (have q := mm_SHt hv h; omega)
    | (have q := mm_SHx hv h; omega)
    | exact absurd hv.symm h
theorem mm_bt_r {t k : Int} (h0 : 0 ≤ k) (hk : k < 261) : (mm_bt t k).1 < 36 ∧ 0 ≤ (mm_bt t k).2.2 ∧ (mm_bt t k).2.2 < 100 := by
  unfold mm_bt
  split
  · exact ⟨by show 22 < 36; decide, by show (0 : Int) ≤ 0; decide, by show (0 : Int) < 100; decide⟩
  · split
    · exact ⟨by show 23 < 36; decide, by show (0 : Int) ≤ 0; decide, by show (0 : Int) < 100; decide⟩
    · dsimp only
      omega
theorem mm_beo_r {k : Int} (h0 : 0 ≤ k) : (k < 5275 → (mm_beo k).1 < 36 ∧ 0 ≤ (mm_beo k).2.2 ∧ (mm_beo k).2.2 < 100) ∧ (5275 ≤ k → 36 ≤ (mm_beo k).1) := by
  unfold mm_beo
  refine ⟨fun hk => ?_, fun hk => ?_⟩
  · by_cases a1 : k < 21
    · rw [if_pos a1]; dsimp only; omega
    rw [if_neg a1]
    by_cases a2 : k < 282
    · rw [if_pos a2]; exact mm_bt_r (by omega) (by omega)
    rw [if_neg a2]
    by_cases a3 : k < 543
    · rw [if_pos a3]; exact mm_bt_r (by omega) (by omega)
    rw [if_neg a3]
    by_cases a4 : k < 3163
    · rw [if_pos a4]
      by_cases b : (k - 543) % 524 = 0
      · rw [if_pos b]; exact ⟨by show 31 < 36; decide, by show (0 : Int) ≤ 0; decide, by show (0 : Int) < 100; decide⟩
      rw [if_neg b]
      by_cases c : (k - 543) % 524 = 1
      · rw [if_pos c]; exact ⟨by show 32 < 36; decide, by show (0 : Int) ≤ 0; decide, by show (0 : Int) < 100; decide⟩
      rw [if_neg c]
      by_cases d : (k - 543) % 524 < 263
      · rw [if_pos d]; exact mm_bt_r (by omega) (by omega)
      · rw [if_neg d]; exact mm_bt_r (by omega) (by omega)
    rw [if_neg a4]
    by_cases a5 : k < 5259
    · rw [if_pos a5]
      by_cases b : (k - 3163) % 262 = 0
      · rw [if_pos b]; exact ⟨by show 33 < 36; decide, by show (0 : Int) ≤ 0; decide, by show (0 : Int) < 100; decide⟩
      · rw [if_neg b]; exact mm_bt_r (by omega) (by omega)
    rw [if_neg a5, if_pos hk]
    by_cases b : (k - 5259) % 2 = 0
    · rw [if_pos b]; exact ⟨by show 34 < 36; decide, by show (0 : Int) ≤ 0; decide, by show (0 : Int) < 100; decide⟩
    · rw [if_neg b]; exact ⟨by show 35 < 36; decide, by show (0 : Int) ≤ 0; decide, by show (0 : Int) < 100; decide⟩
  · rw [if_neg (by omega), if_neg (by omega), if_neg (by omega), if_neg (by omega), if_neg (by omega), if_neg (by omega)]
    dsimp only
    omega
theorem mm_be_off (x : mm_Id) (h : mm_SH x ≠ (0, 0)) (h9 : x.1 < 90) : mm_be (mm_off x) = x ∧ 0 ≤ mm_off x := by
  have f1 := mm_fl1 x
  have hr := mm_SHr h
  obtain ⟨a, b, c⟩ := mm_beo_off (mm_fl x) h (by omega)
  unfold mm_off
  by_cases q : x.1 < 36
  · rw [if_pos q]
    by_cases w : 100 ≤ x.2.2
    · rw [if_pos w]
      rw [f1] at c
      have c := c.1 q
      refine ⟨?_, by omega⟩
      unfold mm_be
      rw [if_neg (by omega), if_pos (by omega), show mm_offo (mm_fl x) + 5275 - 5275 = mm_offo (mm_fl x) by omega, a, mm_flp q w]
      unfold mm_hu
      rw [show x.2.2 - 100 + 100 = x.2.2 by omega]
    · rw [if_neg w]
      rw [mm_fl0 (by omega)] at a b c
      refine ⟨?_, b⟩
      unfold mm_be
      rw [if_pos (c.1 q)]
      exact a
  · rw [if_neg q]
    have e : mm_fl x = x := by unfold mm_fl; rw [if_neg (by omega)]
    rw [e] at a b c
    have c2 : ¬ mm_offo x < 5275 := fun z => q (c.2 z)
    refine ⟨?_, by omega⟩
    unfold mm_be
    rw [if_neg (by omega), if_neg (by omega), show mm_offo x + 5275 - 5275 = mm_offo x by omega]
    exact a
/-- what is made as the k-th lies at the k-th place -/
theorem mm_off_be {k : Int} (h0 : 0 ≤ k) : mm_off (mm_be k) = k := by
  unfold mm_be
  by_cases a : k < 5275
  · rw [if_pos a]
    obtain ⟨q1, q2, q3⟩ := (mm_beo_r h0).1 a
    rw [mm_off_lo q1 q3]
    exact mm_offo_be h0
  rw [if_neg a]
  by_cases b : k < 10550
  · rw [if_pos b]
    obtain ⟨q1, q2, q3⟩ := (mm_beo_r (k := k - 5275) (by omega)).1 (by omega)
    unfold mm_off mm_hu
    dsimp only
    rw [if_pos q1, if_pos (by omega), mm_flp (by exact q1) (by show 100 ≤ _ + 100; omega)]
    dsimp only
    rw [show (mm_beo (k - 5275)).2.2 + 100 - 100 = (mm_beo (k - 5275)).2.2 by omega]
    have := mm_offo_be (k := k - 5275) (by omega)
    have e : ((mm_beo (k - 5275)).1, (mm_beo (k - 5275)).2.1, (mm_beo (k - 5275)).2.2) = mm_beo (k - 5275) := rfl
    rw [e]
    omega
  · rw [if_neg b]
    have q := (mm_beo_r (k := k - 5275) (by omega)).2 (by omega)
    unfold mm_off
    rw [if_neg (by omega)]
    have := mm_offo_be (k := k - 5275) (by omega)
    omega
/-- two cells of the law's making at one place are one -/
theorem mm_off_inj {x y : mm_Id} (hx : mm_SH x ≠ (0, 0)) (hy : mm_SH y ≠ (0, 0)) (x9 : x.1 < 90) (y9 : y.1 < 90) (h : (mm_off x).toNat = (mm_off y).toNat) : x = y := by
  obtain ⟨a, b⟩ := mm_be_off x hx x9
  obtain ⟨c, d⟩ := mm_be_off y hy y9
  have e : mm_off x = mm_off y := by omega
  rw [← a, ← c, e]
