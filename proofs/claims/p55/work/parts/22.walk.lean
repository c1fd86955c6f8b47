/-! walking: what a row makes of a wish for the end (printed by wip/whole/mk22.py) -/
def mm_Wp (y : Nat) (is : List mm_I) (l s : List mm_V) (h : mm_H) (Q : mm_V → mm_H → Prop) : Prop := ∃ f r h1, mm_run f y is l s h = some (r, h1) ∧ Q r h1
def mm_Cl (y : Nat) (a : List mm_V) (h : mm_H) (Q : mm_V → mm_H → Prop) : Prop := mm_Wp y (mm_blk y 0) (mm_ent y a) [] h Q
def mm_isN (n : Int) : Prop := 0 ≤ n ∧ n < 37
def mm_isD (n : Int) : Prop := 0 ≤ n ∧ n < 5
def mm_isS (n : Int) : Prop := 0 ≤ n ∧ n < 8
def mm_isC (n : Int) : Prop := 0 ≤ n ∧ n < 47
def mm_isG (n : Int) : Prop := 0 ≤ n ∧ n < 94
def mm_dr (d : Int) : mm_Id := if 0 ≤ d ∧ d < 5 then (31, d, 0) else mm_nul
def mm_mR (k : Int) : mm_Id := if k = 2 then (41, 0, 0) else if k = 3 then (42, 0, 0) else if k = 4 then (43, 0, 0) else if k = 5 then (44, 0, 0) else if k = 6 then (45, 0, 0) else if k = 7 then (46, 0, 0) else if k = 8 then (47, 0, 0) else if k = 9 then (48, 0, 0) else if k = 10 then (49, 0, 0) else if k = 11 then (50, 0, 0) else if k = 12 then (51, 0, 0) else if k = 13 then (52, 0, 0) else if k = 14 then (53, 0, 0) else if k = 15 then (54, 0, 0) else if k = 16 then (55, 0, 0) else if k = 17 then (56, 0, 0) else if k = 19 then (57, 0, 0) else if k = 20 then (58, 0, 0) else if k = 21 then (59, 0, 0) else if k = 22 then (60, 0, 0) else if k = 23 then (61, 0, 0) else if k = 26 then (62, 0, 0) else if k = 27 then (63, 0, 0) else if k = 28 then (64, 0, 0) else if k = 31 then (65, 0, 0) else if k = 32 then (66, 0, 0) else if k = 38 then (67, 0, 0) else if k = 40 then (68, 0, 0) else if k = 41 then (69, 0, 0) else if k = 47 then (70, 0, 0) else mm_nul
/-- the references, once the cls's object is made; the model's beyond 10581 cells -/
def mm_mkR (dh : Int → Int) (nx : Int) (x : mm_Id) (k : Int) : mm_Id := match x.1 with
  | 1 => if x.2.1 = 0 ∧ x.2.2 = 0 then (if k = 0 then (15, 0, 0) else if k = 1 then (2, 0, 0) else if k = 2 then (3, 0, 0) else if k = 3 then (4, 0, 0) else if k = 4 then (22, 26, 0) else if k = 5 then (22, 27, 0) else if k = 6 then (5, 0, 0) else if k = 7 then (14, 0, 0) else if k = 8 then (8, 0, 0) else mm_nul) else mm_nul
  | 2 => if (x.2.1 = 0 ∧ x.2.2 = 0) ∧ 0 ≤ k ∧ k < 5 then (31, k, 0) else mm_nul
  | 3 => if (x.2.1 = 0 ∧ x.2.2 = 0) ∧ 0 ≤ k ∧ k < 8 then (33, k, 0) else mm_nul
  | 4 => if (x.2.1 = 0 ∧ x.2.2 = 0) ∧ 0 ≤ k ∧ k < 8 then (34, k, 0) else mm_nul
  | 5 => if x.2.1 = 0 ∧ x.2.2 = 0 then (if k = 0 then (6, 0, 0) else if k = 1 then (7, 0, 0) else mm_nul) else mm_nul
  | 8 => if x.2.1 = 0 ∧ x.2.2 = 0 then (if k = 0 then (9, 0, 0) else if k = 2 then (10, 0, 0) else if k = 4 then (11, 0, 0) else if k = 6 then (12, 0, 0) else if k = 7 then (13, 0, 0) else mm_nul) else mm_nul
  | 15 => if x.2.1 = 0 ∧ x.2.2 = 0 then (if k = 0 then (16, 0, 0) else if k = 1 then (17, 0, 0) else if k = 2 then (18, 0, 0) else if k = 3 then (19, 0, 0) else if k = 4 then (20, 0, 0) else if k = 5 then (21, 0, 0) else mm_nul) else mm_nul
  | 22 => if (0 ≤ x.2.1 ∧ x.2.1 < 18 ∨ x.2.1 = 26 ∨ x.2.1 = 27) ∧ x.2.2 = 0 then (if k = 0 then (23, x.2.1, 0) else if k = 1 then (15, 0, 0) else mm_nul) else mm_nul
  | 23 => if ((0 ≤ x.2.1 ∧ x.2.1 < 18 ∨ x.2.1 = 26 ∨ x.2.1 = 27) ∧ x.2.2 = 0) ∧ 0 ≤ k ∧ k < 37 then (24, x.2.1, k) else mm_nul
  | 24 => if (0 ≤ x.2.1 ∧ x.2.1 < 18 ∨ x.2.1 = 26 ∨ x.2.1 = 27) ∧ 0 ≤ x.2.2 ∧ x.2.2 < 37 then (if k = 7 then (25, x.2.1, x.2.2) else if k = 8 then (26, x.2.1, x.2.2) else if k = 10 then (27, x.2.1, x.2.2) else if k = 12 then (28, x.2.1, x.2.2) else if k = 13 then (29, x.2.1, x.2.2) else if k = 15 then (30, x.2.1, x.2.2) else mm_nul) else mm_nul
  | 31 => if (0 ≤ x.2.1 ∧ x.2.1 < 5) ∧ x.2.2 = 0 then (if k = 0 then (22, x.2.1, 0) else if k = 1 then (22, 13 + x.2.1, 0) else if k = 2 then (32, x.2.1, 0) else mm_nul) else mm_nul
  | 33 => if (0 ≤ x.2.1 ∧ x.2.1 < 8) ∧ x.2.2 = 0 then (if k = 0 then (22, 5 + x.2.1, 0) else mm_nul) else mm_nul
  | 34 => if (0 ≤ x.2.1 ∧ x.2.1 < 8) ∧ x.2.2 = 0 then (if k = 0 then (35, x.2.1, 0) else if k = 1 then mm_dr (dh x.2.1) else mm_nul) else mm_nul
  | 40 => if (x.2.1 = 0 ∧ x.2.2 = 0) ∧ 10581 ≤ nx then mm_mR k else mm_nul
  | _ => mm_nul
def mm_z (hi : mm_Id → Int → Int) (dh : Int → Int) (nx ns : Int) : mm_H := (hi, mm_mkR dh nx, nx, ns)
theorem mm_wpj (o : Nat) (q : Nat × Int × Nat × Nat) {y is l s h Q} (ho : (o = 0 ∨ 40 ≤ o ∧ o < 60)) : mm_Wp y ((o, q) :: is) l s h Q = (match mm_j (o, q) s with | some (some b, s1) => mm_Wp y (mm_blk y b) l s1 h Q | some (none, s1) => mm_Wp y is l s1 h Q | none => False) := by
  apply propext
  constructor
  · rintro ⟨f, r, h1, hf, hq⟩
    cases f with
    | zero => simp [mm_run] at hf
    | succ f =>
      rw [mm_run, if_pos ho] at hf
      cases hj : mm_j (o, q) s with
      | none => simp only [hj] at hf; cases hf
      | some a => rcases a with ⟨_ | b, s1⟩ <;> simp only [hj] at hf <;> exact ⟨f, r, h1, hf, hq⟩
  · intro hw
    cases hj : mm_j (o, q) s with
    | none => simp only [hj] at hw
    | some a => rcases a with ⟨_ | b, s1⟩ <;> simp only [hj] at hw <;> obtain ⟨f, r, h1, hf, hq⟩ := hw <;> exact ⟨f + 1, r, h1, by rw [mm_run, if_pos ho]; simp only [hj]; exact hf, hq⟩
theorem mm_wpx (o : Nat) (q : Nat × Int × Nat × Nat) {y is l s h Q} (ho : ¬ (o = 0 ∨ 40 ≤ o ∧ o < 60)) (h1 : ¬ (85 ≤ o ∧ o < 89)) (h2 : ¬ (90 ≤ o ∧ o < 95)) : mm_Wp y ((o, q) :: is) l s h Q = (match mm_x (o, q) l s h with | some r => mm_Wp y is r.1 r.2.1 r.2.2 Q | none => False) := by
  apply propext
  constructor
  · rintro ⟨f, r, h3, hf, hq⟩
    cases f with
    | zero => simp [mm_run] at hf
    | succ f =>
      rw [mm_run, if_neg ho, if_neg h1, if_neg h2] at hf
      cases hj : mm_x (o, q) l s h with
      | none => simp only [hj] at hf; cases hf
      | some a => simp only [hj] at hf; exact ⟨f, r, h3, hf, hq⟩
  · intro hw
    cases hj : mm_x (o, q) l s h with
    | none => simp only [hj] at hw
    | some a => simp only [hj] at hw; obtain ⟨f, r, h3, hf, hq⟩ := hw; exact ⟨f + 1, r, h3, by rw [mm_run, if_neg ho, if_neg h1, if_neg h2]; simp only [hj]; exact hf, hq⟩
theorem mm_wpr (o : Nat) (q : Nat × Int × Nat × Nat) {y is l s h Q} (h2 : 90 ≤ o ∧ o < 95) : mm_Wp y ((o, q) :: is) l s h Q = (match mm_rt (o, q) s with | some v => Q v h | none => False) := by
  have ho : ¬ (o = 0 ∨ 40 ≤ o ∧ o < 60) := by omega
  have h1 : ¬ (85 ≤ o ∧ o < 89) := by omega
  apply propext
  constructor
  · rintro ⟨f, r, h3, hf, hq⟩
    cases f with
    | zero => simp [mm_run] at hf
    | succ f =>
      rw [mm_run, if_neg ho, if_neg h1, if_pos h2] at hf
      cases hj : mm_rt (o, q) s with
      | none => simp only [hj] at hf; cases hf
      | some a => simp only [hj] at hf; cases hf; exact hq
  · intro hw
    cases hj : mm_rt (o, q) s with
    | none => simp only [hj] at hw
    | some a => simp only [hj] at hw; exact ⟨1, a, h, by rw [mm_run, if_neg ho, if_neg h1, if_pos h2]; simp only [hj], hw⟩
theorem mm_wmo1 : ∀ f y is l s h r, mm_run f y is l s h = some r → ∀ g, f ≤ g → mm_run g y is l s h = some r := by
  intro f
  induction f with
  | zero => intro y is l s h r hf; simp [mm_run] at hf
  | succ f ih =>
    intro y is l s h r hf g hg
    obtain ⟨g, rfl⟩ : ∃ k, g = k + 1 := ⟨g - 1, by omega⟩
    have hg : f ≤ g := by omega
    cases is with
    | nil => simp [mm_run] at hf
    | cons i is =>
      rw [mm_run] at hf ⊢
      split at hf
      · rename_i h1
        rw [if_pos h1]
        cases hj : mm_j i s with
        | none => simp only [hj] at hf; cases hf
        | some a => rcases a with ⟨_ | b, s1⟩ <;> simp only [hj] at hf ⊢ <;> exact ih _ _ _ _ _ _ hf g hg
      · rename_i h1
        rw [if_neg h1]
        split at hf
        · rename_i h2
          rw [if_pos h2]
          cases hj : mm_cl i s h with
          | none => simp only [hj] at hf; cases hf
          | some a =>
            simp only [hj] at hf ⊢
            cases hr : mm_run f i.2.1 (mm_blk i.2.1 0) (mm_ent i.2.1 a.1) [] h with
            | none => simp only [hr] at hf; cases hf
            | some v =>
              simp only [hr] at hf
              rw [ih _ _ _ _ _ _ hr g hg]
              exact ih _ _ _ _ _ _ hf g hg
        · rename_i h2
          rw [if_neg h2]
          split at hf
          · rename_i h3
            rw [if_pos h3]
            exact hf
          · rename_i h3
            rw [if_neg h3]
            cases hj : mm_x i l s h with
            | none => simp only [hj] at hf; cases hf
            | some a => simp only [hj] at hf ⊢; exact ih _ _ _ _ _ _ hf g hg
theorem mm_wpc (o : Nat) (q : Nat × Int × Nat × Nat) {y is l s h Q} (h1 : 85 ≤ o ∧ o < 89) : mm_Wp y ((o, q) :: is) l s h Q = (match mm_cl (o, q) s h with | some (a, s1) => mm_Cl q.1 a h (fun r h3 => mm_Wp y is l (mm_push r s1) h3 Q) | none => False) := by
  have ho : ¬ (o = 0 ∨ 40 ≤ o ∧ o < 60) := by omega
  apply propext
  constructor
  · rintro ⟨f, r, h3, hf, hq⟩
    cases f with
    | zero => simp [mm_run] at hf
    | succ f =>
      rw [mm_run, if_neg ho, if_pos h1] at hf
      cases hj : mm_cl (o, q) s h with
      | none => simp only [hj] at hf; cases hf
      | some a =>
        simp only [hj] at hf
        cases hr : mm_run f q.1 (mm_blk q.1 0) (mm_ent q.1 a.1) [] h with
        | none => simp only [hr] at hf; cases hf
        | some v => simp only [hr] at hf; exact ⟨f, v.1, v.2, hr, f, r, h3, hf, hq⟩
  · intro hw
    cases hj : mm_cl (o, q) s h with
    | none => simp only [hj] at hw
    | some a =>
      simp only [hj] at hw
      obtain ⟨f, r, h3, hf, g, r2, h4, hg, hq⟩ := hw
      refine ⟨max f g + 1, r2, h4, ?_, hq⟩
      rw [mm_run, if_neg ho, if_pos h1]
      simp only [hj]
      rw [mm_wmo1 _ _ _ _ _ _ _ hf (max f g) (Nat.le_max_left _ _)]
      exact mm_wmo1 _ _ _ _ _ _ _ hg (max f g) (Nat.le_max_right _ _)
theorem mm_ae {A P P' : Prop} (h : P = P') : (A ∧ P) = (A ∧ P') := by rw [h]
theorem mm_acd {A P P' : Prop} (h : A → P = P') : (A ∧ P) = (A ∧ P') := propext ⟨fun q => ⟨q.1, (h q.1) ▸ q.2⟩, fun q => ⟨q.1, (h q.1).symm ▸ q.2⟩⟩
theorem mm_ic {c : Prop} [Decidable c] {P P' R R' : Prop} (h : P = P') (h' : R = R') : (if c then P else R) = (if c then P' else R') := by rw [h, h']
theorem mm_icd {c : Prop} [Decidable c] {P P' R R' : Prop} (h : c → P = P') (h' : ¬ c → R = R') : (if c then P else R) = (if c then P' else R') := by
  by_cases q : c
  · rw [if_pos q, if_pos q, h q]
  · rw [if_neg q, if_neg q, h' q]
theorem mm_lb {a b : Nat} (h : Nat.ble a b = true) : a ≤ b := Nat.le_of_ble_eq_true h
theorem mm_kb {y b is l s h Q} {k : List mm_I} (hk : mm_blk y b = k) : mm_Wp y k l s h Q = is → mm_Wp y (mm_blk y b) l s h Q = is := fun e => (by rw [hk]; exact e)
theorem mm_pI (n : Int) (s : List mm_V) : mm_push (zI n) s = zI n :: s := rfl
theorem mm_pL (n : Int) (s : List mm_V) : mm_push (zL n) s = zL n :: s := rfl
theorem mm_pR (x : mm_Id) (s : List mm_V) : mm_push (zR x) s = zR x :: s := rfl
theorem mm_pU (s : List mm_V) : mm_push zU s = s := rfl
theorem wp_1 {y : Nat} {is : List mm_I} {l s : List mm_V} {h : mm_H} {Q : mm_V → mm_H → Prop} {a : Nat} {c : Int} {d e : Nat}  : mm_Wp y ((1, a, c, d, e) :: is) l s h Q = mm_Wp y is l (zI c :: s) h Q := (mm_wpx _ _ (by decide) (by decide) (by decide)).trans rfl
theorem wp_2 {y : Nat} {is : List mm_I} {l s : List mm_V} {h : mm_H} {Q : mm_V → mm_H → Prop} {a : Nat} {c : Int} {d e : Nat}  : mm_Wp y ((2, a, c, d, e) :: is) l s h Q = mm_Wp y is l (zL c :: s) h Q := (mm_wpx _ _ (by decide) (by decide) (by decide)).trans rfl
theorem wp_38 {y : Nat} {is : List mm_I} {l s : List mm_V} {h : mm_H} {Q : mm_V → mm_H → Prop} {a : Nat} {c : Int} {d e : Nat}  : mm_Wp y ((38, a, c, d, e) :: is) l s h Q = mm_Wp y is l (zR mm_nul :: s) h Q := (mm_wpx _ _ (by decide) (by decide) (by decide)).trans rfl
theorem wp_3_0 {y : Nat} {is : List mm_I} {l s : List mm_V} {h : mm_H} {Q : mm_V → mm_H → Prop} {c : Int} {d e : Nat} {v : Int} : mm_Wp y ((3, 0, c, d, e) :: is) (zI v :: l) s h Q = mm_Wp y is (zI v :: l) (zI v :: s) h Q := (mm_wpx _ _ (by decide) (by decide) (by decide)).trans rfl
theorem wp_3_1 {y : Nat} {is : List mm_I} {l s : List mm_V} {h : mm_H} {Q : mm_V → mm_H → Prop} {c : Int} {d e : Nat} {v0 : mm_V} {v : Int} : mm_Wp y ((3, 1, c, d, e) :: is) (v0 :: zI v :: l) s h Q = mm_Wp y is (v0 :: zI v :: l) (zI v :: s) h Q := (mm_wpx _ _ (by decide) (by decide) (by decide)).trans rfl
theorem wp_3_2 {y : Nat} {is : List mm_I} {l s : List mm_V} {h : mm_H} {Q : mm_V → mm_H → Prop} {c : Int} {d e : Nat} {v0 v1 : mm_V} {v : Int} : mm_Wp y ((3, 2, c, d, e) :: is) (v0 :: v1 :: zI v :: l) s h Q = mm_Wp y is (v0 :: v1 :: zI v :: l) (zI v :: s) h Q := (mm_wpx _ _ (by decide) (by decide) (by decide)).trans rfl
theorem wp_3_3 {y : Nat} {is : List mm_I} {l s : List mm_V} {h : mm_H} {Q : mm_V → mm_H → Prop} {c : Int} {d e : Nat} {v0 v1 v2 : mm_V} {v : Int} : mm_Wp y ((3, 3, c, d, e) :: is) (v0 :: v1 :: v2 :: zI v :: l) s h Q = mm_Wp y is (v0 :: v1 :: v2 :: zI v :: l) (zI v :: s) h Q := (mm_wpx _ _ (by decide) (by decide) (by decide)).trans rfl
theorem wp_3_4 {y : Nat} {is : List mm_I} {l s : List mm_V} {h : mm_H} {Q : mm_V → mm_H → Prop} {c : Int} {d e : Nat} {v0 v1 v2 v3 : mm_V} {v : Int} : mm_Wp y ((3, 4, c, d, e) :: is) (v0 :: v1 :: v2 :: v3 :: zI v :: l) s h Q = mm_Wp y is (v0 :: v1 :: v2 :: v3 :: zI v :: l) (zI v :: s) h Q := (mm_wpx _ _ (by decide) (by decide) (by decide)).trans rfl
theorem wp_3_5 {y : Nat} {is : List mm_I} {l s : List mm_V} {h : mm_H} {Q : mm_V → mm_H → Prop} {c : Int} {d e : Nat} {v0 v1 v2 v3 v4 : mm_V} {v : Int} : mm_Wp y ((3, 5, c, d, e) :: is) (v0 :: v1 :: v2 :: v3 :: v4 :: zI v :: l) s h Q = mm_Wp y is (v0 :: v1 :: v2 :: v3 :: v4 :: zI v :: l) (zI v :: s) h Q := (mm_wpx _ _ (by decide) (by decide) (by decide)).trans rfl
theorem wp_3_6 {y : Nat} {is : List mm_I} {l s : List mm_V} {h : mm_H} {Q : mm_V → mm_H → Prop} {c : Int} {d e : Nat} {v0 v1 v2 v3 v4 v5 : mm_V} {v : Int} : mm_Wp y ((3, 6, c, d, e) :: is) (v0 :: v1 :: v2 :: v3 :: v4 :: v5 :: zI v :: l) s h Q = mm_Wp y is (v0 :: v1 :: v2 :: v3 :: v4 :: v5 :: zI v :: l) (zI v :: s) h Q := (mm_wpx _ _ (by decide) (by decide) (by decide)).trans rfl
theorem wp_3_7 {y : Nat} {is : List mm_I} {l s : List mm_V} {h : mm_H} {Q : mm_V → mm_H → Prop} {c : Int} {d e : Nat} {v0 v1 v2 v3 v4 v5 v6 : mm_V} {v : Int} : mm_Wp y ((3, 7, c, d, e) :: is) (v0 :: v1 :: v2 :: v3 :: v4 :: v5 :: v6 :: zI v :: l) s h Q = mm_Wp y is (v0 :: v1 :: v2 :: v3 :: v4 :: v5 :: v6 :: zI v :: l) (zI v :: s) h Q := (mm_wpx _ _ (by decide) (by decide) (by decide)).trans rfl
theorem wp_3_8 {y : Nat} {is : List mm_I} {l s : List mm_V} {h : mm_H} {Q : mm_V → mm_H → Prop} {c : Int} {d e : Nat} {v0 v1 v2 v3 v4 v5 v6 v7 : mm_V} {v : Int} : mm_Wp y ((3, 8, c, d, e) :: is) (v0 :: v1 :: v2 :: v3 :: v4 :: v5 :: v6 :: v7 :: zI v :: l) s h Q = mm_Wp y is (v0 :: v1 :: v2 :: v3 :: v4 :: v5 :: v6 :: v7 :: zI v :: l) (zI v :: s) h Q := (mm_wpx _ _ (by decide) (by decide) (by decide)).trans rfl
theorem wp_3_9 {y : Nat} {is : List mm_I} {l s : List mm_V} {h : mm_H} {Q : mm_V → mm_H → Prop} {c : Int} {d e : Nat} {v0 v1 v2 v3 v4 v5 v6 v7 v8 : mm_V} {v : Int} : mm_Wp y ((3, 9, c, d, e) :: is) (v0 :: v1 :: v2 :: v3 :: v4 :: v5 :: v6 :: v7 :: v8 :: zI v :: l) s h Q = mm_Wp y is (v0 :: v1 :: v2 :: v3 :: v4 :: v5 :: v6 :: v7 :: v8 :: zI v :: l) (zI v :: s) h Q := (mm_wpx _ _ (by decide) (by decide) (by decide)).trans rfl
theorem wp_3_10 {y : Nat} {is : List mm_I} {l s : List mm_V} {h : mm_H} {Q : mm_V → mm_H → Prop} {c : Int} {d e : Nat} {v0 v1 v2 v3 v4 v5 v6 v7 v8 v9 : mm_V} {v : Int} : mm_Wp y ((3, 10, c, d, e) :: is) (v0 :: v1 :: v2 :: v3 :: v4 :: v5 :: v6 :: v7 :: v8 :: v9 :: zI v :: l) s h Q = mm_Wp y is (v0 :: v1 :: v2 :: v3 :: v4 :: v5 :: v6 :: v7 :: v8 :: v9 :: zI v :: l) (zI v :: s) h Q := (mm_wpx _ _ (by decide) (by decide) (by decide)).trans rfl
theorem wp_3_11 {y : Nat} {is : List mm_I} {l s : List mm_V} {h : mm_H} {Q : mm_V → mm_H → Prop} {c : Int} {d e : Nat} {v0 v1 v2 v3 v4 v5 v6 v7 v8 v9 v10 : mm_V} {v : Int} : mm_Wp y ((3, 11, c, d, e) :: is) (v0 :: v1 :: v2 :: v3 :: v4 :: v5 :: v6 :: v7 :: v8 :: v9 :: v10 :: zI v :: l) s h Q = mm_Wp y is (v0 :: v1 :: v2 :: v3 :: v4 :: v5 :: v6 :: v7 :: v8 :: v9 :: v10 :: zI v :: l) (zI v :: s) h Q := (mm_wpx _ _ (by decide) (by decide) (by decide)).trans rfl
theorem wp_3_12 {y : Nat} {is : List mm_I} {l s : List mm_V} {h : mm_H} {Q : mm_V → mm_H → Prop} {c : Int} {d e : Nat} {v0 v1 v2 v3 v4 v5 v6 v7 v8 v9 v10 v11 : mm_V} {v : Int} : mm_Wp y ((3, 12, c, d, e) :: is) (v0 :: v1 :: v2 :: v3 :: v4 :: v5 :: v6 :: v7 :: v8 :: v9 :: v10 :: v11 :: zI v :: l) s h Q = mm_Wp y is (v0 :: v1 :: v2 :: v3 :: v4 :: v5 :: v6 :: v7 :: v8 :: v9 :: v10 :: v11 :: zI v :: l) (zI v :: s) h Q := (mm_wpx _ _ (by decide) (by decide) (by decide)).trans rfl
theorem wp_3_13 {y : Nat} {is : List mm_I} {l s : List mm_V} {h : mm_H} {Q : mm_V → mm_H → Prop} {c : Int} {d e : Nat} {v0 v1 v2 v3 v4 v5 v6 v7 v8 v9 v10 v11 v12 : mm_V} {v : Int} : mm_Wp y ((3, 13, c, d, e) :: is) (v0 :: v1 :: v2 :: v3 :: v4 :: v5 :: v6 :: v7 :: v8 :: v9 :: v10 :: v11 :: v12 :: zI v :: l) s h Q = mm_Wp y is (v0 :: v1 :: v2 :: v3 :: v4 :: v5 :: v6 :: v7 :: v8 :: v9 :: v10 :: v11 :: v12 :: zI v :: l) (zI v :: s) h Q := (mm_wpx _ _ (by decide) (by decide) (by decide)).trans rfl
theorem wp_3_14 {y : Nat} {is : List mm_I} {l s : List mm_V} {h : mm_H} {Q : mm_V → mm_H → Prop} {c : Int} {d e : Nat} {v0 v1 v2 v3 v4 v5 v6 v7 v8 v9 v10 v11 v12 v13 : mm_V} {v : Int} : mm_Wp y ((3, 14, c, d, e) :: is) (v0 :: v1 :: v2 :: v3 :: v4 :: v5 :: v6 :: v7 :: v8 :: v9 :: v10 :: v11 :: v12 :: v13 :: zI v :: l) s h Q = mm_Wp y is (v0 :: v1 :: v2 :: v3 :: v4 :: v5 :: v6 :: v7 :: v8 :: v9 :: v10 :: v11 :: v12 :: v13 :: zI v :: l) (zI v :: s) h Q := (mm_wpx _ _ (by decide) (by decide) (by decide)).trans rfl
theorem wp_3_15 {y : Nat} {is : List mm_I} {l s : List mm_V} {h : mm_H} {Q : mm_V → mm_H → Prop} {c : Int} {d e : Nat} {v0 v1 v2 v3 v4 v5 v6 v7 v8 v9 v10 v11 v12 v13 v14 : mm_V} {v : Int} : mm_Wp y ((3, 15, c, d, e) :: is) (v0 :: v1 :: v2 :: v3 :: v4 :: v5 :: v6 :: v7 :: v8 :: v9 :: v10 :: v11 :: v12 :: v13 :: v14 :: zI v :: l) s h Q = mm_Wp y is (v0 :: v1 :: v2 :: v3 :: v4 :: v5 :: v6 :: v7 :: v8 :: v9 :: v10 :: v11 :: v12 :: v13 :: v14 :: zI v :: l) (zI v :: s) h Q := (mm_wpx _ _ (by decide) (by decide) (by decide)).trans rfl
theorem wp_3_16 {y : Nat} {is : List mm_I} {l s : List mm_V} {h : mm_H} {Q : mm_V → mm_H → Prop} {c : Int} {d e : Nat} {v0 v1 v2 v3 v4 v5 v6 v7 v8 v9 v10 v11 v12 v13 v14 v15 : mm_V} {v : Int} : mm_Wp y ((3, 16, c, d, e) :: is) (v0 :: v1 :: v2 :: v3 :: v4 :: v5 :: v6 :: v7 :: v8 :: v9 :: v10 :: v11 :: v12 :: v13 :: v14 :: v15 :: zI v :: l) s h Q = mm_Wp y is (v0 :: v1 :: v2 :: v3 :: v4 :: v5 :: v6 :: v7 :: v8 :: v9 :: v10 :: v11 :: v12 :: v13 :: v14 :: v15 :: zI v :: l) (zI v :: s) h Q := (mm_wpx _ _ (by decide) (by decide) (by decide)).trans rfl
theorem wp_3_17 {y : Nat} {is : List mm_I} {l s : List mm_V} {h : mm_H} {Q : mm_V → mm_H → Prop} {c : Int} {d e : Nat} {v0 v1 v2 v3 v4 v5 v6 v7 v8 v9 v10 v11 v12 v13 v14 v15 v16 : mm_V} {v : Int} : mm_Wp y ((3, 17, c, d, e) :: is) (v0 :: v1 :: v2 :: v3 :: v4 :: v5 :: v6 :: v7 :: v8 :: v9 :: v10 :: v11 :: v12 :: v13 :: v14 :: v15 :: v16 :: zI v :: l) s h Q = mm_Wp y is (v0 :: v1 :: v2 :: v3 :: v4 :: v5 :: v6 :: v7 :: v8 :: v9 :: v10 :: v11 :: v12 :: v13 :: v14 :: v15 :: v16 :: zI v :: l) (zI v :: s) h Q := (mm_wpx _ _ (by decide) (by decide) (by decide)).trans rfl
theorem wp_4_0 {y : Nat} {is : List mm_I} {l s : List mm_V} {h : mm_H} {Q : mm_V → mm_H → Prop} {c : Int} {d e : Nat} {v : Int} : mm_Wp y ((4, 0, c, d, e) :: is) (zL v :: l) s h Q = mm_Wp y is (zL v :: l) (zL v :: s) h Q := (mm_wpx _ _ (by decide) (by decide) (by decide)).trans rfl
theorem wp_4_1 {y : Nat} {is : List mm_I} {l s : List mm_V} {h : mm_H} {Q : mm_V → mm_H → Prop} {c : Int} {d e : Nat} {v0 : mm_V} {v : Int} : mm_Wp y ((4, 1, c, d, e) :: is) (v0 :: zL v :: l) s h Q = mm_Wp y is (v0 :: zL v :: l) (zL v :: s) h Q := (mm_wpx _ _ (by decide) (by decide) (by decide)).trans rfl
theorem wp_4_2 {y : Nat} {is : List mm_I} {l s : List mm_V} {h : mm_H} {Q : mm_V → mm_H → Prop} {c : Int} {d e : Nat} {v0 v1 : mm_V} {v : Int} : mm_Wp y ((4, 2, c, d, e) :: is) (v0 :: v1 :: zL v :: l) s h Q = mm_Wp y is (v0 :: v1 :: zL v :: l) (zL v :: s) h Q := (mm_wpx _ _ (by decide) (by decide) (by decide)).trans rfl
theorem wp_4_3 {y : Nat} {is : List mm_I} {l s : List mm_V} {h : mm_H} {Q : mm_V → mm_H → Prop} {c : Int} {d e : Nat} {v0 v1 v2 : mm_V} {v : Int} : mm_Wp y ((4, 3, c, d, e) :: is) (v0 :: v1 :: v2 :: zL v :: l) s h Q = mm_Wp y is (v0 :: v1 :: v2 :: zL v :: l) (zL v :: s) h Q := (mm_wpx _ _ (by decide) (by decide) (by decide)).trans rfl
theorem wp_4_4 {y : Nat} {is : List mm_I} {l s : List mm_V} {h : mm_H} {Q : mm_V → mm_H → Prop} {c : Int} {d e : Nat} {v0 v1 v2 v3 : mm_V} {v : Int} : mm_Wp y ((4, 4, c, d, e) :: is) (v0 :: v1 :: v2 :: v3 :: zL v :: l) s h Q = mm_Wp y is (v0 :: v1 :: v2 :: v3 :: zL v :: l) (zL v :: s) h Q := (mm_wpx _ _ (by decide) (by decide) (by decide)).trans rfl
theorem wp_4_5 {y : Nat} {is : List mm_I} {l s : List mm_V} {h : mm_H} {Q : mm_V → mm_H → Prop} {c : Int} {d e : Nat} {v0 v1 v2 v3 v4 : mm_V} {v : Int} : mm_Wp y ((4, 5, c, d, e) :: is) (v0 :: v1 :: v2 :: v3 :: v4 :: zL v :: l) s h Q = mm_Wp y is (v0 :: v1 :: v2 :: v3 :: v4 :: zL v :: l) (zL v :: s) h Q := (mm_wpx _ _ (by decide) (by decide) (by decide)).trans rfl
theorem wp_4_6 {y : Nat} {is : List mm_I} {l s : List mm_V} {h : mm_H} {Q : mm_V → mm_H → Prop} {c : Int} {d e : Nat} {v0 v1 v2 v3 v4 v5 : mm_V} {v : Int} : mm_Wp y ((4, 6, c, d, e) :: is) (v0 :: v1 :: v2 :: v3 :: v4 :: v5 :: zL v :: l) s h Q = mm_Wp y is (v0 :: v1 :: v2 :: v3 :: v4 :: v5 :: zL v :: l) (zL v :: s) h Q := (mm_wpx _ _ (by decide) (by decide) (by decide)).trans rfl
theorem wp_4_7 {y : Nat} {is : List mm_I} {l s : List mm_V} {h : mm_H} {Q : mm_V → mm_H → Prop} {c : Int} {d e : Nat} {v0 v1 v2 v3 v4 v5 v6 : mm_V} {v : Int} : mm_Wp y ((4, 7, c, d, e) :: is) (v0 :: v1 :: v2 :: v3 :: v4 :: v5 :: v6 :: zL v :: l) s h Q = mm_Wp y is (v0 :: v1 :: v2 :: v3 :: v4 :: v5 :: v6 :: zL v :: l) (zL v :: s) h Q := (mm_wpx _ _ (by decide) (by decide) (by decide)).trans rfl
theorem wp_4_8 {y : Nat} {is : List mm_I} {l s : List mm_V} {h : mm_H} {Q : mm_V → mm_H → Prop} {c : Int} {d e : Nat} {v0 v1 v2 v3 v4 v5 v6 v7 : mm_V} {v : Int} : mm_Wp y ((4, 8, c, d, e) :: is) (v0 :: v1 :: v2 :: v3 :: v4 :: v5 :: v6 :: v7 :: zL v :: l) s h Q = mm_Wp y is (v0 :: v1 :: v2 :: v3 :: v4 :: v5 :: v6 :: v7 :: zL v :: l) (zL v :: s) h Q := (mm_wpx _ _ (by decide) (by decide) (by decide)).trans rfl
theorem wp_4_9 {y : Nat} {is : List mm_I} {l s : List mm_V} {h : mm_H} {Q : mm_V → mm_H → Prop} {c : Int} {d e : Nat} {v0 v1 v2 v3 v4 v5 v6 v7 v8 : mm_V} {v : Int} : mm_Wp y ((4, 9, c, d, e) :: is) (v0 :: v1 :: v2 :: v3 :: v4 :: v5 :: v6 :: v7 :: v8 :: zL v :: l) s h Q = mm_Wp y is (v0 :: v1 :: v2 :: v3 :: v4 :: v5 :: v6 :: v7 :: v8 :: zL v :: l) (zL v :: s) h Q := (mm_wpx _ _ (by decide) (by decide) (by decide)).trans rfl
theorem wp_4_10 {y : Nat} {is : List mm_I} {l s : List mm_V} {h : mm_H} {Q : mm_V → mm_H → Prop} {c : Int} {d e : Nat} {v0 v1 v2 v3 v4 v5 v6 v7 v8 v9 : mm_V} {v : Int} : mm_Wp y ((4, 10, c, d, e) :: is) (v0 :: v1 :: v2 :: v3 :: v4 :: v5 :: v6 :: v7 :: v8 :: v9 :: zL v :: l) s h Q = mm_Wp y is (v0 :: v1 :: v2 :: v3 :: v4 :: v5 :: v6 :: v7 :: v8 :: v9 :: zL v :: l) (zL v :: s) h Q := (mm_wpx _ _ (by decide) (by decide) (by decide)).trans rfl
theorem wp_4_11 {y : Nat} {is : List mm_I} {l s : List mm_V} {h : mm_H} {Q : mm_V → mm_H → Prop} {c : Int} {d e : Nat} {v0 v1 v2 v3 v4 v5 v6 v7 v8 v9 v10 : mm_V} {v : Int} : mm_Wp y ((4, 11, c, d, e) :: is) (v0 :: v1 :: v2 :: v3 :: v4 :: v5 :: v6 :: v7 :: v8 :: v9 :: v10 :: zL v :: l) s h Q = mm_Wp y is (v0 :: v1 :: v2 :: v3 :: v4 :: v5 :: v6 :: v7 :: v8 :: v9 :: v10 :: zL v :: l) (zL v :: s) h Q := (mm_wpx _ _ (by decide) (by decide) (by decide)).trans rfl
theorem wp_4_12 {y : Nat} {is : List mm_I} {l s : List mm_V} {h : mm_H} {Q : mm_V → mm_H → Prop} {c : Int} {d e : Nat} {v0 v1 v2 v3 v4 v5 v6 v7 v8 v9 v10 v11 : mm_V} {v : Int} : mm_Wp y ((4, 12, c, d, e) :: is) (v0 :: v1 :: v2 :: v3 :: v4 :: v5 :: v6 :: v7 :: v8 :: v9 :: v10 :: v11 :: zL v :: l) s h Q = mm_Wp y is (v0 :: v1 :: v2 :: v3 :: v4 :: v5 :: v6 :: v7 :: v8 :: v9 :: v10 :: v11 :: zL v :: l) (zL v :: s) h Q := (mm_wpx _ _ (by decide) (by decide) (by decide)).trans rfl
theorem wp_4_13 {y : Nat} {is : List mm_I} {l s : List mm_V} {h : mm_H} {Q : mm_V → mm_H → Prop} {c : Int} {d e : Nat} {v0 v1 v2 v3 v4 v5 v6 v7 v8 v9 v10 v11 v12 : mm_V} {v : Int} : mm_Wp y ((4, 13, c, d, e) :: is) (v0 :: v1 :: v2 :: v3 :: v4 :: v5 :: v6 :: v7 :: v8 :: v9 :: v10 :: v11 :: v12 :: zL v :: l) s h Q = mm_Wp y is (v0 :: v1 :: v2 :: v3 :: v4 :: v5 :: v6 :: v7 :: v8 :: v9 :: v10 :: v11 :: v12 :: zL v :: l) (zL v :: s) h Q := (mm_wpx _ _ (by decide) (by decide) (by decide)).trans rfl
theorem wp_4_14 {y : Nat} {is : List mm_I} {l s : List mm_V} {h : mm_H} {Q : mm_V → mm_H → Prop} {c : Int} {d e : Nat} {v0 v1 v2 v3 v4 v5 v6 v7 v8 v9 v10 v11 v12 v13 : mm_V} {v : Int} : mm_Wp y ((4, 14, c, d, e) :: is) (v0 :: v1 :: v2 :: v3 :: v4 :: v5 :: v6 :: v7 :: v8 :: v9 :: v10 :: v11 :: v12 :: v13 :: zL v :: l) s h Q = mm_Wp y is (v0 :: v1 :: v2 :: v3 :: v4 :: v5 :: v6 :: v7 :: v8 :: v9 :: v10 :: v11 :: v12 :: v13 :: zL v :: l) (zL v :: s) h Q := (mm_wpx _ _ (by decide) (by decide) (by decide)).trans rfl
theorem wp_4_15 {y : Nat} {is : List mm_I} {l s : List mm_V} {h : mm_H} {Q : mm_V → mm_H → Prop} {c : Int} {d e : Nat} {v0 v1 v2 v3 v4 v5 v6 v7 v8 v9 v10 v11 v12 v13 v14 : mm_V} {v : Int} : mm_Wp y ((4, 15, c, d, e) :: is) (v0 :: v1 :: v2 :: v3 :: v4 :: v5 :: v6 :: v7 :: v8 :: v9 :: v10 :: v11 :: v12 :: v13 :: v14 :: zL v :: l) s h Q = mm_Wp y is (v0 :: v1 :: v2 :: v3 :: v4 :: v5 :: v6 :: v7 :: v8 :: v9 :: v10 :: v11 :: v12 :: v13 :: v14 :: zL v :: l) (zL v :: s) h Q := (mm_wpx _ _ (by decide) (by decide) (by decide)).trans rfl
theorem wp_4_16 {y : Nat} {is : List mm_I} {l s : List mm_V} {h : mm_H} {Q : mm_V → mm_H → Prop} {c : Int} {d e : Nat} {v0 v1 v2 v3 v4 v5 v6 v7 v8 v9 v10 v11 v12 v13 v14 v15 : mm_V} {v : Int} : mm_Wp y ((4, 16, c, d, e) :: is) (v0 :: v1 :: v2 :: v3 :: v4 :: v5 :: v6 :: v7 :: v8 :: v9 :: v10 :: v11 :: v12 :: v13 :: v14 :: v15 :: zL v :: l) s h Q = mm_Wp y is (v0 :: v1 :: v2 :: v3 :: v4 :: v5 :: v6 :: v7 :: v8 :: v9 :: v10 :: v11 :: v12 :: v13 :: v14 :: v15 :: zL v :: l) (zL v :: s) h Q := (mm_wpx _ _ (by decide) (by decide) (by decide)).trans rfl
theorem wp_4_17 {y : Nat} {is : List mm_I} {l s : List mm_V} {h : mm_H} {Q : mm_V → mm_H → Prop} {c : Int} {d e : Nat} {v0 v1 v2 v3 v4 v5 v6 v7 v8 v9 v10 v11 v12 v13 v14 v15 v16 : mm_V} {v : Int} : mm_Wp y ((4, 17, c, d, e) :: is) (v0 :: v1 :: v2 :: v3 :: v4 :: v5 :: v6 :: v7 :: v8 :: v9 :: v10 :: v11 :: v12 :: v13 :: v14 :: v15 :: v16 :: zL v :: l) s h Q = mm_Wp y is (v0 :: v1 :: v2 :: v3 :: v4 :: v5 :: v6 :: v7 :: v8 :: v9 :: v10 :: v11 :: v12 :: v13 :: v14 :: v15 :: v16 :: zL v :: l) (zL v :: s) h Q := (mm_wpx _ _ (by decide) (by decide) (by decide)).trans rfl
theorem wp_5_0 {y : Nat} {is : List mm_I} {l s : List mm_V} {h : mm_H} {Q : mm_V → mm_H → Prop} {c : Int} {d e : Nat} {v : mm_Id} : mm_Wp y ((5, 0, c, d, e) :: is) (zR v :: l) s h Q = mm_Wp y is (zR v :: l) (zR v :: s) h Q := (mm_wpx _ _ (by decide) (by decide) (by decide)).trans rfl
theorem wp_5_1 {y : Nat} {is : List mm_I} {l s : List mm_V} {h : mm_H} {Q : mm_V → mm_H → Prop} {c : Int} {d e : Nat} {v0 : mm_V} {v : mm_Id} : mm_Wp y ((5, 1, c, d, e) :: is) (v0 :: zR v :: l) s h Q = mm_Wp y is (v0 :: zR v :: l) (zR v :: s) h Q := (mm_wpx _ _ (by decide) (by decide) (by decide)).trans rfl
theorem wp_5_2 {y : Nat} {is : List mm_I} {l s : List mm_V} {h : mm_H} {Q : mm_V → mm_H → Prop} {c : Int} {d e : Nat} {v0 v1 : mm_V} {v : mm_Id} : mm_Wp y ((5, 2, c, d, e) :: is) (v0 :: v1 :: zR v :: l) s h Q = mm_Wp y is (v0 :: v1 :: zR v :: l) (zR v :: s) h Q := (mm_wpx _ _ (by decide) (by decide) (by decide)).trans rfl
theorem wp_5_3 {y : Nat} {is : List mm_I} {l s : List mm_V} {h : mm_H} {Q : mm_V → mm_H → Prop} {c : Int} {d e : Nat} {v0 v1 v2 : mm_V} {v : mm_Id} : mm_Wp y ((5, 3, c, d, e) :: is) (v0 :: v1 :: v2 :: zR v :: l) s h Q = mm_Wp y is (v0 :: v1 :: v2 :: zR v :: l) (zR v :: s) h Q := (mm_wpx _ _ (by decide) (by decide) (by decide)).trans rfl
theorem wp_5_4 {y : Nat} {is : List mm_I} {l s : List mm_V} {h : mm_H} {Q : mm_V → mm_H → Prop} {c : Int} {d e : Nat} {v0 v1 v2 v3 : mm_V} {v : mm_Id} : mm_Wp y ((5, 4, c, d, e) :: is) (v0 :: v1 :: v2 :: v3 :: zR v :: l) s h Q = mm_Wp y is (v0 :: v1 :: v2 :: v3 :: zR v :: l) (zR v :: s) h Q := (mm_wpx _ _ (by decide) (by decide) (by decide)).trans rfl
theorem wp_5_5 {y : Nat} {is : List mm_I} {l s : List mm_V} {h : mm_H} {Q : mm_V → mm_H → Prop} {c : Int} {d e : Nat} {v0 v1 v2 v3 v4 : mm_V} {v : mm_Id} : mm_Wp y ((5, 5, c, d, e) :: is) (v0 :: v1 :: v2 :: v3 :: v4 :: zR v :: l) s h Q = mm_Wp y is (v0 :: v1 :: v2 :: v3 :: v4 :: zR v :: l) (zR v :: s) h Q := (mm_wpx _ _ (by decide) (by decide) (by decide)).trans rfl
theorem wp_5_6 {y : Nat} {is : List mm_I} {l s : List mm_V} {h : mm_H} {Q : mm_V → mm_H → Prop} {c : Int} {d e : Nat} {v0 v1 v2 v3 v4 v5 : mm_V} {v : mm_Id} : mm_Wp y ((5, 6, c, d, e) :: is) (v0 :: v1 :: v2 :: v3 :: v4 :: v5 :: zR v :: l) s h Q = mm_Wp y is (v0 :: v1 :: v2 :: v3 :: v4 :: v5 :: zR v :: l) (zR v :: s) h Q := (mm_wpx _ _ (by decide) (by decide) (by decide)).trans rfl
theorem wp_5_7 {y : Nat} {is : List mm_I} {l s : List mm_V} {h : mm_H} {Q : mm_V → mm_H → Prop} {c : Int} {d e : Nat} {v0 v1 v2 v3 v4 v5 v6 : mm_V} {v : mm_Id} : mm_Wp y ((5, 7, c, d, e) :: is) (v0 :: v1 :: v2 :: v3 :: v4 :: v5 :: v6 :: zR v :: l) s h Q = mm_Wp y is (v0 :: v1 :: v2 :: v3 :: v4 :: v5 :: v6 :: zR v :: l) (zR v :: s) h Q := (mm_wpx _ _ (by decide) (by decide) (by decide)).trans rfl
theorem wp_5_8 {y : Nat} {is : List mm_I} {l s : List mm_V} {h : mm_H} {Q : mm_V → mm_H → Prop} {c : Int} {d e : Nat} {v0 v1 v2 v3 v4 v5 v6 v7 : mm_V} {v : mm_Id} : mm_Wp y ((5, 8, c, d, e) :: is) (v0 :: v1 :: v2 :: v3 :: v4 :: v5 :: v6 :: v7 :: zR v :: l) s h Q = mm_Wp y is (v0 :: v1 :: v2 :: v3 :: v4 :: v5 :: v6 :: v7 :: zR v :: l) (zR v :: s) h Q := (mm_wpx _ _ (by decide) (by decide) (by decide)).trans rfl
theorem wp_5_9 {y : Nat} {is : List mm_I} {l s : List mm_V} {h : mm_H} {Q : mm_V → mm_H → Prop} {c : Int} {d e : Nat} {v0 v1 v2 v3 v4 v5 v6 v7 v8 : mm_V} {v : mm_Id} : mm_Wp y ((5, 9, c, d, e) :: is) (v0 :: v1 :: v2 :: v3 :: v4 :: v5 :: v6 :: v7 :: v8 :: zR v :: l) s h Q = mm_Wp y is (v0 :: v1 :: v2 :: v3 :: v4 :: v5 :: v6 :: v7 :: v8 :: zR v :: l) (zR v :: s) h Q := (mm_wpx _ _ (by decide) (by decide) (by decide)).trans rfl
theorem wp_5_10 {y : Nat} {is : List mm_I} {l s : List mm_V} {h : mm_H} {Q : mm_V → mm_H → Prop} {c : Int} {d e : Nat} {v0 v1 v2 v3 v4 v5 v6 v7 v8 v9 : mm_V} {v : mm_Id} : mm_Wp y ((5, 10, c, d, e) :: is) (v0 :: v1 :: v2 :: v3 :: v4 :: v5 :: v6 :: v7 :: v8 :: v9 :: zR v :: l) s h Q = mm_Wp y is (v0 :: v1 :: v2 :: v3 :: v4 :: v5 :: v6 :: v7 :: v8 :: v9 :: zR v :: l) (zR v :: s) h Q := (mm_wpx _ _ (by decide) (by decide) (by decide)).trans rfl
theorem wp_5_11 {y : Nat} {is : List mm_I} {l s : List mm_V} {h : mm_H} {Q : mm_V → mm_H → Prop} {c : Int} {d e : Nat} {v0 v1 v2 v3 v4 v5 v6 v7 v8 v9 v10 : mm_V} {v : mm_Id} : mm_Wp y ((5, 11, c, d, e) :: is) (v0 :: v1 :: v2 :: v3 :: v4 :: v5 :: v6 :: v7 :: v8 :: v9 :: v10 :: zR v :: l) s h Q = mm_Wp y is (v0 :: v1 :: v2 :: v3 :: v4 :: v5 :: v6 :: v7 :: v8 :: v9 :: v10 :: zR v :: l) (zR v :: s) h Q := (mm_wpx _ _ (by decide) (by decide) (by decide)).trans rfl
theorem wp_5_12 {y : Nat} {is : List mm_I} {l s : List mm_V} {h : mm_H} {Q : mm_V → mm_H → Prop} {c : Int} {d e : Nat} {v0 v1 v2 v3 v4 v5 v6 v7 v8 v9 v10 v11 : mm_V} {v : mm_Id} : mm_Wp y ((5, 12, c, d, e) :: is) (v0 :: v1 :: v2 :: v3 :: v4 :: v5 :: v6 :: v7 :: v8 :: v9 :: v10 :: v11 :: zR v :: l) s h Q = mm_Wp y is (v0 :: v1 :: v2 :: v3 :: v4 :: v5 :: v6 :: v7 :: v8 :: v9 :: v10 :: v11 :: zR v :: l) (zR v :: s) h Q := (mm_wpx _ _ (by decide) (by decide) (by decide)).trans rfl
theorem wp_5_13 {y : Nat} {is : List mm_I} {l s : List mm_V} {h : mm_H} {Q : mm_V → mm_H → Prop} {c : Int} {d e : Nat} {v0 v1 v2 v3 v4 v5 v6 v7 v8 v9 v10 v11 v12 : mm_V} {v : mm_Id} : mm_Wp y ((5, 13, c, d, e) :: is) (v0 :: v1 :: v2 :: v3 :: v4 :: v5 :: v6 :: v7 :: v8 :: v9 :: v10 :: v11 :: v12 :: zR v :: l) s h Q = mm_Wp y is (v0 :: v1 :: v2 :: v3 :: v4 :: v5 :: v6 :: v7 :: v8 :: v9 :: v10 :: v11 :: v12 :: zR v :: l) (zR v :: s) h Q := (mm_wpx _ _ (by decide) (by decide) (by decide)).trans rfl
theorem wp_5_14 {y : Nat} {is : List mm_I} {l s : List mm_V} {h : mm_H} {Q : mm_V → mm_H → Prop} {c : Int} {d e : Nat} {v0 v1 v2 v3 v4 v5 v6 v7 v8 v9 v10 v11 v12 v13 : mm_V} {v : mm_Id} : mm_Wp y ((5, 14, c, d, e) :: is) (v0 :: v1 :: v2 :: v3 :: v4 :: v5 :: v6 :: v7 :: v8 :: v9 :: v10 :: v11 :: v12 :: v13 :: zR v :: l) s h Q = mm_Wp y is (v0 :: v1 :: v2 :: v3 :: v4 :: v5 :: v6 :: v7 :: v8 :: v9 :: v10 :: v11 :: v12 :: v13 :: zR v :: l) (zR v :: s) h Q := (mm_wpx _ _ (by decide) (by decide) (by decide)).trans rfl
theorem wp_5_15 {y : Nat} {is : List mm_I} {l s : List mm_V} {h : mm_H} {Q : mm_V → mm_H → Prop} {c : Int} {d e : Nat} {v0 v1 v2 v3 v4 v5 v6 v7 v8 v9 v10 v11 v12 v13 v14 : mm_V} {v : mm_Id} : mm_Wp y ((5, 15, c, d, e) :: is) (v0 :: v1 :: v2 :: v3 :: v4 :: v5 :: v6 :: v7 :: v8 :: v9 :: v10 :: v11 :: v12 :: v13 :: v14 :: zR v :: l) s h Q = mm_Wp y is (v0 :: v1 :: v2 :: v3 :: v4 :: v5 :: v6 :: v7 :: v8 :: v9 :: v10 :: v11 :: v12 :: v13 :: v14 :: zR v :: l) (zR v :: s) h Q := (mm_wpx _ _ (by decide) (by decide) (by decide)).trans rfl
theorem wp_5_16 {y : Nat} {is : List mm_I} {l s : List mm_V} {h : mm_H} {Q : mm_V → mm_H → Prop} {c : Int} {d e : Nat} {v0 v1 v2 v3 v4 v5 v6 v7 v8 v9 v10 v11 v12 v13 v14 v15 : mm_V} {v : mm_Id} : mm_Wp y ((5, 16, c, d, e) :: is) (v0 :: v1 :: v2 :: v3 :: v4 :: v5 :: v6 :: v7 :: v8 :: v9 :: v10 :: v11 :: v12 :: v13 :: v14 :: v15 :: zR v :: l) s h Q = mm_Wp y is (v0 :: v1 :: v2 :: v3 :: v4 :: v5 :: v6 :: v7 :: v8 :: v9 :: v10 :: v11 :: v12 :: v13 :: v14 :: v15 :: zR v :: l) (zR v :: s) h Q := (mm_wpx _ _ (by decide) (by decide) (by decide)).trans rfl
theorem wp_5_17 {y : Nat} {is : List mm_I} {l s : List mm_V} {h : mm_H} {Q : mm_V → mm_H → Prop} {c : Int} {d e : Nat} {v0 v1 v2 v3 v4 v5 v6 v7 v8 v9 v10 v11 v12 v13 v14 v15 v16 : mm_V} {v : mm_Id} : mm_Wp y ((5, 17, c, d, e) :: is) (v0 :: v1 :: v2 :: v3 :: v4 :: v5 :: v6 :: v7 :: v8 :: v9 :: v10 :: v11 :: v12 :: v13 :: v14 :: v15 :: v16 :: zR v :: l) s h Q = mm_Wp y is (v0 :: v1 :: v2 :: v3 :: v4 :: v5 :: v6 :: v7 :: v8 :: v9 :: v10 :: v11 :: v12 :: v13 :: v14 :: v15 :: v16 :: zR v :: l) (zR v :: s) h Q := (mm_wpx _ _ (by decide) (by decide) (by decide)).trans rfl
theorem wp_6 {y : Nat} {is : List mm_I} {l s : List mm_V} {h : mm_H} {Q : mm_V → mm_H → Prop} {a : Nat} {c : Int} {d e : Nat} {v : Int} {l2 : List mm_V} (hl : (if a < l.length then some (mm_st l a (zI v)) else none) = some l2) : mm_Wp y ((6, a, c, d, e) :: is) l (zI v :: s) h Q = mm_Wp y is l2 s h Q := by
  by_cases ha : a < l.length
  · rw [if_pos ha] at hl
    cases hl
    exact (mm_wpx _ _ (by decide) (by decide) (by decide)).trans (by simp only [show mm_x (6, a, c, d, e) l (zI v :: s) h = some (mm_st l a (zI v), s, h) from if_pos ha])
  · rw [if_neg ha] at hl
    cases hl
theorem wp_8 {y : Nat} {is : List mm_I} {l s : List mm_V} {h : mm_H} {Q : mm_V → mm_H → Prop} {a : Nat} {c : Int} {d e : Nat} {v : mm_Id} {l2 : List mm_V} (hl : (if a < l.length then some (mm_st l a (zR v)) else none) = some l2) : mm_Wp y ((8, a, c, d, e) :: is) l (zR v :: s) h Q = mm_Wp y is l2 s h Q := by
  by_cases ha : a < l.length
  · rw [if_pos ha] at hl
    cases hl
    exact (mm_wpx _ _ (by decide) (by decide) (by decide)).trans (by simp only [show mm_x (8, a, c, d, e) l (zR v :: s) h = some (mm_st l a (zR v), s, h) from if_pos ha])
  · rw [if_neg ha] at hl
    cases hl
theorem wp_7 {y : Nat} {is : List mm_I} {l s : List mm_V} {h : mm_H} {Q : mm_V → mm_H → Prop} {a : Nat} {c : Int} {d e : Nat} {v : Int} {l2 : List mm_V} (hl : (if a + 1 < l.length then some ((mm_st l a (zL v)).set (a + 1) zU) else none) = some l2) : mm_Wp y ((7, a, c, d, e) :: is) l (zL v :: s) h Q = mm_Wp y is l2 s h Q := by
  by_cases ha : a + 1 < l.length
  · rw [if_pos ha] at hl
    cases hl
    exact (mm_wpx _ _ (by decide) (by decide) (by decide)).trans (by simp only [show mm_x (7, a, c, d, e) l (zL v :: s) h = some ((mm_st l a (zL v)).set (a + 1) zU, s, h) from if_pos ha])
  · rw [if_neg ha] at hl
    cases hl
theorem wp_9 {y : Nat} {is : List mm_I} {l s : List mm_V} {h : mm_H} {Q : mm_V → mm_H → Prop} {a : Nat} {c : Int} {d e : Nat} {v : Int} {l2 : List mm_V} (hv : l[a]? = some (zI v)) (hl : l.set a (zI (mm_w (v + c))) = l2) : mm_Wp y ((9, a, c, d, e) :: is) l s h Q = mm_Wp y is l2 s h Q := by
  subst hl
  refine (mm_wpx _ _ (by decide) (by decide) (by decide)).trans ?_
  have e1 : mm_x (9, a, c, d, e) l s h = some (l.set a (zI (mm_w (v + c))), s, h) := by show (match l[a]? with | some (.inl (.inl x)) => some (l.set a (zI (mm_w (x + c))), s, h) | _ => none) = _; rw [hv]
  simp only [e1]
theorem wp_10 {y : Nat} {is : List mm_I} {l s : List mm_V} {h : mm_H} {Q : mm_V → mm_H → Prop} {a : Nat} {c : Int} {d e : Nat} {u v : Int} : mm_Wp y ((10, a, c, d, e) :: is) l (zI v :: zI u :: s) h Q = mm_Wp y is l (zI (mm_w (u + v)) :: s) h Q := (mm_wpx _ _ (by decide) (by decide) (by decide)).trans rfl
theorem wp_11 {y : Nat} {is : List mm_I} {l s : List mm_V} {h : mm_H} {Q : mm_V → mm_H → Prop} {a : Nat} {c : Int} {d e : Nat} {u v : Int} : mm_Wp y ((11, a, c, d, e) :: is) l (zI v :: zI u :: s) h Q = mm_Wp y is l (zI (mm_w (u - v)) :: s) h Q := (mm_wpx _ _ (by decide) (by decide) (by decide)).trans rfl
theorem wp_12 {y : Nat} {is : List mm_I} {l s : List mm_V} {h : mm_H} {Q : mm_V → mm_H → Prop} {a : Nat} {c : Int} {d e : Nat} {u v : Int} : mm_Wp y ((12, a, c, d, e) :: is) l (zI v :: zI u :: s) h Q = mm_Wp y is l (zI (mm_w (u * v)) :: s) h Q := (mm_wpx _ _ (by decide) (by decide) (by decide)).trans rfl
theorem wp_16 {y : Nat} {is : List mm_I} {l s : List mm_V} {h : mm_H} {Q : mm_V → mm_H → Prop} {a : Nat} {c : Int} {d e : Nat} {u v : Int} : mm_Wp y ((16, a, c, d, e) :: is) l (zI v :: zI u :: s) h Q = mm_Wp y is l (zI (mm_and u v) :: s) h Q := (mm_wpx _ _ (by decide) (by decide) (by decide)).trans rfl
theorem wp_17 {y : Nat} {is : List mm_I} {l s : List mm_V} {h : mm_H} {Q : mm_V → mm_H → Prop} {a : Nat} {c : Int} {d e : Nat} {u v : Int} : mm_Wp y ((17, a, c, d, e) :: is) l (zI v :: zI u :: s) h Q = mm_Wp y is l (zI (mm_shr u v) :: s) h Q := (mm_wpx _ _ (by decide) (by decide) (by decide)).trans rfl
theorem wp_20 {y : Nat} {is : List mm_I} {l s : List mm_V} {h : mm_H} {Q : mm_V → mm_H → Prop} {a : Nat} {c : Int} {d e : Nat} {u v : Int} : mm_Wp y ((20, a, c, d, e) :: is) l (zL v :: zL u :: s) h Q = mm_Wp y is l (zL (mm_W (u + v)) :: s) h Q := (mm_wpx _ _ (by decide) (by decide) (by decide)).trans rfl
theorem wp_21 {y : Nat} {is : List mm_I} {l s : List mm_V} {h : mm_H} {Q : mm_V → mm_H → Prop} {a : Nat} {c : Int} {d e : Nat} {u v : Int} : mm_Wp y ((21, a, c, d, e) :: is) l (zL v :: zL u :: s) h Q = mm_Wp y is l (zL (mm_W (u - v)) :: s) h Q := (mm_wpx _ _ (by decide) (by decide) (by decide)).trans rfl
theorem wp_22 {y : Nat} {is : List mm_I} {l s : List mm_V} {h : mm_H} {Q : mm_V → mm_H → Prop} {a : Nat} {c : Int} {d e : Nat} {u v : Int} : mm_Wp y ((22, a, c, d, e) :: is) l (zL v :: zL u :: s) h Q = mm_Wp y is l (zL (mm_W (u * v)) :: s) h Q := (mm_wpx _ _ (by decide) (by decide) (by decide)).trans rfl
theorem wp_26 {y : Nat} {is : List mm_I} {l s : List mm_V} {h : mm_H} {Q : mm_V → mm_H → Prop} {a : Nat} {c : Int} {d e : Nat} {u v : Int} : mm_Wp y ((26, a, c, d, e) :: is) l (zL v :: zL u :: s) h Q = mm_Wp y is l (zL (mm_land u v) :: s) h Q := (mm_wpx _ _ (by decide) (by decide) (by decide)).trans rfl
theorem wp_27 {y : Nat} {is : List mm_I} {l s : List mm_V} {h : mm_H} {Q : mm_V → mm_H → Prop} {a : Nat} {c : Int} {d e : Nat} {u v : Int} : mm_Wp y ((27, a, c, d, e) :: is) l (zL v :: zL u :: s) h Q = mm_Wp y is l (zL (mm_lor u v) :: s) h Q := (mm_wpx _ _ (by decide) (by decide) (by decide)).trans rfl
theorem wp_28 {y : Nat} {is : List mm_I} {l s : List mm_V} {h : mm_H} {Q : mm_V → mm_H → Prop} {a : Nat} {c : Int} {d e : Nat} {u v : Int} : mm_Wp y ((28, a, c, d, e) :: is) l (zI v :: zL u :: s) h Q = mm_Wp y is l (zL (mm_lshl u v) :: s) h Q := (mm_wpx _ _ (by decide) (by decide) (by decide)).trans rfl
theorem wp_29 {y : Nat} {is : List mm_I} {l s : List mm_V} {h : mm_H} {Q : mm_V → mm_H → Prop} {a : Nat} {c : Int} {d e : Nat} {u v : Int} : mm_Wp y ((29, a, c, d, e) :: is) l (zI v :: zL u :: s) h Q = mm_Wp y is l (zL (mm_lshr u v) :: s) h Q := (mm_wpx _ _ (by decide) (by decide) (by decide)).trans rfl
theorem wp_30 {y : Nat} {is : List mm_I} {l s : List mm_V} {h : mm_H} {Q : mm_V → mm_H → Prop} {a : Nat} {c : Int} {d e : Nat} {u v : Int} : mm_Wp y ((30, a, c, d, e) :: is) l (zI v :: zL u :: s) h Q = mm_Wp y is l (zL (mm_lushr u v) :: s) h Q := (mm_wpx _ _ (by decide) (by decide) (by decide)).trans rfl
theorem wp_15 {y : Nat} {is : List mm_I} {l s : List mm_V} {h : mm_H} {Q : mm_V → mm_H → Prop} {a : Nat} {c : Int} {d e : Nat} {v : Int} : mm_Wp y ((15, a, c, d, e) :: is) l (zI v :: s) h Q = mm_Wp y is l (zI (mm_w (-v)) :: s) h Q := (mm_wpx _ _ (by decide) (by decide) (by decide)).trans rfl
theorem wp_25 {y : Nat} {is : List mm_I} {l s : List mm_V} {h : mm_H} {Q : mm_V → mm_H → Prop} {a : Nat} {c : Int} {d e : Nat} {v : Int} : mm_Wp y ((25, a, c, d, e) :: is) l (zL v :: s) h Q = mm_Wp y is l (zL (mm_W (-v)) :: s) h Q := (mm_wpx _ _ (by decide) (by decide) (by decide)).trans rfl
theorem wp_31 {y : Nat} {is : List mm_I} {l s : List mm_V} {h : mm_H} {Q : mm_V → mm_H → Prop} {a : Nat} {c : Int} {d e : Nat} {v : Int} : mm_Wp y ((31, a, c, d, e) :: is) l (zI v :: s) h Q = mm_Wp y is l (zL v :: s) h Q := (mm_wpx _ _ (by decide) (by decide) (by decide)).trans rfl
theorem wp_32 {y : Nat} {is : List mm_I} {l s : List mm_V} {h : mm_H} {Q : mm_V → mm_H → Prop} {a : Nat} {c : Int} {d e : Nat} {v : Int} : mm_Wp y ((32, a, c, d, e) :: is) l (zL v :: s) h Q = mm_Wp y is l (zI (mm_w v) :: s) h Q := (mm_wpx _ _ (by decide) (by decide) (by decide)).trans rfl
theorem wp_33 {y : Nat} {is : List mm_I} {l s : List mm_V} {h : mm_H} {Q : mm_V → mm_H → Prop} {a : Nat} {c : Int} {d e : Nat} {v : Int} : mm_Wp y ((33, a, c, d, e) :: is) l (zI v :: s) h Q = mm_Wp y is l (zI (mm_b v) :: s) h Q := (mm_wpx _ _ (by decide) (by decide) (by decide)).trans rfl
theorem wp_39 {y : Nat} {is : List mm_I} {l s : List mm_V} {h : mm_H} {Q : mm_V → mm_H → Prop} {a : Nat} {c : Int} {d e : Nat} {v : Int} : mm_Wp y ((39, a, c, d, e) :: is) l (zI v :: s) h Q = mm_Wp y is l (zI (v % 65536) :: s) h Q := (mm_wpx _ _ (by decide) (by decide) (by decide)).trans rfl
theorem wp_34 {y : Nat} {is : List mm_I} {l s : List mm_V} {h : mm_H} {Q : mm_V → mm_H → Prop} {a : Nat} {c : Int} {d e : Nat} {u v : Int} : mm_Wp y ((34, a, c, d, e) :: is) l (zL v :: zL u :: s) h Q = mm_Wp y is l (zI (mm_cmp u v) :: s) h Q := (mm_wpx _ _ (by decide) (by decide) (by decide)).trans rfl
theorem wp_35i {y : Nat} {is : List mm_I} {l s : List mm_V} {h : mm_H} {Q : mm_V → mm_H → Prop} {a : Nat} {c : Int} {d e : Nat} {v : Int} : mm_Wp y ((35, a, c, d, e) :: is) l (zI v :: s) h Q = mm_Wp y is l (zI v :: zI v :: s) h Q := (mm_wpx _ _ (by decide) (by decide) (by decide)).trans rfl
theorem wp_35r {y : Nat} {is : List mm_I} {l s : List mm_V} {h : mm_H} {Q : mm_V → mm_H → Prop} {a : Nat} {c : Int} {d e : Nat} {v : mm_Id} : mm_Wp y ((35, a, c, d, e) :: is) l (zR v :: s) h Q = mm_Wp y is l (zR v :: zR v :: s) h Q := (mm_wpx _ _ (by decide) (by decide) (by decide)).trans rfl
theorem wp_36i {y : Nat} {is : List mm_I} {l s : List mm_V} {h : mm_H} {Q : mm_V → mm_H → Prop} {a : Nat} {c : Int} {d e : Nat} {v : Int} : mm_Wp y ((36, a, c, d, e) :: is) l (zI v :: s) h Q = mm_Wp y is l s h Q := (mm_wpx _ _ (by decide) (by decide) (by decide)).trans rfl
theorem wp_36r {y : Nat} {is : List mm_I} {l s : List mm_V} {h : mm_H} {Q : mm_V → mm_H → Prop} {a : Nat} {c : Int} {d e : Nat} {v : mm_Id} : mm_Wp y ((36, a, c, d, e) :: is) l (zR v :: s) h Q = mm_Wp y is l s h Q := (mm_wpx _ _ (by decide) (by decide) (by decide)).trans rfl
theorem wp_37 {y : Nat} {is : List mm_I} {l s : List mm_V} {h : mm_H} {Q : mm_V → mm_H → Prop} {a : Nat} {c : Int} {d e : Nat} {v : Int} {x : mm_Id} : mm_Wp y ((37, a, c, d, e) :: is) l (zI v :: zR x :: s) h Q = mm_Wp y is l (zI v :: zR x :: zI v :: zR x :: s) h Q := (mm_wpx _ _ (by decide) (by decide) (by decide)).trans rfl
theorem wp_13v {y : Nat} {is : List mm_I} {l s : List mm_V} {h : mm_H} {Q : mm_V → mm_H → Prop} {a : Nat} {c : Int} {d e : Nat} {u v : Int} : mm_Wp y ((13, a, c, d, e) :: is) l (zI v :: zI u :: s) h Q = (v ≠ 0 ∧ mm_Wp y is l (zI (mm_w (u.tdiv v)) :: s) h Q) := by
  refine (mm_wpx _ _ (by decide) (by decide) (by decide)).trans ?_
  by_cases hA : v = 0
  · simp [mm_x, mm_x2, hA]
  · simp [mm_x, mm_x2, hA]
theorem wp_13 {y : Nat} {is : List mm_I} {l s : List mm_V} {h : mm_H} {Q : mm_V → mm_H → Prop} {a : Nat} {c : Int} {d e : Nat} {u v : Int} (hv : v ≠ 0) : mm_Wp y ((13, a, c, d, e) :: is) l (zI v :: zI u :: s) h Q = mm_Wp y is l (zI (mm_w (u.tdiv v)) :: s) h Q := by rw [wp_13v]; simp [hv]
theorem wp_14v {y : Nat} {is : List mm_I} {l s : List mm_V} {h : mm_H} {Q : mm_V → mm_H → Prop} {a : Nat} {c : Int} {d e : Nat} {u v : Int} : mm_Wp y ((14, a, c, d, e) :: is) l (zI v :: zI u :: s) h Q = (v ≠ 0 ∧ mm_Wp y is l (zI (u.tmod v) :: s) h Q) := by
  refine (mm_wpx _ _ (by decide) (by decide) (by decide)).trans ?_
  by_cases hA : v = 0
  · simp [mm_x, mm_x2, hA]
  · simp [mm_x, mm_x2, hA]
theorem wp_14 {y : Nat} {is : List mm_I} {l s : List mm_V} {h : mm_H} {Q : mm_V → mm_H → Prop} {a : Nat} {c : Int} {d e : Nat} {u v : Int} (hv : v ≠ 0) : mm_Wp y ((14, a, c, d, e) :: is) l (zI v :: zI u :: s) h Q = mm_Wp y is l (zI (u.tmod v) :: s) h Q := by rw [wp_14v]; simp [hv]
theorem wp_23v {y : Nat} {is : List mm_I} {l s : List mm_V} {h : mm_H} {Q : mm_V → mm_H → Prop} {a : Nat} {c : Int} {d e : Nat} {u v : Int} : mm_Wp y ((23, a, c, d, e) :: is) l (zL v :: zL u :: s) h Q = (v ≠ 0 ∧ mm_Wp y is l (zL (mm_W (u.tdiv v)) :: s) h Q) := by
  refine (mm_wpx _ _ (by decide) (by decide) (by decide)).trans ?_
  by_cases hA : v = 0
  · simp [mm_x, mm_x2, hA]
  · simp [mm_x, mm_x2, hA]
theorem wp_23 {y : Nat} {is : List mm_I} {l s : List mm_V} {h : mm_H} {Q : mm_V → mm_H → Prop} {a : Nat} {c : Int} {d e : Nat} {u v : Int} (hv : v ≠ 0) : mm_Wp y ((23, a, c, d, e) :: is) l (zL v :: zL u :: s) h Q = mm_Wp y is l (zL (mm_W (u.tdiv v)) :: s) h Q := by rw [wp_23v]; simp [hv]
theorem wp_24v {y : Nat} {is : List mm_I} {l s : List mm_V} {h : mm_H} {Q : mm_V → mm_H → Prop} {a : Nat} {c : Int} {d e : Nat} {u v : Int} : mm_Wp y ((24, a, c, d, e) :: is) l (zL v :: zL u :: s) h Q = (v ≠ 0 ∧ mm_Wp y is l (zL (u.tmod v) :: s) h Q) := by
  refine (mm_wpx _ _ (by decide) (by decide) (by decide)).trans ?_
  by_cases hA : v = 0
  · simp [mm_x, mm_x2, hA]
  · simp [mm_x, mm_x2, hA]
theorem wp_24 {y : Nat} {is : List mm_I} {l s : List mm_V} {h : mm_H} {Q : mm_V → mm_H → Prop} {a : Nat} {c : Int} {d e : Nat} {u v : Int} (hv : v ≠ 0) : mm_Wp y ((24, a, c, d, e) :: is) l (zL v :: zL u :: s) h Q = mm_Wp y is l (zL (u.tmod v) :: s) h Q := by rw [wp_24v]; simp [hv]
theorem wp_0 {y : Nat} {is : List mm_I} {l s : List mm_V} {h : mm_H} {Q : mm_V → mm_H → Prop} {a : Nat} {c : Int} {d e : Nat}  : mm_Wp y ((0, a, c, d, e) :: is) l s h Q = mm_Wp y (mm_blk y a) l s h Q := (mm_wpj _ _ (by decide)).trans rfl
theorem wp_56 {y : Nat} {is : List mm_I} {l s : List mm_V} {h : mm_H} {Q : mm_V → mm_H → Prop} {a : Nat} {c : Int} {d e : Nat}  : mm_Wp y ((56, a, c, d, e) :: is) l s h Q = mm_Wp y (mm_blk y a) l s h Q := (mm_wpj _ _ (by decide)).trans rfl
theorem wp_40 {y : Nat} {is : List mm_I} {l s : List mm_V} {h : mm_H} {Q : mm_V → mm_H → Prop} {a : Nat} {c : Int} {d e : Nat} {v : Int} : mm_Wp y ((40, a, c, d, e) :: is) l (zI v :: s) h Q = (if v = 0 then mm_Wp y (mm_blk y a) l s h Q else mm_Wp y is l s h Q) := by
  refine (mm_wpj _ _ (by decide)).trans ?_
  by_cases hA : v = 0
  · simp [mm_j, hA]
  · simp [mm_j, hA]
theorem wp_41 {y : Nat} {is : List mm_I} {l s : List mm_V} {h : mm_H} {Q : mm_V → mm_H → Prop} {a : Nat} {c : Int} {d e : Nat} {v : Int} : mm_Wp y ((41, a, c, d, e) :: is) l (zI v :: s) h Q = (if v = 0 then mm_Wp y is l s h Q else mm_Wp y (mm_blk y a) l s h Q) := by
  refine (mm_wpj _ _ (by decide)).trans ?_
  by_cases hA : v = 0
  · simp [mm_j, hA]
  · simp [mm_j, hA]
theorem wp_42 {y : Nat} {is : List mm_I} {l s : List mm_V} {h : mm_H} {Q : mm_V → mm_H → Prop} {a : Nat} {c : Int} {d e : Nat} {v : Int} : mm_Wp y ((42, a, c, d, e) :: is) l (zI v :: s) h Q = (if v < 0 then mm_Wp y (mm_blk y a) l s h Q else mm_Wp y is l s h Q) := by
  refine (mm_wpj _ _ (by decide)).trans ?_
  by_cases hA : v < 0
  · simp [mm_j, hA]
  · simp [mm_j, hA]
theorem wp_43 {y : Nat} {is : List mm_I} {l s : List mm_V} {h : mm_H} {Q : mm_V → mm_H → Prop} {a : Nat} {c : Int} {d e : Nat} {v : Int} : mm_Wp y ((43, a, c, d, e) :: is) l (zI v :: s) h Q = (if v < 0 then mm_Wp y is l s h Q else mm_Wp y (mm_blk y a) l s h Q) := by
  refine (mm_wpj _ _ (by decide)).trans ?_
  by_cases hA : v < 0
  · simp [mm_j, hA]
  · simp [mm_j, hA]
theorem wp_44 {y : Nat} {is : List mm_I} {l s : List mm_V} {h : mm_H} {Q : mm_V → mm_H → Prop} {a : Nat} {c : Int} {d e : Nat} {v : Int} : mm_Wp y ((44, a, c, d, e) :: is) l (zI v :: s) h Q = (if 0 < v then mm_Wp y (mm_blk y a) l s h Q else mm_Wp y is l s h Q) := by
  refine (mm_wpj _ _ (by decide)).trans ?_
  by_cases hA : 0 < v
  · simp [mm_j, hA]
  · simp [mm_j, hA]
theorem wp_45 {y : Nat} {is : List mm_I} {l s : List mm_V} {h : mm_H} {Q : mm_V → mm_H → Prop} {a : Nat} {c : Int} {d e : Nat} {v : Int} : mm_Wp y ((45, a, c, d, e) :: is) l (zI v :: s) h Q = (if 0 < v then mm_Wp y is l s h Q else mm_Wp y (mm_blk y a) l s h Q) := by
  refine (mm_wpj _ _ (by decide)).trans ?_
  by_cases hA : 0 < v
  · simp [mm_j, hA]
  · simp [mm_j, hA]
theorem wp_46 {y : Nat} {is : List mm_I} {l s : List mm_V} {h : mm_H} {Q : mm_V → mm_H → Prop} {a : Nat} {c : Int} {d e : Nat} {u v : Int} : mm_Wp y ((46, a, c, d, e) :: is) l (zI v :: zI u :: s) h Q = (if u = v then mm_Wp y (mm_blk y a) l s h Q else mm_Wp y is l s h Q) := by
  refine (mm_wpj _ _ (by decide)).trans ?_
  by_cases hA : u = v
  · simp [mm_j, hA]
  · simp [mm_j, hA]
theorem wp_47 {y : Nat} {is : List mm_I} {l s : List mm_V} {h : mm_H} {Q : mm_V → mm_H → Prop} {a : Nat} {c : Int} {d e : Nat} {u v : Int} : mm_Wp y ((47, a, c, d, e) :: is) l (zI v :: zI u :: s) h Q = (if u = v then mm_Wp y is l s h Q else mm_Wp y (mm_blk y a) l s h Q) := by
  refine (mm_wpj _ _ (by decide)).trans ?_
  by_cases hA : u = v
  · simp [mm_j, hA]
  · simp [mm_j, hA]
theorem wp_48 {y : Nat} {is : List mm_I} {l s : List mm_V} {h : mm_H} {Q : mm_V → mm_H → Prop} {a : Nat} {c : Int} {d e : Nat} {u v : Int} : mm_Wp y ((48, a, c, d, e) :: is) l (zI v :: zI u :: s) h Q = (if u < v then mm_Wp y (mm_blk y a) l s h Q else mm_Wp y is l s h Q) := by
  refine (mm_wpj _ _ (by decide)).trans ?_
  by_cases hA : u < v
  · simp [mm_j, hA]
  · simp [mm_j, hA]
theorem wp_49 {y : Nat} {is : List mm_I} {l s : List mm_V} {h : mm_H} {Q : mm_V → mm_H → Prop} {a : Nat} {c : Int} {d e : Nat} {u v : Int} : mm_Wp y ((49, a, c, d, e) :: is) l (zI v :: zI u :: s) h Q = (if u < v then mm_Wp y is l s h Q else mm_Wp y (mm_blk y a) l s h Q) := by
  refine (mm_wpj _ _ (by decide)).trans ?_
  by_cases hA : u < v
  · simp [mm_j, hA]
  · simp [mm_j, hA]
theorem wp_50 {y : Nat} {is : List mm_I} {l s : List mm_V} {h : mm_H} {Q : mm_V → mm_H → Prop} {a : Nat} {c : Int} {d e : Nat} {u v : Int} : mm_Wp y ((50, a, c, d, e) :: is) l (zI v :: zI u :: s) h Q = (if v < u then mm_Wp y (mm_blk y a) l s h Q else mm_Wp y is l s h Q) := by
  refine (mm_wpj _ _ (by decide)).trans ?_
  by_cases hA : v < u
  · simp [mm_j, hA]
  · simp [mm_j, hA]
theorem wp_51 {y : Nat} {is : List mm_I} {l s : List mm_V} {h : mm_H} {Q : mm_V → mm_H → Prop} {a : Nat} {c : Int} {d e : Nat} {u v : Int} : mm_Wp y ((51, a, c, d, e) :: is) l (zI v :: zI u :: s) h Q = (if v < u then mm_Wp y is l s h Q else mm_Wp y (mm_blk y a) l s h Q) := by
  refine (mm_wpj _ _ (by decide)).trans ?_
  by_cases hA : v < u
  · simp [mm_j, hA]
  · simp [mm_j, hA]
theorem wp_54n {y : Nat} {is : List mm_I} {l s : List mm_V} {h : mm_H} {Q : mm_V → mm_H → Prop} {a : Nat} {c : Int} {d e : Nat}  : mm_Wp y ((54, a, c, d, e) :: is) l (zR mm_nul :: s) h Q = mm_Wp y (mm_blk y a) l s h Q := (mm_wpj _ _ (by decide)).trans rfl
theorem wp_55n {y : Nat} {is : List mm_I} {l s : List mm_V} {h : mm_H} {Q : mm_V → mm_H → Prop} {a : Nat} {c : Int} {d e : Nat}  : mm_Wp y ((55, a, c, d, e) :: is) l (zR mm_nul :: s) h Q = mm_Wp y is l s h Q := (mm_wpj _ _ (by decide)).trans rfl
theorem wp_54 {y : Nat} {is : List mm_I} {l s : List mm_V} {h : mm_H} {Q : mm_V → mm_H → Prop} {a : Nat} {c : Int} {d e : Nat} {f : Nat} {t n : Int} (hf : 0 < f) : mm_Wp y ((54, a, c, d, e) :: is) l (zR (f, t, n) :: s) h Q = mm_Wp y is l s h Q := by
  refine (mm_wpj _ _ (by decide)).trans ?_
  have e1 : ¬ ((f, t, n) = mm_nul) := by intro q; injection q; omega
  simp only [mm_j, if_neg e1]
theorem wp_55 {y : Nat} {is : List mm_I} {l s : List mm_V} {h : mm_H} {Q : mm_V → mm_H → Prop} {a : Nat} {c : Int} {d e : Nat} {f : Nat} {t n : Int} (hf : 0 < f) : mm_Wp y ((55, a, c, d, e) :: is) l (zR (f, t, n) :: s) h Q = mm_Wp y (mm_blk y a) l s h Q := by
  refine (mm_wpj _ _ (by decide)).trans ?_
  have e1 : ¬ ((f, t, n) = mm_nul) := by intro q; injection q; omega
  simp only [mm_j, if_neg e1]
theorem wp_52_31 {y : Nat} {is : List mm_I} {l s : List mm_V} {h : mm_H} {Q : mm_V → mm_H → Prop} {a : Nat} {c : Int} {d e : Nat} {t u : Int} (h1 : mm_isD t) (h2 : mm_isD u) : mm_Wp y ((52, a, c, d, e) :: is) l (zR (31, u, 0) :: zR (31, t, 0) :: s) h Q = (if t = u then mm_Wp y (mm_blk y a) l s h Q else mm_Wp y is l s h Q) := by
  refine (mm_wpj _ _ (by decide)).trans ?_
  have e1 : mm_SH (31, t, 0) ≠ (0, 0) := by unfold mm_isD at h1; simp [mm_SH, mm_fl, mm_SHo, mm_oi, h1]
  have e2 : mm_SH (31, u, 0) ≠ (0, 0) := by unfold mm_isD at h2; simp [mm_SH, mm_fl, mm_SHo, mm_oi, h2]
  by_cases hA : t = u
  · subst hA; simp [mm_j, e1]
  · have e3 : ¬ ((31, t, 0) = ((31, u, 0) : mm_Id)) := by intro q; injection q with _ q; injection q with q; exact hA q
    simp [mm_j, e1, e2, hA]
theorem wp_53_31 {y : Nat} {is : List mm_I} {l s : List mm_V} {h : mm_H} {Q : mm_V → mm_H → Prop} {a : Nat} {c : Int} {d e : Nat} {t u : Int} (h1 : mm_isD t) (h2 : mm_isD u) : mm_Wp y ((53, a, c, d, e) :: is) l (zR (31, u, 0) :: zR (31, t, 0) :: s) h Q = (if t = u then mm_Wp y is l s h Q else mm_Wp y (mm_blk y a) l s h Q) := by
  refine (mm_wpj _ _ (by decide)).trans ?_
  have e1 : mm_SH (31, t, 0) ≠ (0, 0) := by unfold mm_isD at h1; simp [mm_SH, mm_fl, mm_SHo, mm_oi, h1]
  have e2 : mm_SH (31, u, 0) ≠ (0, 0) := by unfold mm_isD at h2; simp [mm_SH, mm_fl, mm_SHo, mm_oi, h2]
  by_cases hA : t = u
  · subst hA; simp [mm_j, e1]
  · have e3 : ¬ ((31, t, 0) = ((31, u, 0) : mm_Id)) := by intro q; injection q with _ q; injection q with q; exact hA q
    simp [mm_j, e1, e2, hA]
theorem wp_52_34 {y : Nat} {is : List mm_I} {l s : List mm_V} {h : mm_H} {Q : mm_V → mm_H → Prop} {a : Nat} {c : Int} {d e : Nat} {t u : Int} (h1 : mm_isS t) (h2 : mm_isS u) : mm_Wp y ((52, a, c, d, e) :: is) l (zR (34, u, 0) :: zR (34, t, 0) :: s) h Q = (if t = u then mm_Wp y (mm_blk y a) l s h Q else mm_Wp y is l s h Q) := by
  refine (mm_wpj _ _ (by decide)).trans ?_
  have e1 : mm_SH (34, t, 0) ≠ (0, 0) := by unfold mm_isS at h1; simp [mm_SH, mm_fl, mm_SHo, mm_oi, h1]
  have e2 : mm_SH (34, u, 0) ≠ (0, 0) := by unfold mm_isS at h2; simp [mm_SH, mm_fl, mm_SHo, mm_oi, h2]
  by_cases hA : t = u
  · subst hA; simp [mm_j, e1]
  · have e3 : ¬ ((34, t, 0) = ((34, u, 0) : mm_Id)) := by intro q; injection q with _ q; injection q with q; exact hA q
    simp [mm_j, e1, e2, hA]
theorem wp_53_34 {y : Nat} {is : List mm_I} {l s : List mm_V} {h : mm_H} {Q : mm_V → mm_H → Prop} {a : Nat} {c : Int} {d e : Nat} {t u : Int} (h1 : mm_isS t) (h2 : mm_isS u) : mm_Wp y ((53, a, c, d, e) :: is) l (zR (34, u, 0) :: zR (34, t, 0) :: s) h Q = (if t = u then mm_Wp y is l s h Q else mm_Wp y (mm_blk y a) l s h Q) := by
  refine (mm_wpj _ _ (by decide)).trans ?_
  have e1 : mm_SH (34, t, 0) ≠ (0, 0) := by unfold mm_isS at h1; simp [mm_SH, mm_fl, mm_SHo, mm_oi, h1]
  have e2 : mm_SH (34, u, 0) ≠ (0, 0) := by unfold mm_isS at h2; simp [mm_SH, mm_fl, mm_SHo, mm_oi, h2]
  by_cases hA : t = u
  · subst hA; simp [mm_j, e1]
  · have e3 : ¬ ((34, t, 0) = ((34, u, 0) : mm_Id)) := by intro q; injection q with _ q; injection q with q; exact hA q
    simp [mm_j, e1, e2, hA]
theorem wp_52n {y : Nat} {is : List mm_I} {l s : List mm_V} {h : mm_H} {Q : mm_V → mm_H → Prop} {a : Nat} {c : Int} {d e : Nat} {t : Int} (h1 : mm_isD t) : mm_Wp y ((52, a, c, d, e) :: is) l (zR (31, t, 0) :: zR mm_nul :: s) h Q = mm_Wp y is l s h Q := by
  refine (mm_wpj _ _ (by decide)).trans ?_
  have e1 : mm_SH (31, t, 0) ≠ (0, 0) := by unfold mm_isD at h1; simp [mm_SH, mm_fl, mm_SHo, mm_oi, h1]
  simp [mm_j, e1]
theorem wp_53n {y : Nat} {is : List mm_I} {l s : List mm_V} {h : mm_H} {Q : mm_V → mm_H → Prop} {a : Nat} {c : Int} {d e : Nat} {t : Int} (h1 : mm_isD t) : mm_Wp y ((53, a, c, d, e) :: is) l (zR (31, t, 0) :: zR mm_nul :: s) h Q = mm_Wp y (mm_blk y a) l s h Q := by
  refine (mm_wpj _ _ (by decide)).trans ?_
  have e1 : mm_SH (31, t, 0) ≠ (0, 0) := by unfold mm_isD at h1; simp [mm_SH, mm_fl, mm_SHo, mm_oi, h1]
  simp [mm_j, e1]
def mm_sw (a : Nat) (x : Int) : Nat := match mm_swt[a]? with | some t => if t.1 ≤ x ∧ x < t.1 + t.2.1.length then t.2.1.getD (x - t.1).toNat 0 else t.2.2 | none => 0
theorem wp_57 {y : Nat} {is : List mm_I} {l s : List mm_V} {h : mm_H} {Q : mm_V → mm_H → Prop} {a : Nat} {c : Int} {d e : Nat} {v : Int} (ha : (mm_swt[a]?).isSome = true) : mm_Wp y ((57, a, c, d, e) :: is) l (zI v :: s) h Q = mm_Wp y (mm_blk y (mm_sw a v)) l s h Q := by
  refine (mm_wpj _ _ (by decide)).trans ?_
  cases hs : mm_swt[a]? with
  | none => rw [hs] at ha; cases ha
  | some t => simp [mm_j, mm_sw, hs]
theorem wp_90 {y : Nat} {is : List mm_I} {l : List mm_V} {h : mm_H} {Q : mm_V → mm_H → Prop} {a : Nat} {c : Int} {d e : Nat} {v : Int} : mm_Wp y ((90, a, c, d, e) :: is) l [zI v] h Q = Q (zI v) h := (mm_wpr _ _ (by decide)).trans rfl
theorem wp_91 {y : Nat} {is : List mm_I} {l : List mm_V} {h : mm_H} {Q : mm_V → mm_H → Prop} {a : Nat} {c : Int} {d e : Nat} {v : Int} : mm_Wp y ((91, a, c, d, e) :: is) l [zL v] h Q = Q (zL v) h := (mm_wpr _ _ (by decide)).trans rfl
theorem wp_92 {y : Nat} {is : List mm_I} {l : List mm_V} {h : mm_H} {Q : mm_V → mm_H → Prop} {a : Nat} {c : Int} {d e : Nat} {v : mm_Id} : mm_Wp y ((92, a, c, d, e) :: is) l [zR v] h Q = Q (zR v) h := (mm_wpr _ _ (by decide)).trans rfl
theorem wp_93 {y : Nat} {is : List mm_I} {l : List mm_V} {h : mm_H} {Q : mm_V → mm_H → Prop} {a : Nat} {c : Int} {d e : Nat}  : mm_Wp y ((93, a, c, d, e) :: is) l [] h Q = Q zU h := (mm_wpr _ _ (by decide)).trans rfl
theorem wp_94z {y : Nat} {is : List mm_I} {l : List mm_V} {h : mm_H} {Q : mm_V → mm_H → Prop} {c : Int} {d e : Nat} {v : Int} : mm_Wp y ((94, 0, c, d, e) :: is) l [zI v] h Q = ((v = 0 ∨ v = 1) ∧ Q (zI v) h) := by
  refine (mm_wpr _ _ (by decide)).trans ?_
  by_cases hA : v = 0 ∨ v = 1
  · simp [mm_rt, hA]
  · simp [mm_rt, hA]
theorem wp_94k {y : Nat} {is : List mm_I} {l : List mm_V} {h : mm_H} {Q : mm_V → mm_H → Prop} {c : Int} {d e : Nat} {v : Int} (hv : v = 0 ∨ v = 1) : mm_Wp y ((94, 0, c, d, e) :: is) l [zI v] h Q = Q (zI v) h := by rw [wp_94z]; simp [hv]
theorem wp_94b {y : Nat} {is : List mm_I} {l : List mm_V} {h : mm_H} {Q : mm_V → mm_H → Prop} {c : Int} {d e : Nat} {v : Int} : mm_Wp y ((94, 1, c, d, e) :: is) l [zI v] h Q = ((-128 ≤ v ∧ v < 128) ∧ Q (zI v) h) := by
  refine (mm_wpr _ _ (by decide)).trans ?_
  by_cases hA : -128 ≤ v ∧ v < 128
  · simp [mm_rt, hA]
  · simp [mm_rt, hA]
theorem wp_94c {y : Nat} {is : List mm_I} {l : List mm_V} {h : mm_H} {Q : mm_V → mm_H → Prop} {c : Int} {d e : Nat} {v : Int} : mm_Wp y ((94, 2, c, d, e) :: is) l [zI v] h Q = ((0 ≤ v ∧ v < 65536) ∧ Q (zI v) h) := by
  refine (mm_wpr _ _ (by decide)).trans ?_
  by_cases hA : 0 ≤ v ∧ v < 65536
  · simp [mm_rt, hA]
  · simp [mm_rt, hA]
theorem wp_60 {y : Nat} {is : List mm_I} {l s : List mm_V} {Q : mm_V → mm_H → Prop} {a : Nat} {c : Int} {d e : Nat} {hi : mm_Id → Int → Int} {dh : Int → Int} {nx ns : Int} {x : mm_Id} (hc : c < 11) (ho : mm_ok x nx 1 c = true) : mm_Wp y ((60, a, c, d, e) :: is) l (zR x :: s) (mm_z hi dh nx ns) Q = mm_Wp y is l (zI (hi x a) :: s) (mm_z hi dh nx ns) Q := by
  refine (mm_wpx _ _ (by decide) (by decide) (by decide)).trans ?_
  have h20 : ¬ c = 20 := by omega
  have h21 : ¬ c = 21 := by omega
  have h11 : ¬ c = 11 := by omega
  simp [mm_x, mm_x3, mm_z, h20, h21, ho]
theorem wp_61 {y : Nat} {is : List mm_I} {l s : List mm_V} {Q : mm_V → mm_H → Prop} {a : Nat} {c : Int} {d e : Nat} {hi : mm_Id → Int → Int} {dh : Int → Int} {nx ns : Int} {x : mm_Id} (hc : c < 11) (ho : mm_ok x nx 1 c = true) : mm_Wp y ((61, a, c, d, e) :: is) l (zR x :: s) (mm_z hi dh nx ns) Q = mm_Wp y is l (zL (hi x a) :: s) (mm_z hi dh nx ns) Q := by
  refine (mm_wpx _ _ (by decide) (by decide) (by decide)).trans ?_
  simp [mm_x, mm_x3, mm_z, ho]
theorem wp_62 {y : Nat} {is : List mm_I} {l s : List mm_V} {Q : mm_V → mm_H → Prop} {a : Nat} {c : Int} {d e : Nat} {hi : mm_Id → Int → Int} {dh : Int → Int} {nx ns : Int} {x : mm_Id} (hc : c < 11) (ho : mm_ok x nx 1 c = true) {x2 : mm_Id} (hr : mm_mkR dh nx x a = x2) : mm_Wp y ((62, a, c, d, e) :: is) l (zR x :: s) (mm_z hi dh nx ns) Q = mm_Wp y is l (zR x2 :: s) (mm_z hi dh nx ns) Q := by
  refine (mm_wpx _ _ (by decide) (by decide) (by decide)).trans ?_
  have h20 : ¬ c = 20 := by omega
  have h21 : ¬ c = 21 := by omega
  have h11 : ¬ c = 11 := by omega
  subst hr
  simp [mm_x, mm_x3, mm_z, h20, h21, h11, ho]
theorem wp_63 {y : Nat} {is : List mm_I} {l s : List mm_V} {Q : mm_V → mm_H → Prop} {a : Nat} {c : Int} {d e : Nat} {hi : mm_Id → Int → Int} {dh : Int → Int} {nx ns : Int} {x : mm_Id} {v : Int} (ho : mm_ok x nx 1 c = true) : mm_Wp y ((63, a, c, d, e) :: is) l (zI v :: zR x :: s) (mm_z hi dh nx ns) Q = mm_Wp y is l s (mm_z (mm_up hi x a v) dh nx ns) Q := by
  refine (mm_wpx _ _ (by decide) (by decide) (by decide)).trans ?_
  simp [mm_x, mm_x3, mm_z, ho]
theorem wp_64 {y : Nat} {is : List mm_I} {l s : List mm_V} {Q : mm_V → mm_H → Prop} {a : Nat} {c : Int} {d e : Nat} {hi : mm_Id → Int → Int} {dh : Int → Int} {nx ns : Int} {x : mm_Id} {v : Int} (ho : mm_ok x nx 1 c = true) : mm_Wp y ((64, a, c, d, e) :: is) l (zI v :: zR x :: s) (mm_z hi dh nx ns) Q = ((v = 0 ∨ v = 1) ∧ mm_Wp y is l s (mm_z (mm_up hi x a v) dh nx ns) Q) := by
  refine (mm_wpx _ _ (by decide) (by decide) (by decide)).trans ?_
  by_cases hA : v = 0 ∨ v = 1
  · simp [mm_x, mm_x3, mm_z, ho, hA]
  · simp [mm_x, mm_x3, mm_z, ho, hA]
theorem wp_64k {y : Nat} {is : List mm_I} {l s : List mm_V} {Q : mm_V → mm_H → Prop} {a : Nat} {c : Int} {d e : Nat} {hi : mm_Id → Int → Int} {dh : Int → Int} {nx ns : Int} {x : mm_Id} {v : Int} (ho : mm_ok x nx 1 c = true) (hv : v = 0 ∨ v = 1) : mm_Wp y ((64, a, c, d, e) :: is) l (zI v :: zR x :: s) (mm_z hi dh nx ns) Q = mm_Wp y is l s (mm_z (mm_up hi x a v) dh nx ns) Q := by rw [wp_64 ho]; simp [hv]
theorem wp_65 {y : Nat} {is : List mm_I} {l s : List mm_V} {Q : mm_V → mm_H → Prop} {a : Nat} {c : Int} {d e : Nat} {hi : mm_Id → Int → Int} {dh : Int → Int} {nx ns : Int} {x : mm_Id} {v : Int} (ho : mm_ok x nx 1 c = true) : mm_Wp y ((65, a, c, d, e) :: is) l (zL v :: zR x :: s) (mm_z hi dh nx ns) Q = mm_Wp y is l s (mm_z (mm_up hi x a v) dh nx ns) Q := by
  refine (mm_wpx _ _ (by decide) (by decide) (by decide)).trans ?_
  simp [mm_x, mm_x3, mm_z, ho]
theorem mm_drn (d : Int) (h : ¬ mm_isD d) : mm_dr d = mm_nul := if_neg h
theorem mm_drd (d : Int) (h : mm_isD d) : mm_dr d = (31, d, 0) := if_pos h
theorem mm_upR (dh : Int → Int) (nx i v : Int) (hi : mm_isS i) : mm_up (mm_mkR dh nx) (34, i, 0) 1 (mm_dr v) = mm_mkR (fun k => if k = i then v else dh k) nx := by
  funext x k
  obtain ⟨f, t, n⟩ := x
  unfold mm_up
  by_cases hx : (f, t, n) = ((34, i, 0) : mm_Id) ∧ k = 1
  · obtain ⟨h1, h2⟩ := hx
    injection h1 with h1 h3
    injection h3 with h3 h4
    subst h1 h3 h4 h2
    have h5 : (0 ≤ t ∧ t < 8) := hi
    simp [mm_mkR, h5]
  · rw [if_neg hx]
    by_cases hf : f = 34
    · subst hf
      by_cases h1 : t = i
      · subst h1
        by_cases h2 : n = 0
        · subst h2
          have h3 : ¬ k = 1 := fun q => hx ⟨rfl, q⟩
          simp [mm_mkR, h3]
        · simp [mm_mkR, h2]
      · simp [mm_mkR, h1]
    · unfold mm_mkR
      split <;> simp_all
theorem wp_62d {y : Nat} {is : List mm_I} {l s : List mm_V} {Q : mm_V → mm_H → Prop} {d e : Nat} {hi : mm_Id → Int → Int} {dh : Int → Int} {nx ns : Int} {i : Int} (hh : mm_isS i) (ho : mm_ok (34, i, 0) nx 1 3 = true) : mm_Wp y ((62, 1, 3, d, e) :: is) l (zR (34, i, 0) :: s) (mm_z hi dh nx ns) Q = (if 0 ≤ dh i ∧ dh i < 5 then mm_Wp y is l (zR (31, dh i, 0) :: s) (mm_z hi dh nx ns) Q else mm_Wp y is l (zR mm_nul :: s) (mm_z hi dh nx ns) Q) := by
  have e1 : mm_mkR dh nx (34, i, 0) 1 = mm_dr (dh i) := by
    have h5 : (0 ≤ i ∧ i < 8) := hh
    simp [mm_mkR, h5]
  rw [wp_62 (by decide) ho e1]
  by_cases hA : 0 ≤ dh i ∧ dh i < 5
  · rw [if_pos hA, mm_drd _ hA]
  · rw [if_neg hA, mm_drn _ hA]
theorem wp_66 {y : Nat} {is : List mm_I} {l s : List mm_V} {Q : mm_V → mm_H → Prop} {d e : Nat} {hi : mm_Id → Int → Int} {dh : Int → Int} {nx ns : Int} {i v : Int} (hh : mm_isS i) (hv : mm_isD v) (ho : mm_ok (34, i, 0) nx 1 3 = true) : mm_Wp y ((66, 1, 3, d, e) :: is) l (zR (31, v, 0) :: zR (34, i, 0) :: s) (mm_z hi dh nx ns) Q = mm_Wp y is l s (mm_z hi (fun k => if k = i then v else dh k) nx ns) Q := by
  refine (mm_wpx _ _ (by decide) (by decide) (by decide)).trans ?_
  rw [← mm_drd v hv]
  simp [mm_x, mm_x3, mm_z, ho, mm_upR dh nx i v hh]
theorem wp_66n {y : Nat} {is : List mm_I} {l s : List mm_V} {Q : mm_V → mm_H → Prop} {d e : Nat} {hi : mm_Id → Int → Int} {dh : Int → Int} {nx ns : Int} {i : Int} (hh : mm_isS i) (ho : mm_ok (34, i, 0) nx 1 3 = true) : mm_Wp y ((66, 1, 3, d, e) :: is) l (zR mm_nul :: zR (34, i, 0) :: s) (mm_z hi dh nx ns) Q = mm_Wp y is l s (mm_z hi (fun k => if k = i then -1 else dh k) nx ns) Q := by
  refine (mm_wpx _ _ (by decide) (by decide) (by decide)).trans ?_
  have e1 : (0, 0, 0) = mm_dr (-1) := (mm_drn (-1) (by unfold mm_isD; omega)).symm
  have e2 := mm_upR dh nx i (-1) hh
  rw [← e1] at e2
  simp [mm_x, mm_x3, mm_z, ho, e2]
theorem wp_70 {y : Nat} {is : List mm_I} {l s : List mm_V} {Q : mm_V → mm_H → Prop} {a : Nat} {c : Int} {d e : Nat} {hi : mm_Id → Int → Int} {dh : Int → Int} {nx ns : Int} {x : mm_Id} {j n : Int}  (hq : mm_SH x = (2, n) ∧ mm_lv x nx = true) : mm_Wp y ((70, a, c, d, e) :: is) l (zI j :: zR x :: s) (mm_z hi dh nx ns) Q = ((0 ≤ j ∧ j < n) ∧ mm_Wp y is l (zI (hi x j) :: s) (mm_z hi dh nx ns) Q) := by
  refine (mm_wpx _ _ (by decide) (by decide) (by decide)).trans ?_
  obtain ⟨hq, hl⟩ := hq
  by_cases hA : 0 ≤ j ∧ j < n
  · simp [mm_x, mm_x4, mm_z, mm_in, hq, hl, hA]
  · have hA2 : 0 ≤ j → n ≤ j := by omega
    have hA3 : 0 ≤ j → ¬ j < n := by omega
    simp [mm_x, mm_x4, mm_z, mm_in, hq, hl, hA]
    try exact fun q => False.elim (hA3 q.1 q.2)
    try (intro q1 q2; omega)
    try omega
theorem wp_71 {y : Nat} {is : List mm_I} {l s : List mm_V} {Q : mm_V → mm_H → Prop} {a : Nat} {c : Int} {d e : Nat} {hi : mm_Id → Int → Int} {dh : Int → Int} {nx ns : Int} {x : mm_Id} {j n : Int}  (hq : mm_SH x = (3, n) ∧ mm_lv x nx = true) : mm_Wp y ((71, a, c, d, e) :: is) l (zI j :: zR x :: s) (mm_z hi dh nx ns) Q = ((0 ≤ j ∧ j < n) ∧ mm_Wp y is l (zI (hi x j) :: s) (mm_z hi dh nx ns) Q) := by
  refine (mm_wpx _ _ (by decide) (by decide) (by decide)).trans ?_
  obtain ⟨hq, hl⟩ := hq
  by_cases hA : 0 ≤ j ∧ j < n
  · simp [mm_x, mm_x4, mm_z, mm_in, hq, hl, hA]
  · have hA2 : 0 ≤ j → n ≤ j := by omega
    have hA3 : 0 ≤ j → ¬ j < n := by omega
    simp [mm_x, mm_x4, mm_z, mm_in, hq, hl, hA]
    try exact fun q => False.elim (hA3 q.1 q.2)
    try (intro q1 q2; omega)
    try omega
theorem wp_71z {y : Nat} {is : List mm_I} {l s : List mm_V} {Q : mm_V → mm_H → Prop} {a : Nat} {c : Int} {d e : Nat} {hi : mm_Id → Int → Int} {dh : Int → Int} {nx ns : Int} {x : mm_Id} {j n : Int}  (hq : mm_SH x = (4, n) ∧ mm_lv x nx = true) : mm_Wp y ((71, a, c, d, e) :: is) l (zI j :: zR x :: s) (mm_z hi dh nx ns) Q = ((0 ≤ j ∧ j < n) ∧ mm_Wp y is l (zI (hi x j) :: s) (mm_z hi dh nx ns) Q) := by
  refine (mm_wpx _ _ (by decide) (by decide) (by decide)).trans ?_
  obtain ⟨hq, hl⟩ := hq
  by_cases hA : 0 ≤ j ∧ j < n
  · simp [mm_x, mm_x4, mm_z, mm_in, hq, hl, hA]
  · have hA2 : 0 ≤ j → n ≤ j := by omega
    have hA3 : 0 ≤ j → ¬ j < n := by omega
    simp [mm_x, mm_x4, mm_z, mm_in, hq, hl, hA]
    try exact fun q => False.elim (hA3 q.1 q.2)
    try (intro q1 q2; omega)
    try omega
theorem wp_72 {y : Nat} {is : List mm_I} {l s : List mm_V} {Q : mm_V → mm_H → Prop} {a : Nat} {c : Int} {d e : Nat} {hi : mm_Id → Int → Int} {dh : Int → Int} {nx ns : Int} {x : mm_Id} {j n : Int}  (hq : mm_SH x = (5, n) ∧ mm_lv x nx = true) : mm_Wp y ((72, a, c, d, e) :: is) l (zI j :: zR x :: s) (mm_z hi dh nx ns) Q = ((0 ≤ j ∧ j < n) ∧ mm_Wp y is l (zL (hi x j) :: s) (mm_z hi dh nx ns) Q) := by
  refine (mm_wpx _ _ (by decide) (by decide) (by decide)).trans ?_
  obtain ⟨hq, hl⟩ := hq
  by_cases hA : 0 ≤ j ∧ j < n
  · simp [mm_x, mm_x4, mm_z, mm_in, hq, hl, hA]
  · have hA2 : 0 ≤ j → n ≤ j := by omega
    have hA3 : 0 ≤ j → ¬ j < n := by omega
    simp [mm_x, mm_x4, mm_z, mm_in, hq, hl, hA]
    try exact fun q => False.elim (hA3 q.1 q.2)
    try (intro q1 q2; omega)
    try omega
theorem wp_74 {y : Nat} {is : List mm_I} {l s : List mm_V} {Q : mm_V → mm_H → Prop} {a : Nat} {c : Int} {d e : Nat} {hi : mm_Id → Int → Int} {dh : Int → Int} {nx ns : Int} {x : mm_Id} {j n : Int} {v : Int} (hq : mm_SH x = (2, n) ∧ mm_lv x nx = true) : mm_Wp y ((74, a, c, d, e) :: is) l (zI v :: zI j :: zR x :: s) (mm_z hi dh nx ns) Q = ((0 ≤ j ∧ j < n) ∧ mm_Wp y is l s (mm_z (mm_up hi x j v) dh nx ns) Q) := by
  refine (mm_wpx _ _ (by decide) (by decide) (by decide)).trans ?_
  obtain ⟨hq, hl⟩ := hq
  by_cases hA : 0 ≤ j ∧ j < n
  · simp [mm_x, mm_x4, mm_z, mm_in, hq, hl, hA]
  · have hA2 : 0 ≤ j → n ≤ j := by omega
    have hA3 : 0 ≤ j → ¬ j < n := by omega
    simp [mm_x, mm_x4, mm_z, mm_in, hq, hl, hA]
    try exact fun q => False.elim (hA3 q.1 q.2)
    try (intro q1 q2; omega)
    try omega
theorem wp_75 {y : Nat} {is : List mm_I} {l s : List mm_V} {Q : mm_V → mm_H → Prop} {a : Nat} {c : Int} {d e : Nat} {hi : mm_Id → Int → Int} {dh : Int → Int} {nx ns : Int} {x : mm_Id} {j n : Int} {v : Int} (hq : mm_SH x = (3, n) ∧ mm_lv x nx = true) : mm_Wp y ((75, a, c, d, e) :: is) l (zI v :: zI j :: zR x :: s) (mm_z hi dh nx ns) Q = ((0 ≤ j ∧ j < n) ∧ mm_Wp y is l s (mm_z (mm_up hi x j (mm_b v)) dh nx ns) Q) := by
  refine (mm_wpx _ _ (by decide) (by decide) (by decide)).trans ?_
  obtain ⟨hq, hl⟩ := hq
  by_cases hA : 0 ≤ j ∧ j < n
  · simp [mm_x, mm_x4, mm_z, mm_in, hq, hl, hA]
  · have hA2 : 0 ≤ j → n ≤ j := by omega
    have hA3 : 0 ≤ j → ¬ j < n := by omega
    simp [mm_x, mm_x4, mm_z, mm_in, hq, hl, hA]
    try exact fun q => False.elim (hA3 q.1 q.2)
    try (intro q1 q2; omega)
    try omega
theorem wp_76 {y : Nat} {is : List mm_I} {l s : List mm_V} {Q : mm_V → mm_H → Prop} {a : Nat} {c : Int} {d e : Nat} {hi : mm_Id → Int → Int} {dh : Int → Int} {nx ns : Int} {x : mm_Id} {j n : Int} {v : Int} (hq : mm_SH x = (5, n) ∧ mm_lv x nx = true) : mm_Wp y ((76, a, c, d, e) :: is) l (zL v :: zI j :: zR x :: s) (mm_z hi dh nx ns) Q = ((0 ≤ j ∧ j < n) ∧ mm_Wp y is l s (mm_z (mm_up hi x j v) dh nx ns) Q) := by
  refine (mm_wpx _ _ (by decide) (by decide) (by decide)).trans ?_
  obtain ⟨hq, hl⟩ := hq
  by_cases hA : 0 ≤ j ∧ j < n
  · simp [mm_x, mm_x4, mm_z, mm_in, hq, hl, hA]
  · have hA2 : 0 ≤ j → n ≤ j := by omega
    have hA3 : 0 ≤ j → ¬ j < n := by omega
    simp [mm_x, mm_x4, mm_z, mm_in, hq, hl, hA]
    try exact fun q => False.elim (hA3 q.1 q.2)
    try (intro q1 q2; omega)
    try omega
theorem wp_75z {y : Nat} {is : List mm_I} {l s : List mm_V} {Q : mm_V → mm_H → Prop} {a : Nat} {c : Int} {d e : Nat} {hi : mm_Id → Int → Int} {dh : Int → Int} {nx ns : Int} {x : mm_Id} {j n : Int} {v : Int} (hv : v = 0 ∨ v = 1) (hq : mm_SH x = (4, n) ∧ mm_lv x nx = true) : mm_Wp y ((75, a, c, d, e) :: is) l (zI v :: zI j :: zR x :: s) (mm_z hi dh nx ns) Q = ((0 ≤ j ∧ j < n) ∧ mm_Wp y is l s (mm_z (mm_up hi x j v) dh nx ns) Q) := by
  refine (mm_wpx _ _ (by decide) (by decide) (by decide)).trans ?_
  obtain ⟨hq, hl⟩ := hq
  by_cases hA : 0 ≤ j ∧ j < n
  · simp [mm_x, mm_x4, mm_z, mm_in, hq, hl, hA, hv]
  · have hA2 : 0 ≤ j → n ≤ j := by omega
    have hA3 : 0 ≤ j → ¬ j < n := by omega
    simp [mm_x, mm_x4, mm_z, mm_in, hq, hl, hA]
    try exact fun q => False.elim (hA3 q.1 q.2)
    try (intro q1 q2; omega)
    try omega
theorem wp_70k {y : Nat} {is : List mm_I} {l s : List mm_V} {Q : mm_V → mm_H → Prop} {a : Nat} {c : Int} {d e : Nat} {hi : mm_Id → Int → Int} {dh : Int → Int} {nx ns : Int} {x : mm_Id} {j n : Int} (hq : mm_SH x = (2, n) ∧ mm_lv x nx = true) (h1 : 0 ≤ j ∧ j < n) : mm_Wp y ((70, a, c, d, e) :: is) l (zI j :: zR x :: s) (mm_z hi dh nx ns) Q = mm_Wp y is l (zI (hi x j) :: s) (mm_z hi dh nx ns) Q := by rw [wp_70 hq]; simp [h1]
theorem wp_71k {y : Nat} {is : List mm_I} {l s : List mm_V} {Q : mm_V → mm_H → Prop} {a : Nat} {c : Int} {d e : Nat} {hi : mm_Id → Int → Int} {dh : Int → Int} {nx ns : Int} {x : mm_Id} {j n : Int} (hq : mm_SH x = (3, n) ∧ mm_lv x nx = true) (h1 : 0 ≤ j ∧ j < n) : mm_Wp y ((71, a, c, d, e) :: is) l (zI j :: zR x :: s) (mm_z hi dh nx ns) Q = mm_Wp y is l (zI (hi x j) :: s) (mm_z hi dh nx ns) Q := by rw [wp_71 hq]; simp [h1]
theorem wp_71zk {y : Nat} {is : List mm_I} {l s : List mm_V} {Q : mm_V → mm_H → Prop} {a : Nat} {c : Int} {d e : Nat} {hi : mm_Id → Int → Int} {dh : Int → Int} {nx ns : Int} {x : mm_Id} {j n : Int} (hq : mm_SH x = (4, n) ∧ mm_lv x nx = true) (h1 : 0 ≤ j ∧ j < n) : mm_Wp y ((71, a, c, d, e) :: is) l (zI j :: zR x :: s) (mm_z hi dh nx ns) Q = mm_Wp y is l (zI (hi x j) :: s) (mm_z hi dh nx ns) Q := by rw [wp_71z hq]; simp [h1]
theorem wp_72k {y : Nat} {is : List mm_I} {l s : List mm_V} {Q : mm_V → mm_H → Prop} {a : Nat} {c : Int} {d e : Nat} {hi : mm_Id → Int → Int} {dh : Int → Int} {nx ns : Int} {x : mm_Id} {j n : Int} (hq : mm_SH x = (5, n) ∧ mm_lv x nx = true) (h1 : 0 ≤ j ∧ j < n) : mm_Wp y ((72, a, c, d, e) :: is) l (zI j :: zR x :: s) (mm_z hi dh nx ns) Q = mm_Wp y is l (zL (hi x j) :: s) (mm_z hi dh nx ns) Q := by rw [wp_72 hq]; simp [h1]
theorem wp_74k {y : Nat} {is : List mm_I} {l s : List mm_V} {Q : mm_V → mm_H → Prop} {a : Nat} {c : Int} {d e : Nat} {hi : mm_Id → Int → Int} {dh : Int → Int} {nx ns : Int} {x : mm_Id} {j n v : Int} (hq : mm_SH x = (2, n) ∧ mm_lv x nx = true) (h1 : 0 ≤ j ∧ j < n) : mm_Wp y ((74, a, c, d, e) :: is) l (zI v :: zI j :: zR x :: s) (mm_z hi dh nx ns) Q = mm_Wp y is l s (mm_z (mm_up hi x j v) dh nx ns) Q := by rw [wp_74 hq]; simp [h1]
theorem wp_75k {y : Nat} {is : List mm_I} {l s : List mm_V} {Q : mm_V → mm_H → Prop} {a : Nat} {c : Int} {d e : Nat} {hi : mm_Id → Int → Int} {dh : Int → Int} {nx ns : Int} {x : mm_Id} {j n v : Int} (hq : mm_SH x = (3, n) ∧ mm_lv x nx = true) (h1 : 0 ≤ j ∧ j < n) : mm_Wp y ((75, a, c, d, e) :: is) l (zI v :: zI j :: zR x :: s) (mm_z hi dh nx ns) Q = mm_Wp y is l s (mm_z (mm_up hi x j (mm_b v)) dh nx ns) Q := by rw [wp_75 hq]; simp [h1]
theorem wp_76k {y : Nat} {is : List mm_I} {l s : List mm_V} {Q : mm_V → mm_H → Prop} {a : Nat} {c : Int} {d e : Nat} {hi : mm_Id → Int → Int} {dh : Int → Int} {nx ns : Int} {x : mm_Id} {j n v : Int} (hq : mm_SH x = (5, n) ∧ mm_lv x nx = true) (h1 : 0 ≤ j ∧ j < n) : mm_Wp y ((76, a, c, d, e) :: is) l (zL v :: zI j :: zR x :: s) (mm_z hi dh nx ns) Q = mm_Wp y is l s (mm_z (mm_up hi x j v) dh nx ns) Q := by rw [wp_76 hq]; simp [h1]
theorem wp_73 {y : Nat} {is : List mm_I} {l s : List mm_V} {Q : mm_V → mm_H → Prop} {a : Nat} {c : Int} {d e : Nat} {hi : mm_Id → Int → Int} {dh : Int → Int} {nx ns : Int} {x : mm_Id} {j n : Int} {k : Nat} {x2 : mm_Id} (hq : mm_SH x = (k, n) ∧ mm_lv x nx = true) (hk : 6 ≤ k ∧ k ≤ 9) (hr : 0 ≤ j ∧ j < n → mm_mkR dh nx x j = x2) : mm_Wp y ((73, a, c, d, e) :: is) l (zI j :: zR x :: s) (mm_z hi dh nx ns) Q = ((0 ≤ j ∧ j < n) ∧ mm_Wp y is l (zR x2 :: s) (mm_z hi dh nx ns) Q) := by
  refine (mm_wpx _ _ (by decide) (by decide) (by decide)).trans ?_
  obtain ⟨hq, hl⟩ := hq
  have e1 : ¬ k = 11 := by omega
  by_cases hA : 0 ≤ j ∧ j < n
  · simp [mm_x, mm_x4, mm_z, mm_in, hq, hl, hA, hk, e1, hr hA]
  · simp [mm_x, mm_x4, mm_z, mm_in, hq, hl, hA, hk, e1]
    try exact fun q => False.elim (hA ⟨q, by omega⟩)
    try (intro q1 q2; omega)
    try omega
theorem wp_73k {y : Nat} {is : List mm_I} {l s : List mm_V} {Q : mm_V → mm_H → Prop} {a : Nat} {c : Int} {d e : Nat} {hi : mm_Id → Int → Int} {dh : Int → Int} {nx ns : Int} {x : mm_Id} {j n : Int} {k : Nat} {x2 : mm_Id} (hq : mm_SH x = (k, n) ∧ mm_lv x nx = true) (hk : 6 ≤ k ∧ k ≤ 9) (h1 : 0 ≤ j ∧ j < n) (hr : mm_mkR dh nx x j = x2) : mm_Wp y ((73, a, c, d, e) :: is) l (zI j :: zR x :: s) (mm_z hi dh nx ns) Q = mm_Wp y is l (zR x2 :: s) (mm_z hi dh nx ns) Q := by rw [wp_73 hq hk (fun _ => hr)]; simp [h1]
theorem wp_70s {y : Nat} {is : List mm_I} {l s : List mm_V} {Q : mm_V → mm_H → Prop} {a : Nat} {c : Int} {d e : Nat} {hi : mm_Id → Int → Int} {dh : Int → Int} {nx ns : Int} {j : Int} : mm_Wp y ((70, a, c, d, e) :: is) l (zI j :: zR (90, 0, 0) :: s) (mm_z hi dh nx ns) Q = ((0 ≤ j ∧ j < hi (90, 0, 0) (-1)) ∧ mm_Wp y is l (zI (hi (90, 0, 0) j) :: s) (mm_z hi dh nx ns) Q) := by
  refine (mm_wpx _ _ (by decide) (by decide) (by decide)).trans ?_
  have e0 : mm_SH (90, 0, 0) = (10, 0) := rfl
  by_cases hA : 0 ≤ j ∧ j < hi (90, 0, 0) (-1)
  · simp [mm_x, mm_x4, mm_z, mm_in, e0, hA]
  · simp [mm_x, mm_x4, mm_z, mm_in, e0, hA]
theorem wp_78 {y : Nat} {is : List mm_I} {l s : List mm_V} {Q : mm_V → mm_H → Prop} {a : Nat} {c : Int} {d e : Nat} {hi : mm_Id → Int → Int} {dh : Int → Int} {nx ns : Int} {x : mm_Id} {k : Nat} {n : Int} (hq : mm_SH x = (k, n) ∧ mm_lv x nx = true) (hk : 2 ≤ k ∧ k ≤ 9) : mm_Wp y ((78, a, c, d, e) :: is) l (zR x :: s) (mm_z hi dh nx ns) Q = mm_Wp y is l (zI n :: s) (mm_z hi dh nx ns) Q := by
  refine (mm_wpx _ _ (by decide) (by decide) (by decide)).trans ?_
  obtain ⟨hq, hl⟩ := hq
  have e1 : ¬ k = 10 := by omega
  have e2 : ¬ k = 15 := by omega
  simp [mm_x, mm_x4, mm_z, hq, hl, hk, e1, e2]
theorem wp_78s {y : Nat} {is : List mm_I} {l s : List mm_V} {h : mm_H} {Q : mm_V → mm_H → Prop} {a : Nat} {c : Int} {d e : Nat}  : mm_Wp y ((78, a, c, d, e) :: is) l (zR (90, 0, 0) :: s) h Q = mm_Wp y is l (zI (h.1 (90, 0, 0) (-1)) :: s) h Q := by
  refine (mm_wpx _ _ (by decide) (by decide) (by decide)).trans ?_
  have e0 : mm_SH (90, 0, 0) = (10, 0) := rfl
  simp [mm_x, mm_x4, e0]
theorem wp_98 {y : Nat} {is : List mm_I} {l s : List mm_V} {h : mm_H} {Q : mm_V → mm_H → Prop} {a : Nat} {c : Int} {d e : Nat} {u v : Int} (hs : (s.map mm_wt).sum ≤ 8) : mm_Wp y ((98, a, c, d, e) :: is) l (zI v :: zI u :: s) h Q = mm_Wp y is l (zI (if u < v then v else u) :: s) h Q := by
  refine (mm_wpx _ _ (by decide) (by decide) (by decide)).trans ?_
  simp [mm_x, mm_x5, hs]
theorem wp_99 {y : Nat} {is : List mm_I} {l s : List mm_V} {h : mm_H} {Q : mm_V → mm_H → Prop} {a : Nat} {c : Int} {d e : Nat} {u v : Int} (hs : (s.map mm_wt).sum ≤ 8) : mm_Wp y ((99, a, c, d, e) :: is) l (zI v :: zI u :: s) h Q = mm_Wp y is l (zI (if v < u then v else u) :: s) h Q := by
  refine (mm_wpx _ _ (by decide) (by decide) (by decide)).trans ?_
  simp [mm_x, mm_x5, hs]
theorem wp_95 {y : Nat} {is : List mm_I} {l : List mm_V} {Q : mm_V → mm_H → Prop} {a : Nat} {c : Int} {d e : Nat} {hi : mm_Id → Int → Int} {dh : Int → Int} {nx ns : Int} {x z : mm_Id} {k : Nat} {n1 n2 n dp sp : Int} (hk : k = 2 ∨ k = 3) (hx : mm_SH x = (k, n1) ∧ mm_lv x nx = true) (hz : mm_SH z = (k, n2) ∧ mm_lv z nx = true) : mm_Wp y ((95, a, c, d, e) :: is) l [zI n, zI dp, zR z, zI sp, zR x] (mm_z hi dh nx ns) Q = ((0 ≤ n ∧ 0 ≤ sp ∧ 0 ≤ dp ∧ sp + n ≤ n1 ∧ dp + n ≤ n2) ∧ mm_Wp y is l [] (mm_z (mm_cp hi x sp z dp n) dh nx ns) Q) := by
  refine (mm_wpx _ _ (by decide) (by decide) (by decide)).trans ?_
  obtain ⟨hx, hx2⟩ := hx
  obtain ⟨hz, hz2⟩ := hz
  by_cases hA : 0 ≤ n ∧ 0 ≤ sp ∧ 0 ≤ dp ∧ sp + n ≤ n1 ∧ dp + n ≤ n2
  · simp [mm_x, mm_x5, mm_z, hx, hz, hx2, hz2, hk, hA]
  · simp [mm_x, mm_x5, mm_z, hx, hz, hx2, hz2, hk, hA]
theorem wp_s0 {y : Nat} {is : List mm_I} {l s : List mm_V} {h : mm_H} {Q : mm_V → mm_H → Prop} {c : Int} {d e : Nat} {m : Nat} (hm : mm_n m = 0) (hL : (mm_ent1 []).length ≤ mm_mL m) (hs : (s.map mm_wt).sum ≤ 8) : mm_Wp y ((85, m, c, d, e) :: is) l (s) h Q = mm_Cl m [] h (fun r h3 => mm_Wp y is l (mm_push r s) h3 Q) := by
  refine (mm_wpc _ _ (by decide)).trans ?_
  have e1 : mm_cl (85, m, c, d, e) (s) h = some ([], s) := by simp [mm_cl, hm, hs, hL]
  simp only [e1]
theorem wp_s1 {y : Nat} {is : List mm_I} {l s : List mm_V} {h : mm_H} {Q : mm_V → mm_H → Prop} {c : Int} {d e : Nat} {m : Nat} {a0 : mm_V} (hm : mm_n m = 1) (hL : (mm_ent1 [a0]).length ≤ mm_mL m) (hs : (s.map mm_wt).sum ≤ 8) : mm_Wp y ((85, m, c, d, e) :: is) l (a0 :: s) h Q = mm_Cl m [a0] h (fun r h3 => mm_Wp y is l (mm_push r s) h3 Q) := by
  refine (mm_wpc _ _ (by decide)).trans ?_
  have e1 : mm_cl (85, m, c, d, e) (a0 :: s) h = some ([a0], s) := by simp [mm_cl, hm, hs, hL]
  simp only [e1]
theorem wp_v1 {y : Nat} {is : List mm_I} {l s : List mm_V} {h : mm_H} {Q : mm_V → mm_H → Prop} {c : Int} {d e : Nat} {m : Nat} {x : mm_Id} (hm : mm_n m = 1) (hL : (mm_ent1 [zR x]).length ≤ mm_mL m) (hs : (s.map mm_wt).sum ≤ 8) (ho : mm_ok x h.2.2.1 1 c = true) : mm_Wp y ((86, m, c, d, e) :: is) l (zR x :: s) h Q = mm_Cl m [zR x] h (fun r h3 => mm_Wp y is l (mm_push r s) h3 Q) := by
  refine (mm_wpc _ _ (by decide)).trans ?_
  have e1 : mm_cl (86, m, c, d, e) (zR x :: s) h = some ([zR x], s) := by simp [mm_cl, hm, hs, hL, ho]
  simp only [e1]
theorem wp_p1 {y : Nat} {is : List mm_I} {l s : List mm_V} {h : mm_H} {Q : mm_V → mm_H → Prop} {c : Int} {d e : Nat} {m : Nat} {x : mm_Id} (hm : mm_n m = 1) (hL : (mm_ent1 [zR x]).length ≤ mm_mL m) (hs : (s.map mm_wt).sum ≤ 8) (ho : mm_ok x h.2.2.1 1 c = true) : mm_Wp y ((87, m, c, d, e) :: is) l (zR x :: s) h Q = mm_Cl m [zR x] h (fun r h3 => mm_Wp y is l (mm_push r s) h3 Q) := by
  refine (mm_wpc _ _ (by decide)).trans ?_
  have e1 : mm_cl (87, m, c, d, e) (zR x :: s) h = some ([zR x], s) := by simp [mm_cl, hm, hs, hL, ho]
  simp only [e1]
theorem wp_t1 {y : Nat} {is : List mm_I} {l s : List mm_V} {h : mm_H} {Q : mm_V → mm_H → Prop} {d e : Nat} {m : Nat} {x : mm_Id} (hm : mm_n m = 1) (hL : (mm_ent1 [zR x]).length ≤ mm_mL m) (hs : (s.map mm_wt).sum ≤ 8) (ho : mm_SH x = (14, 0)) : mm_Wp y ((86, m, 20, d, e) :: is) l (zR x :: s) h Q = mm_Cl m [zR x] h (fun r h3 => mm_Wp y is l (mm_push r s) h3 Q) := by
  refine (mm_wpc _ _ (by decide)).trans ?_
  have e1 : mm_cl (86, m, 20, d, e) (zR x :: s) h = some ([zR x], s) := by simp [mm_cl, hm, hs, hL, ho]
  simp only [e1]
theorem wp_s2 {y : Nat} {is : List mm_I} {l s : List mm_V} {h : mm_H} {Q : mm_V → mm_H → Prop} {c : Int} {d e : Nat} {m : Nat} {a0 a1 : mm_V} (hm : mm_n m = 2) (hL : (mm_ent1 [a0, a1]).length ≤ mm_mL m) (hs : (s.map mm_wt).sum ≤ 8) : mm_Wp y ((85, m, c, d, e) :: is) l (a1 :: a0 :: s) h Q = mm_Cl m [a0, a1] h (fun r h3 => mm_Wp y is l (mm_push r s) h3 Q) := by
  refine (mm_wpc _ _ (by decide)).trans ?_
  have e1 : mm_cl (85, m, c, d, e) (a1 :: a0 :: s) h = some ([a0, a1], s) := by simp [mm_cl, hm, hs, hL]
  simp only [e1]
theorem wp_v2 {y : Nat} {is : List mm_I} {l s : List mm_V} {h : mm_H} {Q : mm_V → mm_H → Prop} {c : Int} {d e : Nat} {m : Nat} {x : mm_Id} {a1 : mm_V} (hm : mm_n m = 2) (hL : (mm_ent1 [zR x, a1]).length ≤ mm_mL m) (hs : (s.map mm_wt).sum ≤ 8) (ho : mm_ok x h.2.2.1 1 c = true) : mm_Wp y ((86, m, c, d, e) :: is) l (a1 :: zR x :: s) h Q = mm_Cl m [zR x, a1] h (fun r h3 => mm_Wp y is l (mm_push r s) h3 Q) := by
  refine (mm_wpc _ _ (by decide)).trans ?_
  have e1 : mm_cl (86, m, c, d, e) (a1 :: zR x :: s) h = some ([zR x, a1], s) := by simp [mm_cl, hm, hs, hL, ho]
  simp only [e1]
theorem wp_p2 {y : Nat} {is : List mm_I} {l s : List mm_V} {h : mm_H} {Q : mm_V → mm_H → Prop} {c : Int} {d e : Nat} {m : Nat} {x : mm_Id} {a1 : mm_V} (hm : mm_n m = 2) (hL : (mm_ent1 [zR x, a1]).length ≤ mm_mL m) (hs : (s.map mm_wt).sum ≤ 8) (ho : mm_ok x h.2.2.1 1 c = true) : mm_Wp y ((87, m, c, d, e) :: is) l (a1 :: zR x :: s) h Q = mm_Cl m [zR x, a1] h (fun r h3 => mm_Wp y is l (mm_push r s) h3 Q) := by
  refine (mm_wpc _ _ (by decide)).trans ?_
  have e1 : mm_cl (87, m, c, d, e) (a1 :: zR x :: s) h = some ([zR x, a1], s) := by simp [mm_cl, hm, hs, hL, ho]
  simp only [e1]
theorem wp_t2 {y : Nat} {is : List mm_I} {l s : List mm_V} {h : mm_H} {Q : mm_V → mm_H → Prop} {d e : Nat} {m : Nat} {x : mm_Id} {a1 : mm_V} (hm : mm_n m = 2) (hL : (mm_ent1 [zR x, a1]).length ≤ mm_mL m) (hs : (s.map mm_wt).sum ≤ 8) (ho : mm_SH x = (14, 0)) : mm_Wp y ((86, m, 20, d, e) :: is) l (a1 :: zR x :: s) h Q = mm_Cl m [zR x, a1] h (fun r h3 => mm_Wp y is l (mm_push r s) h3 Q) := by
  refine (mm_wpc _ _ (by decide)).trans ?_
  have e1 : mm_cl (86, m, 20, d, e) (a1 :: zR x :: s) h = some ([zR x, a1], s) := by simp [mm_cl, hm, hs, hL, ho]
  simp only [e1]
theorem wp_s3 {y : Nat} {is : List mm_I} {l s : List mm_V} {h : mm_H} {Q : mm_V → mm_H → Prop} {c : Int} {d e : Nat} {m : Nat} {a0 a1 a2 : mm_V} (hm : mm_n m = 3) (hL : (mm_ent1 [a0, a1, a2]).length ≤ mm_mL m) (hs : (s.map mm_wt).sum ≤ 8) : mm_Wp y ((85, m, c, d, e) :: is) l (a2 :: a1 :: a0 :: s) h Q = mm_Cl m [a0, a1, a2] h (fun r h3 => mm_Wp y is l (mm_push r s) h3 Q) := by
  refine (mm_wpc _ _ (by decide)).trans ?_
  have e1 : mm_cl (85, m, c, d, e) (a2 :: a1 :: a0 :: s) h = some ([a0, a1, a2], s) := by simp [mm_cl, hm, hs, hL]
  simp only [e1]
theorem wp_v3 {y : Nat} {is : List mm_I} {l s : List mm_V} {h : mm_H} {Q : mm_V → mm_H → Prop} {c : Int} {d e : Nat} {m : Nat} {x : mm_Id} {a1 a2 : mm_V} (hm : mm_n m = 3) (hL : (mm_ent1 [zR x, a1, a2]).length ≤ mm_mL m) (hs : (s.map mm_wt).sum ≤ 8) (ho : mm_ok x h.2.2.1 1 c = true) : mm_Wp y ((86, m, c, d, e) :: is) l (a2 :: a1 :: zR x :: s) h Q = mm_Cl m [zR x, a1, a2] h (fun r h3 => mm_Wp y is l (mm_push r s) h3 Q) := by
  refine (mm_wpc _ _ (by decide)).trans ?_
  have e1 : mm_cl (86, m, c, d, e) (a2 :: a1 :: zR x :: s) h = some ([zR x, a1, a2], s) := by simp [mm_cl, hm, hs, hL, ho]
  simp only [e1]
theorem wp_p3 {y : Nat} {is : List mm_I} {l s : List mm_V} {h : mm_H} {Q : mm_V → mm_H → Prop} {c : Int} {d e : Nat} {m : Nat} {x : mm_Id} {a1 a2 : mm_V} (hm : mm_n m = 3) (hL : (mm_ent1 [zR x, a1, a2]).length ≤ mm_mL m) (hs : (s.map mm_wt).sum ≤ 8) (ho : mm_ok x h.2.2.1 1 c = true) : mm_Wp y ((87, m, c, d, e) :: is) l (a2 :: a1 :: zR x :: s) h Q = mm_Cl m [zR x, a1, a2] h (fun r h3 => mm_Wp y is l (mm_push r s) h3 Q) := by
  refine (mm_wpc _ _ (by decide)).trans ?_
  have e1 : mm_cl (87, m, c, d, e) (a2 :: a1 :: zR x :: s) h = some ([zR x, a1, a2], s) := by simp [mm_cl, hm, hs, hL, ho]
  simp only [e1]
theorem wp_t3 {y : Nat} {is : List mm_I} {l s : List mm_V} {h : mm_H} {Q : mm_V → mm_H → Prop} {d e : Nat} {m : Nat} {x : mm_Id} {a1 a2 : mm_V} (hm : mm_n m = 3) (hL : (mm_ent1 [zR x, a1, a2]).length ≤ mm_mL m) (hs : (s.map mm_wt).sum ≤ 8) (ho : mm_SH x = (14, 0)) : mm_Wp y ((86, m, 20, d, e) :: is) l (a2 :: a1 :: zR x :: s) h Q = mm_Cl m [zR x, a1, a2] h (fun r h3 => mm_Wp y is l (mm_push r s) h3 Q) := by
  refine (mm_wpc _ _ (by decide)).trans ?_
  have e1 : mm_cl (86, m, 20, d, e) (a2 :: a1 :: zR x :: s) h = some ([zR x, a1, a2], s) := by simp [mm_cl, hm, hs, hL, ho]
  simp only [e1]
theorem wp_s4 {y : Nat} {is : List mm_I} {l s : List mm_V} {h : mm_H} {Q : mm_V → mm_H → Prop} {c : Int} {d e : Nat} {m : Nat} {a0 a1 a2 a3 : mm_V} (hm : mm_n m = 4) (hL : (mm_ent1 [a0, a1, a2, a3]).length ≤ mm_mL m) (hs : (s.map mm_wt).sum ≤ 8) : mm_Wp y ((85, m, c, d, e) :: is) l (a3 :: a2 :: a1 :: a0 :: s) h Q = mm_Cl m [a0, a1, a2, a3] h (fun r h3 => mm_Wp y is l (mm_push r s) h3 Q) := by
  refine (mm_wpc _ _ (by decide)).trans ?_
  have e1 : mm_cl (85, m, c, d, e) (a3 :: a2 :: a1 :: a0 :: s) h = some ([a0, a1, a2, a3], s) := by simp [mm_cl, hm, hs, hL]
  simp only [e1]
theorem wp_v4 {y : Nat} {is : List mm_I} {l s : List mm_V} {h : mm_H} {Q : mm_V → mm_H → Prop} {c : Int} {d e : Nat} {m : Nat} {x : mm_Id} {a1 a2 a3 : mm_V} (hm : mm_n m = 4) (hL : (mm_ent1 [zR x, a1, a2, a3]).length ≤ mm_mL m) (hs : (s.map mm_wt).sum ≤ 8) (ho : mm_ok x h.2.2.1 1 c = true) : mm_Wp y ((86, m, c, d, e) :: is) l (a3 :: a2 :: a1 :: zR x :: s) h Q = mm_Cl m [zR x, a1, a2, a3] h (fun r h3 => mm_Wp y is l (mm_push r s) h3 Q) := by
  refine (mm_wpc _ _ (by decide)).trans ?_
  have e1 : mm_cl (86, m, c, d, e) (a3 :: a2 :: a1 :: zR x :: s) h = some ([zR x, a1, a2, a3], s) := by simp [mm_cl, hm, hs, hL, ho]
  simp only [e1]
theorem wp_p4 {y : Nat} {is : List mm_I} {l s : List mm_V} {h : mm_H} {Q : mm_V → mm_H → Prop} {c : Int} {d e : Nat} {m : Nat} {x : mm_Id} {a1 a2 a3 : mm_V} (hm : mm_n m = 4) (hL : (mm_ent1 [zR x, a1, a2, a3]).length ≤ mm_mL m) (hs : (s.map mm_wt).sum ≤ 8) (ho : mm_ok x h.2.2.1 1 c = true) : mm_Wp y ((87, m, c, d, e) :: is) l (a3 :: a2 :: a1 :: zR x :: s) h Q = mm_Cl m [zR x, a1, a2, a3] h (fun r h3 => mm_Wp y is l (mm_push r s) h3 Q) := by
  refine (mm_wpc _ _ (by decide)).trans ?_
  have e1 : mm_cl (87, m, c, d, e) (a3 :: a2 :: a1 :: zR x :: s) h = some ([zR x, a1, a2, a3], s) := by simp [mm_cl, hm, hs, hL, ho]
  simp only [e1]
theorem wp_t4 {y : Nat} {is : List mm_I} {l s : List mm_V} {h : mm_H} {Q : mm_V → mm_H → Prop} {d e : Nat} {m : Nat} {x : mm_Id} {a1 a2 a3 : mm_V} (hm : mm_n m = 4) (hL : (mm_ent1 [zR x, a1, a2, a3]).length ≤ mm_mL m) (hs : (s.map mm_wt).sum ≤ 8) (ho : mm_SH x = (14, 0)) : mm_Wp y ((86, m, 20, d, e) :: is) l (a3 :: a2 :: a1 :: zR x :: s) h Q = mm_Cl m [zR x, a1, a2, a3] h (fun r h3 => mm_Wp y is l (mm_push r s) h3 Q) := by
  refine (mm_wpc _ _ (by decide)).trans ?_
  have e1 : mm_cl (86, m, 20, d, e) (a3 :: a2 :: a1 :: zR x :: s) h = some ([zR x, a1, a2, a3], s) := by simp [mm_cl, hm, hs, hL, ho]
  simp only [e1]
theorem wp_s5 {y : Nat} {is : List mm_I} {l s : List mm_V} {h : mm_H} {Q : mm_V → mm_H → Prop} {c : Int} {d e : Nat} {m : Nat} {a0 a1 a2 a3 a4 : mm_V} (hm : mm_n m = 5) (hL : (mm_ent1 [a0, a1, a2, a3, a4]).length ≤ mm_mL m) (hs : (s.map mm_wt).sum ≤ 8) : mm_Wp y ((85, m, c, d, e) :: is) l (a4 :: a3 :: a2 :: a1 :: a0 :: s) h Q = mm_Cl m [a0, a1, a2, a3, a4] h (fun r h3 => mm_Wp y is l (mm_push r s) h3 Q) := by
  refine (mm_wpc _ _ (by decide)).trans ?_
  have e1 : mm_cl (85, m, c, d, e) (a4 :: a3 :: a2 :: a1 :: a0 :: s) h = some ([a0, a1, a2, a3, a4], s) := by simp [mm_cl, hm, hs, hL]
  simp only [e1]
theorem wp_v5 {y : Nat} {is : List mm_I} {l s : List mm_V} {h : mm_H} {Q : mm_V → mm_H → Prop} {c : Int} {d e : Nat} {m : Nat} {x : mm_Id} {a1 a2 a3 a4 : mm_V} (hm : mm_n m = 5) (hL : (mm_ent1 [zR x, a1, a2, a3, a4]).length ≤ mm_mL m) (hs : (s.map mm_wt).sum ≤ 8) (ho : mm_ok x h.2.2.1 1 c = true) : mm_Wp y ((86, m, c, d, e) :: is) l (a4 :: a3 :: a2 :: a1 :: zR x :: s) h Q = mm_Cl m [zR x, a1, a2, a3, a4] h (fun r h3 => mm_Wp y is l (mm_push r s) h3 Q) := by
  refine (mm_wpc _ _ (by decide)).trans ?_
  have e1 : mm_cl (86, m, c, d, e) (a4 :: a3 :: a2 :: a1 :: zR x :: s) h = some ([zR x, a1, a2, a3, a4], s) := by simp [mm_cl, hm, hs, hL, ho]
  simp only [e1]
theorem wp_p5 {y : Nat} {is : List mm_I} {l s : List mm_V} {h : mm_H} {Q : mm_V → mm_H → Prop} {c : Int} {d e : Nat} {m : Nat} {x : mm_Id} {a1 a2 a3 a4 : mm_V} (hm : mm_n m = 5) (hL : (mm_ent1 [zR x, a1, a2, a3, a4]).length ≤ mm_mL m) (hs : (s.map mm_wt).sum ≤ 8) (ho : mm_ok x h.2.2.1 1 c = true) : mm_Wp y ((87, m, c, d, e) :: is) l (a4 :: a3 :: a2 :: a1 :: zR x :: s) h Q = mm_Cl m [zR x, a1, a2, a3, a4] h (fun r h3 => mm_Wp y is l (mm_push r s) h3 Q) := by
  refine (mm_wpc _ _ (by decide)).trans ?_
  have e1 : mm_cl (87, m, c, d, e) (a4 :: a3 :: a2 :: a1 :: zR x :: s) h = some ([zR x, a1, a2, a3, a4], s) := by simp [mm_cl, hm, hs, hL, ho]
  simp only [e1]
theorem wp_t5 {y : Nat} {is : List mm_I} {l s : List mm_V} {h : mm_H} {Q : mm_V → mm_H → Prop} {d e : Nat} {m : Nat} {x : mm_Id} {a1 a2 a3 a4 : mm_V} (hm : mm_n m = 5) (hL : (mm_ent1 [zR x, a1, a2, a3, a4]).length ≤ mm_mL m) (hs : (s.map mm_wt).sum ≤ 8) (ho : mm_SH x = (14, 0)) : mm_Wp y ((86, m, 20, d, e) :: is) l (a4 :: a3 :: a2 :: a1 :: zR x :: s) h Q = mm_Cl m [zR x, a1, a2, a3, a4] h (fun r h3 => mm_Wp y is l (mm_push r s) h3 Q) := by
  refine (mm_wpc _ _ (by decide)).trans ?_
  have e1 : mm_cl (86, m, 20, d, e) (a4 :: a3 :: a2 :: a1 :: zR x :: s) h = some ([zR x, a1, a2, a3, a4], s) := by simp [mm_cl, hm, hs, hL, ho]
  simp only [e1]
theorem wp_s6 {y : Nat} {is : List mm_I} {l s : List mm_V} {h : mm_H} {Q : mm_V → mm_H → Prop} {c : Int} {d e : Nat} {m : Nat} {a0 a1 a2 a3 a4 a5 : mm_V} (hm : mm_n m = 6) (hL : (mm_ent1 [a0, a1, a2, a3, a4, a5]).length ≤ mm_mL m) (hs : (s.map mm_wt).sum ≤ 8) : mm_Wp y ((85, m, c, d, e) :: is) l (a5 :: a4 :: a3 :: a2 :: a1 :: a0 :: s) h Q = mm_Cl m [a0, a1, a2, a3, a4, a5] h (fun r h3 => mm_Wp y is l (mm_push r s) h3 Q) := by
  refine (mm_wpc _ _ (by decide)).trans ?_
  have e1 : mm_cl (85, m, c, d, e) (a5 :: a4 :: a3 :: a2 :: a1 :: a0 :: s) h = some ([a0, a1, a2, a3, a4, a5], s) := by simp [mm_cl, hm, hs, hL]
  simp only [e1]
theorem wp_v6 {y : Nat} {is : List mm_I} {l s : List mm_V} {h : mm_H} {Q : mm_V → mm_H → Prop} {c : Int} {d e : Nat} {m : Nat} {x : mm_Id} {a1 a2 a3 a4 a5 : mm_V} (hm : mm_n m = 6) (hL : (mm_ent1 [zR x, a1, a2, a3, a4, a5]).length ≤ mm_mL m) (hs : (s.map mm_wt).sum ≤ 8) (ho : mm_ok x h.2.2.1 1 c = true) : mm_Wp y ((86, m, c, d, e) :: is) l (a5 :: a4 :: a3 :: a2 :: a1 :: zR x :: s) h Q = mm_Cl m [zR x, a1, a2, a3, a4, a5] h (fun r h3 => mm_Wp y is l (mm_push r s) h3 Q) := by
  refine (mm_wpc _ _ (by decide)).trans ?_
  have e1 : mm_cl (86, m, c, d, e) (a5 :: a4 :: a3 :: a2 :: a1 :: zR x :: s) h = some ([zR x, a1, a2, a3, a4, a5], s) := by simp [mm_cl, hm, hs, hL, ho]
  simp only [e1]
theorem wp_p6 {y : Nat} {is : List mm_I} {l s : List mm_V} {h : mm_H} {Q : mm_V → mm_H → Prop} {c : Int} {d e : Nat} {m : Nat} {x : mm_Id} {a1 a2 a3 a4 a5 : mm_V} (hm : mm_n m = 6) (hL : (mm_ent1 [zR x, a1, a2, a3, a4, a5]).length ≤ mm_mL m) (hs : (s.map mm_wt).sum ≤ 8) (ho : mm_ok x h.2.2.1 1 c = true) : mm_Wp y ((87, m, c, d, e) :: is) l (a5 :: a4 :: a3 :: a2 :: a1 :: zR x :: s) h Q = mm_Cl m [zR x, a1, a2, a3, a4, a5] h (fun r h3 => mm_Wp y is l (mm_push r s) h3 Q) := by
  refine (mm_wpc _ _ (by decide)).trans ?_
  have e1 : mm_cl (87, m, c, d, e) (a5 :: a4 :: a3 :: a2 :: a1 :: zR x :: s) h = some ([zR x, a1, a2, a3, a4, a5], s) := by simp [mm_cl, hm, hs, hL, ho]
  simp only [e1]
theorem wp_t6 {y : Nat} {is : List mm_I} {l s : List mm_V} {h : mm_H} {Q : mm_V → mm_H → Prop} {d e : Nat} {m : Nat} {x : mm_Id} {a1 a2 a3 a4 a5 : mm_V} (hm : mm_n m = 6) (hL : (mm_ent1 [zR x, a1, a2, a3, a4, a5]).length ≤ mm_mL m) (hs : (s.map mm_wt).sum ≤ 8) (ho : mm_SH x = (14, 0)) : mm_Wp y ((86, m, 20, d, e) :: is) l (a5 :: a4 :: a3 :: a2 :: a1 :: zR x :: s) h Q = mm_Cl m [zR x, a1, a2, a3, a4, a5] h (fun r h3 => mm_Wp y is l (mm_push r s) h3 Q) := by
  refine (mm_wpc _ _ (by decide)).trans ?_
  have e1 : mm_cl (86, m, 20, d, e) (a5 :: a4 :: a3 :: a2 :: a1 :: zR x :: s) h = some ([zR x, a1, a2, a3, a4, a5], s) := by simp [mm_cl, hm, hs, hL, ho]
  simp only [e1]

