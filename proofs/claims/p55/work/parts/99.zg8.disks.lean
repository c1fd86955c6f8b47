/-! the second pool's disks -/
section
variable {y : Nat} {is : List mm_I} {l s : List mm_V} {h : mm_H} {Q : mm_V → mm_H → Prop} {a : Nat} {c : Int} {d e : Nat}
theorem wk_60 {x : mm_Id} (ho : mm_ok x h.2.2.1 1 c = true) (hc : c < 10) : mm_Wp y ((60, a, c, d, e) :: is) l (zR x :: s) h Q = mm_Wp y is l (zI (h.1 x a) :: s) h Q := by
  refine (mm_wpx _ _ (by decide) (by decide) (by decide)).trans ?_
  have h20 : ¬ c = 20 := by omega
  have h21 : ¬ c = 21 := by omega
  simp [mm_x, mm_x3, h20, h21, ho]
theorem wk_62 {x v : mm_Id} (hv : h.2.1 x a = v) (ho : mm_ok x h.2.2.1 1 c = true) (hc : c < 10) : mm_Wp y ((62, a, c, d, e) :: is) l (zR x :: s) h Q = mm_Wp y is l (zR v :: s) h Q := by
  refine (mm_wpx _ _ (by decide) (by decide) (by decide)).trans ?_
  have h20 : ¬ c = 20 := by omega
  have h21 : ¬ c = 21 := by omega
  have h11 : ¬ c = 11 := by omega
  subst hv
  simp [mm_x, mm_x3, h20, h21, h11, ho]
theorem wk_63 {x : mm_Id} {v : Int} (ho : mm_ok x h.2.2.1 1 c = true) : mm_Wp y ((63, a, c, d, e) :: is) l (zI v :: zR x :: s) h Q = mm_Wp y is l s (mm_up h.1 x a v, h.2) Q := by
  refine (mm_wpx _ _ (by decide) (by decide) (by decide)).trans ?_
  simp [mm_x, mm_x3, ho]
theorem wk_64 {x : mm_Id} {v : Int} (ho : mm_ok x h.2.2.1 1 c = true) (hv : v = 0 ∨ v = 1) : mm_Wp y ((64, a, c, d, e) :: is) l (zI v :: zR x :: s) h Q = mm_Wp y is l s (mm_up h.1 x a v, h.2) Q := by
  refine (mm_wpx _ _ (by decide) (by decide) (by decide)).trans ?_
  simp [mm_x, mm_x3, ho, hv]
end
theorem bq_87_0 : mm_blk 87 0 = bk_87_0 := by decide +kernel
theorem bq_42_0 : mm_blk 42 0 = bk_42_0 := by decide +kernel
theorem bq_42_1 : mm_blk 42 1 = bk_42_1 := by decide +kernel
theorem bq_42_3 : mm_blk 42 3 = bk_42_3 := by decide +kernel
theorem bq_42_4 : mm_blk 42 4 = bk_42_4 := by decide +kernel
theorem bq_42_5 : mm_blk 42 5 = bk_42_5 := by decide +kernel
theorem bq_43_0 : mm_blk 43 0 = bk_43_0 := by decide +kernel
theorem bq_43_1 : mm_blk 43 1 = bk_43_1 := by decide +kernel
theorem bq_43_2 : mm_blk 43 2 = bk_43_2 := by decide +kernel
theorem bq_43_3 : mm_blk 43 3 = bk_43_3 := by decide +kernel
theorem bq_44_0 : mm_blk 44 0 = bk_44_0 := by decide +kernel
theorem bq_44_1 : mm_blk 44 1 = bk_44_1 := by decide +kernel
theorem bq_44_2 : mm_blk 44 2 = bk_44_2 := by decide +kernel
theorem bq_44_3 : mm_blk 44 3 = bk_44_3 := by decide +kernel
theorem bq_45_0 : mm_blk 45 0 = bk_45_0 := by decide +kernel
theorem bq_45_1 : mm_blk 45 1 = bk_45_1 := by decide +kernel
theorem bq_45_2 : mm_blk 45 2 = bk_45_2 := by decide +kernel
theorem bq_45_3 : mm_blk 45 3 = bk_45_3 := by decide +kernel
theorem bq_46_0 : mm_blk 46 0 = bk_46_0 := by decide +kernel
theorem bq_46_2 : mm_blk 46 2 = bk_46_2 := by decide +kernel
section
variable {k : mm_H} {Q : mm_V → mm_H → Prop} {d bad lost : Int}
theorem tt_hz (hx : k.2.2.1 = 10550) : mm_ok (14, 0, 100) k.2.2.1 1 2 = true := by rw [hx]; decide +kernel
theorem tt_84 (hx : k.2.2.1 = 10550) (h5 : k.1 (14, 0, 100) ((0 : Nat) : Int) = 5) (hd : 1 ≤ d ∧ d ≤ 5) (K : Q (zI 1) k) : mm_Cl 84 [zR (14, 0, 100), zI d] k Q := by
  show mm_Wp 84 (mm_blk 84 0) [zR (14, 0, 100), zI d] [] k Q
  rw [bq_84_0]
  unfold bk_84_0
  rw [wp_3_1, wp_1, wp_48, if_neg (by omega), wp_3_1, wp_5_0, wk_60 (tt_hz hx) (by decide), h5, wp_50, if_neg (by omega), wp_1, wp_56, bq_84_2]
  unfold bk_84_2
  rw [wp_94k (Or.inr rfl)]
  exact K
theorem tt_85 {v : Int} (hx : k.2.2.1 = 10550) (hv : v = 0 ∨ v = 1) (e1 : k.1 (14, 0, 100) ((1 : Nat) : Int) = bad) (e2 : k.1 (14, 0, 100) ((2 : Nat) : Int) = lost)
    (K1 : lost = 0 → (bad = 0 ∨ bad = d) → Q (zI 1) (mm_up (mm_up k.1 (14, 0, 100) 1 d) (14, 0, 100) 2 v, k.2)) (K0 : ¬ (lost = 0 ∧ (bad = 0 ∨ bad = d)) → Q (zI 0) k) : mm_Cl 85 [zR (14, 0, 100), zI d, zI v] k Q := by
  show mm_Wp 85 (mm_blk 85 0) [zR (14, 0, 100), zI d, zI v] [] k Q
  have B1 : ¬ (lost = 0 ∧ (bad = 0 ∨ bad = d)) → mm_Wp 85 (mm_blk 85 1) [zR (14, 0, 100), zI d, zI v] [] k Q := fun q => by
    rw [bq_85_1]
    unfold bk_85_1
    rw [wp_1, wp_94k (Or.inl rfl)]
    exact K0 q
  have B2 : lost = 0 → (bad = 0 ∨ bad = d) → mm_Wp 85 (mm_blk 85 2) [zR (14, 0, 100), zI d, zI v] [] k Q := fun q1 q2 => by
    rw [bq_85_2]
    unfold bk_85_2
    rw [wp_5_0, wp_3_1, wk_63 (tt_hz hx), wp_5_0, wp_3_2, wk_64 (h := (mm_up k.1 (14, 0, 100) ((1 : Nat) : Int) d, k.2)) (tt_hz hx) hv, wp_1, wp_94k (Or.inr rfl)]
    exact K1 q1 q2
  rw [bq_85_0]
  unfold bk_85_0
  rw [wp_5_0, wk_60 (tt_hz hx) (by decide), e2, wp_41]
  by_cases c : lost = 0
  · rw [if_pos c, wp_5_0, wk_60 (tt_hz hx) (by decide), e1, wp_40]
    by_cases f : bad = 0
    · rw [if_pos f]; exact B2 c (Or.inl f)
    · rw [if_neg f, wp_5_0, wk_60 (tt_hz hx) (by decide), e1, wp_3_1, wp_46]
      by_cases f2 : bad = d
      · rw [if_pos f2]; exact B2 c (Or.inr f2)
      · rw [if_neg f2, wp_0]; exact B1 (fun q => q.2.elim f f2)
  · rw [if_neg c]; exact B1 (fun q => c q.1)
theorem tt_86 (hx : k.2.2.1 = 10550) (e1 : k.1 (14, 0, 100) ((1 : Nat) : Int) = bad) (e2 : k.1 (14, 0, 100) ((2 : Nat) : Int) = lost) (hl : lost = 0 ∨ lost = 1)
    (K1 : lost = 1 → bad = d → Q (zI 1) (mm_up k.1 (14, 0, 100) 2 0, k.2)) (K0 : ¬ (lost = 1 ∧ bad = d) → Q (zI 0) (mm_up k.1 (14, 0, 100) 2 lost, k.2)) : mm_Cl 86 [zR (14, 0, 100), zI d] k Q := by
  show mm_Wp 86 (mm_blk 86 0) [zR (14, 0, 100), zI d, zU] [] k Q
  have B4 : ∀ w v : Int, (w = 0 ∨ w = 1) → (v = 0 ∨ v = 1) → Q (zI w) (mm_up k.1 (14, 0, 100) 2 v, k.2) → mm_Wp 86 (mm_blk 86 4) [zR (14, 0, 100), zI d, zI w] [zI v, zR (14, 0, 100)] k Q := fun w v hw hv q => by
    rw [bq_86_4]
    unfold bk_86_4
    rw [wk_64 (tt_hz hx) hv, wp_3_2, wp_94k hw]
    exact q
  have B2 : ∀ w : Int, (w = 0 ∨ w = 1) → Q (zI w) (mm_up k.1 (14, 0, 100) 2 (if lost = 0 then 0 else if w = 0 then 1 else 0), k.2) → mm_Wp 86 (mm_blk 86 2) [zR (14, 0, 100), zI d, zU] [zI w] k Q := fun w hw q => by
    rw [bq_86_2]
    unfold bk_86_2
    rw [wp_6 (l2 := [zR (14, 0, 100), zI d, zI w]) rfl, wp_5_0, wp_5_0, wk_60 (tt_hz hx) (by decide), e2, wp_40]
    have B3 : Q (zI w) (mm_up k.1 (14, 0, 100) 2 0, k.2) → mm_Wp 86 (mm_blk 86 3) [zR (14, 0, 100), zI d, zI w] [zR (14, 0, 100)] k Q := fun q => by
      rw [bq_86_3]
      unfold bk_86_3
      rw [wp_1, wp_0]
      exact B4 w 0 hw (Or.inl rfl) q
    by_cases c : lost = 0
    · rw [if_pos c] at q ⊢
      exact B3 q
    · rw [if_neg c] at q ⊢
      rw [wp_3_2, wp_41]
      by_cases f : w = 0
      · rw [if_pos f] at q ⊢
        rw [wp_1, wp_56]
        exact B4 w 1 hw (Or.inr rfl) q
      · rw [if_neg f] at q ⊢
        exact B3 q
  have B1 : ¬ (lost = 1 ∧ bad = d) → mm_Wp 86 (mm_blk 86 1) [zR (14, 0, 100), zI d, zU] [] k Q := fun q => by
    rw [bq_86_1]
    unfold bk_86_1
    rw [wp_1, wp_0]
    refine B2 0 (Or.inl rfl) ?_
    have e : (if lost = 0 then (0 : Int) else if (0 : Int) = 0 then 1 else 0) = lost := by
      rcases hl with w | w <;> (rw [w]; decide)
    rw [e]
    exact K0 q
  rw [bq_86_0]
  unfold bk_86_0
  rw [wp_5_0, wk_60 (tt_hz hx) (by decide), e2, wp_40]
  by_cases c : lost = 0
  · rw [if_pos c]; exact B1 (fun q => by omega)
  · rw [if_neg c, wp_5_0, wk_60 (tt_hz hx) (by decide), e1, wp_3_1, wp_47]
    by_cases f : bad = d
    · rw [if_pos f, wp_1, wp_56]
      refine B2 1 (Or.inr rfl) ?_
      rw [if_neg c, if_neg (by decide)]
      exact K1 (by omega) f
    · rw [if_neg f]; exact B1 (fun q => f q.2)
theorem tt_87 (hx : k.2.2.1 = 10550) (e1 : k.1 (14, 0, 100) ((1 : Nat) : Int) = bad) (K : Q (zI bad) (mm_up k.1 (14, 0, 100) 1 0, k.2)) : mm_Cl 87 [zR (14, 0, 100)] k Q := by
  show mm_Wp 87 (mm_blk 87 0) [zR (14, 0, 100), zU] [] k Q
  rw [bq_87_0]
  unfold bk_87_0
  rw [wp_5_0, wk_60 (tt_hz hx) (by decide), e1, wp_6 (l2 := [zR (14, 0, 100), zI bad]) rfl, wp_5_0, wp_1, wk_63 (tt_hz hx), wp_3_1, wp_90]
  exact K
theorem tt_88 (hx : k.2.2.1 = 10550) (e1 : k.1 (14, 0, 100) ((1 : Nat) : Int) = bad) (e2 : k.1 (14, 0, 100) ((2 : Nat) : Int) = lost) (K : Q (zI (if d = bad then (if lost = 0 then 1 else 2) else 0)) k) : mm_Cl 88 [zR (14, 0, 100), zI d] k Q := by
  show mm_Wp 88 (mm_blk 88 0) [zR (14, 0, 100), zI d] [] k Q
  rw [bq_88_0]
  unfold bk_88_0
  rw [wp_3_1, wp_5_0, wk_60 (tt_hz hx) (by decide), e1, wp_46]
  by_cases c : d = bad
  · rw [if_pos c] at K ⊢
    rw [bq_88_1]
    unfold bk_88_1
    rw [wp_5_0, wk_60 (tt_hz hx) (by decide), e2, wp_40]
    by_cases f : lost = 0
    · rw [if_pos f] at K ⊢
      rw [bq_88_2]
      unfold bk_88_2
      rw [wp_1, wp_0, bq_88_3]
      unfold bk_88_3
      rw [wp_90]
      exact K
    · rw [if_neg f] at K ⊢
      rw [wp_1, wp_56, bq_88_3]
      unfold bk_88_3
      rw [wp_90]
      exact K
  · rw [if_neg c] at K ⊢
    rw [wp_1, wp_56, bq_88_3]
    unfold bk_88_3
    rw [wp_90]
    exact K
/-- what the second pool's disks are -/
def tt_Q (bad lost : Int) (k : mm_H) : Prop := (k.1 (14, 0, 100) 0 = 5 ∧ k.1 (14, 0, 100) 1 = bad ∧ k.1 (14, 0, 100) 2 = lost) ∧ (0 ≤ bad ∧ bad ≤ 5) ∧ (lost = 0 ∨ lost = 1)
/-- only they are changed -/
def tt_U (k k2 : mm_H) : Prop := k2.2 = k.2 ∧ ∀ z, z ≠ (14, 0, 100) → k2.1 z = k.1 z
theorem tt_JU {b : Int} {g : mm_Id → Int → Int} {dh : Int → Int} {k2 : mm_H} (J : tt_J b g dh k) (U : tt_U k k2) : tt_J b g dh k2 := by
  obtain ⟨c1, A0, A1, hx⟩ := J
  have go : ∀ c, tt_A c g dh k → tt_A c g dh k2 := fun c A x hS h0 => by
    refine ⟨fun h14 j => ?_, fun j => ?_⟩
    · rw [U.2 _ (fun w => h14 (by rw [← tt_r1 c x, w]))]
      exact (A x hS h0).1 h14 j
    · rw [U.1]
      exact (A x hS h0).2 j
  exact ⟨c1, go 0 A0, go 100 A1, by rw [U.1]; exact hx⟩
theorem tt_Jr {b : Int} {g : mm_Id → Int → Int} {dh : Int → Int} (J : tt_J b g dh k) : k.2.1 (1, 0, 100) ((7 : Nat) : Int) = (14, 0, 100) := (J.2.2.1 (1, 0, 0) (by decide) (by decide)).2 7
theorem tt_QZ {k2 : mm_H} (q : tt_Q bad lost k) (Z : tt_Z k k2) : tt_Q bad lost k2 := by
  unfold tt_Q at q ⊢
  rw [Z.2.1]
  exact q
variable {b : Int} {g : mm_Id → Int → Int} {dh : Int → Int}
theorem tt_42 {s n : Int} (J : tt_J b g dh k) (q : tt_Q bad lost k) (hd : 1 ≤ d ∧ d ≤ 5) (hn : 1 ≤ n ∧ n ≤ 2000) (K1 : lost = 0 → (bad = 0 ∨ bad = d) → ∀ k2, tt_U k k2 → tt_Q d 0 k2 → Q (zI 1) k2) (K0 : ¬ (lost = 0 ∧ (bad = 0 ∨ bad = d)) → Q (zI (-3)) k) :
    mm_Cl 42 [zR (1, 0, 100), zI d, zI s, zI n] k Q := by
  have hx := J.2.2.2
  show mm_Wp 42 (mm_blk 42 0) [zR (1, 0, 100), zI d, zI s, zI n] [] k Q
  rw [bq_42_0]
  unfold bk_42_0
  rw [wp_5_0, wk_62 (tt_Jr J) (tt_h1 hx) (by decide), wp_3_1, wp_v2 mm_n_84 (mm_leq mm_m_84 (mm_lb rfl)) (mm_lb rfl) (tt_hz hx)]
  refine tt_84 hx q.1.1 hd ?_
  show mm_Wp 42 _ _ _ _ _
  rw [mm_pI, wp_41, if_neg (by decide), bq_42_1]
  unfold bk_42_1
  rw [wp_3_3, wp_1, wp_48, if_neg (by omega), wp_3_3, wp_1, wp_51, if_neg (by omega), bq_42_3]
  unfold bk_42_3
  rw [wp_5_0, wk_62 (tt_Jr J) (tt_h1 hx) (by decide), wp_3_1, wp_1, wp_v3 mm_n_85 (mm_leq mm_m_85 (mm_lb rfl)) (mm_lb rfl) (tt_hz hx)]
  refine tt_85 hx (Or.inl rfl) q.1.2.1 q.1.2.2 (fun q1 q2 => ?_) (fun q0 => ?_)
  · show mm_Wp 42 _ _ _ _ _
    rw [mm_pI, wp_40, if_neg (by decide), wp_1, wp_56, bq_42_5]
    unfold bk_42_5
    rw [wp_90]
    refine K1 q1 q2 _ ⟨rfl, fun z hz => ?_⟩ ⟨⟨?_, ?_, ?_⟩, ⟨by omega, by omega⟩, Or.inl rfl⟩
    · funext j
      show mm_up (mm_up k.1 (14, 0, 100) 1 d) (14, 0, 100) 2 0 z j = k.1 z j
      rw [mm_upne' (fun w => hz w.1), mm_upne' (fun w => hz w.1)]
    · show mm_up (mm_up k.1 (14, 0, 100) 1 d) (14, 0, 100) 2 0 (14, 0, 100) 0 = 5
      rw [mm_upj (by decide), mm_upj (by decide)]
      exact q.1.1
    · show mm_up (mm_up k.1 (14, 0, 100) 1 d) (14, 0, 100) 2 0 (14, 0, 100) 1 = d
      rw [mm_upj (by decide), mm_ups]
    · show mm_up (mm_up k.1 (14, 0, 100) 1 d) (14, 0, 100) 2 0 (14, 0, 100) 2 = 0
      rw [mm_ups]
  · show mm_Wp 42 _ _ _ _ _
    rw [mm_pI, wp_40, if_pos rfl, bq_42_4]
    unfold bk_42_4
    rw [wp_1, wp_0, bq_42_5]
    unfold bk_42_5
    rw [wp_90]
    exact K0 q0
theorem tt_43 (J : tt_J b g dh k) (q : tt_Q bad lost k) (hd : 1 ≤ d ∧ d ≤ 5) (K1 : lost = 0 → (bad = 0 ∨ bad = d) → ∀ k2, tt_U k k2 → tt_Q d 1 k2 → Q (zI 1) k2) (K0 : ¬ (lost = 0 ∧ (bad = 0 ∨ bad = d)) → Q (zI (-3)) k) :
    mm_Cl 43 [zR (1, 0, 100), zI d] k Q := by
  have hx := J.2.2.2
  show mm_Wp 43 (mm_blk 43 0) [zR (1, 0, 100), zI d] [] k Q
  rw [bq_43_0]
  unfold bk_43_0
  rw [wp_5_0, wk_62 (tt_Jr J) (tt_h1 hx) (by decide), wp_3_1, wp_v2 mm_n_84 (mm_leq mm_m_84 (mm_lb rfl)) (mm_lb rfl) (tt_hz hx)]
  refine tt_84 hx q.1.1 hd ?_
  show mm_Wp 43 _ _ _ _ _
  rw [mm_pI, wp_41, if_neg (by decide), bq_43_1]
  unfold bk_43_1
  rw [wp_5_0, wk_62 (tt_Jr J) (tt_h1 hx) (by decide), wp_3_1, wp_1, wp_v3 mm_n_85 (mm_leq mm_m_85 (mm_lb rfl)) (mm_lb rfl) (tt_hz hx)]
  refine tt_85 hx (Or.inr rfl) q.1.2.1 q.1.2.2 (fun q1 q2 => ?_) (fun q0 => ?_)
  · show mm_Wp 43 _ _ _ _ _
    rw [mm_pI, wp_40, if_neg (by decide), wp_1, wp_56, bq_43_3]
    unfold bk_43_3
    rw [wp_90]
    refine K1 q1 q2 _ ⟨rfl, fun z hz => ?_⟩ ⟨⟨?_, ?_, ?_⟩, ⟨by omega, by omega⟩, Or.inr rfl⟩
    · funext j
      show mm_up (mm_up k.1 (14, 0, 100) 1 d) (14, 0, 100) 2 1 z j = k.1 z j
      rw [mm_upne' (fun w => hz w.1), mm_upne' (fun w => hz w.1)]
    · show mm_up (mm_up k.1 (14, 0, 100) 1 d) (14, 0, 100) 2 1 (14, 0, 100) 0 = 5
      rw [mm_upj (by decide), mm_upj (by decide)]
      exact q.1.1
    · show mm_up (mm_up k.1 (14, 0, 100) 1 d) (14, 0, 100) 2 1 (14, 0, 100) 1 = d
      rw [mm_upj (by decide), mm_ups]
    · show mm_up (mm_up k.1 (14, 0, 100) 1 d) (14, 0, 100) 2 1 (14, 0, 100) 2 = 1
      rw [mm_ups]
  · show mm_Wp 43 _ _ _ _ _
    rw [mm_pI, wp_40, if_pos rfl, bq_43_2]
    unfold bk_43_2
    rw [wp_1, wp_0, bq_43_3]
    unfold bk_43_3
    rw [wp_90]
    exact K0 q0
theorem tt_44 {s : Int} (J : tt_J b g dh k) (q : tt_Q bad lost k) (hd : 1 ≤ d ∧ d ≤ 5) (K1 : lost = 1 → bad = d → ∀ k2, tt_U k k2 → tt_Q bad 0 k2 → Q (zI 1) k2) (K0 : ¬ (lost = 1 ∧ bad = d) → ∀ k2, tt_U k k2 → tt_Q bad lost k2 → Q (zI (-3)) k2) :
    mm_Cl 44 [zR (1, 0, 100), zI d, zI s] k Q := by
  have hx := J.2.2.2
  have hU : ∀ v, tt_U k (mm_up k.1 (14, 0, 100) 2 v, k.2) := fun v => ⟨rfl, fun z hz => by
    funext j
    show mm_up k.1 (14, 0, 100) 2 v z j = k.1 z j
    rw [mm_upne' (fun w => hz w.1)]⟩
  have hQ : ∀ v, (v = 0 ∨ v = 1) → tt_Q bad v (mm_up k.1 (14, 0, 100) 2 v, k.2) := fun v hv => ⟨⟨by
    show mm_up k.1 (14, 0, 100) 2 v (14, 0, 100) 0 = 5
    rw [mm_upj (by decide)]
    exact q.1.1, by
    show mm_up k.1 (14, 0, 100) 2 v (14, 0, 100) 1 = bad
    rw [mm_upj (by decide)]
    exact q.1.2.1, by
    show mm_up k.1 (14, 0, 100) 2 v (14, 0, 100) 2 = v
    rw [mm_ups]⟩, q.2.1, hv⟩
  show mm_Wp 44 (mm_blk 44 0) [zR (1, 0, 100), zI d, zI s] [] k Q
  rw [bq_44_0]
  unfold bk_44_0
  rw [wp_5_0, wk_62 (tt_Jr J) (tt_h1 hx) (by decide), wp_3_1, wp_v2 mm_n_84 (mm_leq mm_m_84 (mm_lb rfl)) (mm_lb rfl) (tt_hz hx)]
  refine tt_84 hx q.1.1 hd ?_
  show mm_Wp 44 _ _ _ _ _
  rw [mm_pI, wp_41, if_neg (by decide), bq_44_1]
  unfold bk_44_1
  rw [wp_5_0, wk_62 (tt_Jr J) (tt_h1 hx) (by decide), wp_3_1, wp_v2 mm_n_86 (mm_leq mm_m_86 (mm_lb rfl)) (mm_lb rfl) (tt_hz hx)]
  refine tt_86 hx q.1.2.1 q.1.2.2 q.2.2 (fun q1 q2 => ?_) (fun q0 => ?_)
  · show mm_Wp 44 _ _ _ _ _
    rw [mm_pI, wp_40, if_neg (by decide), wp_1, wp_56, bq_44_3]
    unfold bk_44_3
    rw [wp_90]
    exact K1 q1 q2 _ (hU 0) (hQ 0 (Or.inl rfl))
  · show mm_Wp 44 _ _ _ _ _
    rw [mm_pI, wp_40, if_pos rfl, bq_44_2]
    unfold bk_44_2
    rw [wp_1, wp_0, bq_44_3]
    unfold bk_44_3
    rw [wp_90]
    exact K0 q0 _ (hU lost) (hQ lost q.2.2)
theorem tt_46 (J : tt_J b g dh k) (q : tt_Q bad lost k) (hd : 1 ≤ d ∧ d ≤ 5) (K : Q (zI (if d = bad then (if lost = 0 then 1 else 2) else 0)) k) : mm_Cl 46 [zR (1, 0, 100), zI d] k Q := by
  have hx := J.2.2.2
  show mm_Wp 46 (mm_blk 46 0) [zR (1, 0, 100), zI d] [] k Q
  rw [bq_46_0]
  unfold bk_46_0
  rw [wp_5_0, wk_62 (tt_Jr J) (tt_h1 hx) (by decide), wp_3_1, wp_v2 mm_n_84 (mm_leq mm_m_84 (mm_lb rfl)) (mm_lb rfl) (tt_hz hx)]
  refine tt_84 hx q.1.1 hd ?_
  show mm_Wp 46 _ _ _ _ _
  rw [mm_pI, wp_40, if_neg (by decide), wp_5_0, wk_62 (tt_Jr J) (tt_h1 hx) (by decide), wp_3_1, wp_v2 mm_n_88 (mm_leq mm_m_88 (mm_lb rfl)) (mm_lb rfl) (tt_hz hx)]
  refine tt_88 hx q.1.2.1 q.1.2.2 ?_
  show mm_Wp 46 _ _ _ _ _
  rw [mm_pI, wp_56, bq_46_2]
  unfold bk_46_2
  rw [wp_90]
  exact K
theorem tt_g39 : tt_G 39 [] kk_SP := ⟨⟨by decide, (fun v q => absurd q List.not_mem_nil), fun r q => ⟨q.choose, q.choose_spec.1⟩⟩, fun b h dh c q => ⟨265, c_39p (Int.le_refl _) c q⟩⟩
/-- where the second is gone over, the first puts down -/
theorem tt_45 {cut : Int} (J : tt_J b g dh k) (q : tt_Q bad lost k) (hb : b + 1 ≤ 1000000)
    (K1 : lost = 1 → Q (zI (-3)) k)
    (K0 : lost = 0 → ∀ k1, k1.2.2.1 = 10550 → tt_Q (if cut = 0 then 0 else bad) 0 k1 → k1.1 (90, 0, 0) = k.1 (90, 0, 0) → k1.2.2 = k.2.2 → (∀ W : mm_V → mm_H → Prop, (∀ n g2 dh2 k2, 0 ≤ n → tt_J (b + 1) g2 dh2 k2 → tt_Z k1 k2 → W (zI n) k2) → mm_Cl 39 [zR (1, 0, 0)] k1 W) → Q (zI (if cut = 0 then bad else 0)) k1) :
    mm_Cl 45 [zR (1, 0, 100), zI cut] k Q := by
  have hx := J.2.2.2
  show mm_Wp 45 (mm_blk 45 0) [zR (1, 0, 100), zI cut] [] k Q
  rw [bq_45_0]
  unfold bk_45_0
  rw [wp_5_0, wk_62 (tt_Jr J) (tt_h1 hx) (by decide), wk_60 (tt_hz hx) (by decide), show k.1 (14, 0, 100) ((2 : Nat) : Int) = lost from q.1.2.2, wp_40]
  by_cases c : lost = 0
  · rw [if_pos c, bq_45_1]
    unfold bk_45_1
    rw [wp_5_0, wp_v1 mm_n_64 (mm_leq mm_m_64 (mm_lb rfl)) (mm_lb rfl) (tt_h1 hx)]
    obtain ⟨⟨b2, hb2, core⟩, A0, A1, -⟩ := id J
    obtain ⟨n, g2, dh2, s1, core2, go⟩ := tt_call tt_g39 core (by omega)
    have n0 : 0 ≤ n := by
      obtain ⟨m, e, h0, -⟩ := s1
      have : n = m := Sum.inl.inj (Sum.inl.inj e)
      omega
    have z := go 100 (Or.inr rfl) k hx A1
    have z : mm_Wp 39 (mm_blk 39 0) [zR (1, 0, 100)] [] k (fun r k1 => r = zI n ∧ tt_A 100 g2 dh2 k1 ∧ tt_F 100 k k1) := z
    rw [bq_39_0] at z
    unfold bk_39_0 at z
    rw [wp_5_0, wp_v1 mm_n_64 (mm_leq mm_m_64 (mm_lb rfl)) (mm_lb rfl) (tt_h1 hx)] at z
    refine mm_Clm ?_ z
    intro r k1 h
    have hr : ∃ m, r = zI m ∧ m = n ∧ tt_A 100 g2 dh2 k1 ∧ tt_F 100 k k1 := by
      have h : (match mm_rt (90, 0, 0, 0, 0) (mm_push r []) with | some v => v = zI n ∧ tt_A 100 g2 dh2 k1 ∧ tt_F 100 k k1 | none => False) := by rw [mm_wpr _ _ (by decide)] at h; exact h
      rcases r with (r | r) | (_ | r)
      · have h : zI r = zI n ∧ tt_A 100 g2 dh2 k1 ∧ tt_F 100 k k1 := h
        exact ⟨r, rfl, Sum.inl.inj (Sum.inl.inj h.1), h.2⟩
      · exact absurd h (by intro w; exact w)
      · exact absurd h (by intro w; exact w)
      · exact absurd h (by intro w; exact w)
    obtain ⟨m, er, em, B1, F1⟩ := hr
    subst er
    have hx1 : k1.2.2.1 = 10550 := by rw [F1.1]; exact hx
    have Z1 := tt_FZ F1
    have q1 := tt_QZ q Z1
    have W1 : ∀ k2, tt_U k1 k2 → ∀ W : mm_V → mm_H → Prop, (∀ n g2 dh2 k3, 0 ≤ n → tt_J (b + 1) g2 dh2 k3 → tt_Z k2 k3 → W (zI n) k3) → mm_Cl 39 [zR (1, 0, 0)] k2 W := fun k2 U W hW => by
      have up : ∀ c g dh, tt_A c g dh k1 → tt_A c g dh k2 := fun c g dh A x hS h0 => ⟨fun h14 j => by
        rw [U.2 _ (fun w => h14 (by rw [← tt_r1 c x, w]))]
        exact (A x hS h0).1 h14 j, fun j => by
        rw [U.1]
        exact (A x hS h0).2 j⟩
      have hx2 : k2.2.2.1 = 10550 := by rw [U.1]; exact hx1
      refine mm_Clm ?_ (go 0 (Or.inl rfl) k2 hx2 (up _ _ _ (tt_Fq F1 A0)))
      rintro r k3 ⟨e, B0, F0⟩
      subst e
      exact hW n g2 dh2 k3 n0 ⟨⟨b2 + 1, by omega, core2⟩, B0, tt_Fo F0 (up _ _ _ B1), by rw [F0.1]; exact hx2⟩ (tt_FZ F0)
    show mm_Wp 45 _ _ _ _ _
    rw [mm_pI, wp_36i, wp_3_1, wp_40]
    by_cases f : cut = 0
    · rw [if_pos f, bq_45_2]
      unfold bk_45_2
      have hr1 : k1.2.1 (1, 0, 100) ((7 : Nat) : Int) = (14, 0, 100) := (B1 (1, 0, 0) (by decide) (by decide)).2 7
      rw [wp_5_0, wk_62 hr1 (tt_h1 hx1) (by decide), wp_v1 mm_n_87 (mm_leq mm_m_87 (mm_lb rfl)) (mm_lb rfl) (tt_hz hx1)]
      refine tt_87 hx1 q1.1.2.1 ?_
      show mm_Wp 45 _ _ _ _ _
      rw [mm_pI, wp_0, bq_45_3]
      unfold bk_45_3
      rw [wp_90]
      rw [if_pos f] at K0
      have U2 : tt_U k1 (mm_up k1.1 (14, 0, 100) 1 0, k1.2) := ⟨rfl, fun z hz => by
        funext j
        show mm_up k1.1 (14, 0, 100) 1 0 z j = k1.1 z j
        rw [mm_upne' (fun w => hz w.1)]⟩
      have K0 := K0 c (mm_up k1.1 (14, 0, 100) 1 0, k1.2) hx1
      rw [if_pos f] at K0
      refine K0 ⟨⟨?_, ?_, ?_⟩, ⟨by omega, by omega⟩, Or.inl rfl⟩ ?_ ?_ (W1 _ U2)
      · show mm_up k1.1 (14, 0, 100) 1 0 (14, 0, 100) 0 = 5
        rw [mm_upj (by decide)]
        exact q1.1.1
      · show mm_up k1.1 (14, 0, 100) 1 0 (14, 0, 100) 1 = 0
        rw [mm_ups]
      · show mm_up k1.1 (14, 0, 100) 1 0 (14, 0, 100) 2 = 0
        rw [mm_upj (by decide)]
        exact q1.1.2.2.trans c
      · rw [U2.2 _ (by decide)]
        exact Z1.2.2
      · exact Z1.1
    · rw [if_neg f, wp_1, wp_56, bq_45_3]
      unfold bk_45_3
      rw [wp_90]
      have K0 := K0 c k1 hx1
      rw [if_neg f, if_neg f] at K0
      refine K0 ?_ Z1.2.2 Z1.1 (W1 _ ⟨rfl, fun _ _ => rfl⟩)
      rw [c] at q1
      exact q1
  · rw [if_neg c, wp_1, wp_90]
    exact K1 (by rcases q.2.2 with w | w; exact absurd w c; exact w)
end
