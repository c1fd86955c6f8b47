/-! constructors: the reference's -/
def kk_hm (A : List Int) : mm_Id → Int → mm_Id := fun y j => if y = (40, 0, 0) ∧ j ∈ A then mm_mR j else mm_mkR (fun _ => -1) 5275 y j
theorem kk_hmu {A : List Int} {k : Int} {v : mm_Id} (hv : mm_mR k = v) : mm_up (kk_hm A) (40, 0, 0) k v = kk_hm (k :: A) := by
  funext y j
  unfold kk_hm
  by_cases c : y = (40, 0, 0) ∧ j = k
  · rw [c.1, c.2, mm_ups, if_pos ⟨rfl, List.mem_cons_self⟩, hv]
  · rw [mm_upne' c]
    by_cases p : y = (40, 0, 0) ∧ j ∈ A
    · rw [if_pos p, if_pos ⟨p.1, List.mem_cons_of_mem _ p.2⟩]
    · rw [if_neg p, if_neg (fun q => ?_)]
      rcases List.mem_cons.1 q.2 with e | e
      · exact c ⟨q.1, e⟩
      · exact p ⟨q.1, e⟩
theorem kk_hm0 : kk_hm [] = mm_mkR (fun _ => -1) 5275 := by
  funext y j
  unfold kk_hm
  rw [if_neg (fun q => by cases q.2)]
theorem kk_mkn {dh : Int → Int} {y : mm_Id} {j : Int} (h : y ≠ (40, 0, 0)) {a b : Int} : mm_mkR dh a y j = mm_mkR dh b y j := by
  obtain ⟨f, t, n⟩ := y
  unfold mm_mkR
  simp only
  split
  all_goals first
    | rfl
    | (rw [if_neg (fun q => h (by rw [q.1.1, q.1.2])), if_neg (fun q => h (by rw [q.1.1, q.1.2]))])
theorem kk_hme : kk_hm [47, 41, 40, 38, 32, 31, 28, 27, 26, 23, 22, 21, 20, 19, 17, 16, 15, 14, 13, 12, 11, 10, 9, 8, 7, 6, 5, 4, 3, 2] = mm_mkR (fun _ => -1) 10581 := by
  funext y j
  unfold kk_hm
  by_cases c : y = (40, 0, 0)
  · subst c
    have e1 : mm_mkR (fun _ => -1) 10581 (40, 0, 0) j = mm_mR j := by
      show (if (((0 : Int) = 0 ∧ (0 : Int) = 0) ∧ (10581 : Int) ≤ 10581) then mm_mR j else mm_nul) = mm_mR j
      exact if_pos (by decide)
    have e2 : mm_mkR (fun _ => -1) 5275 (40, 0, 0) j = mm_nul := by
      show (if (((0 : Int) = 0 ∧ (0 : Int) = 0) ∧ (10581 : Int) ≤ 5275) then mm_mR j else mm_nul) = mm_nul
      exact if_neg (by decide)
    rw [e1, e2]
    by_cases p : j ∈ ([47, 41, 40, 38, 32, 31, 28, 27, 26, 23, 22, 21, 20, 19, 17, 16, 15, 14, 13, 12, 11, 10, 9, 8, 7, 6, 5, 4, 3, 2] : List Int)
    · rw [if_pos ⟨rfl, p⟩]
    · rw [if_neg (fun q => p q.2)]
      simp only [List.mem_cons, List.not_mem_nil, or_false, not_or] at p
      unfold mm_mR
      simp only [p, if_false]
  · rw [if_neg (fun q => c q.1), kk_mkn c]
section
variable {y : Nat} {is : List mm_I} {l s : List mm_V} {hi : mm_Id → Int → Int} {A : List Int} {nx ns : Int} {Q : mm_V → mm_H → Prop} {a : Nat} {c : Int} {d e : Nat}
theorem wq_66m {v : mm_Id} (hv : mm_mR a = v) (ho : mm_ok (40, 0, 0) nx 1 c = true) : mm_Wp y ((66, a, c, d, e) :: is) l (zR v :: zR (40, 0, 0) :: s) (hi, kk_hm A, nx, ns) Q = mm_Wp y is l s (hi, kk_hm ((a : Int) :: A), nx, ns) Q := by
  refine (mm_wpx _ _ (by decide) (by decide) (by decide)).trans ?_
  have e2 := kk_hmu (A := A) hv
  simp only [mm_x, mm_x3, ho]
  simp [e2]
end
/-- what the reference's cells hold when it is made -/
def kk_MFC (c : Int) (hi H : mm_Id → Int → Int) : Prop :=
  H (40, 0, 0) 43 = -2 ∧ H (40, 0, 0) 1 = c ∧ H (40, 0, 0) 24 = 1 ∧ H (40, 0, 0) 33 = 0 ∧ (∀ j, ¬ (j = 43 ∨ j = 1 ∨ j = 24 ∨ j = 33) → H (40, 0, 0) j = hi (40, 0, 0) j) ∧
  (∀ (x : mm_Id) j, x.1 < 40 ∨ 90 ≤ x.1 → H x j = hi x j) ∧ ∃ g : mm_Id → Int → Int, (g (57, 0, 0) 0 = 1 ∧ g (59, 0, 0) 0 = 400 ∧ (∀ u, 0 ≤ u → u < 8 → g (61, 0, 0) u = 400) ∧ g (41, 0, 0) 0 = 2 ∧ g (48, 0, 0) 0 = 61) ∧
    (∀ (x : mm_Id) j, 40 < x.1 → ¬ (x = (57, 0, 0) ∧ j = 0) → ¬ (x = (59, 0, 0) ∧ j = 0) → ¬ (x = (61, 0, 0) ∧ 0 ≤ j ∧ j < 8) → ¬ (x = (41, 0, 0) ∧ j = 0) → ¬ (x = (48, 0, 0) ∧ j = 0) → g x j = hi x j) ∧
    (∀ k f, 0 ≤ k → k < 13 → kk_q4 f → H (f, 0, 0) (13 + k) = g (f, 0, 0) k) ∧ (∀ k u, 0 ≤ k → k < 13 → 0 ≤ u → u < 8 → H (61, 0, 0) (8 * (13 + k) + u) = g (61, 0, 0) (8 * k + u)) ∧ (∀ k n, 0 ≤ k → k < 13 → 1 ≤ n → n < 37 → kk_ms H (36 * (13 + k) + n - 1) g (36 * k + n - 1)) ∧
    ∀ (x : mm_Id) j, 40 < x.1 → ¬ kk_dx x j → H x j = g x j
section
variable {hi : mm_Id → Int → Int} {nx ns : Int} {Q : mm_V → mm_H → Prop}
theorem m173c {x1 : Int} (z0 : ∀ (x : mm_Id) j, 40 < x.1 → x.1 < 90 → hi x j = 0) (K : ∀ H, kk_MFC (kk_c47 x1) hi H → Q zU (mm_z H (fun _ => -1) 10581 (ns + 363633))) : mm_Cl 173 [zR (40, 0, 0), zI x1] (hi, mm_mkR (fun _ => -1) 5275, 10551, ns) Q := by
  have hy : (10581 : Int) ≤ 10581 := Int.le_refl 10581
  have S : mm_SH (40, 0, 0) = (1, 10) := rfl
  obtain ⟨g0, e0⟩ : ∃ g0, g0 = mm_up hi (40, 0, 0) 43 (-2) := ⟨_, rfl⟩
  have E : mm_Wp 173 (mm_blk 173 3) [zR (40, 0, 0), zI x1] [zI (kk_c47 x1), zR (40, 0, 0)] (mm_z g0 (fun _ => -1) 10581 (ns + 363633)) Q := by
    rw [bq_173_3]
    unfold bk_173_3
    rw [wp_63 (mm_o40 hy), wp_5_0, wp_62 (by decide) (mm_o40 hy) (mm_r40_19 hy), wp_1, wp_1, wp_74k (mm_q57 hy) (by decide), wp_5_0, wp_62 (by decide) (mm_o40 hy) (mm_r40_21 hy), wp_1, wp_1, wp_74k (mm_q59 hy) (by decide), wp_5_0, wp_1, wp_v2 mm_n_202 (mm_leq mm_m_202 (mm_lb rfl)) (mm_lb rfl) (mm_o40 hy)]
    refine m202 hy (by omega) (fun h2 a1 a2 => ?_)
    show mm_Wp 173 _ _ _ _ _
    rw [mm_pU, wp_5_0, wp_1, wp_63 (mm_o40 hy), wp_5_0, wp_62 (by decide) (mm_o40 hy) (mm_r40_2 hy), wp_1, wp_1, wp_74k (mm_q41 hy) (by decide), wp_5_0, wp_62 (by decide) (mm_o40 hy) (mm_r40_9 hy), wp_1, wp_1, wp_74k (mm_q48 hy) (by decide), wp_5_0, wp_v1 mm_n_208 (mm_leq mm_m_208 (mm_lb rfl)) (mm_lb rfl) (mm_o40 hy)]
    obtain ⟨g, eg⟩ : ∃ g, g = mm_up (mm_up (mm_up h2 (40, 0, 0) 24 1) (41, 0, 0) 0 2) (48, 0, 0) 0 61 := ⟨_, rfl⟩
    rw [show ((24 : Nat) : Int) = 24 from rfl, ← eg]
    have gx : ∀ (x : mm_Id) j, 40 < x.1 → ¬ (x = (57, 0, 0) ∧ j = 0) → ¬ (x = (59, 0, 0) ∧ j = 0) → ¬ (x = (61, 0, 0) ∧ 0 ≤ j ∧ j < 8) → ¬ (x = (41, 0, 0) ∧ j = 0) → ¬ (x = (48, 0, 0) ∧ j = 0) → g x j = hi x j := fun x j q0 q1 q2 q3 q4 q5 => by
      have n40 : ∀ k : Int, ¬ (x = (40, 0, 0) ∧ j = k) := fun k w => by rw [w.1] at q0; exact absurd q0 (by decide)
      rw [eg, mm_upne' q5, mm_upne' q4, mm_upne' (n40 24), a2 _ _ (fun w => q3 ⟨w.1, by omega⟩), mm_upne' q2, mm_upne' q1, mm_upne' (n40 _), e0, mm_upne' (n40 43)]
    have g40 : ∀ j : Int, j ≠ 24 → g (40, 0, 0) j = mm_up g0 (40, 0, 0) 1 (kk_c47 x1) (40, 0, 0) j := fun j q => by
      rw [eg, mm_upf (by decide), mm_upf (by decide), mm_upj q, a2 _ _ (by simp), mm_upf (by decide), mm_upf (by decide)]
      rfl
    have glo : ∀ (x : mm_Id) j, x.1 < 40 ∨ 90 ≤ x.1 → g x j = hi x j := fun x j q => by
      have nn : ∀ (f : Nat) (k : Int), 40 ≤ f → f < 90 → ¬ (x = (f, 0, 0) ∧ j = k) := fun f k f0 f1 w => by rw [w.1] at q; have : f < 40 ∨ 90 ≤ f := q; omega
      rw [eg, mm_upne' (nn 48 0 (by omega) (by omega)), mm_upne' (nn 41 0 (by omega) (by omega)), mm_upne' (nn 40 24 (by omega) (by omega)), a2 _ _ (fun w => nn 61 j (by omega) (by omega) ⟨w.1, rfl⟩), mm_upne' (nn 59 0 (by omega) (by omega)), mm_upne' (nn 57 0 (by omega) (by omega)), mm_upne' (nn 40 _ (by omega) (by omega)), e0, mm_upne' (nn 40 43 (by omega) (by omega))]
    have gz : ∀ (x : mm_Id) j, 40 < x.1 → x.1 < 90 → x ≠ (57, 0, 0) → x ≠ (59, 0, 0) → x ≠ (61, 0, 0) → x ≠ (41, 0, 0) → x ≠ (48, 0, 0) → g x j = 0 := fun x j q0 q9 q1 q2 q3 q4 q5 => by
      rw [gx x j q0 (fun w => q1 w.1) (fun w => q2 w.1) (fun w => q3 w.1) (fun w => q4 w.1) (fun w => q5 w.1)]
      exact z0 x j q0 q9
    refine m208 hy (fun k _ _ => Or.inl (gz _ _ (by decide) (by decide) (by simp) (by simp) (by simp) (by simp) (by simp))) (fun k n _ _ _ _ => ?_) (fun h4 b0 b1 b2 b3 b4 => ?_)
    · unfold kk_mw
      rw [gz (53, 0, 0) _ (by decide) (by decide) (by simp) (by simp) (by simp) (by simp) (by simp), gz (44, 0, 0) _ (by decide) (by decide) (by simp) (by simp) (by simp) (by simp) (by simp), gz (49, 0, 0) _ (by decide) (by decide) (by simp) (by simp) (by simp) (by simp) (by simp)]
      exact ⟨Or.inl rfl, by omega, by omega⟩
    · show mm_Wp 173 _ _ _ _ _
      rw [mm_pU, wp_93]
      have d40 : ∀ j, ¬ kk_dx (40, 0, 0) j := fun j q => by
        unfold kk_dx at q
        rcases q with ⟨q, _⟩ | ⟨q, _⟩ | ⟨k, _, q⟩
        · simp at q
        · simp at q
        · exact kk_sx6 (Or.inl (by decide)) q
      have dlo : ∀ (x : mm_Id) j, x.1 < 40 ∨ 90 ≤ x.1 → ¬ kk_dx x j := fun x j w q => by
        obtain ⟨f, t, n⟩ := x
        have w : f < 40 ∨ 90 ≤ f := w
        unfold kk_dx at q
        rcases q with ⟨q, _⟩ | ⟨q, _⟩ | ⟨k, _, q⟩
        · simp at q; omega
        · simp at q; omega
        · exact kk_sx6 (by omega) q
      refine K h4 ⟨?_, ?_, ?_, b0, fun j q => ?_, fun x j q => ?_, g, ⟨?_, ?_, fun u u0 u1 => ?_, ?_, ?_⟩, gx, b1, b2, b3, fun x j q q2 => b4 x j q2 (fun w => by rw [w.1] at q; exact absurd q (by decide))⟩
      · rw [b4 _ _ (d40 _) (by simp), g40 43 (by decide), mm_upj (by decide), e0, mm_ups]
      · rw [b4 _ _ (d40 _) (by simp), g40 1 (by decide), mm_ups]
      · rw [b4 _ _ (d40 _) (by simp), eg, mm_upf (by decide), mm_upf (by decide), mm_ups]
      · rw [b4 _ _ (d40 _) (fun w => q (by omega)), g40 j (fun w => q (by omega)), mm_upj (fun w => q (by omega)), e0, mm_upj (fun w => q (by omega))]
      · rw [b4 x j (dlo x j q) (fun w => by rw [w.1] at q; exact absurd q (by decide))]; exact glo x j q
      · rw [eg, mm_upf (by decide), mm_upf (by decide), mm_upf (by decide), a2 _ _ (by simp), mm_upf (by decide), mm_ups]
      · rw [eg, mm_upf (by decide), mm_upf (by decide), mm_upf (by decide), a2 _ _ (by simp), mm_ups]
      · rw [eg, mm_upf (by decide), mm_upf (by decide), mm_upf (by decide)]
        have := a1 u u0 u1
        rw [show 8 * 0 + u = u by omega] at this
        exact this
      · rw [eg, mm_upf (by decide), mm_ups]
      · rw [eg, mm_ups]
  show mm_Wp 173 (mm_blk 173 0) [zR (40, 0, 0), zI x1] [] _ Q
  rw [bq_173_0]
  unfold bk_173_0
  rw [wp_5_0, wq_97 (by simp), ← kk_hm0]
  rw [wp_5_0, wp_1, wq_81 (x := (41, 0, 0)) (show mm_SH (41, 0, 0) = (2, 1044) from rfl) (by decide) (by decide) (by decide) (by decide), wq_66m (v := (41, 0, 0)) rfl (kk_okI S (by decide))]
  rw [wp_5_0, wp_1, wq_81 (x := (42, 0, 0)) (show mm_SH (42, 0, 0) = (2, 1044) from rfl) (by decide) (by decide) (by decide) (by decide), wq_66m (v := (42, 0, 0)) rfl (kk_okI S (by decide))]
  rw [wp_5_0, wp_1, wq_81 (x := (43, 0, 0)) (show mm_SH (43, 0, 0) = (2, 37584) from rfl) (by decide) (by decide) (by decide) (by decide), wq_66m (v := (43, 0, 0)) rfl (kk_okI S (by decide))]
  rw [wp_5_0, wp_1, wq_81 (x := (44, 0, 0)) (show mm_SH (44, 0, 0) = (2, 1044) from rfl) (by decide) (by decide) (by decide) (by decide), wq_66m (v := (44, 0, 0)) rfl (kk_okI S (by decide))]
  rw [wp_5_0, wp_1, wq_81 (x := (45, 0, 0)) (show mm_SH (45, 0, 0) = (2, 25056) from rfl) (by decide) (by decide) (by decide) (by decide), wq_66m (v := (45, 0, 0)) rfl (kk_okI S (by decide))]
  rw [wp_5_0, wp_1, wq_81 (x := (46, 0, 0)) (show mm_SH (46, 0, 0) = (2, 25056) from rfl) (by decide) (by decide) (by decide) (by decide), wq_66m (v := (46, 0, 0)) rfl (kk_okI S (by decide))]
  rw [wp_5_0, wp_1, wq_81 (x := (47, 0, 0)) (show mm_SH (47, 0, 0) = (2, 1044) from rfl) (by decide) (by decide) (by decide) (by decide), wq_66m (v := (47, 0, 0)) rfl (kk_okI S (by decide))]
  rw [wp_5_0, wp_1, wq_81 (x := (48, 0, 0)) (show mm_SH (48, 0, 0) = (2, 1044) from rfl) (by decide) (by decide) (by decide) (by decide), wq_66m (v := (48, 0, 0)) rfl (kk_okI S (by decide))]
  rw [wp_5_0, wp_1, wq_81 (x := (49, 0, 0)) (show mm_SH (49, 0, 0) = (2, 1044) from rfl) (by decide) (by decide) (by decide) (by decide), wq_66m (v := (49, 0, 0)) rfl (kk_okI S (by decide))]
  rw [wp_5_0, wp_1, wq_81 (x := (50, 0, 0)) (show mm_SH (50, 0, 0) = (2, 4176) from rfl) (by decide) (by decide) (by decide) (by decide), wq_66m (v := (50, 0, 0)) rfl (kk_okI S (by decide))]
  rw [wp_5_0, wp_1, wq_81 (x := (51, 0, 0)) (show mm_SH (51, 0, 0) = (5, 4176) from rfl) (by decide) (by decide) (by decide) (by decide), wq_66m (v := (51, 0, 0)) rfl (kk_okI S (by decide))]
  rw [wp_5_0, wp_1, wq_81 (x := (52, 0, 0)) (show mm_SH (52, 0, 0) = (2, 8352) from rfl) (by decide) (by decide) (by decide) (by decide), wq_66m (v := (52, 0, 0)) rfl (kk_okI S (by decide))]
  rw [wp_5_0, wp_1, wq_81 (x := (53, 0, 0)) (show mm_SH (53, 0, 0) = (4, 1044) from rfl) (by decide) (by decide) (by decide) (by decide), wq_66m (v := (53, 0, 0)) rfl (kk_okI S (by decide))]
  rw [wp_5_0, wp_1, wq_81 (x := (54, 0, 0)) (show mm_SH (54, 0, 0) = (3, 180060) from rfl) (by decide) (by decide) (by decide) (by decide), wq_66m (v := (54, 0, 0)) rfl (kk_okI S (by decide))]
  rw [wp_5_0, wp_1, wq_81 (x := (55, 0, 0)) (show mm_SH (55, 0, 0) = (4, 3001) from rfl) (by decide) (by decide) (by decide) (by decide), wq_66m (v := (55, 0, 0)) rfl (kk_okI S (by decide))]
  rw [wp_5_0, wp_1, wq_81 (x := (56, 0, 0)) (show mm_SH (56, 0, 0) = (4, 3001) from rfl) (by decide) (by decide) (by decide) (by decide), wq_66m (v := (56, 0, 0)) rfl (kk_okI S (by decide))]
  rw [wp_5_0, wp_1, wq_81 (x := (57, 0, 0)) (show mm_SH (57, 0, 0) = (2, 26) from rfl) (by decide) (by decide) (by decide) (by decide), wq_66m (v := (57, 0, 0)) rfl (kk_okI S (by decide))]
  rw [wp_5_0, wp_1, wq_81 (x := (58, 0, 0)) (show mm_SH (58, 0, 0) = (2, 26) from rfl) (by decide) (by decide) (by decide) (by decide), wq_66m (v := (58, 0, 0)) rfl (kk_okI S (by decide))]
  rw [wp_5_0, wp_1, wq_81 (x := (59, 0, 0)) (show mm_SH (59, 0, 0) = (2, 26) from rfl) (by decide) (by decide) (by decide) (by decide), wq_66m (v := (59, 0, 0)) rfl (kk_okI S (by decide))]
  rw [wp_5_0, wp_1, wq_81 (x := (60, 0, 0)) (show mm_SH (60, 0, 0) = (4, 26) from rfl) (by decide) (by decide) (by decide) (by decide), wq_66m (v := (60, 0, 0)) rfl (kk_okI S (by decide))]
  rw [wp_5_0, wp_1, wq_81 (x := (61, 0, 0)) (show mm_SH (61, 0, 0) = (2, 208) from rfl) (by decide) (by decide) (by decide) (by decide), wq_66m (v := (61, 0, 0)) rfl (kk_okI S (by decide))]
  rw [wp_5_0, wp_1, wq_81 (x := (62, 0, 0)) (show mm_SH (62, 0, 0) = (2, 9) from rfl) (by decide) (by decide) (by decide) (by decide), wq_66m (v := (62, 0, 0)) rfl (kk_okI S (by decide))]
  rw [wp_5_0, wp_1, wq_81 (x := (63, 0, 0)) (show mm_SH (63, 0, 0) = (2, 9) from rfl) (by decide) (by decide) (by decide) (by decide), wq_66m (v := (63, 0, 0)) rfl (kk_okI S (by decide))]
  rw [wp_5_0, wp_1, wq_81 (x := (64, 0, 0)) (show mm_SH (64, 0, 0) = (3, 19440) from rfl) (by decide) (by decide) (by decide) (by decide), wq_66m (v := (64, 0, 0)) rfl (kk_okI S (by decide))]
  rw [wp_5_0, wp_1, wq_81 (x := (65, 0, 0)) (show mm_SH (65, 0, 0) = (2, 8) from rfl) (by decide) (by decide) (by decide) (by decide), wq_66m (v := (65, 0, 0)) rfl (kk_okI S (by decide))]
  rw [wp_5_0, wp_1, wq_81 (x := (66, 0, 0)) (show mm_SH (66, 0, 0) = (2, 80) from rfl) (by decide) (by decide) (by decide) (by decide), wq_66m (v := (66, 0, 0)) rfl (kk_okI S (by decide))]
  rw [wp_5_0, wp_1, wq_81 (x := (67, 0, 0)) (show mm_SH (67, 0, 0) = (3, 8000) from rfl) (by decide) (by decide) (by decide) (by decide), wq_66m (v := (67, 0, 0)) rfl (kk_okI S (by decide))]
  rw [wp_5_0, wp_1, wq_81 (x := (68, 0, 0)) (show mm_SH (68, 0, 0) = (3, 34000) from rfl) (by decide) (by decide) (by decide) (by decide), wq_66m (v := (68, 0, 0)) rfl (kk_okI S (by decide))]
  rw [wp_5_0, wp_1, wq_81 (x := (69, 0, 0)) (show mm_SH (69, 0, 0) = (5, 4000) from rfl) (by decide) (by decide) (by decide) (by decide), wq_66m (v := (69, 0, 0)) rfl (kk_okI S (by decide))]
  rw [wp_5_0, wp_1, wq_63 (kk_okI S (by decide))]
  rw [wp_5_0, wp_1, wq_81 (x := (70, 0, 0)) (show mm_SH (70, 0, 0) = (5, 5) from rfl) (by decide) (by decide) (by decide) (by decide), wq_66m (v := (70, 0, 0)) rfl (kk_okI S (by decide))]
  rw [show ([((47 : Nat) : Int), ((41 : Nat) : Int), ((40 : Nat) : Int), ((38 : Nat) : Int), ((32 : Nat) : Int), ((31 : Nat) : Int), ((28 : Nat) : Int), ((27 : Nat) : Int), ((26 : Nat) : Int), ((23 : Nat) : Int), ((22 : Nat) : Int), ((21 : Nat) : Int), ((20 : Nat) : Int), ((19 : Nat) : Int), ((17 : Nat) : Int), ((16 : Nat) : Int), ((15 : Nat) : Int), ((14 : Nat) : Int), ((13 : Nat) : Int), ((12 : Nat) : Int), ((11 : Nat) : Int), ((10 : Nat) : Int), ((9 : Nat) : Int), ((8 : Nat) : Int), ((7 : Nat) : Int), ((6 : Nat) : Int), ((5 : Nat) : Int), ((4 : Nat) : Int), ((3 : Nat) : Int), ((2 : Nat) : Int)] : List Int) = [47, 41, 40, 38, 32, 31, 28, 27, 26, 23, 22, 21, 20, 19, 17, 16, 15, 14, 13, 12, 11, 10, 9, 8, 7, 6, 5, 4, 3, 2] from rfl, kk_hme]
  rw [show (10551 : Int) + 1 + 1 + 1 + 1 + 1 + 1 + 1 + 1 + 1 + 1 + 1 + 1 + 1 + 1 + 1 + 1 + 1 + 1 + 1 + 1 + 1 + 1 + 1 + 1 + 1 + 1 + 1 + 1 + 1 + 1 = 10581 by decide]
  have es : ns + 1044 + 1044 + 37584 + 1044 + 25056 + 25056 + 1044 + 1044 + 1044 + 4176 + 4176 + 8352 + 1044 + 180060 + 3001 + 3001 + 26 + 26 + 26 + 26 + 208 + 9 + 9 + 19440 + 8 + 80 + 8000 + 34000 + 4000 + 5 = ns + 363633 := by omega
  rw [es, show ((43 : Nat) : Int) = 43 from rfl, ← e0, wp_5_0, wp_3_1, wp_1, wp_49]
  have e1 : mm_Wp 173 (mm_blk 173 3) [zR (40, 0, 0), zI x1] [zI (kk_c47 x1), zR (40, 0, 0)] (g0, mm_mkR (fun _ => -1) 10581, 10581, ns + 363633) Q := E
  by_cases c1 : x1 < 4
  · have ec : kk_c47 x1 = 4 := by unfold kk_c47; rw [if_pos c1]
    rw [ec] at e1
    rw [if_pos c1, wp_1, wp_56]
    exact e1
  · rw [if_neg c1, bq_173_1]
    unfold bk_173_1
    rw [wp_3_1, wp_1, wp_51]
    by_cases c2 : 7 < x1
    · have ec : kk_c47 x1 = 7 := by unfold kk_c47; rw [if_neg c1, if_pos c2]
      rw [ec] at e1
      rw [if_pos c2, wp_1, wp_56]
      exact e1
    · have ec : kk_c47 x1 = x1 := by unfold kk_c47; rw [if_neg c1, if_neg c2]
      rw [ec] at e1
      rw [if_neg c2, bq_173_2]
      unfold bk_173_2
      rw [wp_3_1, wp_0]
      exact e1
end

