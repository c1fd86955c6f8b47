/-! the law, from its first row to its answer -/
def kk_h0 (S : Int → Int) : mm_Id → Int → Int := fun x j => if x = (90, 0, 0) then S j else 0
theorem kk_gr00 : kk_gr (fun _ _ => False) = fun _ _ => mm_nul := by
  funext y j
  exact kk_gr0 (fun q => q)
section
variable {hi : mm_Id → Int → Int} {hr : mm_Id → Int → mm_Id} {nx ns N : Int} {S : Int → Int} {Q : mm_V → mm_H → Prop}
theorem wq_70s {y : Nat} {is : List mm_I} {l s : List mm_V} {a : Nat} {c : Int} {d e : Nat} {j : Int} (hj : 0 ≤ j ∧ j < hi (90, 0, 0) (-1)) : mm_Wp y ((70, a, c, d, e) :: is) l (zI j :: zR (90, 0, 0) :: s) (hi, hr, nx, ns) Q = mm_Wp y is l (zI (hi (90, 0, 0) j) :: s) (hi, hr, nx, ns) Q := by
  refine (mm_wpx _ _ (by decide) (by decide) (by decide)).trans ?_
  have e0 : mm_SH (90, 0, 0) = (10, 0) := rfl
  have e1 : mm_in (90, 0, 0) nx 2 j = false := by unfold mm_in; simp [e0]
  simp [mm_x, mm_x4, e0, e1, hj]
theorem s296 (hN : hi (90, 0, 0) (-1) = N) (K : Q (zI (if 0 < N then hi (90, 0, 0) 0 else 0)) (hi, hr, nx, ns)) : mm_Cl 296 [zR (90, 0, 0), zI 0] (hi, hr, nx, ns) Q := by
  show mm_Wp 296 (mm_blk 296 0) [zR (90, 0, 0), zI 0] [] _ Q
  rw [bq_296_0]
  unfold bk_296_0
  rw [wp_3_1, wp_5_0, wp_78s, wp_49]
  show (if 0 < hi (90, 0, 0) (-1) then _ else _)
  rw [hN]
  by_cases c : 0 < N
  · rw [if_pos c] at K ⊢
    rw [wp_5_0, wp_3_1, wq_70s ⟨by omega, by omega⟩, wp_56, bq_296_2]
    unfold bk_296_2
    rw [wp_90]
    exact K
  · rw [if_neg c] at K ⊢
    rw [bq_296_1]
    unfold bk_296_1
    rw [wp_1, wp_0, bq_296_2]
    unfold bk_296_2
    rw [wp_90]
    exact K
theorem kk_law (sN : S (-1) = N) (nN : 0 ≤ N ∧ N ≤ 3585) (sr : ∀ j, 0 ≤ j → j < N → -2147483648 ≤ S j ∧ S j < 2147483648) : mm_Cl 297 [zR (90, 0, 0)] (kk_h0 S, fun _ _ => mm_nul, 0, 0) (fun r h1 => r = zI 1 ∧ h1.2.2.1 = 5306 ∧ h1.2.2.2 = 621696) := by
  have hy : (5306 : Int) ≤ 5306 := Int.le_refl 5306
  have S1 : mm_SH (1, 0, 0) = (1, 0) := rfl
  have S40 : mm_SH (40, 0, 0) = (1, 10) := rfl
  have h90 : ∀ j, kk_h0 S (90, 0, 0) j = S j := fun j => if_pos rfl
  have z0 : ∀ x j, x ≠ (90, 0, 0) → kk_h0 S x j = 0 := fun x j q => if_neg q
  obtain ⟨x1, ex⟩ : ∃ x1, x1 = if 0 < N then S 0 else 0 := ⟨_, rfl⟩
  have cr : 4 ≤ kk_c47 x1 ∧ kk_c47 x1 ≤ 7 := by
    unfold kk_c47
    by_cases c : x1 < 4
    · rw [if_pos c]; omega
    · rw [if_neg c]
      by_cases c2 : 7 < x1
      · rw [if_pos c2]; omega
      · rw [if_neg c2]; omega
  show mm_Wp 297 (mm_blk 297 0) [zR (90, 0, 0), zU, zU, zU] [] _ _
  rw [bq_297_0]
  unfold bk_297_0
  rw [wq_80 (x := (1, 0, 0)) S1 (by decide) (by decide) (by decide), wp_35r, wp_5_0, wp_1, wp_s2 mm_n_296 (mm_leq mm_m_296 (mm_lb rfl)) (mm_lb rfl)]
  refine s296 (N := N) ((h90 (-1)).trans sN) ?_
  show mm_Wp 297 _ _ _ _ _
  rw [h90, ← ex, mm_pI, wp_p2 mm_n_0 (mm_leq mm_m_0 (mm_lb rfl)) (mm_lb rfl) (kk_okI S1 (by show (0 : Int) < 1; decide)), ← kk_gr00]
  refine s0c z0 (fun H hC => ?_)
  have H90 : ∀ j, H (90, 0, 0) j = S j := fun j => by
    rw [hC.2.2.2.2.2.2.2.2.2 _ _ (by simp) (by simp) (by simp) (by simp) (by simp) (by simp) (by simp) (by unfold kk_ct; simp) (by unfold kk_tr; simp)]
    exact h90 j
  have HZ : ∀ (x : mm_Id) j, 40 < x.1 → x.1 < 90 → H x j = 0 := fun x j q q2 => by
    have nn : ∀ y : mm_Id, y.1 ≤ 40 → x ≠ y := fun y w e => by rw [e] at q; omega
    rw [hC.2.2.2.2.2.2.2.2.2 x j (fun w => nn _ (by decide) w.1) (fun w => nn _ (by decide) w.1) (fun w => nn _ (by decide) w.1) (by omega) (fun w => nn _ (by decide) w.1) (nn _ (by decide)) (fun w => nn _ (by decide) w.1) (fun w => by
      unfold kk_ct at w
      rcases w with w | w | w | w
      · exact nn _ (by decide) w.1
      · exact nn _ (by decide) w
      · exact nn _ (by decide) w
      · exact nn _ (by decide) w) (fun w => by unfold kk_tr at w; omega)]
    exact z0 x j (fun w => by rw [w] at q2; exact absurd q2 (by decide))
  show mm_Wp 297 _ _ _ (H, mm_mkR (fun _ => -1) 5275, 5275, 0 + mm_nf 0 + 258001) _
  rw [mm_pU, wp_8 (l2 := [zR (90, 0, 0), zR (1, 0, 0), zU, zU]) rfl, wq_80 (x := (40, 0, 0)) S40 (by decide) (by decide) (by decide), wp_35r, wp_5_0, wp_1, wp_s2 mm_n_296 (mm_leq mm_m_296 (mm_lb rfl)) (mm_lb rfl)]
  refine s296 (N := N) ((H90 (-1)).trans sN) ?_
  show mm_Wp 297 _ _ _ _ _
  rw [H90, ← ex, mm_pI, wp_p2 mm_n_173 (mm_leq mm_m_173 (mm_lb rfl)) (mm_lb rfl) (kk_okI S40 (by show (5275 : Int) < 5276; decide)), show (5275 : Int) + 1 = 5276 by decide]
  refine m173c HZ (fun G hM => ?_)
  have hz := kk_Zm z0 hC hM
  have G90 : ∀ j, G (90, 0, 0) j = S j := fun j => by
    rw [hM.2.2.2.2.2.1 _ _ (Or.inr (by decide))]
    exact H90 j
  show mm_Wp 297 _ _ _ (mm_z G (fun _ => -1) 5306 (0 + mm_nf 0 + 258001 + mm_nf 10 + 363633)) _
  rw [mm_pU, wp_8 (l2 := [zR (90, 0, 0), zR (1, 0, 0), zR (40, 0, 0), zU]) rfl, wp_1, wp_6 (l2 := [zR (90, 0, 0), zR (1, 0, 0), zR (40, 0, 0), zI 1]) rfl, wp_0, mm_nf_0, mm_nf_10, show (0 : Int) + 14 + 258001 + 48 + 363633 = 621696 by decide]
  exact kk_lawL hy sN nN sr (fun g d => ⟨rfl, rfl, rfl⟩) N.toNat 1 0 G (fun _ => -1) (by omega) (by omega) (by omega) (by omega) (kk_Zcore cr hz) (kk_ZsI hz) G90
end
