/-! the law's alike: what can be asked is the same in both -/
theorem tt_h0 {k : mm_H} (hx : k.2.2.1 = 10550) : mm_ok (1, 0, 0) k.2.2.1 1 0 = true := by rw [hx]; decide +kernel
theorem tt_h1 {k : mm_H} (hx : k.2.2.1 = 10550) : mm_ok (1, 0, 100) k.2.2.1 1 0 = true := by rw [hx]; decide +kernel
theorem tt_pz {m : Nat} {a : List mm_V} {S : mm_V → Prop} {b : Int} {g : mm_Id → Int → Int} {dh : Int → Int} {k : mm_H} {C1 : mm_V → mm_H → Prop} {C2 : Int → mm_V → mm_H → Prop} (G : tt_G m a S) (J : tt_J b g dh k) (hb : b + 1 ≤ 1000000)
    (h1 : ∀ n k1, S (zI n) → k1.2.2.1 = 10550 → tt_Z k k1 → mm_Cl m (zR (1, 0, 100) :: a) k1 (C2 n) → C1 (zI n) k1) (h2 : ∀ n g2 dh2 k2, S (zI n) → tt_J (b + 1) g2 dh2 k2 → tt_Z k k2 → C2 n (zI n) k2) : mm_Cl m (zR (1, 0, 0) :: a) k C1 := by
  obtain ⟨n, s, q⟩ := tt_two G J hb
  refine mm_Clm ?_ q
  rintro r k1 ⟨er, hx1, hz, hq⟩
  subst er
  refine h1 n k1 s hx1 hz (mm_Clm ?_ hq)
  rintro r2 k2 ⟨er2, g2, dh2, J2, Z2⟩
  subst er2
  exact h2 n g2 dh2 k2 s J2 Z2
theorem tt_pr {m : Nat} {a : List mm_V} {S : mm_V → Prop} {b : Int} {g : mm_Id → Int → Int} {dh : Int → Int} {k : mm_H} {C1 : mm_V → mm_H → Prop} {C2 : Int → mm_V → mm_H → Prop} (G : tt_G m a S) (J : tt_J b g dh k) (hb : b + 1 ≤ 1000000)
    (h1 : ∀ n k1, S (zI n) → k1.2.2.1 = 10550 → mm_Cl m (zR (1, 0, 100) :: a) k1 (C2 n) → C1 (zI n) k1) (h2 : ∀ n g2 dh2 k2, S (zI n) → tt_J (b + 1) g2 dh2 k2 → tt_Z k k2 → C2 n (zI n) k2) : mm_Cl m (zR (1, 0, 0) :: a) k C1 :=
  tt_pz G J hb (fun n k1 s hx _ q => h1 n k1 s hx q) h2
theorem tt_g13 {t n w : Int} (ht : tt_I t) (hn : tt_I n) (hw : tt_I w) : tt_G 13 [zI t, zI n, zI w] kk_SI := tt_mkG (k2 := 228) (by decide) (fun v q x e => by subst e; simp at q) (fun b h dh c q => c_13 (Int.le_refl _) c q ht hn hw)
theorem tt_g35 {t w : Int} (ht : tt_I t) (hw : tt_I w) : tt_G 35 [zI t, zI w] kk_SI := tt_mkG (k2 := 257) (by decide) (fun v q x e => by subst e; simp at q) (fun b h dh c q => c_35 (Int.le_refl _) c q ht hw)
theorem tt_g34 {t w : Int} (ht : tt_I t) (hw : w = 0 ∨ w = 1) : tt_G 34 [zI t, zI w] kk_SI := tt_mkG (k2 := 256) (by decide) (fun v q x e => by subst e; simp at q) (fun b h dh c q => c_34 (Int.le_refl _) c q ht hw)
theorem tt_g8 {t n w : Int} (ht : tt_I t) (hn : tt_I n) (hw : tt_I w) : tt_G 8 [zI t, zI n, zI w] kk_SI := tt_mkG (k2 := 221) (by decide) (fun v q x e => by subst e; simp at q) (fun b h dh c q => c_8 (Int.le_refl _) c q ht hn hw)
theorem tt_g14 {t n w : Int} (ht : tt_I t) (hn : tt_I n) (hw : tt_I w) : tt_G 14 [zI t, zI n, zI w] kk_SI := tt_mkG (k2 := 229) (by decide) (fun v q x e => by subst e; simp at q) (fun b h dh c q => c_14 (Int.le_refl _) c q ht hn hw)
theorem tt_g6 {t n w : Int} (ht : tt_I t) (hn : tt_I n) (hw : tt_I w) : tt_G 6 [zI t, zI n, zI w] kk_SI := tt_mkG (k2 := 218) (by decide) (fun v q x e => by subst e; simp at q) (fun b h dh c q => c_6 (Int.le_refl _) c q ht hn hw)
theorem tt_g36 {t n w : Int} (ht : tt_I t) (hn : tt_I n) (hw : tt_I w) : tt_G 36 [zI t, zI n, zI w] kk_SI := tt_mkG (k2 := 259) (by decide) (fun v q x e => by subst e; simp at q) (fun b h dh c q => c_36 (Int.le_refl _) c q ht hn hw)
theorem tt_g27 {t n : Int} (ht : tt_I t) (hn : tt_I n) : tt_G 27 [zI t, zI n] kk_SI := tt_mkG (k2 := 244) (by decide) (fun v q x e => by subst e; simp at q) (fun b h dh c q => c_27 (Int.le_refl _) c q ht hn)
theorem tt_g41 {t : Int} (ht : tt_I t) : tt_G 41 [zI t] kk_SI := tt_mkG (k2 := 267) (by decide) (fun v q x e => by subst e; simp at q) (fun b h dh c q => c_41 (Int.le_refl _) c q ht)
theorem tt_g52 : tt_G 52 [] kk_S0 := ⟨⟨by decide, (fun v q => absurd q List.not_mem_nil), fun r q => ⟨0, q⟩⟩, fun b h dh c q => ⟨275, c_52z (Int.le_refl _) c q⟩⟩
theorem tt_Ic {x : Int} (h : -2147483648 ≤ x ∧ x < 2147483648 := by decide) : tt_I x := h
section
variable {y nd : Int} {Q : mm_V → mm_H → Prop}
theorem tt_al2 (hn : tt_I nd) {t : Int} (ht : tt_I t) : ∀ (m : Nat) (w b : Int) (g : mm_Id → Int → Int) (dh : Int → Int) (k : mm_H), 5 - w = m → 0 ≤ w → tt_J b g dh k → b + 2 * (5 - w) ≤ 1000000 →
    (∀ g2 dh2 k2, tt_J (b + 2 * (5 - w)) g2 dh2 k2 → tt_Z k k2 → mm_Wp 308 (mm_blk 308 2) [zR (1, 0, 0), zR (1, 0, 100), zI y, zI nd, zI t, zI 5] [] k2 Q) → mm_Wp 308 (mm_blk 308 2) [zR (1, 0, 0), zR (1, 0, 100), zI y, zI nd, zI t, zI w] [] k Q := by
  intro m
  induction m with
  | zero =>
    intro w b g dh k e1 e2 J hb K
    have ew : w = 5 := by omega
    subst ew
    exact K g dh k (by rw [show b + 2 * (5 - 5) = b by omega]; exact J) tt_Zr
  | succ m ih =>
    intro w b g dh k e1 e2 J hb K
    have hw : tt_I w := ⟨by omega, by omega⟩
    rw [q_308_2 _ _ _ _ (tt_h0 J.2.2.2), if_pos (by omega : w < 5)]
    refine tt_pr (C2 := fun n r h => mm_Wp 308 (bk_308_2.drop 13) [zR (1, 0, 0), zR (1, 0, 100), zI y, zI nd, zI t, zI w] (mm_push r [zI n]) h Q) (tt_g13 ht hn hw) J (by omega) (fun n k1 _ hx1 hq => ?_) (fun n g2 dh2 k2 _ J2 Z2 => ?_)
    · rw [mm_pI, q_308_2_8 _ _ _ _ _ (tt_h1 hx1)]; exact hq
    rw [mm_pI, q_308_2_13 _ _ _ _ _ _ (tt_h0 J2.2.2.2), if_pos rfl]
    refine tt_pr (C2 := fun n r h => mm_Wp 308 (bk_308_2.drop 22) [zR (1, 0, 0), zR (1, 0, 100), zI y, zI nd, zI t, zI w] (mm_push r [zI n]) h Q) (tt_g35 ht hw) J2 (by omega) (fun n k1 _ hx1 hq => ?_) (fun n g3 dh3 k3 _ J3 Z3 => ?_)
    · rw [mm_pI, q_308_2_18 _ _ _ _ _ (tt_h1 hx1)]; exact hq
    rw [mm_pI, q_308_2_22 _ _ _ _ _ _, if_pos rfl, mm_wid (by omega)]
    refine ih (w + 1) (b + 1 + 1) g3 dh3 k3 (by omega) (by omega) J3 (by omega) (fun g4 dh4 k4 J4 Z4 => K g4 dh4 k4 ?_ (tt_Zt Z2 (tt_Zt Z3 Z4)))
    rw [show b + 2 * (5 - w) = b + 1 + 1 + 2 * (5 - (w + 1)) by omega]
    exact J4
theorem tt_al1 (hn : tt_I nd) : ∀ (m : Nat) (t b : Int) (g : mm_Id → Int → Int) (dh : Int → Int) (k : mm_H) (v5 : mm_V), 3 - t = m → -2 ≤ t → tt_J b g dh k → b + 16 * (3 - t) ≤ 1000000 →
    (∀ g2 dh2 k2 v5, tt_J (b + 16 * (3 - t)) g2 dh2 k2 → tt_Z k k2 → mm_Wp 308 (mm_blk 308 1) [zR (1, 0, 0), zR (1, 0, 100), zI y, zI nd, zI 3, v5] [] k2 Q) → mm_Wp 308 (mm_blk 308 1) [zR (1, 0, 0), zR (1, 0, 100), zI y, zI nd, zI t, v5] [] k Q := by
  intro m
  induction m with
  | zero =>
    intro t b g dh k v5 e1 e2 J hb K
    have ew : t = 3 := by omega
    subst ew
    exact K g dh k v5 (by rw [show b + 16 * (3 - 3) = b by omega]; exact J) tt_Zr
  | succ m ih =>
    intro t b g dh k v5 e1 e2 J hb K
    have ht : tt_I t := ⟨by omega, by omega⟩
    rw [q_308_1 _ _ _ _ (tt_h0 J.2.2.2), if_pos (by omega : t < 3)]
    refine tt_al2 hn ht 5 0 b g dh k (by omega) (by omega) J (by omega) (fun g1 dh1 k1 J1 Z1 => ?_)
    rw [q_308_2 _ _ _ _ (tt_h0 J1.2.2.2), if_neg (by omega)]
    refine tt_pr (C2 := fun n r h => mm_Wp 308 (bk_308_5.drop 8) [zR (1, 0, 0), zR (1, 0, 100), zI y, zI nd, zI t, zI 5] (mm_push r [zI n]) h Q) (tt_g34 ht (Or.inl rfl)) J1 (by omega) (fun n k1 _ hx1 hq => ?_) (fun n g2 dh2 k2 _ J2 Z2 => ?_)
    · rw [mm_pI, q_308_5_4 _ _ _ _ _ (tt_h1 hx1)]; exact hq
    rw [mm_pI, q_308_5_8 _ _ _ _ _ _ (tt_h0 J2.2.2.2), if_pos rfl]
    refine tt_pr (C2 := fun n r h => mm_Wp 308 (bk_308_5.drop 17) [zR (1, 0, 0), zR (1, 0, 100), zI y, zI nd, zI t, zI 5] (mm_push r [zI n]) h Q) (tt_g34 ht (Or.inr rfl)) J2 (by omega) (fun n k1 _ hx1 hq => ?_) (fun n g3 dh3 k3 _ J3 Z3 => ?_)
    · rw [mm_pI, q_308_5_13 _ _ _ _ _ (tt_h1 hx1)]; exact hq
    rw [mm_pI, q_308_5_17 _ _ _ _ _ _ (tt_h0 J3.2.2.2), if_pos rfl]
    refine tt_pr (C2 := fun n r h => mm_Wp 308 (bk_308_5.drop 32) [zR (1, 0, 0), zR (1, 0, 100), zI y, zI nd, zI t, zI 5] (mm_push r [zI n]) h Q) (tt_g8 ht hn (tt_aI _ _)) J3 (by omega) (fun n k1 _ hx1 hq => ?_) (fun n g4 dh4 k4 _ J4 Z4 => ?_)
    · rw [mm_pI, q_308_5_25 _ _ _ _ _ (tt_h1 hx1)]; exact hq
    rw [mm_pI, q_308_5_32 _ _ _ _ _ _ (tt_h0 J4.2.2.2), if_pos rfl]
    refine tt_pr (C2 := fun n r h => mm_Wp 308 (bk_308_5.drop 47) [zR (1, 0, 0), zR (1, 0, 100), zI y, zI nd, zI t, zI 5] (mm_push r [zI n]) h Q) (tt_g14 ht tt_Ic (tt_aI _ _)) J4 (by omega) (fun n k1 _ hx1 hq => ?_) (fun n g5 dh5 k5 _ J5 Z5 => ?_)
    · rw [mm_pI, q_308_5_40 _ _ _ _ _ (tt_h1 hx1)]; exact hq
    rw [mm_pI, q_308_5_47 _ _ _ _ _ _ (tt_h0 J5.2.2.2), if_pos rfl]
    refine tt_pr (C2 := fun n r h => mm_Wp 308 (bk_308_5.drop 66) [zR (1, 0, 0), zR (1, 0, 100), zI y, zI nd, zI t, zI 5] (mm_push r [zI n]) h Q) (tt_g6 ht tt_Ic (tt_wI _)) J5 (by omega) (fun n k1 _ hx1 hq => ?_) (fun n g6 dh6 k6 _ J6 Z6 => ?_)
    · rw [mm_pI, q_308_5_57 _ _ _ _ _ (tt_h1 hx1)]; exact hq
    rw [mm_pI, q_308_5_66 _ _ _ _ _ _ (tt_h0 J6.2.2.2), if_pos rfl]
    refine tt_pr (C2 := fun n r h => mm_Wp 308 (bk_308_5.drop 77) [zR (1, 0, 0), zR (1, 0, 100), zI y, zI nd, zI t, zI 5] (mm_push r [zI n]) h Q) (tt_g36 ht tt_Ic tt_Ic) J6 (by omega) (fun n k1 _ hx1 hq => ?_) (fun n g7 dh7 k7 _ J7 Z7 => ?_)
    · rw [mm_pI, q_308_5_72 _ _ _ _ _ (tt_h1 hx1)]; exact hq
    rw [mm_pI, q_308_5_77 _ _ _ _ _ _, if_pos rfl, mm_wid (by omega)]
    refine ih (t + 1) (b + 2 * (5 - 0) + 1 + 1 + 1 + 1 + 1 + 1) g7 dh7 k7 (zI 5) (by omega) (by omega) J7 (by omega) (fun g8 dh8 k8 v5 J8 Z8 => K g8 dh8 k8 v5 ?_ (tt_Zt Z1 (tt_Zt Z2 (tt_Zt Z3 (tt_Zt Z4 (tt_Zt Z5 (tt_Zt Z6 (tt_Zt Z7 Z8))))))))
    rw [show b + 16 * (3 - t) = b + 2 * (5 - 0) + 1 + 1 + 1 + 1 + 1 + 1 + 16 * (3 - (t + 1)) by omega]
    exact J8
/-- alike: the same in both -/
theorem tt_alike {b : Int} {g : mm_Id → Int → Int} {dh : Int → Int} {k : mm_H} (J : tt_J b g dh k) (hb : b + 82 ≤ 1000000) : mm_Cl 308 [zR (1, 0, 0), zR (1, 0, 100), zI y] k (fun r k1 => r = zI 1 ∧ ∃ g2 dh2, tt_J (b + 82) g2 dh2 k1 ∧ tt_Z k k1) := by
  rw [q_308_e]
  refine tt_al1 (tt_wI _) 5 (-2) b g dh k zU (by omega) (by omega) J (by omega) (fun g1 dh1 k1 v5 J1 Z1 => ?_)
  rw [q_308_1 _ _ _ _ (tt_h0 J1.2.2.2), if_neg (by omega)]
  obtain ⟨W, hW⟩ : ∃ W : mm_V → mm_H → Prop, W = fun r k1 => r = zI 1 ∧ ∃ g2 dh2, tt_J (b + 82) g2 dh2 k1 ∧ tt_Z k k1 := ⟨_, rfl⟩
  rw [← hW]
  refine tt_pr (C2 := fun n r h => mm_Wp 308 (bk_308_8.drop 12) [zR (1, 0, 0), zR (1, 0, 100), zI y, zI (mm_w (1 + mm_and (mm_shr y 4) 7)), zI 3, v5] (mm_push r [zI n]) h W) (tt_g27 tt_Ic (tt_aI _ _)) J1 (by omega) (fun n k1 _ hx1 hq => ?_) (fun n g2 dh2 k2 _ J2 Z2 => ?_)
  · rw [mm_pI, q_308_8_6 _ _ _ _ _ (tt_h1 hx1)]; exact hq
  rw [mm_pI, q_308_8_12 _ _ _ _ _ _ (tt_h0 J2.2.2.2), if_pos rfl]
  refine tt_pr (C2 := fun n r h => mm_Wp 308 (bk_308_8.drop 18) [zR (1, 0, 0), zR (1, 0, 100), zI y, zI (mm_w (1 + mm_and (mm_shr y 4) 7)), zI 3, v5] (mm_push r []) h W) tt_g52 J2 (by omega) (fun n k1 s hx1 hq => ?_) (fun n g3 dh3 k3 s J3 Z3 => ?_)
  · have s : zI n = zI 0 := s
    have s : n = 0 := Sum.inl.inj (Sum.inl.inj s)
    rw [mm_pI, q_308_8_15 _ _ _ _ _ _ (tt_h1 hx1), if_pos s]; exact hq
  have s : zI n = zI 0 := s
  have s : n = 0 := Sum.inl.inj (Sum.inl.inj s)
  rw [mm_pI, q_308_8_18, if_pos s, q_308_10, hW]
  refine ⟨Or.inr rfl, rfl, g3, dh3, ?_, tt_Zt Z1 (tt_Zt Z2 Z3)⟩
  have e : b + 16 * (3 - -2) + 1 + 1 = b + 82 := by omega
  rw [e] at J3
  exact J3
end
