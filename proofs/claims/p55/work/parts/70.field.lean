/-! what holds where a node's fields change; acts at the end of a call -/
theorem kk_NWz {h g : mm_Id → Int → Int} {t n : Int} (e : ∀ (f : Nat) j, 24 ≤ f → f ≤ 30 → f ≠ 28 → f ≠ 29 → ¬ (f = 24 ∧ (j = 2 ∨ j = 3 ∨ j = 11)) → g (f, t, n) j = h (f, t, n) j) (e0 : ∀ i, 0 ≤ i → i < h (24, t, n) 6 → g (24, t, h (26, t, n) i) 0 ≠ 0)
    (e16 : ∀ p i, 0 ≤ p → p < 36 → 0 ≤ i → i < 60 → g (16, 0, 0) (60 * h (27, t, n) p + i) = h (16, 0, 0) (60 * h (27, t, n) p + i)) (r2 : 0 ≤ g (24, t, n) 2 ∧ g (24, t, n) 2 < 8) (r3 : 0 ≤ g (24, t, n) 3 ∧ g (24, t, n) 3 < 64) (r11 : 0 ≤ g (24, t, n) 11 ∧ g (24, t, n) 11 ≤ 4)
    (r0 : h (24, t, n) 0 = 0 → g (24, t, n) 11 = 0) (rs : mm_srt (g (28, t, n)) (g (24, t, n) 11)) (rv : ∀ i, 0 ≤ i → i < g (24, t, n) 11 → (1 ≤ g (28, t, n) i ∧ g (28, t, n) i ≤ 99) ∧ -9223372036854775808 ≤ g (29, t, n) i ∧ g (29, t, n) i < 9223372036854775808) (W : kk_NW h t n) : kk_NW g t n := by
  obtain ⟨w0, w6, w26, w11, w011, w14, w9, wp, w2, w3, w1, ws, wk, we, wv, wst, wz⟩ := W
  have f0 := e 24 0 (by omega) (by omega) (by omega) (by omega) (by omega)
  have f1 := e 24 1 (by omega) (by omega) (by omega) (by omega) (by omega)
  have f6 := e 24 6 (by omega) (by omega) (by omega) (by omega) (by omega)
  have f9 := e 24 9 (by omega) (by omega) (by omega) (by omega) (by omega)
  have f14 := e 24 14 (by omega) (by omega) (by omega) (by omega) (by omega)
  have e25 := fun j => e 25 j (by omega) (by omega) (by omega) (by omega) (by omega)
  have e26 := fun j => e 26 j (by omega) (by omega) (by omega) (by omega) (by omega)
  have e27 := fun j => e 27 j (by omega) (by omega) (by omega) (by omega) (by omega)
  have e30 := fun j => e 30 j (by omega) (by omega) (by omega) (by omega) (by omega)
  refine ⟨by rw [f0]; exact w0, by rw [f6]; exact w6, by rw [f0, f6]; exact w26, r11, by rw [f0]; exact r0, by rw [f14]; exact w14, ?_, ?_, r2, r3, by rw [f0, f1]; exact w1, ?_, rs, ?_, rv, ?_, ?_⟩
  · rw [f9, w9]; exact (kk_nzc (fun p _ _ => e27 p)).symm
  · rw [f0]; exact fun k p p0 p1 => by rw [e27]; exact wp k p p0 p1
  · rw [f6]
    intro i j i0 ij jc
    rw [e25, e25]
    exact ws i j i0 ij jc
  · rw [f6]
    intro i i0 i1
    rw [e25, e26]
    have z := we i i0 i1
    exact ⟨z.1, z.2.1, e0 i i0 i1⟩
  · rw [f0, f1]
    intro k i i0 i1
    rw [e30]
    exact wst k i i0 i1
  · rw [f0, f1]
    intro k i i0 i1
    have := w1.1 k
    rw [e27, e16 (i / 60) (i % 60) (by omega) (by omega) (by omega) (by omega)]
    exact wz k i i0 i1
/-- nothing of the node changes -/
theorem kk_NWx {h g : mm_Id → Int → Int} {t n : Int} (e : ∀ (f : Nat) j, 24 ≤ f → f ≤ 30 → g (f, t, n) j = h (f, t, n) j) (e0 : ∀ i, 0 ≤ i → i < h (24, t, n) 6 → g (24, t, h (26, t, n) i) 0 ≠ 0)
    (e16 : ∀ p i, 0 ≤ p → p < 36 → 0 ≤ i → i < 60 → g (16, 0, 0) (60 * h (27, t, n) p + i) = h (16, 0, 0) (60 * h (27, t, n) p + i)) (W : kk_NW h t n) : kk_NW g t n := by
  have e11 := e 24 11 (by omega) (by omega)
  refine kk_NWz (fun f j f0 f1 _ _ _ => e f j f0 f1) e0 e16 ?_ ?_ ?_ ?_ ?_ ?_ W
  · rw [e 24 2 (by omega) (by omega)]; exact W.2.2.2.2.2.2.2.2.1
  · rw [e 24 3 (by omega) (by omega)]; exact W.2.2.2.2.2.2.2.2.2.1
  · rw [e11]; exact W.2.2.2.1
  · rw [e11]; exact W.2.2.2.2.1
  · rw [e11]
    intro i j i0 ij jc
    rw [e 28 _ (by omega) (by omega), e 28 _ (by omega) (by omega)]
    exact W.2.2.2.2.2.2.2.2.2.2.2.2.1 i j i0 ij jc
  · rw [e11]
    intro i i0 i1
    rw [e 28 _ (by omega) (by omega), e 29 _ (by omega) (by omega)]
    exact W.2.2.2.2.2.2.2.2.2.2.2.2.2.2.1 i i0 i1
theorem kk_TWx {h g : mm_Id → Int → Int} {t : Int} (e : ∀ n j, j = 0 ∨ j = 4 ∨ j = 5 ∨ j = 6 → g (24, t, n) j = h (24, t, n) j) (e26 : ∀ n i, g (26, t, n) i = h (26, t, n) i) (T : kk_TW h t) : kk_TW g t := by
  have e0 := fun n => e n 0 (by omega)
  have e4 := fun n => e n 4 (by omega)
  have e5 := fun n => e n 5 (by omega)
  have e6 := fun n => e n 6 (by omega)
  have ec : ∀ m, kk_ec g t m = kk_ec h t m := fun m => by
    refine kk_Sc _ (fun d _ _ => ?_)
    unfold kk_e1
    rw [e6]
    simp only [e26]
  unfold kk_TW at T ⊢
  simp only [e0, e4, e5, e6, e26, ec]
  exact T
section
variable {hi : mm_Id → Int → Int} {dh dh' : Int → Int} {nx ns : Int} {Q : mm_V → mm_H → Prop} {b t : Int} {c Z : mm_Id → Int → Int}
theorem kk_zm (hZ : Z = mm_up (kk_mix c hi) (31, t, 0) 6 1) {x : mm_Id} {j : Int} (hx : 40 ≤ x.1) : hi x j = Z x j := by rw [hZ, mm_upne' (by rintro ⟨q, _⟩; rw [q] at hx; simp at hx), kk_mixM hx]
theorem m209W (hy : 10581 ≤ nx) (hZ : Z = mm_up (kk_mix c hi) (31, t, 0) 6 1) (hW : kk_W b Z dh') (hP : kk_KP Z)
    (K : ∀ h2, kk_acM hi h2 → (∀ x j, x.1 < 40 → h2 x j = hi x j) → (∀ x j, kk_scr x j → h2 x j = hi x j) → Q zU (mm_z h2 dh nx ns)) : mm_Cl 209 [zR (40, 0, 0)] (mm_z hi dh nx ns) Q := by
  refine m209 hy (fun k k0 k1 => ?_) (fun k n k0 k1 n0 n1 => ?_) ?_ K
  · rw [kk_zm hZ (by simp)]
    exact hW.2.2.1.2.2.2.2.2.2.2.2.2.1 k k0 (by omega)
  · have w := (hW.1.2.2.2.2.1 k n k0 (by omega) n0 n1).1
    unfold kk_mw at w ⊢
    rw [kk_zm hZ (by simp), kk_zm hZ (by simp), kk_zm hZ (by simp)]
    exact w
  · have := hP.2.1
    rw [kk_zm hZ (by simp)]
    omega
end
/-- the end of a call that acts -/
theorem kk_actend {b t : Int} {h hc0 g gm g2 gx Z : mm_Id → Int → Int} {dh : Int → Int} (hb : b + 1 ≤ 1000000) (hZ : Z = mm_up (kk_mix hc0 gm) (31, t, 0) 6 1) (W : kk_W b Z dh) (P : kk_KP Z) (c : kk_acC t hc0 g) (m : kk_acM gm g2) (hg : ∀ x j, x.1 < 40 → g2 x j = g x j) (s1 : ∀ x j, kk_scr x j → g2 x j = gm x j) (s2 : ∀ x j, kk_scr x j → gm x j = gx x j) (s3 : ∀ x j, kk_scr x j → gx x j = h x j) : kk_core (b + 1) g2 dh ∧ ∀ x j, kk_scr x j → g2 x j = h x j :=
  ⟨kk_coreS hb (kk_actL hZ W P c m hg), fun x j hs => by rw [s1 x j hs, s2 x j hs, s3 x j hs]⟩

