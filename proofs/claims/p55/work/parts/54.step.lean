/-! the calls of both: steps, users, handles -/
/-- cells that a call may set besides -/
theorem kk_gxN {x : mm_Id} {j : Int} (hx : ¬ kk_gx x j) : ¬ (x = (1, 0, 0) ∧ (j = 9 ∨ j = 12)) ∧ x.1 ≠ 5 ∧ x.1 ≠ 6 ∧ x.1 ≠ 14 ∧ x.1 ≠ 56 ∧ x.1 ≠ 65 ∧ x.1 ≠ 66 ∧ ¬ (x = (40, 0, 0) ∧ (j = 0 ∨ j = 29 ∨ j = 30 ∨ j = 34 ∨ j = 35 ∨ j = 36)) := by
  unfold kk_gx at hx
  simp only [not_or] at hx
  exact hx
theorem kk_scrN {x : mm_Id} {j : Int} (hs : kk_scr x j) : x ≠ (1, 0, 0) ∧ x.1 ≠ 5 ∧ x.1 ≠ 6 ∧ x.1 ≠ 14 ∧ x.1 ≠ 56 ∧ x.1 ≠ 65 ∧ x.1 ≠ 66 ∧ ¬ (x = (40, 0, 0) ∧ (j = 0 ∨ j = 29 ∨ j = 30 ∨ j = 34 ∨ j = 35 ∨ j = 36)) := by
  unfold kk_scr at hs
  refine ⟨?_, ?_, ?_, ?_, ?_, ?_, ?_, ?_⟩
  · rintro rfl; simp at hs
  · intro q; rcases hs with q2 | q2 | ⟨q3, q2⟩ | q2; omega; omega; (rw [q3] at q; exact absurd q (by decide)); omega
  · intro q; rcases hs with q2 | q2 | ⟨q3, q2⟩ | q2; omega; omega; (rw [q3] at q; exact absurd q (by decide)); omega
  · intro q; rcases hs with q2 | q2 | ⟨q3, q2⟩ | q2; omega; omega; (rw [q3] at q; exact absurd q (by decide)); omega
  · intro q; rcases hs with q2 | q2 | ⟨q3, q2⟩ | q2; omega; omega; (rw [q3] at q; exact absurd q (by decide)); omega
  · intro q; rcases hs with q2 | q2 | ⟨q3, q2⟩ | q2; omega; omega; (rw [q3] at q; exact absurd q (by decide)); omega
  · intro q; rcases hs with q2 | q2 | ⟨q3, q2⟩ | q2; omega; omega; (rw [q3] at q; exact absurd q (by decide)); omega
  · rintro ⟨rfl, q⟩; simp at hs; omega
/-- a handle here is one there -/
theorem kk_hnd {b : Int} {h : mm_Id → Int → Int} {dh : Int → Int} (hc : kk_core b h dh) {k : Int} (hk : 1 ≤ k ∧ k < 9) : (mm_isD (dh (k - 1)) → h (63, 0, 0) k = h (34, k - 1, 0) 2 ∧ (1 ≤ h (34, k - 1, 0) 2 ∧ h (34, k - 1, 0) 2 < 37) ∧ h (24, dh (k - 1), h (34, k - 1, 0) 2) 0 = 1 ∧ h (62, 0, 0) k = dh (k - 1) ∧ 0 < kk_no h (dh (k - 1)) ∧ ∀ a, 0 ≤ a → a < 2160 → h (35, k - 1, 0) a = h (64, 0, 0) (2160 * k + a)) ∧ (¬ mm_isD (dh (k - 1)) → h (63, 0, 0) k = 0) := by
  have := hc.1.2.2.1.2.2.2.2.2.2.2.2.2.2.2.2.2.1 (k - 1) (by omega) (by omega)
  rw [show k - 1 + 1 = k by omega] at this
  exact ⟨this.1, fun q => (this.2 q).1⟩
theorem kk_smn {b : Int} {h : mm_Id → Int → Int} {dh : Int → Int} (hc : kk_core b h dh) {s : Int} (h0 : 0 ≤ s) (h1 : s < 13) : 0 ≤ kk_no h s ∧ kk_no h s < 2000000 := kk_nmC hc s h0 h1

theorem c_27 {b : Int} {h : mm_Id → Int → Int} {dh : Int → Int} {nx ns : Int} (hy : 10581 ≤ nx) (hc : kk_core b h dh) (hb : b + 1 ≤ 1000000) {t n : Int} (ht : -2147483648 ≤ t ∧ t < 2147483648) (hn : -2147483648 ≤ n ∧ n < 2147483648) : kk_call 27 244 [zI t, zI n] b h dh nx ns kk_SI := by
  unfold kk_call
  have hx : 5275 ≤ nx := by omega
  have hc0 : kk_core b (mm_up h (40, 0, 0) 0 0) dh := kk_core0 hc
  have mfin : ∀ v w : Int, w = v → (fun (r2 : mm_V) (h2 : mm_H) => r2 = zI v ∧ ∃ g2, h2 = mm_z g2 dh nx ns ∧ kk_core (b + 1) g2 dh ∧ ∀ x j, kk_scr x j → g2 x j = h x j) (zI w) (mm_z (mm_up h (40, 0, 0) 0 0) dh nx ns) :=
    fun v w e => ⟨by rw [e], _, rfl, kk_coreS hb hc0, fun x j hs => kk_scr0 hs⟩
  rw [r_27_e (hx := hx)]
  refine s57 hx (fun k1 k2 => ?_) (fun kn => ?_)
  · have hS : mm_isS (t - 1) := ⟨by omega, by omega⟩
    obtain ⟨e63, r34, _, e62, nn, e35⟩ := (kk_hnd hc k1).1 k2
    rw [mm_pR, r_27_0_3a (hty0 := hS) (hx := hx)]
    have hD : 0 ≤ dh (t - 1) ∧ dh (t - 1) < 5 := k2
    have en := kk_NC hc (dh (t - 1)) hD.1 (by omega)
    have en2 : kk_no h (dh (t - 1)) = h (31, dh (t - 1), 0) 3 := if_pos hD.2
    have sm := kk_smn hc hD.1 (by omega)
    split
    · rename_i c
      refine ⟨⟨_, rfl, by omega, by omega⟩, _, _, rfl, ?_⟩
      rw [r_244_e (hy := hy)]
      refine m242 hy (fun w1 w2 => ?_) (fun w => absurd ⟨k1, by rw [mm_upf (by decide), e63]; omega⟩ w)
      rw [mm_pI, r_244_0_6 (hy := hy), if_neg (by decide)]
      rw [if_pos c, mm_upf (by decide), e62, mm_upf (by decide), r_244_4 (hy := hy)]
      refine ⟨by omega, by omega, mfin _ _ ?_⟩
      rw [en, en2]
    · rename_i c
      split
      · rename_i c2
        rw [r_27_4 (hx := hx)]
        refine ⟨⟨_, rfl, by omega, by omega⟩, _, _, rfl, ?_⟩
        rw [r_244_e (hy := hy)]
        refine m242 hy (fun w1 w2 => ?_) (fun w => absurd ⟨k1, by rw [mm_upf (by decide), e63]; omega⟩ w)
        rw [mm_pI, r_244_0_6 (hy := hy), if_neg (by decide)]
        rw [if_neg c, if_pos c2, mm_upf (by decide), r_244_4 (hy := hy)]
        exact ⟨by omega, mfin _ _ e63⟩
      · rename_i c2
        rw [r_27_4 (hx := hx)]
        refine ⟨⟨_, rfl, by omega, by omega⟩, _, _, rfl, ?_⟩
        rw [r_244_e (hy := hy)]
        refine m242 hy (fun w1 w2 => ?_) (fun w => absurd ⟨k1, by rw [mm_upf (by decide), e63]; omega⟩ w)
        rw [mm_pI, r_244_0_6 (hy := hy), if_neg (by decide)]
        rw [if_neg c, if_neg c2, r_244_4 (hy := hy)]
        exact mfin _ _ rfl
  · have hno : (1 ≤ t ∧ t < 9) → ¬ 0 < h (63, 0, 0) t := fun w => by
      have := (kk_hnd hc w).2 (fun q => kn ⟨w, q⟩)
      omega
    rw [mm_pR, r_27_0_3 (hx := hx)]
    refine ⟨⟨_, rfl, by omega, by omega⟩, _, _, rfl, ?_⟩
    rw [r_244_e (hy := hy)]
    refine m242 hy (fun w1 w2 => absurd (by rw [mm_upf (by decide)] at w2; exact w2) (hno w1)) (fun w => ?_)
    rw [mm_pI, r_244_0_6 (hy := hy), if_pos rfl]
    exact mfin _ _ rfl

