/-! the calls of both: steps, users, handles -/
/-- cells that a call may set besides -/
theorem kk_gxN {x : mm_Id} {j : Int} (hx : ¬ kk_gx x j) : ¬ (x = (1, 0, 0) ∧ (j = 9 ∨ j = 12)) ∧ x.1 ≠ 5 ∧ x.1 ≠ 6 ∧ x.1 ≠ 14 ∧ x.1 ≠ 56 ∧ x.1 ≠ 65 ∧ x.1 ≠ 66 ∧ ¬ (x = (40, 0, 0) ∧ (j = 0 ∨ j = 29 ∨ j = 30 ∨ j = 34 ∨ j = 35 ∨ j = 36)) := by
  unfold kk_gx at hx
  simp only [not_or] at hx
  exact hx
theorem kk_scrN {x : mm_Id} {j : Int} (hs : kk_scr x j) : x ≠ (1, 0, 0) ∧ x.1 ≠ 5 ∧ x.1 ≠ 6 ∧ x.1 ≠ 14 ∧ x.1 ≠ 56 ∧ x.1 ≠ 65 ∧ x.1 ≠ 66 ∧ ¬ (x = (40, 0, 0) ∧ (j = 0 ∨ j = 29 ∨ j = 30 ∨ j = 34 ∨ j = 35 ∨ j = 36)) := by
  unfold kk_scr at hs
  refine ⟨?_, ?_, ?_, ?_, ?_, ?_, ?_, ?_⟩
  · rintro rfl; simp at hs
  · intro q; rcases hs with q2 | q2 | ⟨q3, q2⟩ | q2; omega; omega; (rw [q3] at q; exact absurd q (by decide)); omega
  · intro q; rcases hs with q2 | q2 | ⟨q3, q2⟩ | q2; omega; omega; (rw [q3] at q; exact absurd q (by decide)); omega
  · intro q; rcases hs with q2 | q2 | ⟨q3, q2⟩ | q2; omega; omega; (rw [q3] at q; exact absurd q (by decide)); omega
  · intro q; rcases hs with q2 | q2 | ⟨q3, q2⟩ | q2; omega; omega; (rw [q3] at q; exact absurd q (by decide)); omega
  · intro q; rcases hs with q2 | q2 | ⟨q3, q2⟩ | q2; omega; omega; (rw [q3] at q; exact absurd q (by decide)); omega
  · intro q; rcases hs with q2 | q2 | ⟨q3, q2⟩ | q2; omega; omega; (rw [q3] at q; exact absurd q (by decide)); omega
  · rintro ⟨rfl, q⟩; simp at hs; omega
/-- who calls has changed -/
theorem kk_upA {b : Int} {h g : mm_Id → Int → Int} {dh : Int → Int} (hb : b + 1 ≤ 1000000) (hc : kk_core b h dh) {u : Int} (hu : 0 ≤ u ∧ u < 8) (hg : g = mm_up (mm_up (mm_up h (1, 0, 0) 12 u) (40, 0, 0) 0 0) (40, 0, 0) 29 u) : kk_core (b + 1) g dh ∧ ∀ x j, kk_scr x j → g x j = h x j := by
  subst hg
  have ee : ∀ (x : mm_Id) j, ¬ (x = (1, 0, 0) ∧ (j = 9 ∨ j = 12)) → ¬ (x = (40, 0, 0) ∧ (j = 0 ∨ j = 29 ∨ j = 30 ∨ j = 34 ∨ j = 35 ∨ j = 36)) → mm_up (mm_up (mm_up h (1, 0, 0) 12 u) (40, 0, 0) 0 0) (40, 0, 0) 29 u x j = h x j := fun x j a1 a2 => by
    rw [mm_upne' (fun q => a2 ⟨q.1, by omega⟩), mm_upne' (fun q => a2 ⟨q.1, by omega⟩), mm_upne' (fun q => a1 ⟨q.1, by omega⟩)]
  refine ⟨kk_coreH hb hc (fun x j hx => ee x j (kk_gxN hx).1 (kk_gxN hx).2.2.2.2.2.2.2) ?_, fun x j hs => ee x j (fun q => (kk_scrN hs).1 q.1) (kk_scrN hs).2.2.2.2.2.2.2⟩
  obtain ⟨g1, g2, g3, g4, g5, g6, g7, g8⟩ := hc.1.2.2.2
  simp only [kk_KG, mm_up, Prod.mk.injEq]
  simp
  exact ⟨hu, g2, g3, g4, g5, g6, g7, by simpa using g8⟩
/-- the path has changed -/
theorem kk_upP {b : Int} {h g : mm_Id → Int → Int} {dh : Int → Int} (hb : b + 1 ≤ 1000000) (hc : kk_core b h dh) (e : ∀ (x : mm_Id) j, x.1 ≠ 5 → x.1 ≠ 6 → x.1 ≠ 65 → ¬ (x = (40, 0, 0) ∧ (j = 0 ∨ j = 30)) → g x j = h x j) (h1 : g (5, 0, 0) 2 = g (40, 0, 0) 30 ∧ 0 ≤ g (5, 0, 0) 2 ∧ g (5, 0, 0) 2 ≤ 8) (h2 : ∀ i, 0 ≤ i → i < g (5, 0, 0) 2 → g (6, 0, 0) i = g (65, 0, 0) i ∧ 0 ≤ g (6, 0, 0) i ∧ g (6, 0, 0) i ≤ 1000000) : kk_core (b + 1) g dh ∧ ∀ x j, kk_scr x j → g x j = h x j := by
  refine ⟨kk_coreH hb hc (fun x j hx => ?_) ?_, fun x j hs => ?_⟩
  · have := kk_gxN hx
    exact e x j this.2.1 this.2.2.1 this.2.2.2.2.2.1 (fun q => this.2.2.2.2.2.2.2 ⟨q.1, by omega⟩)
  · obtain ⟨g1, g2, g3, g4, g5, g6, g7, g8⟩ := hc.1.2.2.2
    have e1 : ∀ j, g (1, 0, 0) j = h (1, 0, 0) j := fun j => e _ _ (by decide) (by decide) (by decide) (by simp)
    have e14 : ∀ j, g (14, 0, 0) j = h (14, 0, 0) j := fun j => e _ _ (by decide) (by decide) (by decide) (by simp)
    have e24 : ∀ t n j, g (24, t, n) j = h (24, t, n) j := fun t n j => e _ _ (by simp) (by simp) (by simp) (by simp)
    have e40 : ∀ j, ¬ (j = 0 ∨ j = 30) → g (40, 0, 0) j = h (40, 0, 0) j := fun j hj => e _ _ (by decide) (by decide) (by decide) (fun q => hj q.2)
    unfold kk_KG
    refine ⟨?_, h1, h2, ?_, ?_, ?_, ?_, ?_⟩
    · rw [e1, e40 29 (by decide)]; exact g1
    · rw [e1, e40 34 (by decide)]; exact g4
    · rw [e14, e40 1 (by decide)]; exact g5
    · rw [e14, e40 35 (by decide)]; exact g6
    · rw [e14, e40 36 (by decide)]; exact g7
    · rw [e1]; exact ⟨fun q n n1 n2 => by rw [e24, e24]; exact g8.1 q n n1 n2, fun q => by rw [e24]; exact g8.2 q⟩
  · have := kk_scrN hs
    exact e x j this.2.1 this.2.2.1 this.2.2.2.2.2.1 (fun q => this.2.2.2.2.2.2.2 ⟨q.1, by omega⟩)

theorem c_20 {b : Int} {h : mm_Id → Int → Int} {dh : Int → Int} {nx ns : Int} (hy : 5306 ≤ nx) (hc : kk_core b h dh) (hb : b + 1 ≤ 1000000) {t : Int} (ht : -2147483648 ≤ t ∧ t < 2147483648) : kk_call 20 238 [zI t] b h dh nx ns kk_SI := by
  unfold kk_call
  have hx : 5275 ≤ nx := by omega
  have hc0 : kk_core b (mm_up h (40, 0, 0) 0 0) dh := kk_core0 hc
  have mfin : ∀ v w : Int, w = v → (fun (r2 : mm_V) (h2 : mm_H) => r2 = zI v ∧ ∃ g2, h2 = mm_z g2 dh nx ns ∧ kk_core (b + 1) g2 dh ∧ ∀ x j, kk_scr x j → g2 x j = h x j) (zI w) (mm_z (mm_up h (40, 0, 0) 0 0) dh nx ns) :=
    fun v w e => ⟨by rw [e], _, rfl, kk_coreS hb hc0, fun x j hs => kk_scr0 hs⟩
  have hcal := kk_cal hc
  rw [r_20_e (hx := hx)]
  refine s59 hx (fun w => ?_) (fun w => ?_)
  · rw [mm_pI, r_20_0_3 (hx := hx), if_neg (by decide)]
    refine ⟨⟨_, rfl, by omega, by omega⟩, _, _, rfl, ?_⟩
    rw [r_238_e (hy := hy)]
    refine m174 hy (fun w2 => ?_) (fun w2 => absurd (by omega) w2)
    rw [mm_pI, r_238_0_8 (hy := hy), if_neg (by decide)]
    refine ⟨?_, _, rfl, kk_upA hb hc w rfl⟩
    rw [mm_upj (by decide), mm_upf (by decide), hcal.1]
  · rw [mm_pI, r_20_0_3 (hx := hx), if_pos rfl]
    refine ⟨⟨_, rfl, by omega, by omega⟩, _, _, rfl, ?_⟩
    rw [r_238_e (hy := hy)]
    refine m174 hy (fun w2 => absurd (by omega) w) (fun w2 => ?_)
    rw [mm_pI, r_238_0_8 (hy := hy), if_pos rfl]
    exact mfin _ _ rfl

theorem kk_ups2 {b : Int} {h : mm_Id → Int → Int} {dh : Int → Int} (hb : b + 1 ≤ 1000000) (hc : kk_core b h dh) {x : Int} (hl : h (5, 0, 0) 2 < 8) (hx : 0 ≤ x ∧ x ≤ 1000000) : ∀ g, g = mm_up (mm_up (mm_up (mm_up (mm_up h (6, 0, 0) (h (5, 0, 0) 2) x) (5, 0, 0) 2 (h (5, 0, 0) 2 + 1)) (40, 0, 0) 0 0) (65, 0, 0) (h (5, 0, 0) 2) x) (40, 0, 0) 30 (h (5, 0, 0) 2 + 1) → kk_core (b + 1) g dh ∧ ∀ y j, kk_scr y j → g y j = h y j := by
  rintro g rfl
  obtain ⟨⟨p1, p2, p3⟩, p4⟩ := kk_pth hc
  refine kk_upP hb hc (fun y j a1 a2 a3 a4 => ?_) ?_ ?_
  · rw [mm_upne' (fun q => a4 ⟨q.1, by omega⟩), mm_upx (fun q => a3 (by rw [q])), mm_upne' (fun q => a4 ⟨q.1, by omega⟩), mm_upx (fun q => a1 (by rw [q])), mm_upx (fun q => a2 (by rw [q]))]
  · rw [mm_upf (by decide), mm_upf (by decide), mm_upf (by decide), mm_ups, mm_ups]
    omega
  · rw [mm_upf (by decide), mm_upf (by decide), mm_upf (by decide), mm_ups]
    intro i i0 i1
    have a6 : mm_up (mm_up (mm_up (mm_up (mm_up h (6, 0, 0) (h (5, 0, 0) 2) x) (5, 0, 0) 2 (h (5, 0, 0) 2 + 1)) (40, 0, 0) 0 0) (65, 0, 0) (h (5, 0, 0) 2) x) (40, 0, 0) 30 (h (5, 0, 0) 2 + 1) (6, 0, 0) i = mm_up h (6, 0, 0) (h (5, 0, 0) 2) x (6, 0, 0) i := by
      rw [mm_upf (by decide), mm_upf (by decide), mm_upf (by decide), mm_upf (by decide)]
    have a65 : mm_up (mm_up (mm_up (mm_up (mm_up h (6, 0, 0) (h (5, 0, 0) 2) x) (5, 0, 0) 2 (h (5, 0, 0) 2 + 1)) (40, 0, 0) 0 0) (65, 0, 0) (h (5, 0, 0) 2) x) (40, 0, 0) 30 (h (5, 0, 0) 2 + 1) (65, 0, 0) i = mm_up (mm_up (mm_up (mm_up h (6, 0, 0) (h (5, 0, 0) 2) x) (5, 0, 0) 2 (h (5, 0, 0) 2 + 1)) (40, 0, 0) 0 0) (65, 0, 0) (h (5, 0, 0) 2) x (65, 0, 0) i := by
      rw [mm_upf (by decide)]
    rw [a6, a65]
    by_cases c : i = h (5, 0, 0) 2
    · subst c
      rw [mm_ups, mm_ups]; omega
    · rw [mm_upj c, mm_upj c, mm_upf (by decide), mm_upf (by decide), mm_upf (by decide)]
      exact p4 i i0 (by omega)

theorem c_2 {b : Int} {h : mm_Id → Int → Int} {dh : Int → Int} {nx ns : Int} (hy : 5306 ≤ nx) (hc : kk_core b h dh) (hb : b + 1 ≤ 1000000) {t : Int} (ht : -2147483648 ≤ t ∧ t < 2147483648) : kk_call 2 214 [zI t] b h dh nx ns kk_SI := by
  unfold kk_call
  have hx : 5275 ≤ nx := by omega
  have hc0 : kk_core b (mm_up h (40, 0, 0) 0 0) dh := kk_core0 hc
  have mfin : ∀ v w : Int, w = v → (fun (r2 : mm_V) (h2 : mm_H) => r2 = zI v ∧ ∃ g2, h2 = mm_z g2 dh nx ns ∧ kk_core (b + 1) g2 dh ∧ ∀ x j, kk_scr x j → g2 x j = h x j) (zI w) (mm_z (mm_up h (40, 0, 0) 0 0) dh nx ns) :=
    fun v w e => ⟨by rw [e], _, rfl, kk_coreS hb hc0, fun x j hs => kk_scr0 hs⟩
  obtain ⟨⟨p1, p2, p3⟩, p4⟩ := kk_pth hc
  have tail : (0 ≤ t ∧ t ≤ 1000000) → mm_Wp 2 (mm_blk 2 2) [zR (1, 0, 0), zI t] [] (mm_z h dh nx ns) (fun (r : mm_V) (h1 : mm_H) => kk_SI r ∧ ∃ g dh1, h1 = mm_z g dh1 nx ns ∧ mm_Cl 214 [zR (40, 0, 0), zI t] (mm_z g dh1 nx ns) (fun r2 h2 => r2 = r ∧ ∃ g2, h2 = mm_z g2 dh1 nx ns ∧ kk_core (b + 1) g2 dh1 ∧ ∀ x j, kk_scr x j → g2 x j = h x j)) := fun hr => by
    rw [r_2_2 (hx := hx), r_120_e (hx := hx)]
    split
    · rename_i c
      refine ⟨⟨p2, c⟩, ?_⟩
      rw [mm_pI, r_2_2_4 (hx := hx), if_neg (by decide), r_2_4 (hx := hx), mm_ups, mm_upf (show ¬ (5 : Nat) = 6 by decide), mm_wi (by omega) (by omega)]
      refine ⟨⟨_, rfl, by omega, by omega⟩, _, _, rfl, ?_⟩
      rw [r_214_e (hy := hy), if_neg (by omega)]
      refine m174 hy (fun w => ?_) (fun w => absurd (by omega) w)
      have e30 : mm_up (mm_up (mm_up h (6, 0, 0) (h (5, 0, 0) 2) t) (5, 0, 0) 2 (h (5, 0, 0) 2 + 1)) (40, 0, 0) 0 0 (40, 0, 0) 30 = h (5, 0, 0) 2 := by
        rw [mm_upj (by decide), mm_upf (by decide), mm_upf (by decide), p1]
      rw [mm_pI, r_214_1_5 (hy := hy), if_neg (by decide), e30, if_neg (by omega), mm_ups, mm_upf (show ¬ (40 : Nat) = 65 by decide), e30, mm_wi (by omega) (by omega)]
      exact ⟨⟨p2, c⟩, rfl, _, rfl, kk_ups2 hb hc c hr _ rfl⟩
    · rename_i c
      rw [mm_pI, r_2_2_4 (hx := hx), if_pos rfl, r_2_4 (hx := hx)]
      refine ⟨⟨_, rfl, by omega, by omega⟩, _, _, rfl, ?_⟩
      rw [r_214_e (hy := hy), if_neg (by omega)]
      refine m174 hy (fun w => ?_) (fun w => absurd (by omega) w)
      rw [mm_pI, r_214_1_5 (hy := hy), if_neg (by decide), mm_upj (by decide), if_pos (by omega)]
      exact mfin _ _ rfl
  rw [r_2_e (hx := hx)]
  split
  · rename_i c
    rw [r_119_e (hx := hx), mm_pU, r_2_0_6 (hx := hx)]
    refine ⟨⟨_, rfl, by omega, by omega⟩, _, _, rfl, ?_⟩
    rw [r_214_e (hy := hy), if_pos c]
    refine ⟨rfl, _, rfl, kk_upP hb hc (fun y j a1 a2 a3 a4 => ?_) ?_ ?_⟩
    · rw [mm_upne' (fun q => a4 ⟨q.1, by omega⟩), mm_upne' (fun q => a4 ⟨q.1, by omega⟩), mm_upx (fun q => a1 (by rw [q]))]
    · rw [mm_upf (by decide), mm_upf (by decide), mm_ups, mm_ups]; omega
    · rw [mm_upf (by decide), mm_upf (by decide), mm_ups]; intro i i0 i1; omega
  · rename_i c
    split
    · rename_i c2
      exact tail (by omega)
    · rename_i c2
      refine s58 hx (fun w => ?_) (fun w => ?_)
      · rw [mm_pI, r_2_1_5 (hx := hx), if_neg (by decide)]
        exact tail (by omega)
      · rw [mm_pI, r_2_1_5 (hx := hx), if_pos rfl]
        refine ⟨⟨_, rfl, by omega, by omega⟩, _, _, rfl, ?_⟩
        rw [r_214_e (hy := hy), if_neg c]
        refine m174 hy (fun w2 => absurd (by omega) w) (fun w2 => ?_)
        rw [mm_pI, r_214_1_5 (hy := hy), if_pos rfl]
        exact mfin _ _ rfl

/-- a handle here is one there -/
theorem kk_hnd {b : Int} {h : mm_Id → Int → Int} {dh : Int → Int} (hc : kk_core b h dh) {k : Int} (hk : 1 ≤ k ∧ k < 9) : (mm_isD (dh (k - 1)) → h (63, 0, 0) k = h (34, k - 1, 0) 2 ∧ (1 ≤ h (34, k - 1, 0) 2 ∧ h (34, k - 1, 0) 2 < 37) ∧ h (24, dh (k - 1), h (34, k - 1, 0) 2) 0 = 1 ∧ h (62, 0, 0) k = dh (k - 1) ∧ 0 < kk_no h (dh (k - 1)) ∧ ∀ a, 0 ≤ a → a < 2160 → h (35, k - 1, 0) a = h (64, 0, 0) (2160 * k + a)) ∧ (¬ mm_isD (dh (k - 1)) → h (63, 0, 0) k = 0) := by
  have := hc.1.2.2.1.2.2.2.2.2.2.2.2.2.2.2.2.2.1 (k - 1) (by omega) (by omega)
  rw [show k - 1 + 1 = k by omega] at this
  exact ⟨this.1, fun q => (this.2 q).1⟩
theorem kk_lok {b : Int} {h : mm_Id → Int → Int} {dh : Int → Int} (hc : kk_core b h dh) {a : Int} (h0 : 2160 ≤ a) (h1 : a < 19440) : 0 ≤ h (64, 0, 0) a ∧ h (64, 0, 0) a ≤ 2 := hc.1.2.2.1.2.2.2.2.2.2.2.2.2.2.2.2.2.2.1 a h0 h1
theorem kk_smn {b : Int} {h : mm_Id → Int → Int} {dh : Int → Int} (hc : kk_core b h dh) {s : Int} (h0 : 0 ≤ s) (h1 : s < 13) : 0 ≤ kk_no h s ∧ kk_no h s < 2000000 := kk_nmC hc s h0 h1

theorem c_27 {b : Int} {h : mm_Id → Int → Int} {dh : Int → Int} {nx ns : Int} (hy : 5306 ≤ nx) (hc : kk_core b h dh) (hb : b + 1 ≤ 1000000) {t n : Int} (ht : -2147483648 ≤ t ∧ t < 2147483648) (hn : -2147483648 ≤ n ∧ n < 2147483648) : kk_call 27 244 [zI t, zI n] b h dh nx ns kk_SI := by
  unfold kk_call
  have hx : 5275 ≤ nx := by omega
  have hc0 : kk_core b (mm_up h (40, 0, 0) 0 0) dh := kk_core0 hc
  have mfin : ∀ v w : Int, w = v → (fun (r2 : mm_V) (h2 : mm_H) => r2 = zI v ∧ ∃ g2, h2 = mm_z g2 dh nx ns ∧ kk_core (b + 1) g2 dh ∧ ∀ x j, kk_scr x j → g2 x j = h x j) (zI w) (mm_z (mm_up h (40, 0, 0) 0 0) dh nx ns) :=
    fun v w e => ⟨by rw [e], _, rfl, kk_coreS hb hc0, fun x j hs => kk_scr0 hs⟩
  rw [r_27_e (hx := hx)]
  refine s57 hx (fun k1 k2 => ?_) (fun kn => ?_)
  · have hS : mm_isS (t - 1) := ⟨by omega, by omega⟩
    obtain ⟨e63, r34, _, e62, nn, e35⟩ := (kk_hnd hc k1).1 k2
    rw [mm_pR, r_27_0_3a (hty0 := hS) (hx := hx)]
    have hD : 0 ≤ dh (t - 1) ∧ dh (t - 1) < 5 := k2
    have en := kk_NC hc (dh (t - 1)) hD.1 (by omega)
    have en2 : kk_no h (dh (t - 1)) = h (31, dh (t - 1), 0) 3 := if_pos hD.2
    have sm := kk_smn hc hD.1 (by omega)
    split
    · rename_i c
      refine ⟨⟨_, rfl, by omega, by omega⟩, _, _, rfl, ?_⟩
      rw [r_244_e (hy := hy)]
      refine m242 hy (fun w1 w2 => ?_) (fun w => absurd ⟨k1, by rw [mm_upf (by decide), e63]; omega⟩ w)
      rw [mm_pI, r_244_0_6 (hy := hy), if_neg (by decide)]
      rw [if_pos c, mm_upf (by decide), e62, mm_upf (by decide), r_244_4 (hy := hy)]
      refine ⟨by omega, by omega, mfin _ _ ?_⟩
      rw [en, en2]
    · rename_i c
      split
      · rename_i c2
        rw [r_27_4 (hx := hx)]
        refine ⟨⟨_, rfl, by omega, by omega⟩, _, _, rfl, ?_⟩
        rw [r_244_e (hy := hy)]
        refine m242 hy (fun w1 w2 => ?_) (fun w => absurd ⟨k1, by rw [mm_upf (by decide), e63]; omega⟩ w)
        rw [mm_pI, r_244_0_6 (hy := hy), if_neg (by decide)]
        rw [if_neg c, if_pos c2, mm_upf (by decide), r_244_4 (hy := hy)]
        exact ⟨by omega, mfin _ _ e63⟩
      · rename_i c2
        rw [r_27_4 (hx := hx)]
        refine ⟨⟨_, rfl, by omega, by omega⟩, _, _, rfl, ?_⟩
        rw [r_244_e (hy := hy)]
        refine m242 hy (fun w1 w2 => ?_) (fun w => absurd ⟨k1, by rw [mm_upf (by decide), e63]; omega⟩ w)
        rw [mm_pI, r_244_0_6 (hy := hy), if_neg (by decide)]
        rw [if_neg c, if_neg c2, r_244_4 (hy := hy)]
        exact mfin _ _ rfl
  · have hno : (1 ≤ t ∧ t < 9) → ¬ 0 < h (63, 0, 0) t := fun w => by
      have := (kk_hnd hc w).2 (fun q => kn ⟨w, q⟩)
      omega
    rw [mm_pR, r_27_0_3 (hx := hx)]
    refine ⟨⟨_, rfl, by omega, by omega⟩, _, _, rfl, ?_⟩
    rw [r_244_e (hy := hy)]
    refine m242 hy (fun w1 w2 => absurd (by rw [mm_upf (by decide)] at w2; exact w2) (hno w1)) (fun w => ?_)
    rw [mm_pI, r_244_0_6 (hy := hy), if_pos rfl]
    exact mfin _ _ rfl

theorem c_24 {b : Int} {h : mm_Id → Int → Int} {dh : Int → Int} {nx ns : Int} (hy : 5306 ≤ nx) (hc : kk_core b h dh) (hb : b + 1 ≤ 1000000) {t n : Int} (ht : -2147483648 ≤ t ∧ t < 2147483648) (hn : -2147483648 ≤ n ∧ n < 2147483648) : kk_call 24 247 [zI t, zI n] b h dh nx ns kk_SI := by
  unfold kk_call
  have hx : 5275 ≤ nx := by omega
  have hc0 : kk_core b (mm_up h (40, 0, 0) 0 0) dh := kk_core0 hc
  have mfin : ∀ v w : Int, w = v → (fun (r2 : mm_V) (h2 : mm_H) => r2 = zI v ∧ ∃ g2, h2 = mm_z g2 dh nx ns ∧ kk_core (b + 1) g2 dh ∧ ∀ x j, kk_scr x j → g2 x j = h x j) (zI w) (mm_z (mm_up h (40, 0, 0) 0 0) dh nx ns) :=
    fun v w e => ⟨by rw [e], _, rfl, kk_coreS hb hc0, fun x j hs => kk_scr0 hs⟩
  rw [r_24_e (hx := hx)]
  refine s57 hx (fun k1 k2 => ?_) (fun kn => ?_)
  · have hS : mm_isS (t - 1) := ⟨by omega, by omega⟩
    obtain ⟨e63, r34, _, e62, nn, e35⟩ := (kk_hnd hc k1).1 k2
    rw [mm_pR, r_24_0_3a (hty0 := hS) (hx := hx)]
    split
    · rename_i c
      rw [r_24_2 (hx := hx), r_24_4 (hx := hx)]
      refine ⟨⟨_, rfl, by omega, by omega⟩, _, _, rfl, ?_⟩
      rw [r_247_e (hy := hy)]
      refine m242 hy (fun w1 w2 => ?_) (fun w => absurd ⟨k1, by rw [mm_upf (by decide), e63]; omega⟩ w)
      rw [mm_pI, r_247_0_6 (hy := hy), if_neg (by decide)]
      refine m174 hy (fun w => by omega) (fun w => ?_)
      rw [mm_pI, r_247_1_5 (hy := hy), if_pos rfl, r_247_3 (hy := hy)]
      exact mfin _ _ rfl
    · rename_i c2
      split
      · rename_i c
        have e := e35 n (by omega) c
        have lk := kk_lok hc (a := 2160 * t + n) (by omega) (by omega)
        rw [r_24_4 (hx := hx)]
        refine ⟨by omega, ⟨_, rfl, by omega, by omega⟩, _, _, rfl, ?_⟩
        rw [r_247_e (hy := hy)]
        refine m242 hy (fun w1 w2 => ?_) (fun w => absurd ⟨k1, by rw [mm_upf (by decide), e63]; omega⟩ w)
        rw [mm_pI, r_247_0_6 (hy := hy), if_neg (by decide)]
        refine m174 hy (fun w => ?_) (fun w => absurd (by omega) w)
        rw [mm_pI, r_247_1_5 (hy := hy), if_neg (by decide), mm_wi (z := 2160 * t) (by omega) (by omega), mm_wi (z := 2160 * t + n) (by omega) (by omega), r_247_3 (hy := hy), mm_upf (by decide)]
        exact ⟨by omega, mfin _ _ e.symm⟩
      · rename_i c
        rw [r_24_2 (hx := hx), r_24_4 (hx := hx)]
        refine ⟨⟨_, rfl, by omega, by omega⟩, _, _, rfl, ?_⟩
        rw [r_247_e (hy := hy)]
        refine m242 hy (fun w1 w2 => ?_) (fun w => absurd ⟨k1, by rw [mm_upf (by decide), e63]; omega⟩ w)
        rw [mm_pI, r_247_0_6 (hy := hy), if_neg (by decide)]
        refine m174 hy (fun w => by omega) (fun w => ?_)
        rw [mm_pI, r_247_1_5 (hy := hy), if_pos rfl, r_247_3 (hy := hy)]
        exact mfin _ _ rfl
  · have hno : (1 ≤ t ∧ t < 9) → ¬ 0 < h (63, 0, 0) t := fun w => by
      have := (kk_hnd hc w).2 (fun q => kn ⟨w, q⟩)
      omega
    rw [mm_pR, r_24_0_3 (hx := hx)]
    refine ⟨⟨_, rfl, by omega, by omega⟩, _, _, rfl, ?_⟩
    rw [r_247_e (hy := hy)]
    refine m242 hy (fun w1 w2 => absurd (by rw [mm_upf (by decide)] at w2; exact w2) (hno w1)) (fun w => ?_)
    rw [mm_pI, r_247_0_6 (hy := hy), if_pos rfl]
    exact mfin _ _ rfl
