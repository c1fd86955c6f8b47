/-! what holds where a node's fields change; acts at the end of a call -/
theorem kk_NWz {h g : mm_Id → Int → Int} {t n : Int} (e : ∀ (f : Nat) j, 24 ≤ f → f ≤ 30 → f ≠ 28 → f ≠ 29 → ¬ (f = 24 ∧ (j = 2 ∨ j = 3 ∨ j = 11)) → g (f, t, n) j = h (f, t, n) j) (e0 : ∀ i, 0 ≤ i → i < h (24, t, n) 6 → g (24, t, h (26, t, n) i) 0 ≠ 0)
    (e16 : ∀ p i, 0 ≤ p → p < 36 → 0 ≤ i → i < 60 → g (16, 0, 0) (60 * h (27, t, n) p + i) = h (16, 0, 0) (60 * h (27, t, n) p + i)) (r2 : 0 ≤ g (24, t, n) 2 ∧ g (24, t, n) 2 < 8) (r3 : 0 ≤ g (24, t, n) 3 ∧ g (24, t, n) 3 < 64) (r11 : 0 ≤ g (24, t, n) 11 ∧ g (24, t, n) 11 ≤ 4)
    (r0 : h (24, t, n) 0 = 0 → g (24, t, n) 11 = 0) (rs : mm_srt (g (28, t, n)) (g (24, t, n) 11)) (rv : ∀ i, 0 ≤ i → i < g (24, t, n) 11 → (1 ≤ g (28, t, n) i ∧ g (28, t, n) i ≤ 99) ∧ -9223372036854775808 ≤ g (29, t, n) i ∧ g (29, t, n) i < 9223372036854775808) (W : kk_NW h t n) : kk_NW g t n := by
  obtain ⟨w0, w6, w26, w11, w011, w14, w9, wp, w2, w3, w1, ws, wk, we, wv, wst, wz⟩ := W
  have f0 := e 24 0 (by omega) (by omega) (by omega) (by omega) (by omega)
  have f1 := e 24 1 (by omega) (by omega) (by omega) (by omega) (by omega)
  have f6 := e 24 6 (by omega) (by omega) (by omega) (by omega) (by omega)
  have f9 := e 24 9 (by omega) (by omega) (by omega) (by omega) (by omega)
  have f14 := e 24 14 (by omega) (by omega) (by omega) (by omega) (by omega)
  have e25 := fun j => e 25 j (by omega) (by omega) (by omega) (by omega) (by omega)
  have e26 := fun j => e 26 j (by omega) (by omega) (by omega) (by omega) (by omega)
  have e27 := fun j => e 27 j (by omega) (by omega) (by omega) (by omega) (by omega)
  have e30 := fun j => e 30 j (by omega) (by omega) (by omega) (by omega) (by omega)
  refine ⟨by rw [f0]; exact w0, by rw [f6]; exact w6, by rw [f0, f6]; exact w26, r11, by rw [f0]; exact r0, by rw [f14]; exact w14, ?_, ?_, r2, r3, by rw [f0, f1]; exact w1, ?_, rs, ?_, rv, ?_, ?_⟩
  · rw [f9, w9]; exact (kk_nzc (fun p _ _ => e27 p)).symm
  · rw [f0]; exact fun k p p0 p1 => by rw [e27]; exact wp k p p0 p1
  · rw [f6]
    intro i j i0 ij jc
    rw [e25, e25]
    exact ws i j i0 ij jc
  · rw [f6]
    intro i i0 i1
    rw [e25, e26]
    have z := we i i0 i1
    exact ⟨z.1, z.2.1, e0 i i0 i1⟩
  · rw [f0, f1]
    intro k i i0 i1
    rw [e30]
    exact wst k i i0 i1
  · rw [f0, f1]
    intro k i i0 i1
    have := w1.1 k
    rw [e27, e16 (i / 60) (i % 60) (by omega) (by omega) (by omega) (by omega)]
    exact wz k i i0 i1
/-- nothing of the node changes -/
theorem kk_NWx {h g : mm_Id → Int → Int} {t n : Int} (e : ∀ (f : Nat) j, 24 ≤ f → f ≤ 30 → g (f, t, n) j = h (f, t, n) j) (e0 : ∀ i, 0 ≤ i → i < h (24, t, n) 6 → g (24, t, h (26, t, n) i) 0 ≠ 0)
    (e16 : ∀ p i, 0 ≤ p → p < 36 → 0 ≤ i → i < 60 → g (16, 0, 0) (60 * h (27, t, n) p + i) = h (16, 0, 0) (60 * h (27, t, n) p + i)) (W : kk_NW h t n) : kk_NW g t n := by
  have e11 := e 24 11 (by omega) (by omega)
  refine kk_NWz (fun f j f0 f1 _ _ _ => e f j f0 f1) e0 e16 ?_ ?_ ?_ ?_ ?_ ?_ W
  · rw [e 24 2 (by omega) (by omega)]; exact W.2.2.2.2.2.2.2.2.1
  · rw [e 24 3 (by omega) (by omega)]; exact W.2.2.2.2.2.2.2.2.2.1
  · rw [e11]; exact W.2.2.2.1
  · rw [e11]; exact W.2.2.2.2.1
  · rw [e11]
    intro i j i0 ij jc
    rw [e 28 _ (by omega) (by omega), e 28 _ (by omega) (by omega)]
    exact W.2.2.2.2.2.2.2.2.2.2.2.2.1 i j i0 ij jc
  · rw [e11]
    intro i i0 i1
    rw [e 28 _ (by omega) (by omega), e 29 _ (by omega) (by omega)]
    exact W.2.2.2.2.2.2.2.2.2.2.2.2.2.2.1 i i0 i1
theorem kk_TWx {h g : mm_Id → Int → Int} {t : Int} (e : ∀ n j, j = 0 ∨ j = 4 ∨ j = 5 ∨ j = 6 → g (24, t, n) j = h (24, t, n) j) (e26 : ∀ n i, g (26, t, n) i = h (26, t, n) i) (T : kk_TW h t) : kk_TW g t := by
  have e0 := fun n => e n 0 (by omega)
  have e4 := fun n => e n 4 (by omega)
  have e5 := fun n => e n 5 (by omega)
  have e6 := fun n => e n 6 (by omega)
  have ec : ∀ m, kk_ec g t m = kk_ec h t m := fun m => by
    refine kk_Sc _ (fun d _ _ => ?_)
    unfold kk_e1
    rw [e6]
    simp only [e26]
  unfold kk_TW at T ⊢
  simp only [e0, e4, e5, e6, e26, ec]
  exact T
/-- cells of a node's fields that aren't the tree's -/
def kk_nx (s n : Int) (x : mm_Id) (j : Int) : Prop := x = (24, s, n) ∧ (j = 2 ∨ j = 3 ∨ j = 11) ∨ x = (28, s, n) ∨ x = (29, s, n) ∨ (x = (47, 0, 0) ∨ x = (48, 0, 0) ∨ x = (49, 0, 0)) ∧ j = 36 * s + n - 1 ∨ (x = (50, 0, 0) ∨ x = (51, 0, 0)) ∧ 4 * (36 * s + n - 1) ≤ j ∧ j < 4 * (36 * s + n - 1) + 4 ∨ x = (31, s, 0) ∧ j = 6 ∨ x = (40, 0, 0) ∧ j = 0 ∨ x.1 = 56
theorem kk_nxr {s n : Int} {x : mm_Id} {j : Int} (q : kk_nx s n x j) : (x.2.1 = s ∧ x.2.2 = n ∧ (x.1 = 24 ∧ (j = 2 ∨ j = 3 ∨ j = 11) ∨ x.1 = 28 ∨ x.1 = 29)) ∨ (41 ≤ x.1 ∧ x.1 ≤ 53 ∧ kk_mx (36 * s + n - 1) x j) ∨ (x.1 = 31 ∧ x.2.1 = s ∧ j = 6) ∨ (x.1 = 40 ∧ j = 0) ∨ x.1 = 56 := by
  rcases q with ⟨q, q2⟩ | q | q | ⟨q, q2⟩ | ⟨q, q2⟩ | ⟨q, q2⟩ | ⟨q, q2⟩ | q
  · subst q; exact Or.inl ⟨rfl, rfl, Or.inl ⟨rfl, q2⟩⟩
  · subst q; exact Or.inl ⟨rfl, rfl, Or.inr (Or.inl rfl)⟩
  · subst q; exact Or.inl ⟨rfl, rfl, Or.inr (Or.inr rfl)⟩
  · have : kk_mx (36 * s + n - 1) x j := Or.inl ⟨by rcases q with q | q | q <;> rw [q] <;> simp [kk_mf], q2⟩
    have r := kk_mxr this
    exact Or.inr (Or.inl ⟨r.1, r.2, this⟩)
  · have : kk_mx (36 * s + n - 1) x j := Or.inr (Or.inr (Or.inr (Or.inl ⟨by rcases q with q | q <;> rw [q] <;> simp, q2⟩)))
    have r := kk_mxr this
    exact Or.inr (Or.inl ⟨r.1, r.2, this⟩)
  · subst q; exact Or.inr (Or.inr (Or.inl ⟨rfl, rfl, q2⟩))
  · subst q; exact Or.inr (Or.inr (Or.inr (Or.inl ⟨rfl, q2⟩)))
  · exact Or.inr (Or.inr (Or.inr (Or.inr q)))
theorem kk_WN {b s n : Int} {h g : mm_Id → Int → Int} {dh : Int → Int} (hc : kk_core b h dh) (hs : 0 ≤ s ∧ s < 5) (hno : 0 < kk_no h s) (hn : 1 ≤ n ∧ n < 37) (E : ∀ x j, ¬ kk_nx s n x j → g x j = h x j) (flag : g (31, s, 0) 6 = 1) (NR : kk_NR g s n) (NW : kk_NW g s n) : kk_W b g dh ∧ kk_KP g := by
  have hW := hc.1
  have hK := hW.1
  have sT := mm_T13 (s := s) ⟨hs.1, by omega⟩
  have ec : ∀ (f : Nat) t m j, f < 40 → (f ≠ 24 ∧ f ≠ 28 ∧ f ≠ 29 ∧ f ≠ 31 ∨ t ≠ s ∨ m ≠ n ∧ f ≠ 31 ∨ f = 24 ∧ j ≠ 2 ∧ j ≠ 3 ∧ j ≠ 11 ∨ f = 31 ∧ j ≠ 6) → g (f, t, m) j = h (f, t, m) j := fun f t m j f0 q => E _ _ (fun w => by
    rcases kk_nxr w with w | w | w | w | w <;> simp at w <;> omega)
  have em : ∀ (f : Nat) t m j, (54 ≤ f ∧ f ≠ 56 ∨ f = 40 ∧ j ≠ 0) → g (f, t, m) j = h (f, t, m) j := fun f t m j q => E _ _ (fun w => by
    rcases kk_nxr w with w | w | w | w | w <;> simp at w <;> omega)
  have es : ∀ k x j, k ≠ 36 * s + n - 1 → kk_mx k x j → g x j = h x j := fun k x j hk hx => E _ _ (fun w => by
    have r := kk_mxr hx
    have d := kk_mxd hk hx
    rcases kk_nxr w with w | w | w | w | w
    · omega
    · exact d w.2.2
    all_goals omega)
  have eS : ∀ s2 x j, s2 ≠ s → kk_sx s2 x j → g x j = h x j := fun s2 x j hk hx => by
    obtain ⟨m, m0, m1, q⟩ := hx
    exact es _ x j (by omega) q
  have e16 : ∀ j, g (16, 0, 0) j = h (16, 0, 0) j := fun j => ec 16 0 0 j (by omega) (by omega)
  have e54 : ∀ j, g (54, 0, 0) j = h (54, 0, 0) j := fun j => em 54 0 0 j (by omega)
  have no : ∀ s2, kk_no g s2 = kk_no h s2 := fun s2 => by
    unfold kk_no
    rw [ec 31 _ _ _ (by omega) (by omega), ec 33 _ _ _ (by omega) (by omega)]
  have e43 : ∀ j, g (43, 0, 0) j = h (43, 0, 0) j := fun j => E _ _ (fun w => by
    rcases kk_nxr w with w | ⟨_, _, w⟩ | w | w | w
    · simp at w
    · unfold kk_nx at *; simp_all
    · simp at w
    · simp at w
    · simp at w)
  have e53 : ∀ j, g (53, 0, 0) j = h (53, 0, 0) j := fun j => E _ _ (fun w => by
    unfold kk_nx at w; simp at w)
  have k0 : ∀ m, g (24, s, m) 0 = h (24, s, m) 0 := fun m => ec 24 s m 0 (by omega) (by omega)
  refine ⟨kk_WTs hW hs hno (fun x j w => E x j (fun w2 => w ?_)) (fun x j hx => eS 28 x j (by omega) hx) e16 e54 (fun j => em 55 0 0 j (by omega)) (em 40 0 0 18 (by omega)) (fun m m0 m1 => ?_) (fun m m0 m1 => ?_) (kk_TWx (fun m j q => ec 24 s m j (by omega) (by omega)) (fun m i => ec 26 s m i (by omega) (by omega)) (hK.2.2.1 s sT)) (fun m m0 m1 => ?_) (fun m p hm hp => ⟨Or.inl (ec 27 _ _ _ (by omega) (by omega)), Or.inl (e43 _)⟩) ?_ ?_ flag ?_ ?_ ?_ ?_, ?_⟩
  · rcases w2 with ⟨q, q2⟩ | q | q | w2 | w2 | ⟨q, q2⟩ | ⟨q, q2⟩ | q
    · subst q; exact Or.inl ⟨by simp, by simp, rfl, hn.1, hn.2⟩
    · subst q; exact Or.inl ⟨by simp, by simp, rfl, hn.1, hn.2⟩
    · subst q; exact Or.inl ⟨by simp, by simp, rfl, hn.1, hn.2⟩
    · refine Or.inr (Or.inl ⟨n, hn.1, hn.2, Or.inl ⟨?_, w2.2⟩⟩)
      rcases w2.1 with q | q | q <;> rw [q] <;> simp [kk_mf]
    · refine Or.inr (Or.inl ⟨n, hn.1, hn.2, Or.inr (Or.inr (Or.inr (Or.inl ⟨?_, w2.2⟩)))⟩)
      rcases w2.1 with q | q <;> rw [q] <;> simp
    · exact Or.inr (Or.inr (Or.inr (Or.inl ⟨q, q2⟩)))
    · refine Or.inr (Or.inr (Or.inr (Or.inr (Or.inr (Or.inr (Or.inr (Or.inr (Or.inr (Or.inr (Or.inl ?_))))))))))
      exact Or.inr (Or.inr (Or.inr (Or.inr (Or.inr (Or.inr (Or.inr ⟨q, Or.inl q2⟩))))))
    · refine Or.inr (Or.inr (Or.inr (Or.inr (Or.inr (Or.inr (Or.inr (Or.inr (Or.inr (Or.inr (Or.inl ?_))))))))))
      exact Or.inr (Or.inr (Or.inr (Or.inr (Or.inl q))))
  · by_cases q : m = n
    · rw [q]; exact NR
    · have w := (hK.2.2.2.2.1 s m hs.1 (by omega) m0 m1).1
      exact kk_NRcp (kk_cpdr (fun f j f0 f1 => ec f s m j (by omega) (by omega))) (kk_msr w.2.1.2 w.2.2.2 (fun x j hx => es _ x j (by omega) hx)) (hK.2.1 s m sT m0 m1) (fun _ _ _ _ _ _ _ => e16 _) (fun _ _ _ _ _ _ _ => e54 _) (hK.1 s m hs.1 (by omega) m0 m1)
  · by_cases q : m = n
    · rw [q]; exact NW
    · refine kk_NWx (fun f j f0 f1 => ec f s m j (by omega) (by omega)) (fun i i0 i1 => ?_) (fun _ _ _ _ _ _ => e16 _) (hK.2.1 s m sT m0 m1)
      rw [k0]
      exact ((hK.2.1 s m sT m0 m1).2.2.2.2.2.2.2.2.2.2.2.2.2.1 i i0 i1).2.2
  · rw [e53]; exact (hK.2.2.2.2.1 s m hs.1 (by omega) m0 m1).1.1
  · exact kk_Rcong (fun _ _ _ => ec 27 _ _ _ (by omega) (by omega)) (ec 15 _ _ _ (by omega) (by omega)) (ec 15 _ _ _ (by omega) (by omega)) (fun _ => ec 17 _ _ _ (by omega) (by omega)) (fun _ => ec 18 _ _ _ (by omega) (by omega)) (fun _ => ec 19 _ _ _ (by omega) (by omega)) hK.2.2.2.2.2.2.2.1
  · rw [k0]; exact hW.2.2.1.2.2.2.2.2.2.2.2.2.2.2.1 s hs.1 (by omega) hno
  · refine kk_KGe (fun x j hx => E x j (fun w => ?_)) hW.2.2.2
    have r : x.1 = 1 ∨ x.1 = 5 ∨ x.1 = 6 ∨ x.1 = 14 ∨ x.1 = 65 ∨ x.1 = 40 ∧ j ≠ 0 ∨ x.1 = 24 ∧ (x.2.1 = 26 ∨ x.2.1 = 27) := by
      rcases hx with ⟨q, _⟩ | q | q | q | q | ⟨q, q2⟩ | q
      · exact Or.inl (by rw [q])
      · omega
      · omega
      · omega
      · omega
      · have : x.1 = 40 := by rw [q]
        omega
      · omega
    rcases kk_nxr w with w | w | w | w | w <;> omega
  · intro i i0 i1
    rw [em 63 _ _ _ (by omega), em 62 _ _ _ (by omega), ec 34 _ _ _ (by omega) (by omega)]
    have d := hW.2.2.1.2.2.2.2.2.2.2.2.2.2.2.2.2.1 i i0 i1
    refine ⟨fun q => ?_, fun q => ?_⟩
    · obtain ⟨y1, y2, y3, y4, y5, y6⟩ := d.1 q
      refine ⟨y1, y2, ?_, y4, by rw [no]; exact y5, fun a a0 a1 => ?_⟩
      · rw [ec 24 _ _ 0 (by omega) (by omega)]; exact y3
      · rw [ec 35 _ _ _ (by omega) (by omega), em 64 _ _ _ (by omega)]; exact y6 a a0 a1
    · obtain ⟨y1, y2⟩ := d.2 q
      exact ⟨y1, fun a a0 a1 => by rw [em 64 _ _ _ (by omega)]; exact y2 a a0 a1⟩
  · intro a a0 a1
    rw [em 64 _ _ _ (by omega)]
    exact hW.2.2.1.2.2.2.2.2.2.2.2.2.2.2.2.2.2.1 a a0 a1
  · intro i m i0 i1 m0 m1 z z5
    rw [ec 24 _ _ 0 (by omega) (by omega)] at z
    rw [ec 24 _ _ 5 (by omega) (by omega)] at z5
    obtain ⟨j, hj, q, q2⟩ := hW.2.2.1.2.2.2.2.2.2.2.2.2.2.2.2.2.2.2 i m i0 i1 m0 m1 z z5
    exact ⟨j, hj, q, by rw [ec 34 _ _ _ (by omega) (by omega)]; exact q2⟩
  · refine kk_KPc (fun t m t0 t1 m0 m1 => hK.2.1 t m (by unfold mm_isT; omega) m0 m1) (fun s2 m s0 s1 m0 m1 => hK.2.2.2.2.1 s2 m s0 s1 m0 m1) ?_ (fun s2 _ _ => no s2) (fun f k hf => ?_) (fun f t m j f0 f1 t0 t1 _ => ec f t m j (by omega) (by omega)) (fun s2 x j s0 s1 hx => eS s2 x j (by omega) hx) (fun _ _ _ _ _ _ _ _ _ _ _ _ _ => e16 _) (fun _ _ _ _ _ _ _ _ _ _ _ _ _ => e54 _) hc.2
    · rw [ec 1 _ _ _ (by omega) (by omega), em 40 _ _ _ (by omega)]; exact hc.2.2.1
    · unfold kk_q4 at hf
      exact em f _ _ _ (by omega)
section
variable {hi : mm_Id → Int → Int} {dh dh' : Int → Int} {nx ns : Int} {Q : mm_V → mm_H → Prop} {b t : Int} {c Z : mm_Id → Int → Int}
theorem kk_zc (hZ : Z = mm_up (kk_mix hi c) (31, t, 0) 6 1) {x : mm_Id} {j : Int} (hx : x.1 < 40) (h31 : ¬ (x = (31, t, 0) ∧ j = 6)) : hi x j = Z x j := by rw [hZ, mm_upne' h31, kk_mixC hx]
theorem kk_zm (hZ : Z = mm_up (kk_mix c hi) (31, t, 0) 6 1) {x : mm_Id} {j : Int} (hx : 40 ≤ x.1) : hi x j = Z x j := by rw [hZ, mm_upne' (by rintro ⟨q, _⟩; rw [q] at hx; simp at hx), kk_mixM hx]
theorem s63W (hx : 5275 ≤ nx) (ht : mm_isD t) (hZ : Z = mm_up (kk_mix hi c) (31, t, 0) 6 1) (hW : kk_W b Z dh') (hP : kk_KP Z)
    (K : ∀ h2, kk_acC t hi h2 → (∀ x j, 40 ≤ x.1 → h2 x j = hi x j) → (∀ x j, 8 ≤ x.1 → x.1 ≤ 13 → h2 x j = hi x j) → Q zU (mm_z h2 dh nx ns)) : mm_Cl 63 [zR (1, 0, 0), zR (31, t, 0)] (mm_z hi dh nx ns) Q := by
  refine s63 hx ht (kk_Rcong (fun _ _ _ => kk_zc hZ (by simp) (by simp)) (kk_zc hZ (by simp) (by simp)) (kk_zc hZ (by simp) (by simp)) (fun _ => kk_zc hZ (by simp) (by simp)) (fun _ => kk_zc hZ (by simp) (by simp)) (fun _ => kk_zc hZ (by simp) (by simp)) hW.1.2.2.2.2.2.2.2.1) (fun u n t0 t1 n0 n1 => ?_) (fun u t0 t1 => ?_) ?_ K
  · have w := hW.1.2.1 u n (by unfold mm_isT; omega) n0 n1
    unfold kk_nw
    rw [kk_zc hZ (by simp) (by simp), kk_zc hZ (by simp) (by simp), kk_zc hZ (by simp) (by simp), kk_nzc (g := Z (27, u, n)) (fun p _ _ => kk_zc hZ (by simp) (by simp))]
    exact ⟨w.2.2.2.2.2.1, w.2.2.2.1, w.2.2.2.2.2.2.1⟩
  · have w := hW.1.2.2.2.2.2.2.2.2.2.1 u (by unfold mm_isT; omega)
    unfold kk_as at w
    rw [if_neg (by omega)] at w
    rw [kk_zc hZ (by simp) (by simp)]
    exact w
  · have := hP.2.1
    rw [kk_zc hZ (by simp) (by simp)]
    omega
theorem m209W (hy : 5306 ≤ nx) (hZ : Z = mm_up (kk_mix c hi) (31, t, 0) 6 1) (hW : kk_W b Z dh') (hP : kk_KP Z)
    (K : ∀ h2, kk_acM hi h2 → (∀ x j, x.1 < 40 → h2 x j = hi x j) → (∀ x j, kk_scr x j → h2 x j = hi x j) → Q zU (mm_z h2 dh nx ns)) : mm_Cl 209 [zR (40, 0, 0)] (mm_z hi dh nx ns) Q := by
  refine m209 hy (fun k k0 k1 => ?_) (fun k n k0 k1 n0 n1 => ?_) ?_ K
  · rw [kk_zm hZ (by simp)]
    exact hW.2.2.1.2.2.2.2.2.2.2.2.2.1 k k0 (by omega)
  · have w := (hW.1.2.2.2.2.1 k n k0 (by omega) n0 n1).1
    unfold kk_mw at w ⊢
    rw [kk_zm hZ (by simp), kk_zm hZ (by simp), kk_zm hZ (by simp)]
    exact w
  · have := hP.2.1
    rw [kk_zm hZ (by simp)]
    omega
end
/-- the end of a call that acts -/
theorem kk_actend {b t : Int} {h hc0 g gm g2 gx Z : mm_Id → Int → Int} {dh : Int → Int} (hb : b + 1 ≤ 1000000) (hZ : Z = mm_up (kk_mix hc0 gm) (31, t, 0) 6 1) (W : kk_W b Z dh) (P : kk_KP Z) (c : kk_acC t hc0 g) (m : kk_acM gm g2) (hg : ∀ x j, x.1 < 40 → g2 x j = g x j) (s1 : ∀ x j, kk_scr x j → g2 x j = gm x j) (s2 : ∀ x j, kk_scr x j → gm x j = gx x j) (s3 : ∀ x j, kk_scr x j → gx x j = h x j) : kk_core (b + 1) g2 dh ∧ ∀ x j, kk_scr x j → g2 x j = h x j :=
  ⟨kk_coreS hb (kk_actL hZ W P c m hg), fun x j hs => by rw [s1 x j hs, s2 x j hs, s3 x j hs]⟩
