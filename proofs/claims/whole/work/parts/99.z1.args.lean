/-! scripts: the words that a call wants -/
section
variable {h : mm_Id → Int → Int} {dh : Int → Int} {nx ns : Int} {Q : mm_V → mm_H → Prop}
theorem s147 (hx : 5275 ≤ nx) {w t : Int} (a12 : h (8, 0, 0) 12 = w) (h0 : 0 ≤ w ∧ w < 8000) (ht : h (9, 0, 0) w = t) (K : Q (zI (if t = 47 then 1 else 0)) (mm_z h dh nx ns)) : mm_Cl 147 [zR (8, 0, 0)] (mm_z h dh nx ns) Q := by
  rw [r_147_e (hx := hx), a12, ht]
  refine ⟨h0, ?_⟩
  by_cases c : t = 47
  · rw [if_pos c] at K ⊢
    rw [r_147_2 (hx := hx)]
    exact ⟨Or.inr rfl, K⟩
  · rw [if_neg c] at K ⊢
    rw [r_147_2 (hx := hx)]
    exact ⟨Or.inl rfl, K⟩
end
section
variable {A B A2 B2 : mm_Id → Int → Int} {d d2 dm : Int → Int} {nx ns b b2 z n : Int} {G : mm_V → (mm_Id → Int → Int) → (Int → Int) → (mm_Id → Int → Int) → Prop} {KC KM : mm_V → mm_H → (mm_V → mm_H → Prop) → Prop}
/-- what the words of a line touch -/
def kk_fa (A A2 : mm_Id → Int → Int) : Prop := ∀ x j, ¬ (x = (8, 0, 0) ∧ (j = 8 ∨ 12 ≤ j ∧ j ≤ 14)) → x ≠ (12, 0, 0) → A2 x j = A x j
def kk_fbM (B B2 : mm_Id → Int → Int) : Prop := ∀ x j, ¬ kk_xmM x j → B2 x j = B x j
theorem kk_fat {A A2 A3 : mm_Id → Int → Int} (a : kk_fa A A2) (c : kk_fa A2 A3) : kk_fa A A3 := fun x j q r => by rw [c x j q r, a x j q r]
theorem kk_fbt {A A2 A3 : mm_Id → Int → Int} (a : kk_fbM A A2) (c : kk_fbM A2 A3) : kk_fbM A A3 := fun x j q => by rw [c x j q, a x j q]
theorem kk_Lab (l : kk_L b z n A B d) (a : kk_fa A A2) (c : kk_fbM B B2) : kk_L b z n A2 B2 d := kk_Lx l (fun x j q => a x j (fun w => q (Or.inl ⟨w.1, by omega⟩)) (fun w => q (Or.inr (Or.inl w)))) c
theorem kk_fa0 : kk_fa A A := fun _ _ _ _ => rfl
theorem kk_fb0 : kk_fbM B B := fun _ _ _ => rfl
theorem kk_faw (a : ∀ x j, ¬ (x = (8, 0, 0) ∧ 12 ≤ j ∧ j ≤ 14) → A2 x j = A x j) : kk_fa A A2 := fun x j q _ => a x j (fun w => q ⟨w.1, Or.inr w.2⟩)
theorem kk_fbw (a : ∀ x j, ¬ (x = (40, 0, 0) ∧ 44 ≤ j ∧ j ≤ 45) → B2 x j = B x j) : kk_fbM B B2 := fun x j q => a x j (fun w => q (Or.inl ⟨w.1, by omega⟩))
theorem kk_fay (a : ∀ x j, ¬ (x = (8, 0, 0) ∧ (j = 8 ∨ j = 14)) → A2 x j = A x j) : kk_fa A A2 := fun x j q _ => a x j (fun w => q ⟨w.1, by omega⟩)
theorem kk_fbY (a : ∀ x j, ¬ (x = (40, 0, 0) ∧ j = 46) → B2 x j = B x j) : kk_fbM B B2 := fun x j q => a x j (fun w => q (Or.inl ⟨w.1, by omega⟩))
theorem kk_fag {i v : Int} : kk_fa A (mm_up A (12, 0, 0) i v) := fun x j _ r => mm_upne' (fun w => r w.1)
theorem kk_fbg {i v : Int} : kk_fbM B (mm_up B (70, 0, 0) i v) := fun x j q => mm_upne' (fun w => q (Or.inr w.1))
/-- the first words are given -/
def kk_gv (c i : Int) (A B : mm_Id → Int → Int) : Prop := ∀ k, 0 ≤ k → k < i → A (12, 0, 0) k = B (70, 0, 0) k ∧ (-9223372036854775808 ≤ A (12, 0, 0) k ∧ A (12, 0, 0) k < 9223372036854775808) ∧ kk_lko (mm_sc (2 * c + 1) k) (A (12, 0, 0) k)
theorem m181n2 {g h : mm_Id → Int → Int} {dh dh0 : Int → Int} {Q : mm_V → mm_H → Prop} (hy : 5306 ≤ nx) (hc : kk_core b h dh0) (e57 : ∀ k, 0 ≤ k → k < 13 → g (57, 0, 0) k = h (57, 0, 0) k) {x : Int} (hr : -2147483648 ≤ x ∧ x < 2147483648) (hs : kk_np h x) (K : Q (zI (-1)) (mm_z g dh nx ns)) : mm_Cl 181 [zR (40, 0, 0), zI x] (mm_z g dh nx ns) Q := by
  have e := kk_e57t hc e57 hr
  exact m181 hy (fun s a c d _ => absurd ((e s a c).1 d) (hs s a c)) (fun _ => K)
theorem kk_Mno (s : Int) : kk_no (kk_M A B) s = kk_no A s := by
  unfold kk_no
  rw [kk_MF (by decide), kk_MF (by decide)]
/-- a way -/
theorem kk_wayJ (hy : 5306 ≤ nx) {w f t : Int} (l : kk_L b z n A B d) (h0 : 0 ≤ w ∧ w < f ∧ f ≤ z) (a12 : A (8, 0, 0) 12 = w) (a13 : A (8, 0, 0) 13 = f) (a14 : A (8, 0, 0) 14 = w) (b44 : B (40, 0, 0) 44 = w) (b45 : B (40, 0, 0) 45 = f) (ht : -2147483648 ≤ t ∧ t < 2147483648) {kd i : Int} (b70 : B (70, 0, 0) 0 = t) (ew : B (67, 0, 0) w = 47) (i0 : 0 < i)
    (K1 : ∀ A2 B2 v, kk_fa A A2 → kk_fbM B B2 → (∀ j, A2 (12, 0, 0) j = A (12, 0, 0) j) → (∀ j, B2 (70, 0, 0) j = B (70, 0, 0) j) → A2 (8, 0, 0) 13 = f → B2 (40, 0, 0) 45 = f → (0 ≤ v ∧ v < 37) → A2 (8, 0, 0) 8 = v → B2 (40, 0, 0) 46 = v → kk_J nx ns dm G (fun Q => KC (zI 1) (mm_z A2 d nx ns) Q) (fun Q => mm_Wp 290 (mm_blk 290 12) [zR (40, 0, 0), zI kd, zI i, zI 47, zI 1] [] (mm_z B2 dm nx ns) (fun r h => KM r h Q)))
    (K0 : ∀ A2 B2, kk_fa A A2 → kk_fbM B B2 → kk_J nx ns dm G (fun Q => KC (zI 0) (mm_z A2 d nx ns) Q) (fun Q => mm_Wp 290 (mm_blk 290 12) [zR (40, 0, 0), zI kd, zI i, zI 47, zI 0] [] (mm_z B2 dm nx ns) (fun r h => KM r h Q))) :
    kk_J nx ns dm G (fun Q => mm_Cl 77 [zR (1, 0, 0), zI t] (mm_z A d nx ns) (fun r h => KC r h Q)) (fun Q => mm_Cl 290 [zR (40, 0, 0), zI kd, zI i] (mm_z B dm nx ns) (fun r h => KM r h Q)) := by
  have hx : 5275 ≤ nx := by omega
  have lz := l.2.2.1
  have nm := kk_nmC l.1
  have nmA : kk_nm A := fun s s0 s1 => by have := nm s s0 s1; rw [kk_Mno] at this; exact this
  have T : ∀ i, 0 ≤ i → i < f → A (9, 0, 0) i = B (67, 0, 0) i := fun i i0 i1 => (l.2.2.2.1 i i0 (by omega)).1
  have e57 : ∀ k, 0 ≤ k → k < 13 → B (57, 0, 0) k = kk_M A B (57, 0, 0) k := fun k _ _ => by rw [kk_MG (by decide)]
  have tl : ∀ s, kk_tl (kk_M A B) t s ↔ kk_tl A t s := fun s => by unfold kk_tl; rw [kk_Mno]
  -- the walk
  have W : ∀ (tv : mm_V) (s r : Int), kk_wt tv s r → ∀ v5 v6 u5 u6 : mm_V, kk_J nx ns dm G (fun Q => mm_Wp 77 (mm_blk 77 3) [zR (1, 0, 0), zI t, tv, zI r, zI 0, v5, v6] [] (mm_z A d nx ns) (fun r h => KC r h Q)) (fun Q => mm_Wp 289 (mm_blk 289 3) [zR (40, 0, 0), zI s, zI r, zI (w + 1), zI 1, u5, u6] [] (mm_z B dm nx ns) (fun r h3 => mm_Wp 290 (bk_290_2.drop 1) [zR (40, 0, 0), zI kd, zI i, zI 47, zU] (mm_push r []) h3 (fun r h => KM r h Q))) := by
    intro tv s r hwt v5 v6 u5 u6
    refine kk_wayL (KC := KC) (KM := fun r h3 Q => mm_Wp 290 (bk_290_2.drop 1) [zR (40, 0, 0), zI kd, zI i, zI 47, zU] (mm_push r []) h3 (fun r h => KM r h Q)) hy T ⟨h0.1, by omega, by omega⟩ l.1 a12 a13 b44 b45 (fun A2 B2 v fA fB v0 a8 b46 => ?_) (fun A2 B2 fA fB => ?_) (f - w).toNat w r 0 A B v5 v6 u5 u6 (by omega) (by omega) (by omega) (by omega) (by omega) hwt (fun _ _ _ => rfl) (fun _ _ _ => rfl) a14
    · refine kk_Jm (fun Q q => ?_) (K1 A2 B2 v (kk_fay fA) (kk_fbY fB) (fun j => fA _ _ (by simp)) (fun j => fB _ _ (by simp)) (by rw [fA _ _ (by simp)]; exact a13) (by rw [fB _ _ (by simp)]; exact b45) v0 a8 b46)
      rw [mm_pI, r_290_2_1 (hy := hy), if_neg (by omega), r_290_4 (hvx3 := rfl) (hy := hy)]
      exact q
    · refine kk_Jm (fun Q q => ?_) (K0 A2 B2 (kk_fay fA) (kk_fbY fB))
      rw [mm_pI, r_290_2_1 (hy := hy), if_pos rfl, r_290_3 (hy := hy), r_290_4 (hvx3 := rfl) (hy := hy)]
      exact q
  -- the reference as far as the walk
  have M : ∀ (s : Int) {Q : mm_V → mm_H → Prop}, (kk_tp (kk_M A B) t s ∧ 0 ≤ s ∨ kk_np (kk_M A B) t ∧ s = -1) → mm_Wp 289 (mm_blk 289 3) [zR (40, 0, 0), zI s, zI (if s < 0 then 0 else 1), zI (w + 1), zI 1, zU, zU] [] (mm_z B dm nx ns) (fun r h3 => mm_Wp 290 (bk_290_2.drop 1) [zR (40, 0, 0), zI kd, zI i, zI 47, zU] (mm_push r []) h3 Q) → mm_Cl 290 [zR (40, 0, 0), zI kd, zI i] (mm_z B dm nx ns) Q := by
    intro s Q hs g
    have E : mm_Wp 290 (bk_290_0.drop 27) [zR (40, 0, 0), zI kd, zI i, zI 47, zU] [zI s, zR (40, 0, 0)] (mm_z B dm nx ns) Q := by
      rw [r_290_0_27 (hy := hy), r_290_2 (hy := hy), r_289_e (hy := hy)]
      by_cases c : s < 0
      · rw [if_pos c] at g ⊢
        rw [r_289_2 (hy := hy), b44, mm_wi (by omega) (by omega)]
        exact g
      · rw [if_neg c] at g ⊢
        rw [r_289_2 (hy := hy), b44, mm_wi (by omega) (by omega)]
        exact g
    rw [r_290_e (hy := hy), b44, ew, if_pos rfl, if_pos i0, b70]
    refine ⟨by omega, ?_⟩
    refine m174y hy (by omega) ?_
    rw [mm_pI, r_290_0_19 (hy := hy), if_neg (by omega), b70, mm_wi (by omega) (by omega)]
    rcases hs with ⟨q, _⟩ | ⟨q, q2⟩
    · exact m181h hy l.1 e57 ht q E
    · subst q2
      exact m181n2 hy l.1 e57 ht q E
  rcases kk_tpx (kk_M A B) t with hn | ⟨s, hs⟩
  rotate_left
  · have s0 := hs.1
    have hA : kk_tp A t s := ⟨hs.1, (tl s).1 hs.2.1, fun j j0 j1 k => hs.2.2 j j0 j1 ((tl j).2 k)⟩
    have it : mm_isT s := by unfold mm_isT; omega
    refine kk_J2 (fun Q q => ?_) (fun Q q => M s (Or.inl ⟨hs, s0.1⟩) q) (W (zR (22, s, 0)) s (if s < 0 then 0 else 1) (Or.inr ⟨s0, rfl, by split <;> omega, by split <;> omega⟩) zU zU zU zU)
    rw [if_neg (by omega)] at q
    rw [r_77_e (hx := hx)]
    refine s55 hx nmA ht.1 ht.2 (fun s2 h2 => ?_) (fun h2 => absurd hA.2.1 (h2 s s0.1 s0.2))
    rw [kk_tp1 h2 hA, mm_pR, r_77_0_3a (hvx1 := rfl) (hty0 := it) (hx := hx), r_77_2a (htx2 := it) (hx := hx)]
    exact q
  · refine kk_J2 (fun Q q => ?_) (fun Q q => M (-1) (Or.inr ⟨hn, rfl⟩) q) (W (zR mm_nul) (-1) (if (-1 : Int) < 0 then 0 else 1) (Or.inl ⟨rfl, rfl, rfl⟩) zU zU zU zU)
    rw [if_pos (by omega)] at q
    rw [r_77_e (hx := hx)]
    refine s55 hx nmA ht.1 ht.2 (fun s2 h2 => absurd ((tl s2).2 h2.2.1) (hn s2 h2.1.1 h2.1.2)) (fun _ => ?_)
    rw [mm_pR, r_77_0_3 (hvx1 := rfl) (hx := hx), r_77_2 (hx := hx)]
    exact q
/-- a word is read and given -/
theorem kk_argJ (hy : 5306 ≤ nx) {c m i w f e x6 : Int} {v4 v1 u4 u7 : mm_V} (l : kk_L b z n A B d) (hc : 0 ≤ c ∧ c < 47) (hm : m = mm_sl (2 * c + 1)) (i0 : 0 ≤ i ∧ i < m) (h0 : 0 ≤ w ∧ w < f ∧ f ≤ z) (a12 : A (8, 0, 0) 12 = w) (a13 : A (8, 0, 0) 13 = f) (a14 : A (8, 0, 0) 14 = w) (b44 : B (40, 0, 0) 44 = w) (b45 : B (40, 0, 0) 45 = f) (gv : kk_gv c i A B) (h6 : x6 = kk_kn c i)
    (K1 : ∀ A2 B2 v4, kk_fa A A2 → kk_fbM B B2 → A2 (8, 0, 0) 13 = f → B2 (40, 0, 0) 45 = f → kk_gv c (i + 1) A2 B2 → kk_J nx ns dm G (fun Q => mm_Wp 76 (mm_blk 76 1) [zR (1, 0, 0), zR (92, c, 0), zI m, zI (i + 1), v4] [] (mm_z A2 d nx ns) (fun r h => KC r h Q)) (fun Q => mm_Wp 292 (mm_blk 292 3) [zR (40, 0, 0), v1, zI e, zI c, u4, zI (i + 1), zI (kk_kn c (i + 1)), u7] [] (mm_z B2 dm nx ns) (fun r h => KM r h Q)))
    (K0 : ∀ A2 B2, kk_fa A A2 → kk_fbM B B2 → kk_J nx ns dm G (fun Q => KC (zI (i + 1)) (mm_z A2 d nx ns) Q) (fun Q => KM (zI (i + 1)) (mm_z B2 dm nx ns) Q)) :
    kk_J nx ns dm G (fun Q => mm_Wp 76 (bk_76_1.drop 6) [zR (1, 0, 0), zR (92, c, 0), zI m, zI i, v4] [zI 1] (mm_z A d nx ns) (fun r h => KC r h Q)) (fun Q => mm_Wp 292 (bk_292_3.drop 7) [zR (40, 0, 0), v1, zI e, zI c, u4, zI i, zI x6, u7] [zI 1] (mm_z B dm nx ns) (fun r h => KM r h Q)) := by
  have hx : 5275 ≤ nx := by omega
  have lz := l.2.2.1
  have T : ∀ i, 0 ≤ i → i < f → A (9, 0, 0) i = B (67, 0, 0) i := fun i i0 i1 => (l.2.2.2.1 i i0 (by omega)).1
  have k1 := kk_kn1 hc
  obtain ⟨k2, k3, k4⟩ := kk_kn2 hc i0.1 (by omega)
  subst h6
  -- given
  have GV : ∀ A2 B2 v4 t v, kk_fa A A2 → kk_fbM B B2 → (∀ j, A2 (12, 0, 0) j = A (12, 0, 0) j) → (∀ j, B2 (70, 0, 0) j = B (70, 0, 0) j) → A2 (8, 0, 0) 13 = f → B2 (40, 0, 0) 45 = f → (-9223372036854775808 ≤ v ∧ v < 9223372036854775808) → A2 (8, 0, 0) 8 = v → B2 (40, 0, 0) 46 = v →
      kk_J nx ns dm G (fun Q => mm_Wp 76 (mm_blk 76 4) [zR (1, 0, 0), zR (92, c, 0), zI m, zI i, v4] [zI 1] (mm_z A2 d nx ns) (fun r h => KC r h Q)) (fun Q => mm_Wp 290 (mm_blk 290 12) [zR (40, 0, 0), zI (mm_and (kk_kn c i) 3), zI i, zI t, zI 1] [] (mm_z B2 dm nx ns) (fun r h3 => mm_Wp 292 (bk_292_3.drop 14) [zR (40, 0, 0), v1, zI e, zI c, u4, zI i, zI (kk_kn c i), u7] (mm_push r []) h3 (fun r h => KM r h Q))) := by
    intro A2 B2 v4 t v fA fB g12 g70 q13 q45 vr a8 b46
    refine kk_giveJ hy hc a8 b46 ⟨i0.1, by omega⟩ (by omega) k3 (fun ok => ?_) (K0 A2 B2 fA fB)
    rw [k4]
    refine K1 _ _ _ (kk_fat fA kk_fag) (kk_fbt fB kk_fbg) (by rw [mm_upf (by decide)]; exact q13) (by rw [mm_upf (by decide)]; exact q45) (fun k k0 k1 => ?_)
    by_cases ki : k = i
    · subst ki
      rw [mm_ups, mm_ups]
      exact ⟨rfl, vr, ok⟩
    · rw [mm_upj ki, mm_upj ki, g12, g70]
      exact gv k k0 (by omega)
  have BD : ∀ A2 B2 v4 t, kk_fa A A2 → kk_fbM B B2 → kk_J nx ns dm G (fun Q => mm_Wp 76 (mm_blk 76 4) [zR (1, 0, 0), zR (92, c, 0), zI m, zI i, v4] [zI 0] (mm_z A2 d nx ns) (fun r h => KC r h Q)) (fun Q => mm_Wp 290 (mm_blk 290 12) [zR (40, 0, 0), zI (mm_and (kk_kn c i) 3), zI i, zI t, zI 0] [] (mm_z B2 dm nx ns) (fun r h3 => mm_Wp 292 (bk_292_3.drop 14) [zR (40, 0, 0), v1, zI e, zI c, u4, zI i, zI (kk_kn c i), u7] (mm_push r []) h3 (fun r h => KM r h Q))) := fun A2 B2 v4 t fA fB => kk_badJ hy hc ⟨i0.1, by omega⟩ (K0 A2 B2 fA fB)
  -- the reference begins
  refine kk_Jm (P1 := fun Q => mm_Cl 290 [zR (40, 0, 0), zI (mm_and (kk_kn c i) 3), zI i] (mm_z B dm nx ns) (fun r h3 => mm_Wp 292 (bk_292_3.drop 14) [zR (40, 0, 0), v1, zI e, zI c, u4, zI i, zI (kk_kn c i), u7] (mm_push r []) h3 (fun r h => KM r h Q))) (fun Q q => ?_) ?_
  · rw [r_292_3_7 (hy := hy), if_neg (by omega)]
    exact q
  by_cases way : A (9, 0, 0) w = 47 ∧ 0 < i
  · obtain ⟨w47, ip⟩ := way
    obtain ⟨gv0, gv1, gv2⟩ := gv 0 (by omega) ip
    have t0 : -2147483648 ≤ A (12, 0, 0) 0 ∧ A (12, 0, 0) 0 < 2147483648 := by
      have z1 := k1.2.1 (by omega)
      have z2 := (kk_kn2 hc (i := 0) (by omega) (by omega)).2.1
      rcases z2 with ⟨z3, _⟩ | ⟨z3, _⟩ | ⟨z3, _⟩
      · exact gv2.1 z3
      · exact absurd z3 z1
      · have := gv2.2 z3; omega
    refine kk_Jc (P1 := fun Q => mm_Cl 77 [zR (1, 0, 0), zI (A (12, 0, 0) 0)] (mm_z A d nx ns) (fun r h3 => mm_Wp 76 (bk_76_2.drop 14) [zR (1, 0, 0), zR (92, c, 0), zI m, zI i, v4] (mm_push r []) h3 (fun r h => KC r h Q))) (fun Q q => ?_) ?_
    · rw [r_76_1_6 (htx1 := hc) (hx := hx), if_neg (by omega), if_pos ip]
      refine s147 hx a12 (by omega) w47 ?_
      rw [if_pos rfl, mm_pI, r_76_2_5 (htx1 := hc) (hx := hx), if_neg (by omega), mm_wi t0.1 t0.2]
      exact q
    · refine kk_wayJ (KC := fun r h3 Q => mm_Wp 76 (bk_76_2.drop 14) [zR (1, 0, 0), zR (92, c, 0), zI m, zI i, v4] (mm_push r []) h3 (fun r h => KC r h Q)) (KM := fun r h3 Q => mm_Wp 292 (bk_292_3.drop 14) [zR (40, 0, 0), v1, zI e, zI c, u4, zI i, zI (kk_kn c i), u7] (mm_push r []) h3 (fun r h => KM r h Q)) hy l h0 a12 a13 a14 b44 b45 t0 gv0.symm (by rw [← T w (by omega) (by omega)]; exact w47) ip (fun A2 B2 v fA fB g12 g70 q13 q45 v0 a8 b46 => ?_) (fun A2 B2 fA fB => ?_)
      · refine kk_Jc (fun Q q => ?_) (GV A2 B2 v4 47 v fA fB g12 g70 q13 q45 (by omega) a8 b46)
        rw [mm_pI, r_76_2_14 (htx1 := hc) (hx := hx)]
        exact q
      · refine kk_Jc (fun Q q => ?_) (BD A2 B2 v4 47 fA fB)
        rw [mm_pI, r_76_2_14 (htx1 := hc) (hx := hx)]
        exact q
  · have e9 : ∀ i, 0 ≤ i → i < f → A (9, 0, 0) i = B (67, 0, 0) i := T
    have l5 := l.2.2.2.2.1
    have l6 := l.2.2.2.2.2.1
    refine kk_Jc (P1 := fun Q => mm_Cl 146 [zR (8, 0, 0)] (mm_z A d nx ns) (fun r h3 => mm_Wp 76 (bk_76_3.drop 3) [zR (1, 0, 0), zR (92, c, 0), zI m, zI i, v4] (mm_push r []) h3 (fun r h => KC r h Q))) (fun Q q => ?_) ?_
    · rw [r_76_1_6 (htx1 := hc) (hx := hx), if_neg (by omega)]
      by_cases ip : 0 < i
      · rw [if_pos ip]
        refine s147 hx a12 (by omega) rfl ?_
        rw [if_neg (fun k => way ⟨k, ip⟩), mm_pI, r_76_2_5 (htx1 := hc) (hx := hx), if_pos rfl, r_76_3 (htx1 := hc) (hx := hx)]
        exact q
      · rw [if_neg ip, r_76_3 (htx1 := hc) (hx := hx)]
        exact q
    · have t67 : B (67, 0, 0) w = A (9, 0, 0) w := (T w (by omega) (by omega)).symm
      have sb : w ≤ kk_nbs (A (9, 0, 0) w) w := by unfold kk_nbs; split <;> omega
      have dvi : kk_dig (A (9, 0, 0)) (kk_nbs (A (9, 0, 0) w) w) f 18 → kk_dv (B (67, 0, 0)) (kk_nbs (A (9, 0, 0) w) w) (f - kk_nbs (A (9, 0, 0) w) w).toNat = kk_dv (A (9, 0, 0)) (kk_nbs (A (9, 0, 0) w) w) (f - kk_nbs (A (9, 0, 0) w) w).toNat := fun dg => kk_dve _ (fun i i0 i1 => by have := dg.1; rw [T i (by omega) (by omega)])
      have dgi : kk_dig (A (9, 0, 0)) (kk_nbs (A (9, 0, 0) w) w) f 18 ↔ kk_dig (B (67, 0, 0)) (kk_nbs (A (9, 0, 0) w) w) f 18 := by
        unfold kk_dig
        constructor
        · rintro ⟨q1, q2, q3⟩
          exact ⟨q1, q2, fun i i0 i1 => by rw [← T i (by omega) (by omega)]; exact q3 i i0 i1⟩
        · rintro ⟨q1, q2, q3⟩
          exact ⟨q1, q2, fun i i0 i1 => by rw [T i (by omega) (by omega)]; exact q3 i i0 i1⟩
      have noi : kk_nbo (A (9, 0, 0)) (A (9, 0, 0) w) n w f ↔ kk_nbo (B (67, 0, 0)) (A (9, 0, 0) w) n w f := by
        unfold kk_nbo
        constructor
        · rintro ⟨q1, q2⟩
          exact ⟨dgi.1 q1, fun q => by rw [dvi q1]; exact q2 q⟩
        · rintro ⟨q1, q2⟩
          exact ⟨dgi.2 q1, fun q => by rw [← dvi (dgi.2 q1)]; exact q2 q⟩
      by_cases ok : kk_nbo (A (9, 0, 0)) (A (9, 0, 0) w) n w f
      · have vr := kk_nbr (U := A (11, 0, 0)) ok (fun i i0 i1 => (l6 i i0 i1).2)
        have ve : kk_nbv (B (67, 0, 0)) (B (69, 0, 0)) (A (9, 0, 0) w) w f = kk_nbv (A (9, 0, 0)) (A (11, 0, 0)) (A (9, 0, 0) w) w f := by
          unfold kk_nbv
          rw [dvi ok.1]
          by_cases c64 : A (9, 0, 0) w = 64
          · rw [if_pos c64, if_pos c64]
            exact ((l6 _ (kk_nbB ok.1).1 (ok.2 c64)).1).symm
          · rw [if_neg c64, if_neg c64]
        obtain ⟨v, hv⟩ : ∃ v, v = kk_nbv (A (9, 0, 0)) (A (11, 0, 0)) (A (9, 0, 0) w) w f := ⟨_, rfl⟩
        rw [← hv] at vr ve
        refine kk_J2 (fun Q q => ?_) (fun Q q => ?_) (GV (mm_up A (8, 0, 0) 8 v) (mm_up B (40, 0, 0) 46 v) v4 (A (9, 0, 0) w) v (kk_fay (fun x j k => mm_upne' (fun y => k ⟨y.1, Or.inl y.2⟩))) (kk_fbY (fun x j k => mm_upne' k)) (fun j => mm_upf (by decide)) (fun j => mm_upf (by decide)) (by rw [mm_upj (by decide)]; exact a13) (by rw [mm_upj (by decide)]; exact b45) vr (by rw [mm_ups]) (by rw [mm_ups]))
        · refine s146 hx a12 a13 rfl l5.1 ⟨h0.1, h0.2.1, by omega⟩ l5.2.2 (fun _ => ?_) (fun k => absurd ok k)
          rw [mm_pI, r_76_3_3 (htx1 := hc) (hx := hx), ← hv]
          exact q
        · refine m290 hy b44 b45 t67 l5.2.1 ⟨h0.1, h0.2.1, by omega⟩ l5.2.2 way (noi.1 ok) (fun g g1 g2 => ?_)
          rw [ve] at g1
          have eg : g = mm_up B (40, 0, 0) 46 v := by
            funext x j
            by_cases y : x = (40, 0, 0) ∧ j = 46
            · rw [y.1, y.2, g1, mm_ups]
            · rw [g2 x j y, mm_upne' y]
          rw [eg]
          exact q
      · obtain ⟨g, g1, g2⟩ := m290n (dh := dm) (ns := ns) (kd := mm_and (kk_kn c i) 3) (i := i) hy b44 b45 t67 l5.2.1 ⟨h0.1, h0.2.1, by omega⟩ l5.2.2 way (fun k => ok (noi.2 k))
        refine kk_J2 (fun Q q => ?_) (fun Q q => g2 _ q) (BD A g v4 (A (9, 0, 0) w) kk_fa0 (kk_fbY g1))
        refine s146 hx a12 a13 rfl l5.1 ⟨h0.1, h0.2.1, by omega⟩ l5.2.2 (fun k => absurd k ok) (fun _ => ?_)
        rw [mm_pI, r_76_3_3 (htx1 := hc) (hx := hx)]
        exact q
theorem kk_argsL (hy : 5306 ≤ nx) {c m e f0 : Int} {v1 u4 u7 : mm_V} {A0 B0 : mm_Id → Int → Int} (l : kk_L b z n A0 B0 d) (hc : 0 ≤ c ∧ c < 47) (hm : m = mm_sl (2 * c + 1)) (ez : e ≤ z) (a11 : A0 (8, 0, 0) 11 = e)
    (Kok : ∀ A2 B2, kk_fa A0 A2 → kk_fbM B0 B2 → kk_gv c m A2 B2 → (0 < m → f0 + 2 ≤ e) → kk_J nx ns dm G (fun Q => KC (zI (-1)) (mm_z A2 d nx ns) Q) (fun Q => mm_Wp 292 (bk_292_6.drop 5) [zR (40, 0, 0), v1, zI e, zI c, u4, zI m, zI 0, u7] [zI 0] (mm_z B2 dm nx ns) (fun r h => KM r h Q)))
    (Kbad : ∀ r A2 B2, 1 ≤ r ∧ r ≤ 6 → kk_fa A0 A2 → kk_fbM B0 B2 → kk_J nx ns dm G (fun Q => KC (zI r) (mm_z A2 d nx ns) Q) (fun Q => KM (zI r) (mm_z B2 dm nx ns) Q)) :
    ∀ (k : Nat) (i p : Int) (A B : mm_Id → Int → Int) (v4 : mm_V), m - i = k → 0 ≤ i → kk_fa A0 A → kk_fbM B0 B → A (8, 0, 0) 13 = p → B (40, 0, 0) 45 = p → 0 ≤ f0 → f0 ≤ p → p ≤ e → (0 < i → f0 + 2 ≤ p) → (p < e → A0 (9, 0, 0) p = 32) → kk_gv c i A B →
      kk_J nx ns dm G (fun Q => mm_Wp 76 (mm_blk 76 1) [zR (1, 0, 0), zR (92, c, 0), zI m, zI i, v4] [] (mm_z A d nx ns) (fun r h => KC r h Q)) (fun Q => mm_Wp 292 (mm_blk 292 3) [zR (40, 0, 0), v1, zI e, zI c, u4, zI i, zI (kk_kn c i), u7] [] (mm_z B dm nx ns) (fun r h => KM r h Q)) := by
  have hx : 5275 ≤ nx := by omega
  have k1 := kk_kn1 hc
  intro k
  induction k with
  | zero =>
    intro i p A B v4 e1 e2 fA fB a13 b45 f00 fp pe fi sp gv
    have im : i = m := by omega
    subst im
    have L := kk_Lab l fA fB
    have lz := L.2.2.1
    have A11 : A (8, 0, 0) 11 = e := by rw [fA _ _ (by simp) (by simp)]; exact a11
    have k0 : kk_kn c i = 0 := by rw [hm]; exact kk_kn3 hc
    rw [k0]
    refine kk_J2 (P1 := fun Q => mm_Cl 142 [zR (8, 0, 0)] (mm_z A d nx ns) (fun r h3 => mm_Wp 76 (bk_76_7.drop 3) [zR (1, 0, 0), zR (92, c, 0), zI i, zI i, v4] (mm_push r []) h3 (fun r h => KC r h Q))) (P3 := fun Q => mm_Cl 287 [zR (40, 0, 0), zI p, zI e] (mm_z B dm nx ns) (fun r h3 => mm_Wp 292 (bk_292_6.drop 5) [zR (40, 0, 0), v1, zI e, zI c, u4, zI i, zI 0, u7] (mm_push r []) h3 (fun r h => KM r h Q))) (fun Q q => ?_) (fun Q q => ?_) ?_
    · rw [r_76_1 (htx1 := hc) (hx := hx), if_neg (by omega)]
      exact q
    · rw [r_292_3 (hy := hy), if_neg (by omega), b45]
      exact q
    · refine kk_wordJ (KC := fun r h3 Q => mm_Wp 76 (bk_76_7.drop 3) [zR (1, 0, 0), zR (92, c, 0), zI i, zI i, v4] (mm_push r []) h3 (fun r h => KC r h Q)) (KM := fun r h3 Q => mm_Wp 292 (bk_292_6.drop 5) [zR (40, 0, 0), v1, zI e, zI c, u4, zI i, zI 0, u7] (mm_push r []) h3 (fun r h => KM r h Q)) hy A11 a13 ⟨by omega, pe, by omega⟩ (fun i i0 i1 => (L.2.2.2.1 i (by omega) (by omega)).1) (fun w f A2 B2 gA gB q1 q2 q3 hw hf => ?_)
      have FA := kk_fat fA (kk_faw gA)
      have FB := kk_fbt fB (kk_fbw gB)
      by_cases wf : w < f
      · rw [if_pos wf]
        refine kk_J2 (fun Q q => ?_) (fun Q q => ?_) (Kbad (i + 1) A2 B2 (by omega) FA FB)
        · rw [mm_pI, r_76_7_3 (hx := hx), if_neg (by omega), r_76_9 (hx := hx), mm_wi (by omega) (by omega)]
          exact q
        · rw [mm_pI, r_292_6_5 (hy := hy), if_neg (by omega), mm_wi (by omega) (by omega)]
          exact q
      · rw [if_neg wf]
        refine kk_Jc (fun Q q => ?_) (Kok A2 B2 FA FB (fun k k0 k1 => by rw [gA _ _ (by simp), gB _ _ (by simp)]; exact gv k k0 k1) (fun m0 => by have := fi m0; omega))
        rw [mm_pI, r_76_7_3 (hx := hx), if_pos rfl, r_76_9 (hx := hx)]
        exact q
  | succ k ih =>
    intro i p A B v4 e1 e2 fA fB a13 b45 f00 fp pe fi sp gv
    have L := kk_Lab l fA fB
    have lz := L.2.2.1
    have A11 : A (8, 0, 0) 11 = e := by rw [fA _ _ (by simp) (by simp)]; exact a11
    have A9 : A (9, 0, 0) = A0 (9, 0, 0) := funext (fun j => fA _ _ (by simp) (by simp))
    have k0 := kk_kn2 hc e2 (by omega)
    refine kk_J2 (P1 := fun Q => mm_Cl 142 [zR (8, 0, 0)] (mm_z A d nx ns) (fun r h3 => mm_Wp 76 (bk_76_1.drop 6) [zR (1, 0, 0), zR (92, c, 0), zI m, zI i, v4] (mm_push r []) h3 (fun r h => KC r h Q))) (P3 := fun Q => mm_Cl 287 [zR (40, 0, 0), zI p, zI e] (mm_z B dm nx ns) (fun r h3 => mm_Wp 292 (bk_292_3.drop 7) [zR (40, 0, 0), v1, zI e, zI c, u4, zI i, zI (kk_kn c i), u7] (mm_push r []) h3 (fun r h => KM r h Q))) (fun Q q => ?_) (fun Q q => ?_) ?_
    · rw [r_76_1 (htx1 := hc) (hx := hx), if_pos (by omega)]
      exact q
    · rw [r_292_3 (hy := hy), if_pos k0.1, b45]
      exact q
    · refine kk_wordJ (KC := fun r h3 Q => mm_Wp 76 (bk_76_1.drop 6) [zR (1, 0, 0), zR (92, c, 0), zI m, zI i, v4] (mm_push r []) h3 (fun r h => KC r h Q)) (KM := fun r h3 Q => mm_Wp 292 (bk_292_3.drop 7) [zR (40, 0, 0), v1, zI e, zI c, u4, zI i, zI (kk_kn c i), u7] (mm_push r []) h3 (fun r h => KM r h Q)) hy A11 a13 ⟨by omega, pe, by omega⟩ (fun i i0 i1 => (L.2.2.2.1 i (by omega) (by omega)).1) (fun w f A2 B2 gA gB q1 q2 q3 hw hf => ?_)
      have FA := kk_fat fA (kk_faw gA)
      have FB := kk_fbt fB (kk_fbw gB)
      have L2 := kk_Lab l FA FB
      by_cases wf : w < f
      · rw [if_pos wf]
        have wp : p < w := by
          apply Classical.byContradiction
          intro k
          have h1 := hw.2.2.2 (by omega)
          have h2 := sp (by omega)
          rw [show w = p by omega, A9] at h1
          exact h1 h2
        refine kk_argJ hy L2 hc hm ⟨e2, by omega⟩ ⟨by omega, wf, by omega⟩ q1.1 q1.2.1 q1.2.2 q2.1 q2.2 (fun k k0 k1 => by rw [gA _ _ (by simp), gB _ _ (by simp)]; exact gv k k0 k1) rfl (fun A3 B3 v4 fA3 fB3 r13 r45 gv3 => ?_) (fun A3 B3 fA3 fB3 => ?_)
        · refine ih (i + 1) f A3 B3 v4 (by omega) (by omega) (kk_fat FA fA3) (kk_fbt FB fB3) r13 r45 f00 (by omega) q3.2.2 (fun _ => by omega) (fun k => ?_) gv3
          have := hf.2.2.2 k
          rw [A9] at this
          exact this
        · exact Kbad (i + 1) A3 B3 (by omega) (kk_fat FA fA3) (kk_fbt FB fB3)
      · rw [if_neg wf]
        refine kk_J2 (fun Q q => ?_) (fun Q q => ?_) (Kbad (i + 1) A2 B2 (by omega) FA FB)
        · rw [mm_pI, r_76_1_6 (htx1 := hc) (hx := hx), if_pos rfl, mm_wi (by omega) (by omega)]
          exact q
        · rw [mm_pI, r_292_3_7 (hy := hy), if_pos rfl, r_292_4 (hy := hy), mm_wi (by omega) (by omega)]
          exact q
end
