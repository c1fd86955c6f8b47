/-! scripts: run -/
theorem kk_coreU {b b2 : Int} {h : mm_Id → Int → Int} {dh : Int → Int} (hb : b ≤ b2 ∧ b2 ≤ 1000000) (hc : kk_core b h dh) : kk_core b2 h dh := by
  obtain ⟨⟨kt, kb, ⟨d1, d2, d3, d⟩, kg⟩, kp⟩ := hc
  exact ⟨⟨kt, kb, ⟨by omega, by omega, by omega, d⟩, kg⟩, kp⟩
section
variable {A B A2 B2 : mm_Id → Int → Int} {d d2 dm : Int → Int} {nx ns b b2 z n bt : Int}
def kk_GR (bt : Int) (r : mm_V) (A : mm_Id → Int → Int) (d : Int → Int) (B : mm_Id → Int → Int) : Prop := kk_SI r ∧ kk_core bt (kk_M A B) d ∧ kk_EAB A B ∧ kk_sI (kk_M A B)
theorem kk_endG {r r1 : Int} {A2 B2 : mm_Id → Int → Int} (l : kk_L b z n A B d) (hb : b ≤ bt ∧ bt ≤ 1000000) (rr : -2147483648 ≤ r ∧ r < 2147483648) (r1r : -2147483648 ≤ r1 ∧ r1 < 2147483648) (fA : ∀ x j, ¬ (x = (8, 0, 0) ∧ (j = 1 ∨ j = 9)) → A2 x j = A x j) (fB : ∀ x j, ¬ (x = (40, 0, 0) ∧ (j = 0 ∨ j = 37 ∨ j = 43)) → B2 x j = B x j) (a1 : A2 (8, 0, 0) 1 = 0) (b37 : B2 (40, 0, 0) 37 = 0) (a9 : A2 (8, 0, 0) 9 = r1) (b43 : B2 (40, 0, 0) 43 = r1) : kk_GR bt (zI r) A2 d B2 := by
  obtain ⟨l0, lE, l1, l2, l3, l4, ⟨o, p1, p2, p3, p4, p5⟩, l6⟩ := l
  refine ⟨⟨r, rfl, rr⟩, kk_coreU hb (kk_coreR (h := kk_M A B) (fun x j s1 s2 => ?_) l0), fun x j q => ?_, ?_⟩
  · by_cases c : x.1 < 40
    · rw [kk_Mc c, kk_Mc c]
      refine fA x j (fun w => s1 ?_)
      rw [w.1]; simp [kk_scr]
    · rw [kk_Mm (by omega), kk_Mm (by omega)]
      refine fB x j (fun w => ?_)
      by_cases j0 : j = 0
      · exact s2 ⟨w.1, j0⟩
      · refine s1 ?_
        rw [w.1]; unfold kk_scr; simp; omega
  · rw [fA x j (fun w => by rw [w.1] at q; simp at q), fB x j (fun w => by rw [w.1] at q; simp at q)]
    exact lE x j q
  · unfold kk_sI
    simp only [kk_MF (show 8 < 40 by decide), kk_MF (show 9 < 40 by decide), kk_MF (show 10 < 40 by decide), kk_MG (show 40 ≤ 40 by decide), kk_MG (show 40 ≤ 67 by decide), kk_MG (show 40 ≤ 68 by decide), a1, b37, a9, b43]
    rw [fA _ 3 (by simp), fB _ 39 (by simp), p1, p2]
    refine ⟨⟨trivial, by omega, by omega⟩, fun i i0 i1 => by omega, ⟨rfl, p3, by omega⟩, fun i i0 i1 => ?_, trivial, r1r⟩
    rw [fA _ _ (by simp), fB _ _ (by simp)]
    exact p5 i i0 i1
/-- a line that is wrong ends the run -/
theorem kk_wrongJ (hy : 5306 ≤ nx) {k r e : Int} {u2 u4 v3 v4 : mm_V} (l : kk_L b z n A B d) (hb : b ≤ bt ∧ bt ≤ 1000000) (k0 : 0 ≤ k ∧ k ≤ 8000) (r0 : 0 ≤ r ∧ r ≤ 6) (e0 : 0 ≤ e ∧ e ≤ 8000) :
    kk_J nx ns dm (kk_GR bt) (fun Q => mm_Wp 49 (mm_blk 49 5) [zR (1, 0, 0), zI (-10 - k), zI k, v3, v4] [] (mm_z (mm_up A (8, 0, 0) 9 r) d nx ns) Q) (fun Q => mm_Wp 293 (bk_293_3.drop 4) [zR (40, 0, 0), zI z, u2, zI k, u4, zI e] [zI r] (mm_z B dm nx ns) Q) := by
  have hx : 5275 ≤ nx := by omega
  refine ⟨zI (-10 - k), mm_up (mm_up A (8, 0, 0) 9 r) (8, 0, 0) 1 0, d, mm_up (mm_up (mm_up B (40, 0, 0) 37 0) (40, 0, 0) 0 0) (40, 0, 0) 43 r, kk_endG l hb ⟨by omega, by omega⟩ (r1 := r) ⟨by omega, by omega⟩ (fun x j q => ?_) (fun x j q => ?_) (by rw [mm_ups]) (by rw [mm_upj (by decide), mm_upj (by decide), mm_ups]) (by rw [mm_upj (by decide), mm_ups]) (by rw [mm_ups]), ?_, ?_⟩
  · rw [mm_upne' (fun w => q ⟨w.1, Or.inl w.2⟩), mm_upne' (fun w => q ⟨w.1, Or.inr w.2⟩)]
  · rw [mm_upne' (fun w => q ⟨w.1, by omega⟩), mm_upne' (fun w => q ⟨w.1, by omega⟩), mm_upne' (fun w => q ⟨w.1, by omega⟩)]
  · have E : ∀ v2 v3 v4, mm_Wp 49 (mm_blk 49 6) [zR (1, 0, 0), zI (-10 - k), v2, v3, v4] [] (mm_z (mm_up A (8, 0, 0) 9 r) d nx ns) (fun r1 h => r1 = zI (-10 - k) ∧ h = mm_z (mm_up (mm_up A (8, 0, 0) 9 r) (8, 0, 0) 1 0) d nx ns) := fun v2 v3 v4 => by
      rw [r_49_6 (hx := hx), if_pos (by omega), r_49_8 (hx := hx)]
      exact ⟨rfl, rfl⟩
    show mm_Wp 49 (mm_blk 49 5) _ _ _ _
    rw [r_49_5 (hx := hx), r_49_1 (hx := hx)]
    by_cases c : 8000 < mm_w (k + 1)
    · rw [if_pos c]; exact E _ _ _
    · rw [if_neg c, if_neg (by omega)]; exact E _ _ _
  · have E : ∀ v1 v2 v5, mm_Wp 293 (mm_blk 293 4) [zR (40, 0, 0), v1, v2, zI (mm_w (k + 1)), zI r, v5] [] (mm_z B dm nx ns) (fun r1 h => r1 = zI (-10 - k) ∧ h = mm_z (mm_up (mm_up (mm_up B (40, 0, 0) 37 0) (40, 0, 0) 0 0) (40, 0, 0) 43 r) dm nx ns) := fun v1 v2 v5 => by
      rw [r_293_4 (hy := hy), if_neg (by omega), mm_wi (z := k + 1) (by omega) (by omega), mm_wi (z := k + 1 - 1) (by omega) (by omega), mm_wi (by omega) (by omega), show -10 - (k + 1 - 1) = -10 - k by omega]
      exact ⟨rfl, rfl⟩
    show mm_Wp 293 (bk_293_3.drop 4) _ _ _ _
    rw [r_293_3_4 (hy := hy), r_293_1 (hy := hy)]
    by_cases c : mm_w (e + 1) < z
    · rw [if_pos c, if_neg (by omega)]; exact E _ _ _
    · rw [if_neg c]; exact E _ _ _
/-- the reference looks for the end of a line -/
theorem m293s {h : mm_Id → Int → Int} {dh : Int → Int} {Q : mm_V → mm_H → Prop} (hy : 5306 ≤ nx) {a e : Int} {x3 : Int} {v4 : mm_V} (h0 : 0 ≤ a ∧ a < z ∧ z ≤ 8000) (he : kk_fst (fun i => h (67, 0, 0) i = 10) a z e) (K : mm_Wp 293 (mm_blk 293 3) [zR (40, 0, 0), zI z, zI a, zI x3, v4, zI e] [] (mm_z h dh nx ns) Q) :
    mm_Wp 293 (mm_blk 293 2) [zR (40, 0, 0), zI z, zI a, zI x3, v4, zI a] [] (mm_z h dh nx ns) Q := by
  obtain ⟨e1, e2, e3, e4⟩ := he
  have L : ∀ (d : Nat) (i : Int), e - i = d → a ≤ i → mm_Wp 293 (mm_blk 293 2) [zR (40, 0, 0), zI z, zI a, zI x3, v4, zI i] [] (mm_z h dh nx ns) Q := by
    intro d
    induction d with
    | zero =>
      intro i i1 i2
      have ie : i = e := by omega
      subst ie
      rw [r_293_2 (hy := hy)]
      by_cases c : i < z
      · rw [if_pos c, if_pos (e4 c)]
        exact ⟨by omega, K⟩
      · rw [if_neg c]
        exact K
    | succ d ih =>
      intro i i1 i2
      rw [r_293_2 (hy := hy), if_pos (by omega), if_neg (e3 i i2 (by omega)), mm_wi (by omega) (by omega)]
      exact ⟨by omega, ih (i + 1) (by omega) (by omega)⟩
  exact L (e - a).toNat a (by omega) (by omega)
theorem kk_iswe {T U : Int → Int} {a b t : Int} (g : mm_isG t) (e : ∀ i, a ≤ i → i < b → T i = U i) : kk_isw T a b t ↔ kk_isw U a b t := by
  have k := kk_slb g
  unfold kk_isw
  constructor
  · rintro ⟨q1, q2⟩
    exact ⟨q1, fun i i0 i1 => by rw [← e (a + i) (by omega) (by omega)]; exact q2 i i0 i1⟩
  · rintro ⟨q1, q2⟩
    exact ⟨q1, fun i i0 i1 => by rw [e (a + i) (by omega) (by omega)]; exact q2 i i0 i1⟩
theorem kk_linesJ (hy : 5306 ≤ nx) (hbt : bt ≤ 1000000) : ∀ (N : Nat) (a k n b : Int) (A B : mm_Id → Int → Int) (d : Int → Int) (v3 v4 v5 : mm_V), z - a ≤ N → 0 ≤ k → k ≤ a → 5 * n ≤ a → a ≤ z + 1 → b + 1600 - n = bt → kk_L b z n A B d → A (8, 0, 0) 10 = a →
    kk_J nx ns dm (kk_GR bt) (fun Q => mm_Wp 49 (mm_blk 49 1) [zR (1, 0, 0), zI 0, zI k, v3, v4] [] (mm_z A d nx ns) Q) (fun Q => mm_Wp 293 (mm_blk 293 1) [zR (40, 0, 0), zI z, zI a, zI k, zI (-1), v5] [] (mm_z B dm nx ns) Q) := by
  have hx : 5275 ≤ nx := by omega
  -- no line is left
  have E : ∀ (a k n b : Int) (A B : mm_Id → Int → Int) (d : Int → Int) (v3 v4 v5 : mm_V), ¬ a < z → b + 1600 - n = bt → kk_L b z n A B d → A (8, 0, 0) 10 = a → kk_J nx ns dm (kk_GR bt) (fun Q => mm_Wp 49 (mm_blk 49 1) [zR (1, 0, 0), zI 0, zI k, v3, v4] [] (mm_z A d nx ns) Q) (fun Q => mm_Wp 293 (mm_blk 293 1) [zR (40, 0, 0), zI z, zI a, zI k, zI (-1), v5] [] (mm_z B dm nx ns) Q) := by
    intro a k n b A B d v3 v4 v5 az e6 l a10
    have l3 := l.2.2.2.2.1
    have l1 := l.2.2.1
    have l6 := l.2.2.2.2.2.2.2
    refine ⟨zI n, mm_up A (8, 0, 0) 1 0, d, mm_up (mm_up B (40, 0, 0) 37 0) (40, 0, 0) 0 0, kk_endG l ⟨by omega, hbt⟩ ⟨by omega, by omega⟩ (r1 := -2) ⟨by omega, by omega⟩ (fun x j q => mm_upne' (fun w => q ⟨w.1, Or.inl w.2⟩)) (fun x j q => ?_) (by rw [mm_ups]) (by rw [mm_upj (by decide), mm_ups]) (by rw [mm_upj (by decide)]; exact l6.1) (by rw [mm_upj (by decide), mm_upj (by decide)]; exact l6.2), ?_, ?_⟩
    · rw [mm_upne' (fun w => q ⟨w.1, by omega⟩), mm_upne' (fun w => q ⟨w.1, by omega⟩)]
    · have F : mm_Wp 49 (mm_blk 49 6) [zR (1, 0, 0), zI 0, zI k, v3, v4] [] (mm_z A d nx ns) (fun r1 h => r1 = zI n ∧ h = mm_z (mm_up A (8, 0, 0) 1 0) d nx ns) := by
        rw [r_49_6 (hx := hx), if_neg (by omega), r_49_8 (hx := hx), mm_upj (by decide), l3.1]
        exact ⟨rfl, rfl⟩
      show mm_Wp 49 (mm_blk 49 1) _ _ _ _
      rw [r_49_1 (hx := hx)]
      by_cases c : 8000 < k
      · rw [if_pos c]; exact F
      · rw [if_neg c, if_pos rfl]
        refine s141n hx (by rw [a10, l1.1]; omega) ?_
        rw [mm_pI, r_49_1_8 (hx := hx), if_pos rfl]
        exact F
    · show mm_Wp 293 (mm_blk 293 1) _ _ _ _
      rw [r_293_1 (hy := hy), if_neg az, r_293_4 (hy := hy), if_pos (by omega), mm_upj (by decide), mm_upj (by decide), l3.2.1]
      exact ⟨rfl, rfl⟩
  intro N
  induction N with
  | zero =>
    intro a k n b A B d v3 v4 v5 e1 e2 e3 e4 e5 e6 l a10
    exact E a k n b A B d v3 v4 v5 (by omega) e6 l a10
  | succ N ih =>
    intro a k n b A B d v3 v4 v5 e1 e2 e3 e4 e5 e6 l a10
    by_cases az : a < z
    rotate_left
    · exact E a k n b A B d v3 v4 v5 az e6 l a10
    have l1 := l.2.2.1
    have l2 := l.2.2.2.1
    have l3 := l.2.2.2.2.1
    obtain ⟨e, he⟩ := kk_fstex (fun i => A (9, 0, 0) i = 10) a z (by omega)
    have me : kk_fst (fun i => B (67, 0, 0) i = 10) a z e := kk_fste he (fun i i0 i1 => by rw [(l2 i (by omega) i1).1])
    have q1 := he.1
    have q2 := he.2.1
    obtain ⟨A1, eA1⟩ : ∃ A1, A1 = mm_up (mm_up (mm_up A (8, 0, 0) 13 a) (8, 0, 0) 11 e) (8, 0, 0) 10 (e + 1) := ⟨_, rfl⟩
    have fA1 : ∀ x j, ¬ kk_xc x j → A1 x j = A x j := fun x j q => by
      rw [eA1, mm_upne' (fun w => q (Or.inl ⟨w.1, by omega⟩)), mm_upne' (fun w => q (Or.inl ⟨w.1, by omega⟩)), mm_upne' (fun w => q (Or.inl ⟨w.1, by omega⟩))]
    have L1 : kk_L b z n A1 B d := kk_Lx l fA1 (fun _ _ _ => rfl)
    have g10 : A1 (8, 0, 0) 10 = e + 1 := by rw [eA1, mm_ups]
    have g11 : A1 (8, 0, 0) 11 = e := by rw [eA1, mm_upj (by decide), mm_ups]
    have g13 : A1 (8, 0, 0) 13 = a := by rw [eA1, mm_upj (by decide), mm_upj (by decide), mm_ups]
    have T1 := L1.2.2.2.1
    refine kk_J2 (P1 := fun Q => mm_Cl 142 [zR (8, 0, 0)] (mm_z A1 d nx ns) (fun r h => (fun r h3 Q => mm_Wp 49 (bk_49_1.drop 12) [zR (1, 0, 0), zI 0, zI k, v3, v4] (mm_push r []) h3 Q) r h Q)) (P3 := fun Q => mm_Cl 287 [zR (40, 0, 0), zI a, zI e] (mm_z B dm nx ns) (fun r h => (fun r h3 Q => mm_Wp 292 (bk_292_0.drop 4) [zR (40, 0, 0), zI a, zI e, zU, zU, zU, zU, zU] (mm_push r []) h3 (fun r h3 => mm_Wp 293 (bk_293_3.drop 4) [zR (40, 0, 0), zI z, zI a, zI k, zI (-1), zI e] (mm_push r []) h3 Q)) r h Q)) (fun Q q => ?_) (fun Q q => ?_) ?_
    · rw [r_49_1 (hx := hx), if_neg (by omega), if_pos rfl]
      refine s141 hx l1.1 a10 ⟨by omega, az, by omega⟩ (fun e' he' => ?_)
      have ee := kk_fstu he he'
      subst ee
      rw [mm_pI, r_49_1_8 (hx := hx), if_neg (by omega), ← eA1]
      exact q
    · rw [r_293_1 (hy := hy), if_pos az, if_pos (by omega)]
      refine m293s hy ⟨by omega, az, by omega⟩ me ?_
      rw [r_293_3 (hy := hy), r_292_e (hy := hy)]
      exact q
    · refine kk_wordJ (KC := fun r h3 Q => mm_Wp 49 (bk_49_1.drop 12) [zR (1, 0, 0), zI 0, zI k, v3, v4] (mm_push r []) h3 Q) (KM := fun r h3 Q => mm_Wp 292 (bk_292_0.drop 4) [zR (40, 0, 0), zI a, zI e, zU, zU, zU, zU, zU] (mm_push r []) h3 (fun r h3 => mm_Wp 293 (bk_293_3.drop 4) [zR (40, 0, 0), zI z, zI a, zI k, zI (-1), zI e] (mm_push r []) h3 Q)) hy g11 g13 ⟨by omega, by omega, by omega⟩ (fun i i0 i1 => (T1 i (by omega) (by omega)).1) (fun w f A2 B2 gA gB r1 r2 r3 hw hf => ?_)
      have FA := kk_faw gA
      have FB := kk_fbw gB
      have L2 := kk_Lab L1 FA FB
      have T2 := L2.2.2.2.1
      have h10 : A2 (8, 0, 0) 10 = e + 1 := by rw [gA _ _ (by simp)]; exact g10
      have h11 : A2 (8, 0, 0) 11 = e := by rw [gA _ _ (by simp)]; exact g11
      by_cases wf : w < f
      rotate_left
      · -- no word
        rw [if_neg wf]
        refine kk_J2 (fun Q q => ?_) (fun Q q => ?_) (ih (e + 1) (k + 1) n b A2 B2 d v3 v4 (zI e) (by omega) (by omega) (by omega) (by omega) (by omega) e6 L2 h10)
        · rw [mm_pI, r_49_1_12 (hx := hx), if_pos rfl, r_49_5 (hx := hx), mm_wi (by omega) (by omega)]
          exact q
        · rw [mm_pI, r_292_0_4 (hy := hy), if_pos rfl]
          rw [mm_pI, r_293_3_4 (hy := hy), mm_wi (by omega) (by omega), mm_wi (by omega) (by omega)]
          exact q
      · rw [if_pos wf]
        have TE : ∀ i, w ≤ i → i < f → A2 (9, 0, 0) i = B2 (67, 0, 0) i := fun i i0 i1 => (T2 i (by omega) (by omega)).1
        obtain ⟨c, c1, c2, c3, c4⟩ := kk_fstex (fun c => kk_isw (A2 (9, 0, 0)) w f (2 * c)) 0 47 (by omega)
        by_cases c5 : c < 47
        · have hc : 0 ≤ c ∧ c < 47 := ⟨c1, c5⟩
          have k1 := kk_kn1 hc
          obtain ⟨m, hm⟩ : ∃ m, m = mm_sl (2 * c + 1) := ⟨_, rfl⟩
          rw [← hm] at k1
          have wl := (c4 c5).1
          refine kk_J2 (P1 := fun Q => mm_Wp 76 (mm_blk 76 1) [zR (1, 0, 0), zR (92, c, 0), zI m, zI 0, zU] [] (mm_z A2 d nx ns) (fun r h => (fun r h3 Q => mm_Wp 49 (bk_49_2.drop 3) [zR (1, 0, 0), zI 0, zI k, zR (92, c, 0), v4] (mm_push r []) h3 Q) r h Q)) (P3 := fun Q => mm_Wp 292 (mm_blk 292 3) [zR (40, 0, 0), zI a, zI e, zI c, zI (kk_kn c 0), zI 0, zI (kk_kn c 0), zU] [] (mm_z B2 dm nx ns) (fun r h => (fun r h3 Q => mm_Wp 293 (bk_293_3.drop 4) [zR (40, 0, 0), zI z, zI a, zI k, zI (-1), zI e] (mm_push r []) h3 Q) r h Q)) (fun Q q => ?_) (fun Q q => ?_) ?_
          · rw [mm_pI, r_49_1_12 (hx := hx), if_neg (by omega)]
            refine s143 hx r1.1 r1.2.1 ⟨by omega, by omega, by omega⟩ (fun c' x1 x2 x3 x4 => ?_) (fun no => absurd (c4 c5) (no c c1 c5))
            have cc : c' = c := by
              apply Classical.byContradiction
              intro ne
              by_cases lt : c' < c
              · exact c3 c' x1 lt x3
              · exact x4 c c1 (by omega) (c4 c5)
            rw [cc, mm_pR, r_49_1_16a (hty0 := hc) (hx := hx), r_76_e (htx1 := hc) (hx := hx)]
            refine s300 hx ⟨by omega, by omega⟩ ?_
            rw [mm_pI, r_76_0_3 (htx1 := hc) (hx := hx), if_neg (by omega), ← hm]
            exact q
          · rw [mm_pI, r_292_0_4 (hy := hy), if_neg (by omega)]
            refine m282 hy r2.1 r2.2 ⟨by omega, by omega, by omega⟩ (fun i i0 i1 => by rw [← TE i i0 i1]; exact (T2 i (by omega) (by omega)).2) (fun c' x1 x2 x3 x4 => ?_) (fun no => absurd ((kk_iswe ⟨by omega, by omega⟩ TE).1 (c4 c5)) (no c c1 c5))
            have cc : c' = c := by
              apply Classical.byContradiction
              intro ne
              by_cases lt : c' < c
              · exact c3 c' x1 lt ((kk_iswe ⟨by omega, by omega⟩ TE).2 x3)
              · exact x4 c c1 (by omega) ((kk_iswe ⟨by omega, by omega⟩ TE).1 (c4 c5))
            rw [cc, mm_pI, r_292_1_2 (hy := hy), if_neg (by omega)]
            refine m283 hy hc ?_
            rw [mm_pI, r_292_2_2 (hy := hy)]
            exact q
          · refine kk_argsL (KC := fun r h3 Q => mm_Wp 49 (bk_49_2.drop 3) [zR (1, 0, 0), zI 0, zI k, zR (92, c, 0), v4] (mm_push r []) h3 Q) (KM := fun r h3 Q => mm_Wp 293 (bk_293_3.drop 4) [zR (40, 0, 0), zI z, zI a, zI k, zI (-1), zI e] (mm_push r []) h3 Q) (f0 := f) hy L2 hc hm q2 h11 (fun A3 B3 fA3 fB3 gv fm => ?_) (fun r A3 B3 rr fA3 fB3 => ?_) m.toNat 0 f A2 B2 zU (by omega) (by omega) kk_fa0 kk_fb0 r1.2.1 r2.2 (by omega) (by omega) r3.2.2 (fun _ => by omega) (fun ff => ?_) (fun i i0 i1 => by omega)
            · -- the call is done
              have L3 := kk_Lab L2 fA3 fB3
              have n16 : n < 1600 := by omega
              refine kk_Jc (P1 := fun Q => mm_Cl 78 [zR (1, 0, 0), zR (92, c, 0), zR (12, 0, 0)] (mm_z A3 d nx ns) (fun r h => (fun r h3 Q => mm_Wp 49 (bk_49_3.drop 11) [zR (1, 0, 0), zI 0, zI k, zR (92, c, 0), zI (-1)] (mm_push r [zR (8, 0, 0)]) h3 Q) r h Q)) (fun Q q => ?_) ?_
              · rw [mm_pI, r_49_2_3 (htx3 := hc) (hx := hx), r_49_3a (htx3 := hc) (hx := hx), if_pos (by omega)]
                exact q
              · refine kk_doJ (KC := fun r h3 Q => mm_Wp 49 (bk_49_3.drop 11) [zR (1, 0, 0), zI 0, zI k, zR (92, c, 0), zI (-1)] (mm_push r [zR (8, 0, 0)]) h3 Q) (KM := fun r h3 Q => mm_Wp 293 (bk_293_3.drop 4) [zR (40, 0, 0), zI z, zI a, zI k, zI (-1), zI e] (mm_push r []) h3 Q) hy hc hm L3 (by omega) gv (fun v A4 d4 B4 v6 v7 vr L4 a4 => ?_)
                refine kk_Jc (P1 := fun Q => mm_Cl 151 [zR (8, 0, 0), zL v] (mm_z A4 d4 nx ns) (fun r h => (fun r h3 Q => mm_Wp 49 (bk_49_3.drop 12) [zR (1, 0, 0), zI 0, zI k, zR (92, c, 0), zI (-1)] (mm_push r []) h3 Q) r h Q)) (fun Q q => ?_) ?_
                · rw [mm_pL, r_49_3_11 (hx := hx)]
                  exact q
                · refine kk_noteJ (KC := fun r h3 Q => mm_Wp 49 (bk_49_3.drop 12) [zR (1, 0, 0), zI 0, zI k, zR (92, c, 0), zI (-1)] (mm_push r []) h3 Q) (KM := fun r h3 Q => mm_Wp 293 (bk_293_3.drop 4) [zR (40, 0, 0), zI z, zI a, zI k, zI (-1), zI e] (mm_push r []) h3 Q) hy L4 n16 vr rfl (fun A5 B5 L5 a5 => ?_)
                  refine kk_J2 (fun Q q => ?_) (fun Q q => ?_) (ih (e + 1) (k + 1) (n + 1) (b + 1) A5 B5 d4 (zR (92, c, 0)) (zI (-1)) (zI e) (by omega) (by omega) (by omega) (by omega) (by omega) (by omega) L5 (by rw [a5, a4, fA3 _ _ (by simp) (by simp)]; exact h10))
                  · rw [mm_pU, r_49_3_12 (hx := hx), r_49_5 (hx := hx), mm_wi (by omega) (by omega)]
                    exact q
                  · rw [mm_pI, r_293_3_4 (hy := hy), mm_wi (by omega) (by omega), mm_wi (by omega) (by omega)]
                    exact q
            · -- a word is wrong
              refine kk_J2 (fun Q q => ?_) (fun Q q => ?_) (kk_wrongJ (k := k) (r := r) (e := e) (u2 := zI a) (u4 := zI (-1)) (v3 := zR (92, c, 0)) (v4 := zI r) hy (kk_Lab L2 fA3 fB3) ⟨by omega, hbt⟩ ⟨by omega, by omega⟩ ⟨by omega, by omega⟩ ⟨by omega, by omega⟩)
              · rw [mm_pI, r_49_2_3 (htx3 := hc) (hx := hx), r_49_3a (htx3 := hc) (hx := hx), if_neg (by omega), mm_wi (by omega) (by omega)]
                exact q
              · rw [mm_pI]
                exact q
            · rw [gA _ _ (by simp)]; exact hf.2.2.2 ff
        · -- no such call
          have no : ∀ e : Int, 0 ≤ e → e < 47 → ¬ kk_isw (A2 (9, 0, 0)) w f (2 * e) := fun e e0 e1 => c3 e e0 (by omega)
          refine kk_J2 (fun Q q => ?_) (fun Q q => ?_) (kk_wrongJ (k := k) (r := 0) (e := e) (u2 := zI a) (u4 := zI (-1)) (v3 := zR mm_nul) (v4 := zI 0) hy L2 ⟨by omega, hbt⟩ ⟨by omega, by omega⟩ ⟨by omega, by omega⟩ ⟨by omega, by omega⟩)
          · rw [mm_pI, r_49_1_12 (hx := hx), if_neg (by omega)]
            refine s143 hx r1.1 r1.2.1 ⟨by omega, by omega, by omega⟩ (fun c' x1 x2 x3 x4 => absurd x3 (no c' x1 x2)) (fun _ => ?_)
            rw [mm_pR, r_49_1_16 (hx := hx), r_49_3 (hx := hx), if_neg (by omega), mm_wi (by omega) (by omega)]
            exact q
          · rw [mm_pI, r_292_0_4 (hy := hy), if_neg (by omega)]
            refine m282 hy r2.1 r2.2 ⟨by omega, by omega, by omega⟩ (fun i i0 i1 => by rw [← TE i i0 i1]; exact (T2 i (by omega) (by omega)).2) (fun c' x1 x2 x3 x4 => absurd ((kk_iswe ⟨by omega, by omega⟩ TE).2 x3) (no c' x1 x2)) (fun _ => ?_)
            rw [mm_pI, r_292_1_2 (hy := hy), if_pos (by omega), mm_pI]
            exact q
end
section
variable {b : Int} {h : mm_Id → Int → Int} {dh : Int → Int} {nx ns : Int}
theorem c_49 (hy : 5306 ≤ nx) (hc : kk_core b h dh) (hs : kk_sI h) (hb : b + 1600 ≤ 1000000) : kk_callS 49 293 [] b 1600 h dh nx ns := by
  have hx : 5275 ≤ nx := by omega
  obtain ⟨A, eA⟩ : ∃ A, A = mm_up (mm_up (mm_up (mm_up h (8, 0, 0) 3 0) (8, 0, 0) 5 0) (8, 0, 0) 9 (-2)) (8, 0, 0) 10 0 := ⟨_, rfl⟩
  obtain ⟨B, eB⟩ : ∃ B, B = mm_up (mm_up (mm_up (mm_up h (40, 0, 0) 0 0) (40, 0, 0) 42 0) (40, 0, 0) 39 0) (40, 0, 0) 43 (-2) := ⟨_, rfl⟩
  have fA : ∀ x j, x ≠ (8, 0, 0) → A x j = h x j := fun x j q => by
    rw [eA, mm_upx q, mm_upx q, mm_upx q, mm_upx q]
  have fB : ∀ x j, ¬ (x = (40, 0, 0) ∧ (j = 0 ∨ j = 42 ∨ j = 39 ∨ j = 43)) → B x j = h x j := fun x j q => by
    rw [eB, mm_upne' (fun w => q ⟨w.1, by omega⟩), mm_upne' (fun w => q ⟨w.1, by omega⟩), mm_upne' (fun w => q ⟨w.1, by omega⟩), mm_upne' (fun w => q ⟨w.1, by omega⟩)]
  have a8 : A (8, 0, 0) 1 = h (8, 0, 0) 1 := by rw [eA, mm_upj (by decide), mm_upj (by decide), mm_upj (by decide), mm_upj (by decide)]
  obtain ⟨s1, s2, s3, s4, s5⟩ := hs
  have L : kk_L b (h (8, 0, 0) 1) 0 A B dh := by
    refine ⟨?_, ?_, ⟨a8, by rw [fB _ _ (by simp)]; exact s1.1.symm, s1.2⟩, fun i i0 i1 => ?_, ⟨?_, ?_, by omega, by omega⟩, fun i i0 i1 => by omega, ⟨0, ?_, ?_, by omega, by omega, fun i i0 i1 => by omega⟩, ?_, ?_⟩
    · refine kk_coreR (h := h) (fun x j q1 q2 => ?_) hc
      by_cases c : x.1 < 40
      · rw [kk_Mc c]
        exact fA x j (fun w => q1 (by rw [w]; simp [kk_scr]))
      · rw [kk_Mm (by omega)]
        refine fB x j (fun w => ?_)
        by_cases j0 : j = 0
        · exact q2 ⟨w.1, j0⟩
        · exact q1 (by rw [w.1]; unfold kk_scr; simp; omega)
    · intro x j q
      rw [fA x j (fun w => by rw [w] at q; simp at q), fB x j (fun w => by rw [w.1] at q; simp at q)]
    · rw [fA _ _ (by simp), fB _ _ (by simp)]
      exact s2 i i0 i1
    · rw [eA, mm_upj (by decide), mm_upj (by decide), mm_ups]
    · rw [eB, mm_upj (by decide), mm_upj (by decide), mm_ups]
    · rw [eA, mm_upj (by decide), mm_upj (by decide), mm_upj (by decide), mm_ups]
    · rw [eB, mm_upj (by decide), mm_ups]
    · rw [eA, mm_upj (by decide), mm_ups]
    · rw [eB, mm_ups]
  obtain ⟨r, A2, d2, B2, ⟨g1, g2, g3, g4⟩, pc, pm⟩ := kk_linesJ (dm := dh) (ns := ns) (bt := b + 1600) hy hb (h (8, 0, 0) 1 - 0).toNat 0 0 0 b A B dh zU zU zU (by omega) (by omega) (by omega) (by omega) (by omega) (by omega) L (by rw [eA, mm_ups])
  have RC : mm_Cl 49 [zR (1, 0, 0)] (mm_z h dh nx ns) (fun r1 h1 => r1 = r ∧ h1 = mm_z A2 d2 nx ns) := by
    rw [r_49_e (hx := hx), r_140_e (hx := hx), ← eA, mm_pU, r_49_0_3 (hx := hx)]
    exact pc
  have RM : mm_Cl 293 [zR (40, 0, 0)] (mm_z h dh nx ns) (fun r1 h1 => r1 = r ∧ h1 = mm_z B2 dh nx ns) := by
    rw [r_293_e (hy := hy), ← eB, fB _ 37 (by simp), ← s1.1]
    exact pm
  have sl : ∀ (S : mm_Id → Bool) x, S x = true → mm_SLs S [zR x] := fun S x q => mm_SLc (mm_SVR q) mm_SLn
  obtain ⟨r1, H1, ⟨x1, x2⟩, x3⟩ := kk_ClC hy (sl kk_sC (1, 0, 0) (by decide)) RC
  obtain ⟨y1, y2, _⟩ := x3 A2 d2 x2
  obtain ⟨r2, H2, ⟨z1, z2⟩, z3⟩ := kk_ClM hy (sl kk_sM (40, 0, 0) (by decide)) RM
  obtain ⟨w1, w2, w3⟩ := z3 B2 z2
  unfold kk_callS
  refine mm_Clm ?_ RC
  rintro r' h' ⟨u1, u2⟩
  refine ⟨by rw [u1]; exact g1, A2, d2, u2, ?_⟩
  refine mm_Clm ?_ (w3 A2 d2 (fun x j q => ?_))
  · rintro r'' h'' ⟨v1, B3, v2, v3, v4⟩
    have e3 : B3 = kk_M A2 B2 := by
      funext x j
      by_cases c : x.1 < 40
      · rw [kk_Mc c]; exact v4 x j c
      · rw [kk_Mm (by omega)]; exact v3 x j (by omega)
    exact ⟨by rw [v1, z1, u1], B3, v2, by rw [e3]; exact g2, by rw [e3]; exact g4⟩
  · rcases q with q | q
    · exact y2 x j q
    · exact y1 x j q
end
