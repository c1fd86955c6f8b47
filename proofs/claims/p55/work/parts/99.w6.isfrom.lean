/-! receive, the reference: whether a tree is as the stream's is from -/
section
variable {h gb : mm_Id → Int → Int} {dh dh0 : Int → Int} {nx ns b : Int} {Q : mm_V → mm_H → Prop}
theorem kk_ctF (e : ∀ f : Nat, 41 ≤ f → f ≤ 54 → gb (f, 0, 0) = h (f, 0, 0)) (s n : Int) : kk_ctn2 gb s n ↔ kk_ctn2 h s n := by
  simp only [kk_ctn2, kk_ef, kk_ed, e 41 (by decide) (by decide), e 44 (by decide) (by decide), e 46 (by decide) (by decide)]
/-- what counts of a tree that is there -/
theorem kk_ctC (hc : kk_core b h dh0) {t n : Int} (ht : 0 ≤ t ∧ t < 13) (hn : 1 ≤ n ∧ n < 37) : kk_ctn2 h t n ↔ h (24, t, n) 0 ≠ 0 ∧ ¬ (h (24, t, n) 0 = 1 ∧ h (24, t, n) 5 = 0) := by
  have hT := mm_T13 ht
  have N := kk_NRC hc (t := t) (n := n) ⟨ht.1, by omega⟩ hn
  have W := hc.1.1.2.1 t n hT hn.1 hn.2
  have T := (hc.1.1.2.2.1 t hT).1 n hn.1 hn.2
  have e := kk_ecf (h := h) (t := t) (fun n n0 n1 => kk_NRC hc (t := t) (n := n) ⟨ht.1, by omega⟩ ⟨n0, n1⟩) (fun n n0 n1 => (hc.1.1.2.1 t n hT n0 n1).2.1.1) n
  have nn : 0 ≤ kk_ec h t n := kk_Snn 36 (fun d _ _ => sm_nn _ (fun e _ _ => by split <;> omega))
  unfold kk_ctn2
  rw [← N.1, ← e]
  have := W.1
  constructor
  · rintro ⟨q1, q2⟩
    refine ⟨by omega, fun q => ?_⟩
    have := q2 q.1
    have := T (by omega)
    omega
  · rintro ⟨q1, q2⟩
    refine ⟨by omega, fun q => ?_⟩
    have := T (by omega)
    have : h (24, t, n) 5 ≠ 0 := fun w => q2 ⟨q, w⟩
    omega
theorem kk_ctS (hc : kk_core b h dh0) {t n : Int} (ht : t = 26 ∨ t = 27) (hn : 1 ≤ n ∧ n < 37) : kk_ctn2 h t n ↔ h (24, t, n) 0 ≠ 0 := by
  have s := hc.1.1.2.2.2.1 t ht n hn.1 hn.2
  constructor
  · intro q
    have N := s.1 q
    have := q.1
    rw [← N.1] at this
    omega
  · intro q
    exact Classical.byContradiction (fun w => q (s.2 w))
theorem kk_uaR (hc : kk_core b h dh0) {t n : Int} (ht : 0 ≤ t ∧ t < 13) (hn : 1 ≤ n ∧ n < 37) : kk_ua h t 26 n ↔ (kk_ctn2 h t n ↔ kk_ctn2 h 26 n) ∧ (kk_ctn2 h t n → kk_ma h (36 * t + n - 1) (36 * 26 + n - 1) (∀ i, 0 ≤ i → i < h (42, 0, 0) (36 * t + n - 1) → kk_by h t n i = kk_by h 26 n i)) := by
  have hT := mm_T13 ht
  have T26 : mm_isT 26 := by unfold mm_isT; omega
  have a := kk_ctC hc ht hn
  have c := kk_ctS hc (t := 26) (Or.inl rfl) hn
  have hR := hc.1.1.2.2.2.2.2.2.2.1.1
  unfold kk_ua
  by_cases u : h (24, t, n) 0 = 1 ∧ h (24, t, n) 5 = 0
  · rw [if_pos u]
    have na : ¬ kk_ctn2 h t n := fun q => (a.1 q).2 u
    constructor
    · intro q
      exact ⟨⟨fun w => absurd w na, fun w => absurd q (c.1 w)⟩, fun w => absurd w na⟩
    · rintro ⟨q, _⟩
      exact Classical.byContradiction (fun w => na (q.2 (c.2 w)))
  · rw [if_neg u]
    by_cases z : h (24, t, n) 0 = 0
    · have na : ¬ kk_ctn2 h t n := fun q => (a.1 q).1 z
      constructor
      · intro q
        exact ⟨⟨fun w => absurd w na, fun w => absurd (by rw [← q.1]; exact z) (c.1 w)⟩, fun w => absurd w na⟩
      · rintro ⟨q, _⟩
        have z2 : h (24, 26, n) 0 = 0 := Classical.byContradiction (fun w => na (q.2 (c.2 w)))
        exact ⟨by rw [z, z2], fun w => absurd z w⟩
    · have ya : kk_ctn2 h t n := a.2 ⟨z, u⟩
      by_cases y : kk_ctn2 h 26 n
      · have N2 := (hc.1.1.2.2.2.1 26 (Or.inl rfl) n hn.1 hn.2).1 y
        have m := kk_alm (kk_NRC hc (t := t) (n := n) ⟨ht.1, by omega⟩ hn) N2 (hc.1.1.2.1 t n hT hn.1 hn.2) (hc.1.1.2.1 26 n T26 hn.1 hn.2) hc.1.1.2.2.2.2.2.2.2.2.1 (fun p p0 p1 => ⟨hR t n p hT ⟨by omega, hn.2⟩ p0 p1, hR 26 n p T26 ⟨by omega, hn.2⟩ p0 p1⟩)
        constructor
        · intro q; exact ⟨⟨fun _ => y, fun _ => ya⟩, fun _ => m.1 q⟩
        · rintro ⟨_, q⟩; exact m.2 (q ya)
      · have z2 : h (24, 26, n) 0 = 0 := Classical.byContradiction (fun w => y (c.2 w))
        constructor
        · intro q; exact absurd (by rw [q.1]; exact z2) z
        · rintro ⟨q, _⟩; exact absurd (q.1 ya) y
theorem m262 (hy : 10581 ≤ nx) (hc : kk_core b h dh0) {t : Int} (ht : 0 ≤ t ∧ t < 13) (e : ∀ f : Nat, 41 ≤ f → f ≤ 54 → gb (f, 0, 0) = h (f, 0, 0)) (e34 : gb (40, 0, 0) 34 = h (40, 0, 0) 34)
    (K1 : h (40, 0, 0) 34 = 1 → (∀ n, 1 ≤ n → n < 37 → kk_ua h t 26 n) → Q (zI 1) (mm_z gb dh nx ns)) (K0 : ¬ (h (40, 0, 0) 34 = 1 ∧ ∀ n, 1 ≤ n → n < 37 → kk_ua h t 26 n) → Q (zI 0) (mm_z gb dh nx ns)) : mm_Cl 262 [zR (40, 0, 0), zI t] (mm_z gb dh nx ns) Q := by
  have f34 := hc.1.2.2.2.2.2.2.1
  have e41 := e 41 (by decide) (by decide)
  have e42 := e 42 (by decide) (by decide)
  have e43 := e 43 (by decide) (by decide)
  have e44 := e 44 (by decide) (by decide)
  have e49 := e 49 (by decide) (by decide)
  have r44 : ∀ s d, 0 ≤ s → s < 29 → 1 ≤ d → d < 37 → 0 ≤ gb (44, 0, 0) (36 * s + d - 1) ∧ gb (44, 0, 0) (36 * s + d - 1) ≤ 24 := fun s d s0 s1 d0 d1 => by rw [e44]; exact (kk_mwC hc ⟨s0, s1⟩ ⟨d0, d1⟩).2.1
  have fin : ∀ (i x2 : Int) (v : mm_V), (x2 = 1 ∧ h (40, 0, 0) 34 = 1 ∧ ∀ n, 1 ≤ n → n < 37 → kk_ua h t 26 n) ∨ (x2 = 0 ∧ ¬ (h (40, 0, 0) 34 = 1 ∧ ∀ n, 1 ≤ n → n < 37 → kk_ua h t 26 n)) → mm_Wp 262 (mm_blk 262 5) [zR (40, 0, 0), zI t, zI x2, zI i, v] [] (mm_z gb dh nx ns) Q := fun i x2 v q => by
    rw [r_262_5 (hy := hy)]
    rcases q with q | q
    · rw [q.1]; exact ⟨Or.inr rfl, K1 q.2.1 q.2.2⟩
    · rw [q.1]; exact ⟨Or.inl rfl, K0 q.2⟩
  have L : ∀ (d : Nat) (i x2 : Int) (v : mm_V), 37 - i = d → 1 ≤ i → (x2 = 1 ∧ h (40, 0, 0) 34 = 1 ∧ ∀ n, 1 ≤ n → n < i → kk_ua h t 26 n) ∨ (x2 = 0 ∧ ¬ (h (40, 0, 0) 34 = 1 ∧ ∀ n, 1 ≤ n → n < 37 → kk_ua h t 26 n)) → mm_Wp 262 (mm_blk 262 1) [zR (40, 0, 0), zI t, zI x2, zI i, v] [] (mm_z gb dh nx ns) Q := by
    intro d
    induction d with
    | zero =>
      intro i x2 v k1 k2 q
      rw [r_262_1 (hy := hy), if_pos (by omega)]
      refine fin i x2 v ?_
      rcases q with q | q
      · exact Or.inl ⟨q.1, q.2.1, fun n n0 n1 => q.2.2 n n0 (by omega)⟩
      · exact Or.inr q
    | succ d ih =>
      intro i x2 v k1 k2 q
      rw [r_262_1 (hy := hy), if_neg (by omega)]
      by_cases x0 : x2 = 0
      · rw [if_pos x0]
        exact fin i x2 v (by rcases q with q | q; · omega
                             · exact Or.inr q)
      · obtain ⟨q1, q2, q3⟩ := q.resolve_right (fun w => x0 w.1)
        have hi : 1 ≤ i ∧ i < 37 := ⟨k2, by omega⟩
        have U := kk_uaR hc ht hi
        rw [if_neg x0]
        have yes : ∀ v4, kk_ua h t 26 i → mm_Wp 262 (mm_blk 262 2) [zR (40, 0, 0), zI t, zI x2, zI i, v4] [] (mm_z gb dh nx ns) Q := fun v4 u => by
          rw [r_262_2 (hy := hy), r_262_4 (hy := hy), mm_wi (z := i + 1) (by omega) (by omega)]
          refine ih (i + 1) 1 _ (by omega) (by omega) (Or.inl ⟨rfl, q2, fun n n0 n1 => ?_⟩)
          by_cases y : n = i
          · rw [y]; exact u
          · exact q3 n n0 (by omega)
        have nay : ∀ v4, ¬ kk_ua h t 26 i → mm_Wp 262 (mm_blk 262 3) [zR (40, 0, 0), zI t, zI x2, zI i, v4] [] (mm_z gb dh nx ns) Q := fun v4 u => by
          rw [r_262_3 (hy := hy), r_262_4 (hy := hy), mm_wi (z := i + 1) (by omega) (by omega)]
          exact ih (i + 1) 0 _ (by omega) (by omega) (Or.inr ⟨rfl, fun w => u (w.2 i hi.1 hi.2)⟩)
        have st2 : ∀ y1, (y1 = 1 ∧ kk_ctn2 h t i) ∨ (y1 = 0 ∧ ¬ kk_ctn2 h t i) → ∀ y0, (y0 = 1 ∧ kk_ctn2 h 26 i) ∨ (y0 = 0 ∧ ¬ kk_ctn2 h 26 i) → mm_Wp 262 (bk_262_1.drop 15) [zR (40, 0, 0), zI t, zI x2, zI i, zI y1] [zI y0, zI y1] (mm_z gb dh nx ns) Q := fun y1 w1 y0 w0 => by
          rw [r_262_1_15 (hy := hy)]
          by_cases z : y1 = y0
          · rw [if_pos z]
            by_cases z1 : y1 = 0
            · rw [if_pos z1]
              have n1 : ¬ kk_ctn2 h t i := by rcases w1 with w | w; · omega
                                              · exact w.2
              have n0 : ¬ kk_ctn2 h 26 i := by rcases w0 with w | w; · omega
                                               · exact w.2
              exact yes _ (U.2 ⟨⟨fun w => absurd w n1, fun w => absurd w n0⟩, fun w => absurd w n1⟩)
            · rw [if_neg z1]
              have p1 : kk_ctn2 h t i := by rcases w1 with w | w; · exact w.2
                                            · omega
              have p0 : kk_ctn2 h 26 i := by rcases w0 with w | w; · exact w.2
                                             · omega
              have mw := kk_mwC hc (s := t) (n := i) ⟨ht.1, by omega⟩ hi
              have N := kk_NRC hc (t := t) (n := i) ⟨ht.1, by omega⟩ hi
              have W := hc.1.1.2.1 t i (mm_T13 ht) hi.1 hi.2
              have w1' := W.2.2.2.2.2.2.2.2.2.2.1
              have w0' := W.1
              refine m258 hy ⟨ht.1, by omega⟩ (by omega) hi (fun n p n0 n1 p0 p1 => by rw [e43]; exact kk_brC hc (s := t) ⟨ht.1, by omega⟩ n p n0 n1 p0 p1) (fun n p n0 n1 p0 p1 => by rw [e43]; exact kk_brC hc (s := 26) (by omega) n p n0 n1 p0 p1) (by rw [e44, e49]; exact ⟨mw.2.1, mw.2.2⟩) ?_ (fun ma => ?_) (fun ma => ?_)
              · rw [e41, e42, ← N.1]
                refine ⟨fun k => ?_, fun k3 k2 k0 => ?_⟩
                · rw [← (N.2.2.2.1 (by omega)).1]
                  have := w1'.2.2 k
                  omega
                · rw [← (N.2.2.2.1 k0).1]
                  exact w1'.1 (by omega)
              · rw [mm_pI, r_262_1_23 (hy := hy), if_neg (by decide)]
                refine yes _ (U.2 ⟨⟨fun _ => p0, fun _ => p1⟩, fun _ => ?_⟩)
                simp only [kk_ma, kk_by, e41, e42, e43, e44, e49, e 45 (by decide) (by decide), e 46 (by decide) (by decide), e 47 (by decide) (by decide), e 48 (by decide) (by decide), e 50 (by decide) (by decide), e 51 (by decide) (by decide), e 52 (by decide) (by decide), e 53 (by decide) (by decide), e 54 (by decide) (by decide)] at ma ⊢
                exact ma
              · rw [mm_pI, r_262_1_23 (hy := hy), if_pos rfl]
                refine nay _ (fun u => ma ?_)
                have m2 := (U.1 u).2 p1
                simp only [kk_ma, kk_by, e41, e42, e43, e44, e49, e 45 (by decide) (by decide), e 46 (by decide) (by decide), e 47 (by decide) (by decide), e 48 (by decide) (by decide), e 50 (by decide) (by decide), e 51 (by decide) (by decide), e 52 (by decide) (by decide), e 53 (by decide) (by decide), e 54 (by decide) (by decide)] at m2 ⊢
                exact m2
          · rw [if_neg z]
            refine nay _ (fun u => ?_)
            have w := (U.1 u).1
            rcases w1 with w1 | w1 <;> rcases w0 with w0 | w0
            · omega
            · exact w0.2 (w.1 w1.2)
            · exact w1.2 (w.2 w0.2)
            · omega
        have st1 : ∀ y1, (y1 = 1 ∧ kk_ctn2 h t i) ∨ (y1 = 0 ∧ ¬ kk_ctn2 h t i) → mm_Wp 262 (bk_262_1.drop 9) [zR (40, 0, 0), zI t, zI x2, zI i, v] [zI y1] (mm_z gb dh nx ns) Q := fun y1 w1 => by
          rw [r_262_1_9 (hy := hy)]
          refine m261 hy (by omega) hi (fun d d0 d1 => r44 26 d (by omega) (by omega) d0 d1) (fun w => ?_) (fun w => ?_)
          · rw [mm_pI]; exact st2 y1 w1 1 (Or.inl ⟨rfl, (kk_ctF e 26 i).1 w⟩)
          · rw [mm_pI]; exact st2 y1 w1 0 (Or.inr ⟨rfl, fun k => w ((kk_ctF e 26 i).2 k)⟩)
        refine m261 hy ⟨ht.1, by omega⟩ hi (fun d d0 d1 => r44 t d ht.1 (by omega) d0 d1) (fun w => ?_) (fun w => ?_)
        · rw [mm_pI]; exact st1 1 (Or.inl ⟨rfl, (kk_ctF e t i).1 w⟩)
        · rw [mm_pI]; exact st1 0 (Or.inr ⟨rfl, fun k => w ((kk_ctF e t i).2 k)⟩)
  rw [r_262_e (hy := hy), e34]
  refine L 36 1 _ _ (by omega) (by omega) ?_
  by_cases z : h (40, 0, 0) 34 = 1
  · exact Or.inl ⟨z, z, fun n n0 n1 => by omega⟩
  · exact Or.inr ⟨by omega, fun w => z w.1⟩
end

