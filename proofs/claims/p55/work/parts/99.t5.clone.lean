/-! the calls of both: clone -/
theorem s29f {h : mm_Id → Int → Int} {dh : Int → Int} {nx ns : Int} {Q : mm_V → mm_H → Prop} (hx : 5275 ≤ nx) {s j t : Int} (hS : mm_isS s) (hj : 0 ≤ j ∧ j ≤ 5) (nf : ∀ i, 0 ≤ i → i < j → ¬ h (31, i, 0) 3 = 0) (K : mm_Wp 29 (mm_blk 29 3) [zR (1, 0, 0), zI t, zR (33, s, 0), zI j] [] (mm_z h dh nx ns) Q) : mm_Wp 29 (mm_blk 29 3) [zR (1, 0, 0), zI t, zR (33, s, 0), zI 0] [] (mm_z h dh nx ns) Q := by
  have Lp : ∀ (e : Nat) (i : Int), j - i = e → 0 ≤ i → mm_Wp 29 (mm_blk 29 3) [zR (1, 0, 0), zI t, zR (33, s, 0), zI i] [] (mm_z h dh nx ns) Q := by
    intro e
    induction e with
    | zero =>
      intro i e1 e2
      have e3 : i = j := by omega
      subst e3
      exact K
    | succ e ih =>
      intro i e1 e2
      rw [r_29_3 (htx2 := hS) (hx := hx), if_pos (by omega)]
      refine ⟨⟨by omega, by omega⟩, ?_⟩
      rw [if_neg (nf i e2 (by omega)), mm_wi (by omega) (by omega)]
      exact ih (i + 1) (by omega) (by omega)
  exact Lp j.toNat 0 (by omega) (by omega)
/-- pieces of trees aside, of dataset i, are not of number 0 -/
theorem kk_msa {b : Int} {h G : mm_Id → Int → Int} {dh : Int → Int} (hc : kk_core b h dh) (e : ∀ (x : mm_Id) i, 41 ≤ x.1 → x.1 ≤ 53 → G x i = h x i) : ∀ a n, 0 ≤ a → a < 29 → 1 ≤ n → n < 37 → kk_ms G (36 * a + n - 1) h (36 * a + n - 1) := fun a n a0 a1 n0 n1 => by
  have w := kk_mwC hc (s := a) (n := n) ⟨a0, a1⟩ ⟨n0, n1⟩
  exact kk_msr w.2.1.2 w.2.2.2 (fun x i hx2 => by have r := kk_mxr hx2; exact e x i r.1 r.2)
theorem kk_mwm {h G : mm_Id → Int → Int} {k k1 : Int} (m : kk_ms G k h k1) (w : kk_mw h k1) : kk_mw G k := by
  unfold kk_mw
  rw [m.1 53 kk_f53, m.1 44 kk_f44, m.1 49 kk_f49]; exact w
/-- blocks of a tree that is there are held -/
theorem kk_bsl {b s : Int} {h : mm_Id → Int → Int} {dh : Int → Int} (hc : kk_core b h dh) (hs : 0 ≤ s ∧ s < 13) (hno : 0 < kk_no h s) {c : Int} (q : kk_bs h s c) : kk_lb h (-1) c := ⟨s, hs, by rw [kk_NC hc s hs.1 hs.2]; exact hno, by omega, q⟩

theorem c_29 {b : Int} {h : mm_Id → Int → Int} {dh : Int → Int} {nx ns : Int} (hy : 10581 ≤ nx) (hc : kk_core b h dh) (hb : b + 1 ≤ 1000000) {t : Int} (ht : -2147483648 ≤ t ∧ t < 2147483648) : kk_call 29 251 [zI t] b h dh nx ns kk_SI := by
  unfold kk_call
  have hx : 5275 ≤ nx := by omega
  have hc0 : kk_core b (mm_up h (40, 0, 0) 0 0) dh := kk_core0 hc
  have fin : ∀ v, kk_SI (zI v) → mm_Cl 251 [zR (40, 0, 0), zI t] (mm_z h dh nx ns) (fun (r2 : mm_V) (h2 : mm_H) => r2 = zI v ∧ ∃ g2, h2 = mm_z g2 dh nx ns ∧ kk_core (b + 1) g2 dh ∧ ∀ x j, kk_scr x j → g2 x j = h x j) →
      (fun (r : mm_V) (h1 : mm_H) => kk_SI r ∧ ∃ g dh1, h1 = mm_z g dh1 nx ns ∧ mm_Cl 251 [zR (40, 0, 0), zI t] (mm_z g dh1 nx ns) (fun r2 h2 => r2 = r ∧ ∃ g2, h2 = mm_z g2 dh1 nx ns ∧ kk_core (b + 1) g2 dh1 ∧ ∀ x j, kk_scr x j → g2 x j = h x j)) (zI v) (mm_z h dh nx ns) :=
    fun v h1 h2 => ⟨h1, h, dh, rfl, h2⟩
  have mfin : ∀ v w : Int, w = v → (fun (r2 : mm_V) (h2 : mm_H) => r2 = zI v ∧ ∃ g2, h2 = mm_z g2 dh nx ns ∧ kk_core (b + 1) g2 dh ∧ ∀ x j, kk_scr x j → g2 x j = h x j) (zI w) (mm_z (mm_up h (40, 0, 0) 0 0) dh nx ns) :=
    fun v w e => ⟨by rw [e], _, rfl, kk_coreS hb hc0, fun x j hs => kk_scr0 hs⟩
  have ca := kk_cal hc
  have k10 := hc.1.2.2.1.2.1
  rw [r_29_e (hx := hx)]
  refine s54t hx (kk_nmC hc) (fun s s0 s1 hs => ?_) (fun hs => ?_)
  · have hS : mm_isS (s - 5) := ⟨by omega, by omega⟩
    have sT := mm_T13 (s := s) ⟨by omega, s1⟩
    have hno := kk_tpp hs
    rw [mm_pR, r_29_0_3a (hty0 := hS) (hx := hx)]
    split
    · rename_i c0
      obtain ⟨i, ⟨i0, i5⟩, jn, jp⟩ := kk_ff (fun i => h (31, i, 0) 3 = 0) 5
      have i5 : i ≤ 5 := i5
      refine s29f hx hS ⟨i0, i5⟩ jn ?_
      -- the free place there
      have fr : ∀ (G : mm_Id → Int → Int) (dh1 : Int → Int), (∀ k, 0 ≤ k → k < 13 → G (57, 0, 0) k = h (57, 0, 0) k) → ∀ Q2 : mm_V → mm_H → Prop, Q2 (zI i) (mm_z G dh1 nx ns) → mm_Cl 248 [zR (40, 0, 0), zI 0, zI 5] (mm_z G dh1 nx ns) Q2 := fun G dh1 e57 Q2 k => by
        refine m248 hy (by omega) (fun q q0 q1 qf qz => ?_)
        have e : q = i := by
          have a1 : ¬ q < i := fun w => by
            have z := qz (by omega)
            rw [e57 q (by omega) (by omega)] at z
            have y := kk_n31 hc (i := q) (by omega) (by omega)
            have := jn q (by omega) (by omega)
            omega
          have a2 : ¬ i < q := fun w => by
            have z := qf i (by omega) w
            rw [e57 _ (by omega) (by omega)] at z
            have y := kk_n31 hc (i := i) (by omega) (by omega)
            have := jp (by show i < 5; omega)
            omega
          omega
        rw [e]; exact k
      by_cases jj : i < 5
      · have jz := jp (by show i < 5; omega)
        have hD : mm_isD i := ⟨i0, jj⟩
        have nd : ∀ q, 0 ≤ q → q < 8 → ¬ dh q = i := fun q q0 q1 e => by
          have w := (kk_h17 hc q q0 q1).1 (by rw [e]; exact hD)
          have y := w.2.2.2.2.1
          rw [e, kk_n5 jj] at y
          omega
        rw [r_29_3 (htx2 := hS) (hx := hx), if_pos jj]
        refine ⟨⟨i0, jj⟩, ?_⟩
        rw [if_pos jz]
        refine ⟨⟨i0, jj⟩, ?_⟩
        rw [mm_ups, mm_wi (z := h (1, 0, 0) 10 + 1) (by omega) (by omega)]
        refine s80 hx hD (fun ha p1 p2 p3 => ?_)
        have a33 : ∀ (f : Nat) a c k, ¬ (f = 1 ∧ k = 10) → ¬ (f = 31 ∧ a = i) → ¬ (f = 32 ∧ a = i) → ha (f, a, c) k = h (f, a, c) k := fun f a c k q1 q2 q3 => by
          rw [p3 _ _ (by rintro ⟨v, _⟩; simp at v; omega) (by intro v; simp at v; omega), mm_upne' (by rintro ⟨v, v2⟩; simp at v; omega)]
        have cpa : ∀ a n, kk_cpd ha a n h a n := fun a n => kk_cpdr (fun f k f0 f1 => a33 f a n k (by omega) (by omega) (by omega))
        have Ra : kk_R ha := kk_Rcong (fun a c k => a33 27 a c k (by omega) (by omega) (by omega)) (a33 _ _ _ _ (by omega) (by omega) (by omega)) (a33 _ _ _ _ (by omega) (by omega) (by omega)) (fun r => a33 _ _ _ _ (by omega) (by omega) (by omega)) (fun r => a33 _ _ _ _ (by omega) (by omega) (by omega)) (fun r => a33 _ _ _ _ (by omega) (by omega) (by omega)) hc.1.1.2.2.2.2.2.2.2.1
        have h22 : ∀ a, mm_isT a → h (22, a, 0) 2 = kk_as a := hc.1.1.2.2.2.2.2.2.2.2.2.1
        rw [mm_pU, r_29_3_23 (htx2 := hS) (hx := hx)]
        refine ⟨⟨i0, jj⟩, ?_⟩
        rw [show 5 + (s - 5) = s by omega]
        refine s165 (mm_td hD) sT hx (by omega) Ra (fun n n0 n1 => kk_nwcp (cpa _ n) (kk_nwC hc (mm_td hD) ⟨n0, n1⟩)) (fun n n0 n1 => kk_nwcp (cpa _ n) (kk_nwC hc sT ⟨n0, n1⟩)) (by rw [a33 22 _ 0 2 (by omega) (by omega) (by omega)]; exact h22 _ (mm_td hD)) (fun hB bR bC bF => ?_)
        have bC2 : ∀ n, 1 ≤ n → n < 37 → kk_cpd hB i n h s n := fun n n0 n1 => kk_cpdt (bC n n0 n1) (cpa s n)
        have bF2 : ∀ (f : Nat) a c k, f < 40 → ¬ (f = 15 ∧ k = 7) → f ≠ 17 → f ≠ 18 → f ≠ 19 → ¬ (24 ≤ f ∧ f ≤ 30 ∧ a = i ∧ 1 ≤ c ∧ c < 37) → hB (f, a, c) k = ha (f, a, c) k := fun f a c k f0 q1 q2 q3 q4 q5 =>
          bF _ _ (by unfold kk_ct; rintro (⟨v, v2⟩ | v | v | v) <;> simp at v <;> omega) (by unfold kk_tr; simp; omega)
        have b40 : ∀ (x : mm_Id) k, 40 ≤ x.1 → hB x k = h x k := fun x k q => by
          rw [bF x k (by unfold kk_ct; rintro (⟨v, _⟩ | v | v | v) <;> (rw [v] at q; simp at q)) (by unfold kk_tr; omega), p3 x k (by rintro ⟨v, _⟩; rw [v] at q; simp at q) (by intro v; rw [v] at q; simp at q), kk_moU q (by simp)]
        rw [mm_pU, r_29_3_31 (hx := hx)]
        refine ⟨⟨i0, jj⟩, ?_⟩
        refine s65t hx hc hD sT bR bC2 (by rw [bF2 22 _ 0 2 (by decide) (by omega) (by decide) (by decide) (by decide) (by omega), a33 22 _ 0 2 (by omega) (by omega) (by omega)]; exact h22 _ (mm_td hD)) (fun hcc dh2 cR cl cp cF c40 cfl _ d2 => ?_)
        have cF2 : ∀ (f : Nat) a c k, f < 40 → ¬ (f = 15 ∧ k = 7) → f ≠ 17 → f ≠ 18 → f ≠ 19 → ¬ (24 ≤ f ∧ f ≤ 30 ∧ a = i ∧ 1 ≤ c ∧ c < 37) → ¬ (f = 31 ∧ a = i ∧ k = 6) → hcc (f, a, c) k = ha (f, a, c) k := fun f a c k f0 q1 q2 q3 q4 q5 q6 => (cF f a c k f0 q1 q2 q3 q4 q5 q6).trans (bF2 f a c k f0 q1 q2 q3 q4 q5)
        have cF3 : ∀ (f : Nat) a c k, f < 40 → ¬ (f = 15 ∧ k = 7) → f ≠ 17 → f ≠ 18 → f ≠ 19 → ¬ (24 ≤ f ∧ f ≤ 30 ∧ a = i ∧ 1 ≤ c ∧ c < 37) → ¬ (f = 1 ∧ k = 10) → ¬ (f = 31 ∧ a = i) → ¬ (f = 32 ∧ a = i) → hcc (f, a, c) k = h (f, a, c) k := fun f a c k f0 q1 q2 q3 q4 q5 q6 q7 q8 => (cF2 f a c k f0 q1 q2 q3 q4 q5 (by omega)).trans (a33 f a c k q6 q7 q8)
        have e40 : ∀ (x : mm_Id) k, 40 ≤ x.1 → hcc x k = h x k := fun x k q => (c40 x k q).trans (b40 x k q)
        have nw2 : ∀ a n, 0 ≤ a → a < 18 → 1 ≤ n → n < 37 → kk_nw hcc a n := fun a n a0 a1 n0 n1 => by
          by_cases q : a = i
          · rw [q]
            by_cases d : h (24, s, n) 0 = 1 ∧ h (24, s, n) 5 = 0
            · exact kk_nwcl (cl n n0 n1 d)
            · exact kk_nwcp (cp n n0 n1 d) (kk_nwC hc sT ⟨n0, n1⟩)
          · exact kk_nwcp (kk_cpdr (fun f k f0 f1 => cF3 f a n k (by omega) (by omega) (by omega) (by omega) (by omega) (by omega) (by omega) (by omega) (by omega))) (kk_nwC hc (mm_T18 ⟨a0, a1⟩) ⟨n0, n1⟩)
        rw [mm_pU, r_29_3_37 (hx := hx)]
        refine s64p hx cR nw2 (fun a a0 a1 => ?_) (fun g k1 k2 k3 => ?_)
        · rw [cF3 22 a 0 2 (by decide) (by omega) (by decide) (by decide) (by decide) (by omega) (by omega) (by omega) (by omega), h22 a (mm_T18 ⟨by omega, a1⟩)]
          exact if_neg (by omega)
        have x10 : hcc (1, 0, 0) 10 = h (1, 0, 0) 10 + 1 := by
          rw [cF2 1 0 0 10 (by decide) (by omega) (by decide) (by decide) (by decide) (by omega) (by omega), p3 _ _ (by simp) (by simp), mm_ups]
        have x31 : ∀ k, k ≠ 6 → hcc (31, i, 0) k = ha (31, i, 0) k := fun k q => cF2 31 i 0 k (by decide) (by omega) (by decide) (by decide) (by decide) (by omega) (by omega)
        have x32 : ∀ k, hcc (32, i, 0) k = ha (32, i, 0) k := fun k => cF2 32 i 0 k (by decide) (by omega) (by decide) (by decide) (by decide) (by omega) (by omega)
        have g10 : g (1, 0, 0) 10 = h (1, 0, 0) 10 + 1 := by
          rw [k1.2.2.2.2 (1, 0, 0) 10 (by decide) (by simp [kk_ct]) (by rintro ⟨i, _, _, q⟩; simp [kk_tr] at q) (by rintro ⟨i, _, q, _⟩; simp at q) (by simp)]; exact x10
        have ek : ∀ (x : mm_Id) k, 40 ≤ x.1 → g x k = h x k := fun x k q => by rw [k2 x k q]; exact e40 x k q
        rw [mm_pI, r_29_3_39 (hx := hx), g10]
        refine ⟨⟨_, rfl, by omega, by omega⟩, g, dh2, rfl, ?_⟩
        rw [r_251_e (hy := hy)]
        have e57 : ∀ k, 0 ≤ k → k < 13 → mm_up g (40, 0, 0) 0 0 (57, 0, 0) k = h (57, 0, 0) k := fun k _ _ => by rw [mm_upf (by decide)]; exact ek _ _ (by decide)
        refine m183h hy hc e57 ht hs s0 ?_
        rw [mm_pI, r_251_0_6 (hy := hy), if_neg (by omega), mm_upj (by decide), ek _ _ (by decide), ← ca.1, if_pos c0]
        refine fr _ dh2 e57 _ ?_
        rw [mm_pI, r_251_2_4 (hy := hy), if_neg (by omega)]
        refine ⟨by omega, by omega, by omega, ?_⟩
        rw [mm_ups, mm_upj (by decide), ek _ _ (by decide), ← k10.1, mm_wi (z := h (1, 0, 0) 10 + 1) (by omega) (by omega)]
        obtain ⟨gm1, f1⟩ : ∃ q, q = mm_up (mm_up (mm_up (mm_up (mm_up g (40, 0, 0) 0 0) (40, 0, 0) 24 (h (1, 0, 0) 10 + 1)) (57, 0, 0) i (h (1, 0, 0) 10 + 1)) (58, 0, 0) i t) (59, 0, 0) i 400 := ⟨_, rfl⟩
        rw [← f1]
        have b1 : ∀ (x : mm_Id) k, 40 ≤ x.1 → ¬ (x = (40, 0, 0) ∧ (k = 0 ∨ k = 24)) → ¬ (x = (57, 0, 0) ∧ k = i) → ¬ (x = (58, 0, 0) ∧ k = i) → ¬ (x = (59, 0, 0) ∧ k = i) → gm1 x k = h x k := fun x k q q1 q2 q3 q4 => by
          rw [f1, mm_upne' q4, mm_upne' q3, mm_upne' q2, mm_upne' (fun v => q1 ⟨v.1, Or.inr v.2⟩), mm_upne' (fun v => q1 ⟨v.1, Or.inl v.2⟩)]; exact ek x k q
        refine m202 hy (by omega) (fun gm2 l1 l2 => ?_)
        have b2 : ∀ (f : Nat) a c k, 40 ≤ f → ¬ (f = 40 ∧ (k = 0 ∨ k = 24)) → ¬ ((f = 57 ∨ f = 58 ∨ f = 59) ∧ k = i) → ¬ (f = 61 ∧ 8 * i ≤ k ∧ k < 8 * i + 8) → gm2 (f, a, c) k = h (f, a, c) k := fun f a c k q q1 q2 q3 => by
          rw [l2 _ _ (by rintro ⟨v, v2⟩; simp at v; omega), b1 _ _ q (by rintro ⟨v, v2⟩; simp at v; omega) (by rintro ⟨v, v2⟩; simp at v; omega) (by rintro ⟨v, v2⟩; simp at v; omega) (by rintro ⟨v, v2⟩; simp at v; omega)]
        have bsx : ∀ (x : mm_Id) k, 41 ≤ x.1 → x.1 ≤ 53 → gm2 x k = h x k := fun x k q q2 => b2 x.1 x.2.1 x.2.2 k (by omega) (by omega) (by omega) (by omega)
        have msa := kk_msa hc bsx
        rw [mm_pU, r_251_3_25 (hy := hy)]
        refine m179 hy (by omega) (by omega) (by omega) (fun n n0 n1 => kk_mwm (msa s n (by omega) (by omega) n0 n1) (kk_mwC hc (by omega) ⟨n0, n1⟩)) (fun gm3 mS mF => ?_)
        have mS2 : ∀ n, 1 ≤ n → n < 37 → kk_ms gm3 (36 * i + n - 1) h (36 * s + n - 1) := fun n n0 n1 => kk_mst (mS n n0 n1) (msa s n (by omega) (by omega) n0 n1)
        have mo : ∀ (x : mm_Id) k, x.1 < 41 ∨ 53 < x.1 → gm3 x k = gm2 x k := fun x k hf => mF _ _ (kk_sx6 hf)
        rw [mm_pU, r_251_3_29 (hy := hy)]
        refine m194t hy hc hD ⟨by omega, s1⟩ mS2 (fun f k hf => ?_) (fun gm y1 y2 y3 y4 y5 y6 => ?_)
        · rw [mo _ _ (by show f < 41 ∨ 53 < f; omega)]; exact b2 f 0 0 k (by omega) (by omega) (by omega) (by omega)
        have mss : ∀ a n, 0 ≤ a → a < 29 → a ≠ i → 1 ≤ n → n < 37 → kk_ms gm (36 * a + n - 1) h (36 * a + n - 1) := fun a n a0 a1 q n0 n1 => by
          have w := kk_mwC hc (s := a) (n := n) ⟨a0, a1⟩ ⟨n0, n1⟩
          exact kk_msr w.2.1.2 w.2.2.2 (fun x k hx2 => by rw [y2 a n x k (fun v => q v.1) n0 n1 hx2, mF x k (kk_sxd q ⟨n, n0, n1, hx2⟩)]; have r := kk_mxr hx2; exact bsx x k r.1 r.2)
        have e60 : ∀ k, gm (60, 0, 0) k = h (60, 0, 0) k := fun k => by rw [y4 _ _ (by decide) (by decide) (by decide), mo _ _ (by decide)]; exact b2 60 0 0 k (by omega) (by omega) (by omega) (by omega)
        rw [mm_pU, r_251_3_32 (hy := hy)]
        refine m208p hy (fun k k0 k9 => ?_) (fun k n k0 k9 n0 n1 => ?_) (fun g2 m1 m2 m3 => ?_)
        · rw [e60]
          exact hc.1.2.2.1.2.2.2.2.2.2.2.2.2.1 k k0 (by omega)
        · by_cases q : k = i
          · rw [q]
            have w := kk_mwC hc (s := s) (n := n) ⟨by omega, by omega⟩ ⟨n0, n1⟩
            by_cases d : h (24, s, n) 0 = 1 ∧ h (24, s, n) 5 = 0
            · have z := y1 n n0 n1 d
              unfold kk_mw
              rw [y3, (mS2 n n0 n1).1 53 kk_f53, z.1.2.2.1, z.1.2.2.2]
              exact ⟨w.1, by omega, by omega⟩
            · refine kk_mwm (kk_mst (kk_msr ?_ ?_ (fun x k hx2 => y2 i n x k (fun v => d v.2) n0 n1 hx2)) (mS2 n n0 n1)) w
              · rw [(mS2 n n0 n1).1 44 kk_f44]; exact w.2.1.2
              · rw [(mS2 n n0 n1).1 49 kk_f49]; exact w.2.2.2
          · exact kk_mwm (mss k n k0 (by omega) q n0 n1) (kk_mwC hc (by omega) ⟨n0, n1⟩)
        have gF : ∀ (f : Nat) a c k, 40 ≤ f → f < 41 ∨ 53 < f → f ≠ 63 → f ≠ 64 → gm (f, a, c) k = gm2 (f, a, c) k := fun f a c k q q1 q2 q3 => by
          rw [y4 _ _ q2 q3 q1, mo _ _ q1]
        have m24 : gm (40, 0, 0) 24 = h (1, 0, 0) 10 + 1 := by rw [gF 40 0 0 24 (by omega) (by omega) (by omega) (by omega), l2 _ _ (by simp), f1, mm_upf (by decide), mm_upf (by decide), mm_upf (by decide), mm_ups]
        have m57 : gm (57, 0, 0) i = h (1, 0, 0) 10 + 1 := by rw [gF 57 0 0 i (by omega) (by omega) (by omega) (by omega), l2 _ _ (by simp), f1, mm_upf (by decide), mm_upf (by decide), mm_ups]
        have m58 : gm (58, 0, 0) i = t := by rw [gF 58 0 0 i (by omega) (by omega) (by omega) (by omega), l2 _ _ (by simp), f1, mm_upf (by decide), mm_ups]
        have m59 : gm (59, 0, 0) i = 400 := by rw [gF 59 0 0 i (by omega) (by omega) (by omega) (by omega), l2 _ _ (by simp), f1, mm_ups]
        have tp := (kk_tl2 (kk_nmC hc) s0 s1).1 hs.2.1
        have tb := (kk_nmC hc s (by omega) s1).2
        have te : kk_no h s = t := by
          unfold kk_no
          rw [if_neg (by omega), tp.2]
          omega
        have WP : kk_W (b + 1) (kk_mix hcc gm) dh2 := by
          refine kk_tuW (i := i) (s := s) (v := 28) (gm0 := gm3) (by omega) hc ⟨i0, jj⟩ ⟨s0, s1⟩ hno (Or.inl rfl) cR cl cp cF3 cfl ⟨by rw [x10, m24], by omega, by omega⟩ ⟨by rw [m57, x31 3 (by decide), p1.1], by rw [x31 3 (by decide), p1.1]; omega, by rw [x31 3 (by decide), p1.1, x10]; exact Int.le_refl _⟩ ⟨⟨by rw [x31 4 (by decide), p1.2.1, m58], by omega, by omega⟩, ⟨by rw [x31 5 (by decide), p1.2.2, m59], by omega, by omega⟩, fun u u0 u1 => ⟨by rw [x32, p2 u u0 u1, gF 61 0 0 _ (by omega) (by omega) (by omega) (by omega), l1 u u0 u1], by rw [x32, p2 u u0 u1]; omega, by rw [x32, p2 u u0 u1]; omega⟩⟩ mS2 (fun n n0 n1 => ?_) (fun a x k q q2 hx2 => ?_) y1 y2 y3 (fun k => y4 _ k (by decide) (by decide) (by decide)) (fun f a c k q q1 _ q3 q4 q5 q6 q7 => (gF f a c k q q1 q3 q4).trans (b2 f a c k q q5 q6 q7)) (fun q q0 q1 e => absurd e (nd q q0 q1)) (fun q q0 q1 e => ⟨d2 q q0 q1 e, y6 q q0 q1 e⟩) (fun q => ?_)
          · have w := kk_mwC hc (s := 28) (n := n) (by omega) ⟨n0, n1⟩
            exact kk_msr w.2.1.2 w.2.2.2 (fun x k hx2 => by rw [mF x k (kk_sxd (s := 28) (by omega) ⟨n, n0, n1, hx2⟩)]; have r := kk_mxr hx2; exact bsx x k r.1 r.2)
          · rw [mF x k (kk_sxd q hx2)]
            have r := kk_sxr hx2
            exact bsx x k r.1 r.2
          · rw [m59]
            exact Int.le_trans (kk_cntle (fun c _ _ w => kk_bsl hc ⟨by omega, s1⟩ hno (q c w))) hc.1.2.1.2.2.1
        have gc : ∀ (x : mm_Id) k, x.1 < 40 → gm x k = g x k := fun x k q => by
          rw [y4 x k (by omega) (by omega) (by omega), mo x k (by omega), l2 x k (by rintro ⟨v, _⟩; rw [v] at q; simp at q), f1, kk_clU q (by simp), kk_clU q (by simp), kk_clU q (by simp), kk_clU q (by simp), kk_clU q (by simp)]
        rw [mm_pU, r_251_3_34 (hy := hy)]
        refine ⟨?_, g2, rfl, kk_downC WP k1 m1 (fun x k q => by rw [m2 x k q]; exact gc x k q), fun x k q => ?_⟩
        · rw [m1.2.2.2.2 (40, 0, 0) 24 (by decide) (kk_dxN (by decide)) (by simp), m24]
        · rw [m3 x k q]
          rcases kk_scrC q with q5 | q5
          · have q6 := q
            unfold kk_scr at q6
            obtain ⟨f, a, c⟩ := x
            simp at q5 q6
            rw [gF f a c k (by omega) (by omega) (by omega) (by omega)]
            exact b2 f a c k (by omega) (by omega) (by omega) (by omega)
          · rw [gc x k (by omega), k3 x k q5.1 q5.2]
            obtain ⟨f, a, c⟩ := x
            simp at q5
            exact cF3 f a c k (by omega) (by omega) (by omega) (by omega) (by omega) (by omega) (by omega) (by omega) (by omega)
      · rw [r_29_3 (htx2 := hS) (hx := hx), if_neg jj]
        refine fin (-4) ⟨_, rfl, by omega, by omega⟩ ?_
        rw [r_251_e (hy := hy)]
        refine m183y hy hc (kk_lku (by decide) (kk_lkr h)) ht hs s0 ?_
        rw [mm_pI, r_251_0_6 (hy := hy), if_neg (by omega), mm_upj (by decide), ← ca.1, if_pos c0]
        refine fr _ dh (fun k _ _ => mm_upf (by decide)) _ ?_
        rw [mm_pI, r_251_2_4 (hy := hy), if_pos (by omega)]
        exact mfin _ _ rfl
    · rename_i c0
      refine fin (-5) ⟨_, rfl, by omega, by omega⟩ ?_
      rw [r_251_e (hy := hy)]
      refine m183y hy hc (kk_lku (by decide) (kk_lkr h)) ht hs s0 ?_
      rw [mm_pI, r_251_0_6 (hy := hy), if_neg (by omega), mm_upj (by decide), ← ca.1, if_neg c0]
      exact mfin _ _ rfl
  · rw [mm_pR, r_29_0_3 (hx := hx)]
    refine fin (-1) ⟨_, rfl, by omega, by omega⟩ ?_
    rw [r_251_e (hy := hy)]
    refine m183n hy hc (kk_lku (by decide) (kk_lkr h)) ht hs ?_
    rw [mm_pI, r_251_0_6 (hy := hy), if_pos (by decide)]
    exact mfin _ _ rfl


