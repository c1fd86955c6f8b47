/-! the calls of both: snapshot -/
section
variable {h : mm_Id → Int → Int} {dh : Int → Int} {nx ns : Int} {Q : mm_V → mm_H → Prop}
theorem s28f (hx : 5275 ≤ nx) {s j : Int} {v1 : mm_V} (hD : mm_isD s) (hj : 0 ≤ j ∧ j ≤ 8) (nf : ∀ i, 0 ≤ i → i < j → ¬ h (33, i, 0) 1 = 0) (K : mm_Wp 28 (mm_blk 28 3) [zR (1, 0, 0), v1, zR (31, s, 0), zI j] [] (mm_z h dh nx ns) Q) : mm_Wp 28 (mm_blk 28 3) [zR (1, 0, 0), v1, zR (31, s, 0), zI 0] [] (mm_z h dh nx ns) Q := by
  have Lp : ∀ (e : Nat) (i : Int), j - i = e → 0 ≤ i → mm_Wp 28 (mm_blk 28 3) [zR (1, 0, 0), v1, zR (31, s, 0), zI i] [] (mm_z h dh nx ns) Q := by
    intro e
    induction e with
    | zero =>
      intro i e1 e2
      have e3 : i = j := by omega
      subst e3
      exact K
    | succ e ih =>
      intro i e1 e2
      rw [r_28_3 (htx2 := hD) (hx := hx), if_pos (by omega)]
      refine ⟨⟨by omega, by omega⟩, ?_⟩
      rw [if_neg (nf i e2 (by omega)), mm_wi (by omega) (by omega)]
      exact ih (i + 1) (by omega) (by omega)
  exact Lp j.toNat 0 (by omega) (by omega)
end
/-- how the places of snapshots are numbered, here and there -/
theorem kk_n33 {b : Int} {h : mm_Id → Int → Int} {dh : Int → Int} (hc : kk_core b h dh) {i : Int} (i0 : 0 ≤ i) (i1 : i < 8) : h (57, 0, 0) (5 + i) = h (33, i, 0) 1 ∧ 0 ≤ h (33, i, 0) 1 := by
  have w := kk_NC hc (5 + i) (by omega) (by omega)
  have y := (kk_nmC hc (5 + i) (by omega) (by omega)).1
  unfold kk_no at w y
  rw [if_neg (by omega), show 5 + i - 5 = i by omega] at w y
  exact ⟨w, y⟩
theorem kk_n31 {b : Int} {h : mm_Id → Int → Int} {dh : Int → Int} (hc : kk_core b h dh) {i : Int} (i0 : 0 ≤ i) (i1 : i < 5) : h (57, 0, 0) i = h (31, i, 0) 3 ∧ 0 ≤ h (31, i, 0) 3 := by
  have w := kk_NC hc i i0 (by omega)
  have y := (kk_nmC hc i i0 (by omega)).1
  unfold kk_no at w y
  rw [if_pos i1] at w y
  exact ⟨w, y⟩
/-- a snapshot made, here and there -/
theorem kk_snW {b s j t : Int} {h hcc gm : mm_Id → Int → Int} {dh : Int → Int} (hb : b + 1 ≤ 1000000) (hc : kk_core b h dh) (hs : kk_tp h t s) (s5 : s < 5) (hj : 0 ≤ j ∧ j < 8) (jz : h (33, j, 0) 1 = 0) (R : kk_R hcc)
    (cC : ∀ n, 1 ≤ n → n < 37 → kk_cpd hcc (5 + j) n h s n) (cF : ∀ (f : Nat) a c i, f < 40 → ¬ (f = 15 ∧ i = 7) → f ≠ 17 → f ≠ 18 → f ≠ 19 → ¬ (24 ≤ f ∧ f ≤ 30 ∧ a = 5 + j ∧ 1 ≤ c ∧ c < 37) → ¬ (f = 1 ∧ i = 11) → ¬ (f = 33 ∧ a = j) → hcc (f, a, c) i = h (f, a, c) i)
    (c11 : hcc (1, 0, 0) 11 = h (1, 0, 0) 11 + 1) (c33 : hcc (33, j, 0) 1 = h (1, 0, 0) 11 + 1 ∧ hcc (33, j, 0) 2 = t ∧ hcc (33, j, 0) 3 = 0)
    (mS : ∀ n, 1 ≤ n → n < 37 → kk_ms gm (36 * (5 + j) + n - 1) h (36 * s + n - 1)) (mF : ∀ (x : mm_Id) i, 40 ≤ x.1 → ¬ kk_sx (5 + j) x i → ¬ (x = (40, 0, 0) ∧ (i = 0 ∨ i = 25)) → ¬ (x = (57, 0, 0) ∧ i = 5 + j) → ¬ (x = (58, 0, 0) ∧ i = 5 + j) → ¬ (x = (60, 0, 0) ∧ i = 5 + j) → gm x i = h x i)
    (m25 : gm (40, 0, 0) 25 = h (1, 0, 0) 11 + 1) (m57 : gm (57, 0, 0) (5 + j) = h (1, 0, 0) 11 + 1) (m58 : gm (58, 0, 0) (5 + j) = t) (m60 : gm (60, 0, 0) (5 + j) = 0) : kk_W (b + 1) (kk_mix hcc gm) dh := by
  obtain ⟨F, hF⟩ : ∃ F, F = kk_mix hcc gm := ⟨_, rfl⟩
  rw [← hF]
  have KD := hc.1.2.2.1
  have zC : ∀ (f : Nat) a c i, f < 40 → F (f, a, c) i = hcc (f, a, c) i := fun f a c i f0 => by rw [hF]; exact kk_mixC f0
  have zM : ∀ (x : mm_Id) i, 40 ≤ x.1 → F x i = gm x i := fun x i f0 => by rw [hF]; exact kk_mixM f0
  have FC : ∀ (f : Nat) a c i, f < 40 → ¬ (f = 15 ∧ i = 7) → f ≠ 17 → f ≠ 18 → f ≠ 19 → ¬ (24 ≤ f ∧ f ≤ 30 ∧ a = 5 + j ∧ 1 ≤ c ∧ c < 37) → ¬ (f = 1 ∧ i = 11) → ¬ (f = 33 ∧ a = j) → F (f, a, c) i = h (f, a, c) i := fun f a c i f0 q1 q2 q3 q4 q5 q6 q7 => by
    rw [zC f a c i f0]; exact cF f a c i f0 q1 q2 q3 q4 q5 q6 q7
  have FM : ∀ (x : mm_Id) i, 40 ≤ x.1 → ¬ kk_sx (5 + j) x i → ¬ (x = (40, 0, 0) ∧ (i = 0 ∨ i = 25)) → ¬ (x = (57, 0, 0) ∧ i = 5 + j) → ¬ (x = (58, 0, 0) ∧ i = 5 + j) → ¬ (x = (60, 0, 0) ∧ i = 5 + j) → F x i = h x i := fun x i f0 q1 q2 q3 q4 q5 => by
    rw [zM x i f0]; exact mF x i f0 q1 q2 q3 q4 q5
  have FM2 : ∀ (f : Nat) i, f = 54 ∨ f = 55 ∨ f = 61 ∨ f = 62 ∨ f = 63 ∨ f = 64 → F (f, 0, 0) i = h (f, 0, 0) i := fun f i hf => FM _ _ (by show 40 ≤ f; omega) (kk_sx6 (by omega)) (by rintro ⟨q, _⟩; simp at q; omega) (by rintro ⟨q, _⟩; simp at q; omega) (by rintro ⟨q, _⟩; simp at q; omega) (by rintro ⟨q, _⟩; simp at q; omega)
  have FMq : ∀ (f : Nat) k, f = 57 ∨ f = 58 ∨ f = 59 ∨ f = 60 → k ≠ 5 + j → F (f, 0, 0) k = h (f, 0, 0) k := fun f k hf ne => FM _ _ (by show 40 ≤ f; omega) (kk_sx6 (by omega)) (by rintro ⟨q, _⟩; simp at q; omega) (fun q => ne q.2) (fun q => ne q.2) (fun q => ne q.2)
  have FM40 : ∀ i, i ≠ 0 → i ≠ 25 → F (40, 0, 0) i = h (40, 0, 0) i := fun i a1 a2 => FM _ _ (by decide) (kk_sx6 (by omega)) (by omega) (by simp) (by simp) (by simp)
  have ht := (kk_tl1 (kk_nmC hc) hs.1.1 s5).1 hs.2.1
  have htb : t < 2000000 := by
    have := (kk_nmC hc s hs.1.1 hs.1.2).2
    rw [kk_n5 s5] at this
    omega
  have hno : 0 < kk_no h s := kk_tpp hs
  have k11 := KD.2.2.1
  have k10 := KD.2.1
  have no5 : kk_no F (5 + j) = h (1, 0, 0) 11 + 1 := by
    unfold kk_no
    rw [if_neg (by omega), show 5 + j - 5 = j by omega, zC 33 j 0 1 (by decide)]
    exact c33.1
  have nos : ∀ s2, 0 ≤ s2 → s2 < 13 → s2 ≠ 5 + j → kk_no F s2 = kk_no h s2 := fun s2 a1 a2 a3 => by
    unfold kk_no
    rw [FC 31 s2 0 3 (by decide) (by omega) (by decide) (by decide) (by decide) (by omega) (by omega) (by omega)]
    by_cases z : s2 < 5
    · rw [if_pos z, if_pos z]
    · rw [if_neg z, if_neg z, FC 33 (s2 - 5) 0 1 (by decide) (by omega) (by decide) (by decide) (by decide) (by omega) (by omega) (by omega)]
  have fd : ∀ (f : Nat) a c i, 24 ≤ f → f ≤ 30 → a ≠ 5 + j → F (f, a, c) i = h (f, a, c) i := fun f a c i f0 f1 q => FC f a c i (by omega) (by omega) (by omega) (by omega) (by omega) (by omega) (by omega) (by omega)
  have f31 : ∀ a i, F (31, a, 0) i = h (31, a, 0) i := fun a i => FC 31 a 0 i (by decide) (by omega) (by decide) (by decide) (by decide) (by omega) (by omega) (by omega)
  have kd : kk_KD (b + 1) F dh := by
    refine kk_KD1 (t := 5 + j) KD (by omega) (by omega) ?_ ?_ (fun i a _ _ => f31 i a) (fun i a ne => FC 33 i 0 a (by decide) (by omega) (by decide) (by decide) (by decide) (by omega) (by omega) (by omega)) (fun i u _ => FC 32 i 0 u (by decide) (by omega) (by decide) (by decide) (by decide) (by omega) (by omega) (by omega)) FMq (fun i u _ _ _ => FM2 61 _ (by omega)) ?_ (fun w => by omega) (fun i i0 i1 => ?_) (fun _ => ⟨fun _ => ?_, fun w => ?_⟩) ?_ (fun s2 n _ _ q _ _ => fd 24 s2 n 0 (by decide) (by decide) q) (fun w => ?_) (fun _ => ?_) (fun i n i0 i1 z n0 n1 => ?_) (kk_d17c (t := 5 + j) (P := fun _ => False) (kk_h17 hc) (fun _ _ _ q => absurd q id) (fun i i0 i1 _ => ⟨fun d => ?_, rfl, FM2 63 _ (by omega), fun a _ _ => FM2 64 _ (by omega)⟩) (fun f i a hf => FC f i 0 a (by omega) (by omega) (by omega) (by omega) (by omega) (by omega) (by omega) (by omega)) (fun a => FM2 62 _ (by omega)) (fun s2 a1 a2 a3 z => ?_) (fun s2 n a1 a2 a3 _ _ z => ?_)) ?_ ?_
    · rw [FC 1 0 0 10 (by decide) (by omega) (by decide) (by decide) (by decide) (by omega) (by omega) (by omega), FM40 24 (by decide) (by decide)]
      exact ⟨k10.1, Int.le_refl _, by omega⟩
    · rw [zC 1 0 0 11 (by decide), zM (40, 0, 0) 25 (by decide), c11, m25]
      exact ⟨rfl, by omega, by omega⟩
    · rw [no5, zM (57, 0, 0) _ (by decide), m57, zC 1 0 0 11 (by decide), c11]
      exact ⟨rfl, by omega, fun w => by omega, fun _ => Int.le_refl _⟩
    · rw [f31]; exact KD.2.2.2.2.2.2.2.1 i i0 i1
    · rw [show 5 + j - 5 = j by omega, zC 33 j 0 2 (by decide), zC 33 j 0 3 (by decide), c33.2.1, c33.2.2, zM (58, 0, 0) _ (by decide), zM (60, 0, 0) _ (by decide), m58, m60]
      exact ⟨rfl, rfl, by omega, by omega⟩
    · rw [no5] at w; omega
    · rw [zM (60, 0, 0) _ (by decide), m60]; exact Or.inl rfl
    · rw [no5] at w; omega
    · rw [zC 24 _ 1 0 (by decide), (cC 1 (by omega) (by omega)).1.1 0 kk_F0]
      exact KD.2.2.2.2.2.2.2.2.2.2.2.1 s hs.1.1 hs.1.2 hno
    · rw [f31] at z
      exact kk_d15x KD i0 i1 z n0 n1 (fun f a f0 f1 => ⟨fd f _ n a f0 f1 (by omega), fd f _ n a f0 f1 (by omega)⟩)
    · unfold mm_isD at d; omega
    · rw [nos s2 a1 (by omega) a3]; exact z
    · rw [fd 24 s2 n 0 (by decide) (by decide) a3]; exact z
    · intro a a0 a1
      rw [FM2 64 _ (by omega)]
      exact kk_h18 hc a a0 a1
    · intro i n i0 i1 n0 n1 w w5
      rw [fd 24 i n 0 (by decide) (by decide) (by omega)] at w
      rw [fd 24 i n 5 (by decide) (by decide) (by omega)] at w5
      obtain ⟨q, hq, q1, q2⟩ := kk_h19 hc i n i0 i1 n0 n1 w w5
      exact ⟨q, hq, q1, by rw [FC 34 q 0 2 (by decide) (by omega) (by decide) (by decide) (by decide) (by omega) (by omega) (by omega)]; exact q2⟩
  have mo : ∀ s2 x i, s2 ≠ 5 + j → s2 ≠ 28 → kk_sx s2 x i → gm x i = h x i := fun s2 x i q _ hx2 => by
    have r := kk_sxr hx2
    refine mF x i (by omega) (kk_sxd q hx2) ?_ ?_ ?_ ?_ <;> (rintro ⟨v, _⟩; rw [v] at r; simp at r)
  refine kk_W1 (t := 5 + j) (u := s) (v := 28) (D := fun _ => False) (C := False) (gm := gm) hc (by omega) hs.1 (Or.inl rfl) (fun _ _ _ q => absurd q id) (fun n n0 n1 _ => kk_cpdt (kk_cpdr (fun f a f0 f1 => zC f _ n a (by omega))) (cC n n0 n1)) (Or.inr (fun _ _ _ q => absurd q id)) (fun q => absurd q id) (fun f s2 n a f0 f1 q _ => fd f s2 n a f0 f1 q) (fun s2 p => ?_) mS (fun n n0 n1 => ?_) mo (fun _ _ _ q => absurd q id) (fun s2 n x i _ _ _ hx2 => zM x i (by have := kk_mxr hx2; omega)) (fun i => zM _ _ (by decide)) ?_ (fun i => FC 16 0 0 i (by decide) (by omega) (by decide) (by decide) (by decide) (by omega) (by omega) (by omega)) (fun i => zM _ _ (by decide)) (fun i => ?_) (fun s2 => FC 22 s2 0 2 (by decide) (by omega) (by decide) (by decide) (by decide) (by omega) (by omega) (by omega)) (fun c => FM2 55 c (by omega)) (FM40 18 (by decide) (by decide)) (fun _ => ?_) (fun k q _ _ => ⟨FMq 57 k (by omega) q, FMq 59 k (by omega) q⟩) (fun w => by omega) (fun s2 a1 a2 q => nos s2 a1 (by omega) q) kd ?_
  · exact FC 27 s2 0 p (by decide) (by omega) (by decide) (by decide) (by decide) (by omega) (by omega) (by omega)
  · have w := kk_mwC hc (s := 28) (n := n) (by omega) ⟨n0, n1⟩
    refine kk_msr w.2.1.2 w.2.2.2 (fun x i hx2 => ?_)
    have r := kk_mxr hx2
    refine mF x i (by omega) (kk_sxd (s := 28) (by omega) ⟨n, n0, n1, hx2⟩) ?_ ?_ ?_ ?_ <;> (rintro ⟨v, _⟩; rw [v] at r; simp at r)
  · exact kk_Rcong (fun a c i => zC 27 a c i (by decide)) (zC _ _ _ _ (by decide)) (zC _ _ _ _ (by decide)) (fun r => zC _ _ _ _ (by decide)) (fun r => zC _ _ _ _ (by decide)) (fun r => zC _ _ _ _ (by decide)) R
  · rw [← zM _ _ (by decide)]; exact FM2 54 i (by omega)
  · rw [kk_NC hc s hs.1.1 hs.1.2]; exact hno
  · intro x i q
    obtain ⟨f, a, c⟩ := x
    unfold kk_kgx at q
    rcases q with ⟨q, q2⟩ | q | q | q | q | ⟨q, q2⟩ | ⟨q, q2⟩
    · rw [q]; exact FC 1 0 0 i (by decide) (by omega) (by decide) (by decide) (by decide) (by omega) (by omega) (by omega)
    · simp at q; exact FC f a c i (by omega) (by omega) (by omega) (by omega) (by omega) (by omega) (by omega) (by omega)
    · simp at q; exact FC f a c i (by omega) (by omega) (by omega) (by omega) (by omega) (by omega) (by omega) (by omega)
    · simp at q; exact FC f a c i (by omega) (by omega) (by omega) (by omega) (by omega) (by omega) (by omega) (by omega)
    · simp at q; exact FM _ _ (by show 40 ≤ f; omega) (kk_sx6 (by omega)) (by rintro ⟨v, _⟩; simp at v; omega) (by rintro ⟨v, _⟩; simp at v; omega) (by rintro ⟨v, _⟩; simp at v; omega) (by rintro ⟨v, _⟩; simp at v; omega)
    · rw [q]; exact FM40 i (by omega) (by omega)
    · simp at q q2; exact fd f a c i (by omega) (by omega) (by omega)

theorem c_28 {b : Int} {h : mm_Id → Int → Int} {dh : Int → Int} {nx ns : Int} (hy : 10581 ≤ nx) (hc : kk_core b h dh) (hb : b + 1 ≤ 1000000) {t : Int} (ht : -2147483648 ≤ t ∧ t < 2147483648) : kk_call 28 250 [zI t] b h dh nx ns kk_SI := by
  unfold kk_call
  have hx : 5275 ≤ nx := by omega
  have hc0 : kk_core b (mm_up h (40, 0, 0) 0 0) dh := kk_core0 hc
  have fin : ∀ v, kk_SI (zI v) → mm_Cl 250 [zR (40, 0, 0), zI t] (mm_z h dh nx ns) (fun (r2 : mm_V) (h2 : mm_H) => r2 = zI v ∧ ∃ g2, h2 = mm_z g2 dh nx ns ∧ kk_core (b + 1) g2 dh ∧ ∀ x j, kk_scr x j → g2 x j = h x j) →
      (fun (r : mm_V) (h1 : mm_H) => kk_SI r ∧ ∃ g dh1, h1 = mm_z g dh1 nx ns ∧ mm_Cl 250 [zR (40, 0, 0), zI t] (mm_z g dh1 nx ns) (fun r2 h2 => r2 = r ∧ ∃ g2, h2 = mm_z g2 dh1 nx ns ∧ kk_core (b + 1) g2 dh1 ∧ ∀ x j, kk_scr x j → g2 x j = h x j)) (zI v) (mm_z h dh nx ns) :=
    fun v h1 h2 => ⟨h1, h, dh, rfl, h2⟩
  have mfin : ∀ v w : Int, w = v → (fun (r2 : mm_V) (h2 : mm_H) => r2 = zI v ∧ ∃ g2, h2 = mm_z g2 dh nx ns ∧ kk_core (b + 1) g2 dh ∧ ∀ x j, kk_scr x j → g2 x j = h x j) (zI w) (mm_z (mm_up h (40, 0, 0) 0 0) dh nx ns) :=
    fun v w e => ⟨by rw [e], _, rfl, kk_coreS hb hc0, fun x j hs => kk_scr0 hs⟩
  have ca := kk_cal hc
  have k11 := hc.1.2.2.1.2.2.1
  rw [r_28_e (hx := hx)]
  refine s53t hx (kk_nmC hc) (fun s s0 s1 hs => ?_) (fun hs => ?_)
  · have hD : mm_isD s := ⟨s0, s1⟩
    rw [mm_pR, r_28_0_3a (hvx1 := rfl) (hty0 := hD) (hx := hx)]
    split
    · rename_i c0
      obtain ⟨j, ⟨j0, j8⟩, jn, jp⟩ := kk_ff (fun i => h (33, i, 0) 1 = 0) 8
      have j8 : j ≤ 8 := j8
      refine s28f hx hD ⟨j0, j8⟩ jn ?_
      -- the free place there
      have fr : ∀ G : mm_Id → Int → Int, (∀ k, 0 ≤ k → k < 13 → G (57, 0, 0) k = h (57, 0, 0) k) → ∀ Q2 : mm_V → mm_H → Prop, Q2 (zI (5 + j)) (mm_z G dh nx ns) → mm_Cl 248 [zR (40, 0, 0), zI 5, zI 13] (mm_z G dh nx ns) Q2 := fun G e57 Q2 k => by
        refine m248 hy (by omega) (fun q q0 q1 qf qz => ?_)
        have e : q = 5 + j := by
          have a1 : ¬ q < 5 + j := fun w => by
            have z := qz (by omega)
            rw [e57 q (by omega) (by omega)] at z
            have y := kk_n33 hc (i := q - 5) (by omega) (by omega)
            rw [show 5 + (q - 5) = q by omega] at y
            have := jn (q - 5) (by omega) (by omega)
            omega
          have a2 : ¬ 5 + j < q := fun w => by
            have z := qf (5 + j) (by omega) w
            rw [e57 _ (by omega) (by omega)] at z
            have y := kk_n33 hc (i := j) (by omega) (by omega)
            have := jp (by show j < 8; omega)
            omega
          omega
        rw [e]; exact k
      by_cases jj : j < 8
      · have jz := jp (by show j < 8; omega)
        have hS : mm_isS j := ⟨j0, jj⟩
        rw [r_28_3 (htx2 := hD) (hx := hx), if_pos jj]
        refine ⟨⟨j0, jj⟩, ?_⟩
        rw [if_pos jz]
        refine ⟨⟨j0, jj⟩, ?_⟩
        rw [mm_ups, mm_wi (z := h (1, 0, 0) 11 + 1) (by omega) (by omega), r_154_e (htx0 := hS) (htx2 := hD) (hx := hx), mm_upf (by decide), mm_upf (by decide)]
        obtain ⟨hc1, e1⟩ : ∃ q, q = mm_up (mm_up (mm_up (mm_up h (1, 0, 0) 11 (h (1, 0, 0) 11 + 1)) (33, j, 0) 1 (h (1, 0, 0) 11 + 1)) (33, j, 0) 2 (h (31, s, 0) 3)) (33, j, 0) 3 0 := ⟨_, rfl⟩
        rw [← e1]
        have a33 : ∀ (f : Nat) a c i, ¬ (f = 1 ∧ i = 11) → ¬ (f = 33 ∧ a = j) → hc1 (f, a, c) i = h (f, a, c) i := fun f a c i q1 q2 => by
          rw [e1, mm_upne' (by rintro ⟨v, _⟩; simp at v; omega), mm_upne' (by rintro ⟨v, _⟩; simp at v; omega), mm_upne' (by rintro ⟨v, _⟩; simp at v; omega), mm_upne' (by rintro ⟨v, v2⟩; simp at v; omega)]
        have a40 : ∀ (x : mm_Id) i, 40 ≤ x.1 → hc1 x i = h x i := fun x i q => by rw [e1, kk_moU q (by simp), kk_moU q (by simp), kk_moU q (by simp), kk_moU q (by simp)]
        have R1 : kk_R hc1 := by rw [e1]; exact kk_Rup (by omega) (kk_Rup (by omega) (kk_Rup (by omega) (kk_Rup (by omega) hc.1.1.2.2.2.2.2.2.2.1)))
        have cpa : ∀ a n, kk_cpd hc1 a n h a n := fun a n => kk_cpdr (fun f i f0 f1 => a33 f a n i (by omega) (by omega))
        refine s165 (mm_ts hS) (mm_td hD) hx (by omega) R1 (fun n n0 n1 => kk_nwcp (cpa _ n) (kk_nwC hc (mm_ts hS) ⟨n0, n1⟩)) (fun n n0 n1 => kk_nwcp (cpa _ n) (kk_nwC hc (mm_td hD) ⟨n0, n1⟩)) (by rw [a33 22 _ 0 2 (by omega) (by omega)]; exact hc.1.1.2.2.2.2.2.2.2.2.2.1 _ (mm_ts hS)) (fun hc2 cR cC cF => ?_)
        have cC2 : ∀ n, 1 ≤ n → n < 37 → kk_cpd hc2 (5 + j) n h s n := fun n n0 n1 => kk_cpdt (cC n n0 n1) (cpa s n)
        have cF2 : ∀ (f : Nat) a c i, f < 40 → ¬ (f = 15 ∧ i = 7) → f ≠ 17 → f ≠ 18 → f ≠ 19 → ¬ (24 ≤ f ∧ f ≤ 30 ∧ a = 5 + j ∧ 1 ≤ c ∧ c < 37) → hc2 (f, a, c) i = hc1 (f, a, c) i := fun f a c i f0 q1 q2 q3 q4 q5 =>
          cF _ _ (by unfold kk_ct; rintro (⟨v, v2⟩ | v | v | v) <;> simp at v <;> omega) (by unfold kk_tr; simp; omega)
        have b40 : ∀ (x : mm_Id) i, 40 ≤ x.1 → hc2 x i = h x i := fun x i q => by
          rw [cF x i (by unfold kk_ct; rintro (⟨v, _⟩ | v | v | v) <;> (rw [v] at q; simp at q)) (by unfold kk_tr; omega)]; exact a40 x i q
        have nw2 : ∀ a n, 0 ≤ a → a < 18 → 1 ≤ n → n < 37 → kk_nw hc2 a n := fun a n a0 a1 n0 n1 => by
          by_cases q : a = 5 + j
          · rw [q]; exact kk_nwcp (cC2 n n0 n1) (kk_nwC hc (mm_td hD) ⟨n0, n1⟩)
          · exact kk_nwcp (kk_cpdr (fun f i f0 f1 => (cF2 f a n i (by omega) (by omega) (by omega) (by omega) (by omega) (by omega)).trans (a33 f a n i (by omega) (by omega)))) (kk_nwC hc (mm_T18 ⟨a0, a1⟩) ⟨n0, n1⟩)
        rw [mm_pU, r_154_0_15 (hx := hx), mm_pU, r_28_3_23 (hx := hx)]
        refine s64p hx cR nw2 (fun a a0 a1 => ?_) (fun g k1 k2 k3 => ?_)
        · rw [cF2 22 a 0 2 (by decide) (by omega) (by decide) (by decide) (by decide) (by omega), a33 22 a 0 2 (by omega) (by omega), hc.1.1.2.2.2.2.2.2.2.2.2.1 a (mm_T18 ⟨by omega, a1⟩)]
          exact if_neg (by omega)
        have x11 : hc2 (1, 0, 0) 11 = h (1, 0, 0) 11 + 1 := by
          rw [cF2 1 0 0 11 (by decide) (by omega) (by decide) (by decide) (by decide) (by omega), e1, mm_upf (by decide), mm_upf (by decide), mm_upf (by decide), mm_ups]
        have g11 : g (1, 0, 0) 11 = h (1, 0, 0) 11 + 1 := by
          rw [k1.2.2.2.2 (1, 0, 0) 11 (by decide) (by simp [kk_ct]) (by rintro ⟨i, _, _, q⟩; simp [kk_tr] at q) (by rintro ⟨i, _, q, _⟩; simp at q) (by simp)]; exact x11
        have ek : ∀ (x : mm_Id) i, 40 ≤ x.1 → g x i = h x i := fun x i q => by rw [k2 x i q]; exact b40 x i q
        rw [mm_pI, r_28_3_25 (hx := hx), g11]
        refine ⟨⟨_, rfl, by omega, by omega⟩, g, dh, rfl, ?_⟩
        rw [r_250_e (hy := hy)]
        have e57 : ∀ k, 0 ≤ k → k < 13 → mm_up g (40, 0, 0) 0 0 (57, 0, 0) k = h (57, 0, 0) k := fun k _ _ => by rw [mm_upf (by decide)]; exact ek _ _ (by decide)
        refine m182h hy hc e57 ht hs s1 ?_
        rw [mm_pI, r_250_0_6 (hy := hy), if_neg (by omega), mm_upj (by decide), ek _ _ (by decide), ← ca.1, if_pos c0]
        refine fr _ e57 _ ?_
        rw [mm_pI, r_250_2_4 (hy := hy), if_neg (by omega)]
        refine ⟨by omega, by omega, by omega, ?_⟩
        rw [mm_ups, mm_upj (by decide), ek _ _ (by decide), ← k11.1, mm_wi (z := h (1, 0, 0) 11 + 1) (by omega) (by omega)]
        obtain ⟨gm1, f1⟩ : ∃ q, q = mm_up (mm_up (mm_up (mm_up (mm_up g (40, 0, 0) 0 0) (40, 0, 0) 25 (h (1, 0, 0) 11 + 1)) (57, 0, 0) (5 + j) (h (1, 0, 0) 11 + 1)) (58, 0, 0) (5 + j) t) (60, 0, 0) (5 + j) 0 := ⟨_, rfl⟩
        rw [← f1]
        have b1 : ∀ (x : mm_Id) i, 40 ≤ x.1 → ¬ (x = (40, 0, 0) ∧ (i = 0 ∨ i = 25)) → ¬ (x = (57, 0, 0) ∧ i = 5 + j) → ¬ (x = (58, 0, 0) ∧ i = 5 + j) → ¬ (x = (60, 0, 0) ∧ i = 5 + j) → gm1 x i = h x i := fun x i q q1 q2 q3 q4 => by
          rw [f1, mm_upne' q4, mm_upne' q3, mm_upne' q2, mm_upne' (fun v => q1 ⟨v.1, Or.inr v.2⟩), mm_upne' (fun v => q1 ⟨v.1, Or.inl v.2⟩)]; exact ek x i q
        have bsx : ∀ (x : mm_Id) i, 41 ≤ x.1 → x.1 ≤ 53 → gm1 x i = h x i := fun x i q q2 => b1 x i (by omega) (by rintro ⟨v, _⟩; rw [v] at q; simp at q) (by rintro ⟨v, _⟩; rw [v] at q2; simp at q2) (by rintro ⟨v, _⟩; rw [v] at q2; simp at q2) (by rintro ⟨v, _⟩; rw [v] at q2; simp at q2)
        have msa : ∀ a n, 0 ≤ a → a < 29 → 1 ≤ n → n < 37 → kk_ms gm1 (36 * a + n - 1) h (36 * a + n - 1) := fun a n a0 a1 n0 n1 => by
          have w := kk_mwC hc (s := a) (n := n) ⟨a0, a1⟩ ⟨n0, n1⟩
          exact kk_msr w.2.1.2 w.2.2.2 (fun x i hx2 => by have r := kk_mxr hx2; exact bsx x i r.1 r.2)
        have mwm : ∀ {G : mm_Id → Int → Int} {k k1 : Int}, kk_ms G k h k1 → kk_mw h k1 → kk_mw G k := fun {G k k1} m w => by
          unfold kk_mw
          rw [m.1 53 kk_f53, m.1 44 kk_f44, m.1 49 kk_f49]; exact w
        refine m179 hy (by omega) (by omega) (by omega) (fun n n0 n1 => mwm (msa s n (by omega) (by omega) n0 n1) (kk_mwC hc (by omega) ⟨n0, n1⟩)) (fun gm mS mF => ?_)
        have mS2 : ∀ n, 1 ≤ n → n < 37 → kk_ms gm (36 * (5 + j) + n - 1) h (36 * s + n - 1) := fun n n0 n1 => kk_mst (mS n n0 n1) (msa s n (by omega) (by omega) n0 n1)
        have mo : ∀ (f : Nat) a c i, f < 41 ∨ 53 < f → gm (f, a, c) i = gm1 (f, a, c) i := fun f a c i hf => mF _ _ (kk_sx6 hf)
        rw [mm_pU, r_250_3_26 (hy := hy)]
        refine m208p hy (fun k k0 k9 => ?_) (fun k n k0 k9 n0 n1 => ?_) (fun g2 m1 m2 m3 => ?_)
        · rw [mo 60 0 0 k (by omega)]
          by_cases q : k = 5 + j
          · rw [q, f1, mm_ups]; exact Or.inl rfl
          · rw [b1 _ _ (by decide) (by simp) (by simp) (by simp) (by simp; exact q)]
            exact hc.1.2.2.1.2.2.2.2.2.2.2.2.2.1 k k0 (by omega)
        · by_cases q : k = 5 + j
          · rw [q]; exact mwm (mS2 n n0 n1) (kk_mwC hc (by omega) ⟨n0, n1⟩)
          · have w := kk_mwC hc (s := k) (n := n) (by omega) ⟨n0, n1⟩
            exact mwm (kk_msr w.2.1.2 w.2.2.2 (fun x i hx2 => by rw [mF x i (kk_sxd q ⟨n, n0, n1, hx2⟩)]; have r := kk_mxr hx2; exact bsx x i r.1 r.2)) w
        have m25 : gm (40, 0, 0) 25 = h (1, 0, 0) 11 + 1 := by rw [mo 40 0 0 25 (by omega), f1, mm_upf (by decide), mm_upf (by decide), mm_upf (by decide), mm_ups]
        have WP : kk_W (b + 1) (kk_mix hc2 gm) dh := by
          refine kk_snW hb hc hs s1 ⟨j0, jj⟩ jz cR cC2 (fun f a c i f0 q1 q2 q3 q4 q5 q6 q7 => (cF2 f a c i f0 q1 q2 q3 q4 q5).trans (a33 f a c i q6 q7)) x11 ⟨?_, ?_, ?_⟩ mS2 (fun x i x0 q1 q2 q3 q4 q5 => (mF x i q1).trans (b1 x i x0 q2 q3 q4 q5)) m25 ?_ ?_ ?_
          · rw [cF2 33 j 0 1 (by decide) (by omega) (by decide) (by decide) (by decide) (by omega), e1, mm_upj (by decide), mm_upj (by decide), mm_ups]
          · rw [cF2 33 j 0 2 (by decide) (by omega) (by decide) (by decide) (by decide) (by omega), e1, mm_upj (by decide), mm_ups]
            exact ((kk_tl1 (kk_nmC hc) s0 s1).1 hs.2.1).2
          · rw [cF2 33 j 0 3 (by decide) (by omega) (by decide) (by decide) (by decide) (by omega), e1, mm_ups]
          · rw [mo 57 0 0 _ (by omega), f1, mm_upf (by decide), mm_upf (by decide), mm_ups]
          · rw [mo 58 0 0 _ (by omega), f1, mm_upf (by decide), mm_ups]
          · rw [mo 60 0 0 _ (by omega), f1, mm_ups]
        have gc : ∀ (x : mm_Id) i, x.1 < 40 → gm x i = g x i := fun x i q => by
          rw [mF x i (fun v => by have := kk_sxr v; omega), f1, kk_clU q (by simp), kk_clU q (by simp), kk_clU q (by simp), kk_clU q (by simp), kk_clU q (by simp)]
        rw [mm_pU, r_250_3_28 (hy := hy)]
        refine ⟨?_, g2, rfl, kk_downC WP k1 m1 (fun x i q => by rw [m2 x i q]; exact gc x i q), fun x i q => ?_⟩
        · rw [m1.2.2.2.2 (40, 0, 0) 25 (by decide) (kk_dxN (by decide)) (by simp), m25]
        · rw [m3 x i q]
          rcases kk_scrC q with q5 | q5
          · have q6 := q
            unfold kk_scr at q6
            have n41 : ¬ kk_sx (5 + j) x i := fun v => by
              have r := kk_sxr v
              rcases q6 with q6 | q6 | ⟨q6, _⟩ | q6
              · omega
              · omega
              · rw [q6] at r; simp at r
              · omega
            rw [mF x i n41]
            refine b1 x i q5 ?_ ?_ ?_ ?_
            · rintro ⟨v, v2⟩; rw [v] at q6; simp at q6; omega
            · rintro ⟨v, v2⟩; rw [v] at q6; simp at q6
            · rintro ⟨v, v2⟩; rw [v] at q6; simp at q6
            · rintro ⟨v, v2⟩; rw [v] at q6; simp at q6
          · rw [gc x i (by omega), k3 x i q5.1 q5.2]
            obtain ⟨f, a, c⟩ := x
            simp at q5
            exact (cF2 f a c i (by omega) (by omega) (by omega) (by omega) (by omega) (by omega)).trans (a33 f a c i (by omega) (by omega))
      · rw [r_28_3 (htx2 := hD) (hx := hx), if_neg jj]
        refine fin (-4) ⟨_, rfl, by omega, by omega⟩ ?_
        rw [r_250_e (hy := hy)]
        refine m182y hy hc (kk_lku (by decide) (kk_lkr h)) ht hs s1 ?_
        rw [mm_pI, r_250_0_6 (hy := hy), if_neg (by omega), mm_upj (by decide), ← ca.1, if_pos c0]
        refine fr _ (fun k _ _ => mm_upf (by decide)) _ ?_
        rw [mm_pI, r_250_2_4 (hy := hy), if_pos (by omega)]
        exact mfin _ _ rfl
    · rename_i c0
      refine fin (-5) ⟨_, rfl, by omega, by omega⟩ ?_
      rw [r_250_e (hy := hy)]
      refine m182y hy hc (kk_lku (by decide) (kk_lkr h)) ht hs s1 ?_
      rw [mm_pI, r_250_0_6 (hy := hy), if_neg (by omega), mm_upj (by decide), ← ca.1, if_neg c0]
      exact mfin _ _ rfl
  · rw [mm_pR, r_28_0_3 (hvx1 := rfl) (hx := hx)]
    refine fin (-1) ⟨_, rfl, by omega, by omega⟩ ?_
    rw [r_250_e (hy := hy)]
    refine m182n hy hc (kk_lku (by decide) (kk_lkr h)) ht hs ?_
    rw [mm_pI, r_250_0_6 (hy := hy), if_pos (by decide)]
    exact mfin _ _ rfl


