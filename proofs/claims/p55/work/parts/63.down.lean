/-! what is put down, both sides held side by side -/
/-- the cls's cells of the one, the reference's of the other -/
def kk_mix (a c : mm_Id → Int → Int) : mm_Id → Int → Int := fun x j => if x.1 < 40 then a x j else c x j
theorem kk_mixC {a c : mm_Id → Int → Int} {x : mm_Id} {j : Int} (h : x.1 < 40) : kk_mix a c x j = a x j := by simp [kk_mix, h]
theorem kk_mixM {a c : mm_Id → Int → Int} {x : mm_Id} {j : Int} (h : 40 ≤ x.1) : kk_mix a c x j = c x j := by
  have : ¬ x.1 < 40 := by omega
  simp [kk_mix, this]
theorem kk_mixS (a : mm_Id → Int → Int) : kk_mix a a = a := by
  funext x j
  unfold kk_mix
  split <;> rfl
def kk_pdC (a g : mm_Id → Int → Int) : Prop := kk_R g ∧ (∀ i n, 0 ≤ i → i < 5 → a (31, i, 0) 6 ≠ 0 → 1 ≤ n → n < 37 → kk_cpd g (13 + i) n a i n) ∧ (∀ i, 0 ≤ i → i < 5 → g (31, i, 0) 6 = 0) ∧ g (1, 0, 0) 13 = 0 ∧
  (∀ x j, x.1 < 40 → ¬ kk_ct x j → ¬ (∃ i, (0 ≤ i ∧ i < 5) ∧ a (31, i, 0) 6 ≠ 0 ∧ kk_tr (13 + i) 1 37 x) → ¬ (∃ i, (0 ≤ i ∧ i < 5) ∧ x = (31, i, 0) ∧ j = 6) → ¬ (x = (1, 0, 0) ∧ j = 13) → g x j = a x j)
def kk_pdM (a g : mm_Id → Int → Int) : Prop := g (40, 0, 0) 33 = 0 ∧ (∀ k f, 0 ≤ k → k < 13 → kk_q4 f → g (f, 0, 0) (13 + k) = a (f, 0, 0) k) ∧ (∀ k u, 0 ≤ k → k < 13 → 0 ≤ u → u < 8 → g (61, 0, 0) (8 * (13 + k) + u) = a (61, 0, 0) (8 * k + u)) ∧ (∀ k n, 0 ≤ k → k < 13 → 1 ≤ n → n < 37 → kk_ms g (36 * (13 + k) + n - 1) a (36 * k + n - 1)) ∧
  (∀ x j, 40 ≤ x.1 → ¬ kk_dx x j → ¬ (x = (40, 0, 0) ∧ j = 33) → g x j = a x j)
theorem kk_mxr {b : Int} {x : mm_Id} {j : Int} (h : kk_mx b x j) : 41 ≤ x.1 ∧ x.1 ≤ 53 := by
  unfold kk_mx kk_mf at h
  omega
theorem kk_sxr {s : Int} {x : mm_Id} {j : Int} (h : kk_sx s x j) : 41 ≤ x.1 ∧ x.1 ≤ 53 := by
  obtain ⟨n, _, _, q⟩ := h
  exact kk_mxr q
theorem kk_dxN {x : mm_Id} {j : Int} (h : x.1 < 41 ∨ 53 < x.1 ∧ x.1 < 57 ∨ 61 < x.1) : ¬ kk_dx x j := by
  rintro (⟨q, _⟩ | ⟨q, _⟩ | ⟨k, _, q⟩)
  · rcases q with q | q | q | q <;> subst q <;> simp at h
  · subst q; simp at h
  · have := kk_sxr q; omega
theorem kk_dxN2 {f : Nat} {t n j : Int} (h : f = 57 ∨ f = 58 ∨ f = 59 ∨ f = 60) (hj : j < 13 ∨ 26 ≤ j) : ¬ kk_dx (f, t, n) j := by
  rintro (⟨_, q⟩ | ⟨q, _⟩ | ⟨k, _, q⟩)
  · omega
  · simp at q; omega
  · have := kk_sxr q; simp at this; omega
theorem kk_dxN3 {t n j : Int} (hj : j < 104 ∨ 208 ≤ j) : ¬ kk_dx (61, t, n) j := by
  rintro (⟨q, _⟩ | ⟨_, q⟩ | ⟨k, _, q⟩)
  · simp at q
  · omega
  · have := kk_sxr q; simp at this
theorem kk_dxN4 {s n : Int} {x : mm_Id} {j : Int} (hs : ¬ (13 ≤ s ∧ s < 26)) (hn : 1 ≤ n ∧ n < 37) (hx : kk_mx (36 * s + n - 1) x j) : ¬ kk_dx x j := by
  have r := kk_mxr hx
  rintro (⟨q, _⟩ | ⟨q, _⟩ | ⟨k, hk, q⟩)
  · rcases q with q | q | q | q <;> subst q <;> simp at r
  · subst q; simp at r
  · exact kk_sxd (show s ≠ 13 + k by omega) ⟨n, hn.1, hn.2, hx⟩ q
/-- a place without nodes has no blocks -/
theorem kk_bs0 {h : mm_Id → Int → Int} {s c : Int} (z : ∀ n, 1 ≤ n → n < 37 → h (41, 0, 0) (36 * s + n - 1) ≠ 1) : ¬ kk_bs h s c := by
  rintro ⟨n, p, hn, hp, k, _⟩
  exact z n hn.1 hn.2 k
theorem kk_downL {b : Int} {P F : mm_Id → Int → Int} {dh : Int → Int} (hW : kk_W b P dh) (c : kk_pdC P F) (m : kk_pdM P F) : kk_core b F dh := by
  obtain ⟨K, KB, ⟨d1, d2, d3, d4, d5, d6, d7, d8, d9, d10, d13, d14, d15, d17, d18, d19⟩, KG⟩ := hW
  obtain ⟨cR, cC, c6, c13, cf⟩ := c
  obtain ⟨m33, mq, ml, mm, mf⟩ := m
  have T29 : ∀ t, mm_isT t → 0 ≤ t ∧ t < 29 := fun t ht => by unfold mm_isT at ht; omega
  have ctN : ∀ (f : Nat) t n j, f ≠ 15 → f ≠ 17 → f ≠ 18 → f ≠ 19 → ¬ kk_ct (f, t, n) j := fun f t n j a1 a2 a3 a4 => by
    unfold kk_ct
    rintro (⟨q, _⟩ | q | q | q) <;> simp at q <;> omega
  have eg : ∀ (f : Nat) t n j, f < 40 → (f ≠ 1 ∧ f ≠ 15 ∧ f ≠ 17 ∧ f ≠ 18 ∧ f ≠ 19 ∧ f ≠ 31 ∧ ¬ (24 ≤ f ∧ f ≤ 30)) → F (f, t, n) j = P (f, t, n) j := fun f t n j h1 h2 => by
    refine cf _ _ h1 (ctN f t n j (by omega) (by omega) (by omega) (by omega)) ?_ ?_ ?_
    · rintro ⟨i, _, _, q⟩; unfold kk_tr at q; simp at q; omega
    · rintro ⟨i, _, q, _⟩; simp at q; omega
    · rintro ⟨q, _⟩; simp at q; omega
  have e1 : ∀ j, j ≠ 13 → F (1, 0, 0) j = P (1, 0, 0) j := fun j hj => by
    refine cf _ _ (by decide) (ctN _ _ _ _ (by decide) (by decide) (by decide) (by decide)) ?_ ?_ ?_
    · rintro ⟨i, _, _, q⟩; unfold kk_tr at q; simp at q
    · rintro ⟨i, _, q, _⟩; simp at q
    · rintro ⟨_, q⟩; exact hj q
  have e31 : ∀ i j, j ≠ 6 → F (31, i, 0) j = P (31, i, 0) j := fun i j hj => by
    refine cf _ _ (by simp) (ctN _ _ _ _ (by decide) (by decide) (by decide) (by decide)) ?_ ?_ ?_
    · rintro ⟨i, _, _, q⟩; unfold kk_tr at q; simp at q
    · rintro ⟨i, _, _, q⟩; exact hj q
    · rintro ⟨q, _⟩; simp at q
  have et : ∀ (f : Nat) t n j, 24 ≤ f → f ≤ 30 → ¬ (13 ≤ t ∧ t < 18) → F (f, t, n) j = P (f, t, n) j := fun f t n j a1 a2 a3 => by
    refine cf _ _ (by show f < 40; omega) (ctN f t n j (by omega) (by omega) (by omega) (by omega)) ?_ ?_ ?_
    · rintro ⟨i, hi, _, q⟩; unfold kk_tr at q; simp at q; omega
    · rintro ⟨i, _, q, _⟩; simp at q; omega
    · rintro ⟨q, _⟩; simp at q; omega
  have et0 : ∀ (f : Nat) t j, 24 ≤ f → f ≤ 30 → F (f, t, 0) j = P (f, t, 0) j := fun f t j a1 a2 => by
    refine cf _ _ (by show f < 40; omega) (ctN f t 0 j (by omega) (by omega) (by omega) (by omega)) ?_ ?_ ?_
    · rintro ⟨i, hi, _, q⟩; unfold kk_tr at q; simp at q
    · rintro ⟨i, _, q, _⟩; simp at q; omega
    · rintro ⟨q, _⟩; simp at q; omega
  have kp : ∀ i n, 0 ≤ i → i < 5 → 1 ≤ n → n < 37 → kk_cpd F (13 + i) n P i n := fun i n i0 i1 n0 n1 => by
    by_cases z : P (31, i, 0) 6 = 0
    · refine kk_cpdt (kk_cpdr (fun f j f0 f1 => ?_)) (d15 i n i0 i1 z n0 n1)
      refine cf _ _ (by show f < 40; omega) (ctN f _ n j (by omega) (by omega) (by omega) (by omega)) ?_ ?_ ?_
      · rintro ⟨i2, hi, y, q⟩
        unfold kk_tr at q
        simp at q
        have : i2 = i := by omega
        exact y (by rw [this]; exact z)
      · rintro ⟨i, _, q, _⟩; simp at q; omega
      · rintro ⟨q, _⟩; simp at q; omega
    · exact cC i n i0 i1 z n0 n1
  have W := K.2.1
  have MW := K.2.2.2.2.1
  let σ : Int → Int := fun s => if 13 ≤ s ∧ s < 26 then s - 13 else s
  have σ1 : ∀ s, (13 ≤ s ∧ s < 26) → σ s = s - 13 := fun s h => if_pos h
  have σ0 : ∀ s, ¬ (13 ≤ s ∧ s < 26) → σ s = s := fun s h => if_neg h
  have hσ : ∀ s, 0 ≤ s → s < 29 → 0 ≤ σ s ∧ σ s < 29 := fun s a1 a2 => by
    by_cases z : 13 ≤ s ∧ s < 26
    · rw [σ1 s z]; omega
    · rw [σ0 s z]; omega
  have hτ : ∀ t, mm_isT t → mm_isT (σ t) := fun t ht => by
    by_cases z : 13 ≤ t ∧ t < 26
    · rw [σ1 t z]; unfold mm_isT at ht ⊢; omega
    · rw [σ0 t z]; exact ht
  have cp : ∀ t n, mm_isT t → 1 ≤ n → n < 37 → kk_cpd F t n P (σ t) n := fun t n ht n0 n1 => by
    by_cases z : 13 ≤ t ∧ t < 26
    · rw [σ1 t z]
      unfold mm_isT at ht
      have := kp (t - 13) n (by omega) (by omega) n0 n1
      rw [show 13 + (t - 13) = t by omega] at this
      exact this
    · rw [σ0 t z]
      exact kk_cpdr (fun f j f0 f1 => et f t n j f0 f1 (by omega))
  have ms : ∀ s n, 0 ≤ s → s < 29 → 1 ≤ n → n < 37 → kk_ms F (36 * s + n - 1) P (36 * σ s + n - 1) := fun s n s0 s1 n0 n1 => by
    by_cases z : 13 ≤ s ∧ s < 26
    · rw [σ1 s z]
      have := mm (s - 13) n (by omega) (by omega) n0 n1
      rw [show 13 + (s - 13) = s by omega] at this
      exact this
    · rw [σ0 s z]
      have w := (MW s n s0 s1 n0 n1).1
      refine kk_msr w.2.1.2 w.2.2.2 (fun x j hx => mf x j ?_ (kk_dxN4 z ⟨n0, n1⟩ hx) ?_)
      · have := kk_mxr hx; omega
      · rintro ⟨q, _⟩
        have := kk_mxr hx
        rw [q] at this
        simp at this
  have e16 : ∀ j, F (16, 0, 0) j = P (16, 0, 0) j := fun j => eg 16 0 0 j (by decide) (by decide)
  have em : ∀ (f : Nat) t n j, (f = 54 ∨ f = 55 ∨ 62 ≤ f) → F (f, t, n) j = P (f, t, n) j := fun f t n j hf => by
    refine mf _ _ (by show 40 ≤ f; omega) (kk_dxN (by show f < 41 ∨ 53 < f ∧ f < 57 ∨ 61 < f; omega)) ?_
    rintro ⟨q, _⟩
    simp at q
    omega
  have em40 : ∀ j, j ≠ 33 → F (40, 0, 0) j = P (40, 0, 0) j := fun j hj => mf _ _ (by decide) (kk_dxN (by decide)) (fun q => hj q.2)
  have emq : ∀ (f : Nat) j, (f = 57 ∨ f = 58 ∨ f = 59 ∨ f = 60) → j < 13 → F (f, 0, 0) j = P (f, 0, 0) j := fun f j hf hj => mf _ _ (by show 40 ≤ f; omega) (kk_dxN2 hf (by omega)) (fun q => by
    have := q.1
    simp at this
    omega)
  have eml : ∀ j, j < 104 → F (61, 0, 0) j = P (61, 0, 0) j := fun j hj => mf _ _ (by decide) (kk_dxN3 (by omega)) (fun q => by
    have := q.1
    simp at this)
  have e54 : ∀ j, F (54, 0, 0) j = P (54, 0, 0) j := fun j => em 54 0 0 j (by omega)
  have no : ∀ s, 0 ≤ s → kk_no F s = kk_no P s := fun s _ => by
    unfold kk_no
    rw [e31 s 3 (by decide), eg 33 _ _ _ (by decide) (by decide)]
  have KT : kk_KT F := by
    refine kk_KTcp K hτ cp hσ (fun _ _ => rfl) ms (fun t n t0 t1 n0 n1 => ?_) cR e16 e54 (fun t _ => eg 22 t 0 2 (by decide) (by decide)) (fun t p _ _ _ => et0 27 t p (by decide) (by decide)) (fun t ht => ?_)
    · rw [σ0 t (by omega)]
      exact K.1 t n t0 t1 n0 n1
    · have tT : mm_isT t := by unfold mm_isT; omega
      have := K.2.2.2.1 t ht
      refine kk_SRcp (fun n n0 n1 => ?_) (fun n n0 n1 => ?_) (fun n n0 n1 => W t n tT n0 n1) (fun _ _ _ _ _ _ _ _ _ _ => e16 _) (fun _ _ _ _ _ _ _ _ _ _ => e54 _) this
      · have := cp t n tT n0 n1
        rw [σ0 t (by omega)] at this
        exact this
      · have := ms t n (by omega) (by omega) n0 n1
        rw [σ0 t (by omega)] at this
        exact this
  have bs : ∀ s c, 0 ≤ s → s < 29 → (kk_bs F s c ↔ kk_bs P (σ s) c) := fun s c s0 s1 => kk_bscp (fun n n0 n1 => ms s n s0 s1 n0 n1)
  have lb : ∀ c, kk_lb F (-1) c ↔ kk_lb P (-1) c := fun c => by
    unfold kk_lb
    constructor
    · rintro ⟨k, hk, h57, hne, q⟩
      rw [emq 57 k (by omega) hk.2] at h57
      rw [bs k c hk.1 (by omega), σ0 k (by omega)] at q
      exact ⟨k, hk, h57, hne, q⟩
    · rintro ⟨k, hk, h57, hne, q⟩
      refine ⟨k, hk, ?_, hne, ?_⟩
      · rw [emq 57 k (by omega) hk.2]; exact h57
      · rw [bs k c hk.1 (by omega), σ0 k (by omega)]; exact q
  have live : ∀ k c, 0 ≤ k → k < 13 → kk_bs P k c → kk_lb P (-1) c := fun k c k0 k1 q => by
    refine ⟨k, ⟨k0, k1⟩, ?_, by omega, q⟩
    rw [d4 k k0 k1]
    have nn : 0 ≤ kk_no P k := by
      by_cases z : k < 5
      · exact (d5 k k0 z).1
      · exact (d6 k (by omega) k1).1
    by_cases z : kk_no P k = 0
    · refine absurd q (kk_bs0 (fun n n0 n1 => ?_))
      have := d13 k k0 k1 z n n0 n1
      have := (K.1 k n k0 k1 n0 n1).1
      omega
    · omega
  obtain ⟨b1, b2, b3, b4, b5, b6, b7⟩ := KB
  have KBF : kk_KB F := by
    refine ⟨fun c c0 c1 q => ?_, ?_, ?_, ?_, ?_, ?_, fun i i0 i1 => ⟨fun z => ?_, fun z => ?_⟩⟩
    · rw [em 55 0 0 c (by omega)]
      obtain ⟨s, hs, q⟩ := q
      exact b1 c c0 c1 ⟨σ s, hσ s hs.1 hs.2, (bs s c hs.1 hs.2).1 q⟩
    · rw [em40 18 (by decide)]; exact b2
    · rw [kk_cntc (fun c _ _ => lb c)]; exact b3
    · refine Int.le_trans (kk_cntle (fun c _ _ q => ?_)) b3
      obtain ⟨s, hs, q⟩ := q
      rw [bs s c (by omega) (by omega), σ1 s hs] at q
      exact live _ c (by omega) (by omega) q
    · rw [kk_cntc (R := fun c => kk_bs P 26 c ∨ kk_bs P 27 c) (fun c _ _ => by rw [bs 26 c (by omega) (by omega), bs 27 c (by omega) (by omega), σ0 26 (by omega), σ0 27 (by omega)])]; exact b5
    · rw [kk_cntc (R := kk_bs P 28) (fun c _ _ => by rw [bs 28 c (by omega) (by omega), σ0 28 (by omega)])]; exact b6
    · rw [no i i0] at z
      rw [kk_cntc (R := kk_bs P i) (fun c _ _ => by rw [bs i c (by omega) (by omega), σ0 i (by omega)]), emq 59 i (by omega) (by omega)]
      exact (b7 i i0 i1).1 z
    · rw [mq i 57 i0 (by omega) (by simp [kk_q4]), d4 i i0 (by omega)] at z
      rw [kk_cntc (R := kk_bs P i) (fun c _ _ => by rw [bs (13 + i) c (by omega) (by omega), σ1 (13 + i) (by omega), show 13 + i - 13 = i by omega]), mq i 59 i0 (by omega) (by simp [kk_q4])]
      exact (b7 i i0 i1).1 z
  have k24 : ∀ s n j, ¬ (13 ≤ s ∧ s < 18) → F (24, s, n) j = P (24, s, n) j := fun s n j hs => et 24 s n j (by decide) (by decide) hs
  refine ⟨⟨KT, KBF, ⟨d1, ?_, ?_, ?_, ?_, ?_, ?_, ?_, ?_, ?_, ?_, ?_, ?_, ?_, ?_, ?_⟩, ?_⟩, ?_, ?_, ?_, ?_, ?_, ?_, ?_⟩
  · rw [e1 10 (by decide), em40 24 (by decide)]; exact d2
  · rw [e1 11 (by decide), em40 25 (by decide)]; exact d3
  · intro s s0 s1
    rw [no s s0, emq 57 s (by omega) s1]
    exact d4 s s0 s1
  · intro s s0 s1
    rw [no s s0, e1 10 (by decide)]
    exact d5 s s0 s1
  · intro s s0 s1
    rw [no s (by omega), e1 11 (by decide)]
    exact d6 s s0 s1
  · intro i i0 i1 z
    rw [no i i0] at z
    obtain ⟨q1, q2, q3⟩ := d7 i i0 i1 z
    rw [e31 i 4 (by decide), e31 i 5 (by decide), emq 58 i (by omega) (by omega), emq 59 i (by omega) (by omega)]
    refine ⟨q1, q2, fun u u0 u1 => ?_⟩
    rw [eg 32 i 0 u (by decide) (by decide), eml _ (by omega)]
    exact q3 u u0 u1
  · exact fun i i0 i1 => Or.inl (c6 i i0 i1)
  · intro j j0 j1
    rw [no (5 + j) (by omega), eg 33 j 0 2 (by decide) (by decide), eg 33 j 0 3 (by decide) (by decide), emq 58 _ (by omega) (by omega), emq 60 _ (by omega) (by omega)]
    exact d9 j j0 j1
  · intro k k0 k1
    by_cases z : k < 13
    · rw [emq 60 k (by omega) z]; exact d10 k k0 k1
    · have := mq (k - 13) 60 (by omega) (by omega) (by simp [kk_q4])
      rw [show 13 + (k - 13) = k by omega] at this
      rw [this]
      exact d10 _ (by omega) (by omega)
  · intro s s0 s1 z n n0 n1
    rw [no s s0] at z
    rw [k24 s n 0 (by omega)]
    exact d13 s s0 s1 z n n0 n1
  · intro s s0 s1 z
    rw [no s s0] at z
    rw [k24 s 1 0 (by omega)]
    exact d14 s s0 s1 z
  · intro i n i0 i1 _ n0 n1
    exact kk_cpdt (kp i n i0 i1 n0 n1) (kk_cpdr (fun f j f0 f1 => (et f i n j f0 f1 (by omega)).symm))
  · intro i i0 i1
    rw [em 63 0 0 _ (by omega), eg 34 i 0 2 (by decide) (by decide), em 62 0 0 _ (by omega)]
    refine ⟨fun q => ?_, fun q => ?_⟩
    · have q2 := q
      unfold mm_isD at q2
      rw [k24 _ _ 0 (by omega), no _ q2.1]
      obtain ⟨y1, y2, y3, y4, y5, y6⟩ := (d17 i i0 i1).1 q
      refine ⟨y1, y2, y3, y4, y5, fun a a0 a1 => ?_⟩
      rw [eg 35 i 0 a (by decide) (by decide), em 64 0 0 _ (by omega)]
      exact y6 a a0 a1
    · obtain ⟨y1, y2⟩ := (d17 i i0 i1).2 q
      refine ⟨y1, fun a a0 a1 => ?_⟩
      rw [em 64 0 0 _ (by omega)]
      exact y2 a a0 a1
  · intro a a0 a1
    rw [em 64 0 0 _ (by omega)]
    exact d18 a a0 a1
  · intro i n i0 i1 n0 n1 k k5
    rw [k24 i n 0 (by omega)] at k
    rw [k24 i n 5 (by omega)] at k5
    obtain ⟨j, hj, q, q2⟩ := d19 i n i0 i1 n0 n1 k k5
    exact ⟨j, hj, q, by rw [eg 34 j 0 2 (by decide) (by decide)]; exact q2⟩
  · obtain ⟨g1, g2, g3, g4, g5, g6, g7, g8⟩ := KG
    unfold kk_KG
    rw [e1 12 (by decide), e1 9 (by decide), em40 29 (by decide), em40 30 (by decide), em40 34 (by decide), em40 1 (by decide), em40 35 (by decide), em40 36 (by decide), eg 5 0 0 2 (by decide) (by decide), eg 14 0 0 0 (by decide) (by decide), eg 14 0 0 1 (by decide) (by decide), eg 14 0 0 2 (by decide) (by decide)]
    refine ⟨g1, g2, fun i i0 i1 => ?_, g4, g5, g6, g7, ⟨fun z n n0 n1 => ?_, fun z => ?_⟩⟩
    · rw [eg 6 0 0 i (by decide) (by decide), em 65 0 0 i (by omega)]
      exact g3 i i0 i1
    · rw [k24 26 n 0 (by omega), k24 27 n 0 (by omega)]
      exact g8.1 z n n0 n1
    · rw [k24 27 1 0 (by omega)]
      exact g8.2 z
  · intro t n t0 t1 n0 n1
    have a1 := kp (t - 13) n (by omega) (by omega) n0 n1
    have a2 := mm (t - 13) n (by omega) (by omega) n0 n1
    rw [show 13 + (t - 13) = t by omega] at a1 a2
    exact kk_NRcp a1 a2 (W (t - 13) n (by unfold mm_isT; omega) n0 n1) (fun _ _ _ _ _ _ _ => e16 _) (fun _ _ _ _ _ _ _ => e54 _) (K.1 (t - 13) n (by omega) (by omega) n0 n1)
  · rw [c13, m33]
    exact ⟨rfl, by decide, by decide⟩
  · intro k f k0 k1 hf
    have hf2 := hf
    unfold kk_q4 at hf2
    rw [mq k f k0 k1 hf, emq f k hf2 k1]
  · intro k u k0 k1 u0 u1
    rw [ml k u k0 k1 u0 u1, eml _ (by omega)]
  · intro s s0 s1 z n n0 n1
    rw [no s s0] at z
    rw [(kp s n s0 s1 n0 n1).1.1 0 kk_F0]
    exact d13 s s0 (by omega) z n n0 n1
  · intro s s0 s1 z
    rw [no s s0] at z
    rw [(kp s 1 s0 s1 (by omega) (by omega)).1.1 0 kk_F0]
    exact d14 s s0 (by omega) z
  · intro j n j0 j1 n0 n1
    have a1 := mm (5 + j) n (by omega) (by omega) n0 n1
    rw [show 13 + (5 + j) = 18 + j by omega] at a1
    have w := (KT.2.2.2.2.1 (5 + j) n (by omega) (by omega) n0 n1).1
    refine kk_mst a1 (kk_msr w.2.1.2 w.2.2.2 (fun x i hx => (mf x i ?_ (kk_dxN4 (s := 5 + j) (by omega) ⟨n0, n1⟩ hx) ?_).symm))
    · have := kk_mxr hx; omega
    · rintro ⟨q, _⟩
      have := kk_mxr hx
      rw [q] at this
      simp at this

