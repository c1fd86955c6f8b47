/-! what holds between the calls holds when both are made -/
def kk_rho (t n : Int) : Prop := (t = 0 ∨ t = 13) ∧ n = 1
section
variable {c : Int} {z H h : mm_Id → Int → Int}
/-- the cells, one by one -/
def kk_Z (c : Int) (h : mm_Id → Int → Int) : Prop :=
  (h (1, 0, 0) 10 = 1 ∧ ∀ j, j ≠ 10 → h (1, 0, 0) j = 0) ∧ (h (8, 0, 0) 9 = -2 ∧ ∀ j, j ≠ 9 → h (8, 0, 0) j = 0) ∧ (h (14, 0, 0) 0 = c ∧ ∀ j, j ≠ 0 → h (14, 0, 0) j = 0) ∧ (∀ t, mm_isT t → h (22, t, 0) 2 = kk_as t) ∧
  (h (31, 0, 0) 3 = 1 ∧ h (31, 0, 0) 4 = 0 ∧ h (31, 0, 0) 5 = 400 ∧ ∀ i j, ¬ (i = 0 ∧ (j = 3 ∨ j = 4 ∨ j = 5)) → h (31, i, 0) j = 0) ∧ (∀ u, 0 ≤ u → u < 8 → h (32, 0, 0) u = 400) ∧ (∀ j k, h (33, j, 0) k = 0) ∧ (∀ j, h (5, 0, 0) j = 0) ∧ (∀ j, h (16, 0, 0) j = 0) ∧
  (∀ t n p, mm_isT t → 0 ≤ n → n < 37 → 0 ≤ p → p < 36 → h (27, t, n) p = 0) ∧
  (∀ t n f, mm_isT t → 1 ≤ n → n < 37 → (kk_F f ∨ f = 9) → (kk_rho t n → h (24, t, n) f = if f = 0 then 2 else if f = 3 then 61 else 0) ∧ (¬ kk_rho t n → h (24, t, n) f = 0)) ∧ kk_R h ∧ (∀ n, 1 ≤ n → n < 37 → kk_cpd h 13 n h 0 n) ∧
  (h (40, 0, 0) 1 = c ∧ h (40, 0, 0) 24 = 1 ∧ h (40, 0, 0) 43 = -2 ∧ ∀ j, ¬ (j = 43 ∨ j = 1 ∨ j = 24) → h (40, 0, 0) j = 0) ∧
  (∀ k, 0 ≤ k → k < 26 → (k = 0 ∨ k = 13 → h (57, 0, 0) k = 1 ∧ h (59, 0, 0) k = 400) ∧ (¬ (k = 0 ∨ k = 13) → h (57, 0, 0) k = 0 ∧ h (59, 0, 0) k = 0) ∧ h (58, 0, 0) k = 0 ∧ h (60, 0, 0) k = 0) ∧
  (∀ k u, 0 ≤ k → k < 26 → 0 ≤ u → u < 8 → (k = 0 ∨ k = 13 → h (61, 0, 0) (8 * k + u) = 400) ∧ (¬ (k = 0 ∨ k = 13) → h (61, 0, 0) (8 * k + u) = 0)) ∧ (∀ j, h (62, 0, 0) j = 0 ∧ h (63, 0, 0) j = 0 ∧ h (64, 0, 0) j = 0) ∧
  (∀ f s n, kk_mf f → 0 ≤ s → s < 29 → 1 ≤ n → n < 37 → (kk_rho s n → h (f, 0, 0) (36 * s + n - 1) = if f = 41 then 2 else if f = 48 then 61 else 0) ∧ (¬ kk_rho s n → h (f, 0, 0) (36 * s + n - 1) = 0)) ∧
  (∀ s n p, 0 ≤ s → s < 29 → 1 ≤ n → n < 37 → 0 ≤ p → p < 36 → h (43, 0, 0) (36 * (36 * s + n - 1) + p) = 0) ∧ ∀ s n e, 0 ≤ s → s < 29 → 1 ≤ n → n < 37 → 0 ≤ e → e < 8 → h (52, 0, 0) (8 * (36 * s + n - 1) + e) = 0
theorem kk_Zm (z0 : ∀ x j, x ≠ (90, 0, 0) → z x j = 0) (hC : kk_CF c z H) (hM : kk_MFC c H h) : kk_Z c h := by
  obtain ⟨C1, C8, C14, C22, ⟨C3, C4, C5⟩, C32, C24, CR, CC, CZ⟩ := hC
  obtain ⟨M43, M1, M24, M33, M40, Mlo, g, ⟨g57, g59, g61, g41, g48⟩, gz, G4, G61, Gms, Gfr⟩ := hM
  have lo : ∀ (f : Nat) t n j, f < 40 → h (f, t, n) j = H (f, t, n) j := fun f t n j q => Mlo _ _ (Or.inl q)
  have nF : ∀ (f : Nat) (t n : Int) (y : mm_Id), f ≠ y.1 → (f, t, n) ≠ y := fun f t n y q w => q (congrArg Prod.fst w)
  -- the cls's cells that are 0
  have Z : ∀ (f : Nat) t n j, f ≠ 90 → ¬ (f = 1 ∧ j = 10) → ¬ (f = 8 ∧ j = 9) → ¬ (f = 14 ∧ j = 0) → f ≠ 22 → ¬ (f = 31 ∧ t = 0 ∧ n = 0 ∧ (j = 3 ∨ j = 4 ∨ j = 5)) → ¬ (f = 32 ∧ t = 0 ∧ n = 0) → ¬ (f = 24 ∧ t = 0 ∧ n = 1 ∧ kk_F j) → ¬ (f = 15 ∨ f = 17 ∨ f = 18 ∨ f = 19) → ¬ (24 ≤ f ∧ f ≤ 30 ∧ t = 13 ∧ 1 ≤ n ∧ n < 37) → H (f, t, n) j = 0 := fun f t n j q0 q1 q2 q3 q4 q5 q6 q7 q8 q9 => by
    rw [CZ (f, t, n) j (fun w => q1 ⟨congrArg Prod.fst w.1, w.2⟩) (fun w => q2 ⟨congrArg Prod.fst w.1, w.2⟩) (fun w => q3 ⟨congrArg Prod.fst w.1, w.2⟩) q4 (fun w => q5 ⟨congrArg Prod.fst w.1, congrArg (fun x => x.2.1) w.1, congrArg (fun x => x.2.2) w.1, w.2⟩) (fun w => q6 ⟨congrArg Prod.fst w, congrArg (fun x => x.2.1) w, congrArg (fun x => x.2.2) w⟩) (fun w => q7 ⟨congrArg Prod.fst w.1, congrArg (fun x => x.2.1) w.1, congrArg (fun x => x.2.2) w.1, w.2⟩) (fun w => q8 ?_) (fun w => q9 w)]
    · exact z0 _ _ (fun w => q0 (congrArg Prod.fst w))
    · unfold kk_ct at w
      rcases w with w | w | w | w
      · exact Or.inl (congrArg Prod.fst w.1)
      · exact Or.inr (Or.inl (congrArg Prod.fst w))
      · exact Or.inr (Or.inr (Or.inl (congrArg Prod.fst w)))
      · exact Or.inr (Or.inr (Or.inr (congrArg Prod.fst w)))
  have Zs : ∀ (f : Nat) t n j, ¬ (f = 90 ∨ f = 1 ∨ f = 8 ∨ f = 14 ∨ f = 22 ∨ f = 31 ∨ f = 32 ∨ f = 15 ∨ f = 17 ∨ f = 18 ∨ f = 19) → ¬ (24 ≤ f ∧ f ≤ 30) → H (f, t, n) j = 0 := fun f t n j q q2 => Z f t n j (by omega) (by omega) (by omega) (by omega) (by omega) (by omega) (by omega) (fun w => by omega) (by omega) (by omega)
  -- nodes here
  have N0 : ∀ t n f, mm_isT t → t ≠ 13 → 1 ≤ n → n < 37 → (kk_F f ∨ f = 9) → (kk_rho t n → H (24, t, n) f = if f = 0 then 2 else if f = 3 then 61 else 0) ∧ (¬ kk_rho t n → H (24, t, n) f = 0) := fun t n f ht t13 n0 n1 hf => by
    constructor
    · rintro ⟨r1, r2⟩
      have t0 : t = 0 := by omega
      subst t0 r2
      obtain ⟨y0, y1, y2, y3, y4, y5, y6, y11, y14⟩ := C24
      rcases hf with hf | hf
      · rcases hf with e | e | e | e | e | e | e | e | e <;> subst e
        · rw [y0]; rfl
        · rw [y1]; rfl
        · rw [y2]; rfl
        · rw [y3]; rfl
        · rw [y4]; rfl
        · rw [y5]; rfl
        · rw [y6]; rfl
        · rw [y11]; rfl
        · rw [y14]; rfl
      · subst hf
        rw [Z 24 0 1 9 (by omega) (by omega) (by omega) (by omega) (by omega) (by omega) (by omega) (fun w => by have := w.2.2.2; unfold kk_F at this; omega) (by omega) (by omega)]
        rfl
    · intro r
      exact Z 24 t n f (by omega) (by omega) (by omega) (by omega) (by omega) (by omega) (by omega) (fun w => r ⟨Or.inl w.2.1, w.2.2.1⟩) (by omega) (by omega)
  have N1 : ∀ t n f, mm_isT t → 1 ≤ n → n < 37 → (kk_F f ∨ f = 9) → (kk_rho t n → H (24, t, n) f = if f = 0 then 2 else if f = 3 then 61 else 0) ∧ (¬ kk_rho t n → H (24, t, n) f = 0) := fun t n f ht n0 n1 hf => by
    by_cases t13 : t = 13
    · subst t13
      have z := CC n n0 n1
      have e : H (24, 13, n) f = H (24, 0, n) f := by
        rcases hf with hf | hf
        · exact z.1.1 f hf
        · rw [hf]; exact z.2.1
      have y := N0 0 n f (Or.inl ⟨by omega, by omega⟩) (by omega) n0 n1 hf
      rw [e]
      exact ⟨fun r => y.1 ⟨Or.inl rfl, r.2⟩, fun r => y.2 (fun q => r ⟨Or.inr rfl, q.2⟩)⟩
    · exact N0 t n f ht t13 n0 n1 hf
  have P0 : ∀ t n p, mm_isT t → 0 ≤ n → n < 37 → 0 ≤ p → p < 36 → H (27, t, n) p = 0 := fun t n p ht n0 n1 p0 p1 => by
    by_cases c : t = 13 ∧ 1 ≤ n
    · obtain ⟨c1, c2⟩ := c
      subst c1
      rw [(CC n c2 n1).2.2 p p0 p1]
      exact Z 27 0 n p (by omega) (by omega) (by omega) (by omega) (by omega) (by omega) (by omega) (fun w => by omega) (by omega) (by omega)
    · exact Z 27 t n p (by omega) (by omega) (by omega) (by omega) (by omega) (by omega) (by omega) (fun w => by omega) (by omega) (by omega)
  -- the reference's cells
  have H40 : ∀ (f : Nat) t n j, 40 ≤ f → f < 90 → H (f, t, n) j = 0 := fun f t n j q q2 => Zs f t n j (by omega) (by omega)
  have gz0 : ∀ (f : Nat) j, 40 < f → f < 90 → ¬ (f = 57 ∧ j = 0) → ¬ (f = 59 ∧ j = 0) → ¬ (f = 61 ∧ 0 ≤ j ∧ j < 8) → ¬ (f = 41 ∧ j = 0) → ¬ (f = 48 ∧ j = 0) → g (f, 0, 0) j = 0 := fun f j q0 q9 q1 q2 q3 q4 q5 => by
    rw [gz (f, 0, 0) j q0 (fun w => q1 ⟨congrArg Prod.fst w.1, w.2⟩) (fun w => q2 ⟨congrArg Prod.fst w.1, w.2⟩) (fun w => q3 ⟨congrArg Prod.fst w.1, w.2⟩) (fun w => q4 ⟨congrArg Prod.fst w.1, w.2⟩) (fun w => q5 ⟨congrArg Prod.fst w.1, w.2⟩)]
    exact H40 f 0 0 j (by omega) q9
  have dx5 : ∀ (f : Nat) j, (f = 57 ∨ f = 58 ∨ f = 59 ∨ f = 60) → j < 13 → ¬ kk_dx (f, 0, 0) j := fun f j q q2 w => by
    unfold kk_dx at w
    rcases w with ⟨_, w⟩ | ⟨w, _⟩ | ⟨k, _, w⟩
    · omega
    · have := congrArg Prod.fst w; have : f = 61 := this; omega
    · exact kk_sx6 (by omega) w
  have dx61 : ∀ j, j < 104 → ¬ kk_dx (61, 0, 0) j := fun j q2 w => by
    unfold kk_dx at w
    rcases w with ⟨w, _⟩ | ⟨_, w⟩ | ⟨k, _, w⟩
    · simp at w
    · omega
    · exact kk_sx6 (by omega) w
  have dx62 : ∀ (f : Nat) j, 62 ≤ f → ¬ kk_dx (f, 0, 0) j := fun f j q w => by
    unfold kk_dx at w
    rcases w with ⟨w, _⟩ | ⟨w, _⟩ | ⟨k, _, w⟩
    · simp at w; omega
    · simp at w; omega
    · exact kk_sx6 (by omega) w
  have dxm : ∀ (f : Nat) s n, kk_mf f → 0 ≤ s → s < 29 → ¬ (13 ≤ s ∧ s < 26) → 1 ≤ n → n < 37 → ¬ kk_dx (f, 0, 0) (36 * s + n - 1) := fun f s n hf s0 s1 s2 n0 n1 w => by
    unfold kk_dx at w
    unfold kk_mf at hf
    rcases w with ⟨w, _⟩ | ⟨w, _⟩ | ⟨k, k0, m, m0, m1, w⟩
    · simp at w; omega
    · simp at w; omega
    · unfold kk_mx at w
      simp only at w
      omega
  have dx43 : ∀ s n p, 0 ≤ s → s < 29 → ¬ (13 ≤ s ∧ s < 26) → 1 ≤ n → n < 37 → 0 ≤ p → p < 36 → ¬ kk_dx (43, 0, 0) (36 * (36 * s + n - 1) + p) := fun s n p s0 s1 s2 n0 n1 p0 p1 w => by
    unfold kk_dx at w
    rcases w with ⟨w, _⟩ | ⟨w, _⟩ | ⟨k, k0, m, m0, m1, w⟩
    · simp at w
    · simp at w
    · unfold kk_mx kk_mf at w
      simp only at w
      omega
  have dx52 : ∀ s n p, 0 ≤ s → s < 29 → ¬ (13 ≤ s ∧ s < 26) → 1 ≤ n → n < 37 → 0 ≤ p → p < 8 → ¬ kk_dx (52, 0, 0) (8 * (36 * s + n - 1) + p) := fun s n p s0 s1 s2 n0 n1 p0 p1 w => by
    unfold kk_dx at w
    rcases w with ⟨w, _⟩ | ⟨w, _⟩ | ⟨k, k0, m, m0, m1, w⟩
    · simp at w
    · simp at w
    · unfold kk_mx kk_mf at w
      simp only at w
      omega
  have gm : ∀ (f : Nat) s n, kk_mf f → 0 ≤ s → s < 29 → s ≠ 13 → 1 ≤ n → n < 37 → (kk_rho s n → g (f, 0, 0) (36 * s + n - 1) = if f = 41 then 2 else if f = 48 then 61 else 0) ∧ (¬ kk_rho s n → g (f, 0, 0) (36 * s + n - 1) = 0) := fun f s n hf s0 s1 s13 n0 n1 => by
    unfold kk_mf at hf
    constructor
    · rintro ⟨r1, r2⟩
      have e : s = 0 := by omega
      subst e r2
      show g (f, 0, 0) 0 = _
      rcases hf with e | e | e | e | e | e | e <;> subst e
      · rw [g41]; rfl
      · rw [gz0 42 0 (by omega) (by omega) (by omega) (by omega) (by omega) (by omega) (by omega)]; rfl
      · rw [gz0 44 0 (by omega) (by omega) (by omega) (by omega) (by omega) (by omega) (by omega)]; rfl
      · rw [gz0 47 0 (by omega) (by omega) (by omega) (by omega) (by omega) (by omega) (by omega)]; rfl
      · rw [g48]; rfl
      · rw [gz0 49 0 (by omega) (by omega) (by omega) (by omega) (by omega) (by omega) (by omega)]; rfl
      · rw [gz0 53 0 (by omega) (by omega) (by omega) (by omega) (by omega) (by omega) (by omega)]; rfl
    · intro r
      have ne : ¬ (36 * s + n - 1 = 0) := fun w => r ⟨Or.inl (by omega), by omega⟩
      exact gz0 f _ (by omega) (by omega) (by omega) (by omega) (by omega) (by omega) (by omega)
  have fr : ∀ (f : Nat) j, 40 < f → ¬ kk_dx (f, 0, 0) j → h (f, 0, 0) j = g (f, 0, 0) j := fun f j q w => Gfr _ _ q w
  refine ⟨⟨?_, fun j q => ?_⟩, ⟨?_, fun j q => ?_⟩, ⟨?_, fun j q => ?_⟩, fun t ht => ?_, ⟨?_, ?_, ?_, fun i j q => ?_⟩, fun u u0 u1 => ?_, fun j k => ?_, fun j => ?_, fun j => ?_, fun t n p ht n0 n1 p0 p1 => ?_, fun t n f ht n0 n1 hf => ?_, ?_, fun n n0 n1 => ?_, ⟨M1, M24, M43, fun j q => ?_⟩, fun k k0 k1 => ?_, fun k u k0 k1 u0 u1 => ?_, fun j => ⟨?_, ?_, ?_⟩, fun f s n hf s0 s1 n0 n1 => ?_, fun s n p s0 s1 n0 n1 p0 p1 => ?_, fun s n e s0 s1 n0 n1 p0 p1 => ?_⟩
  · rw [lo _ _ _ _ (by decide)]; exact C1
  · rw [lo _ _ _ _ (by decide)]; exact Z 1 0 0 j (by omega) (fun w => q w.2) (by omega) (by omega) (by omega) (by omega) (by omega) (fun w => by omega) (by omega) (by omega)
  · rw [lo _ _ _ _ (by decide)]; exact C8
  · rw [lo _ _ _ _ (by decide)]; exact Z 8 0 0 j (by omega) (by omega) (fun w => q w.2) (by omega) (by omega) (by omega) (by omega) (fun w => by omega) (by omega) (by omega)
  · rw [lo _ _ _ _ (by decide)]; exact C14
  · rw [lo _ _ _ _ (by decide)]; exact Z 14 0 0 j (by omega) (by omega) (by omega) (fun w => q w.2) (by omega) (by omega) (by omega) (fun w => by omega) (by omega) (by omega)
  · rw [lo _ _ _ _ (by decide)]; exact C22 t ht
  · rw [lo _ _ _ _ (by decide)]; exact C3
  · rw [lo _ _ _ _ (by decide)]; exact C4
  · rw [lo _ _ _ _ (by decide)]; exact C5
  · rw [lo _ _ _ _ (by decide)]; exact Z 31 i 0 j (by omega) (by omega) (by omega) (by omega) (by omega) (fun w => q ⟨w.2.1, w.2.2.2⟩) (by omega) (fun w => by omega) (by omega) (by omega)
  · rw [lo _ _ _ _ (by decide)]; exact C32 u u0 u1
  · rw [lo _ _ _ _ (by decide)]; exact Zs 33 j 0 k (by omega) (by omega)
  · rw [lo _ _ _ _ (by decide)]; exact Zs 5 0 0 j (by omega) (by omega)
  · rw [lo _ _ _ _ (by decide)]; exact Zs 16 0 0 j (by omega) (by omega)
  · rw [lo _ _ _ _ (by decide)]; exact P0 t n p ht n0 n1 p0 p1
  · rw [lo _ _ _ _ (by decide)]; exact N1 t n f ht n0 n1 hf
  · have e : ∀ (f : Nat), f < 40 → ∀ t n, h (f, t, n) = H (f, t, n) := fun f q t n => funext (fun j => lo f t n j q)
    exact kk_Rcong (fun t n p => by rw [e 27 (by decide)]) (by rw [e 15 (by decide)]) (by rw [e 15 (by decide)]) (fun _ => by rw [e 17 (by decide)]) (fun _ => by rw [e 18 (by decide)]) (fun _ => by rw [e 19 (by decide)]) CR
  · have e : ∀ (f : Nat), f < 40 → ∀ t n, h (f, t, n) = H (f, t, n) := fun f q t n => funext (fun j => lo f t n j q)
    have z := CC n n0 n1
    unfold kk_cpd kk_sd at z ⊢
    simp only [e 24 (by decide), e 25 (by decide), e 26 (by decide), e 27 (by decide), e 28 (by decide), e 29 (by decide), e 30 (by decide)]
    exact z
  · by_cases j33 : j = 33
    · rw [j33]; exact M33
    · rw [M40 j (by omega)]; exact H40 40 0 0 j (by omega) (by omega)
  · by_cases k13 : k < 13
    · rw [fr 57 k (by omega) (dx5 57 k (by omega) k13), fr 58 k (by omega) (dx5 58 k (by omega) k13), fr 59 k (by omega) (dx5 59 k (by omega) k13), fr 60 k (by omega) (dx5 60 k (by omega) k13)]
      refine ⟨fun w => ?_, fun w => ⟨gz0 57 k (by omega) (by omega) (by omega) (by omega) (by omega) (by omega) (by omega), gz0 59 k (by omega) (by omega) (by omega) (by omega) (by omega) (by omega) (by omega)⟩, gz0 58 k (by omega) (by omega) (by omega) (by omega) (by omega) (by omega) (by omega), gz0 60 k (by omega) (by omega) (by omega) (by omega) (by omega) (by omega) (by omega)⟩
      have e : k = 0 := by omega
      subst e
      exact ⟨g57, g59⟩
    · have a := fun f hf => G4 (k - 13) f (by omega) (by omega) hf
      rw [show 13 + (k - 13) = k by omega] at a
      rw [a 57 (Or.inl rfl), a 58 (Or.inr (Or.inl rfl)), a 59 (Or.inr (Or.inr (Or.inl rfl))), a 60 (Or.inr (Or.inr (Or.inr rfl)))]
      refine ⟨fun w => ?_, fun w => ⟨gz0 57 _ (by omega) (by omega) (by omega) (by omega) (by omega) (by omega) (by omega), gz0 59 _ (by omega) (by omega) (by omega) (by omega) (by omega) (by omega) (by omega)⟩, gz0 58 _ (by omega) (by omega) (by omega) (by omega) (by omega) (by omega) (by omega), gz0 60 _ (by omega) (by omega) (by omega) (by omega) (by omega) (by omega) (by omega)⟩
      rw [show k - 13 = 0 by omega]
      exact ⟨g57, g59⟩
  · by_cases k13 : k < 13
    · rw [fr 61 _ (by omega) (dx61 _ (by omega))]
      refine ⟨fun w => ?_, fun w => gz0 61 _ (by omega) (by omega) (by omega) (by omega) (by omega) (by omega) (by omega)⟩
      exact g61 _ (by omega) (by omega) |> fun x => by rw [show 8 * k + u = u by omega]; exact g61 u u0 u1
    · have a := G61 (k - 13) u (by omega) (by omega) u0 u1
      rw [show 13 + (k - 13) = k by omega] at a
      rw [a]
      refine ⟨fun w => ?_, fun w => gz0 61 _ (by omega) (by omega) (by omega) (by omega) (by omega) (by omega) (by omega)⟩
      rw [show 8 * (k - 13) + u = u by omega]
      exact g61 u u0 u1
  · rw [fr 62 j (by omega) (dx62 62 j (by omega))]; exact gz0 62 j (by omega) (by omega) (by omega) (by omega) (by omega) (by omega) (by omega)
  · rw [fr 63 j (by omega) (dx62 63 j (by omega))]; exact gz0 63 j (by omega) (by omega) (by omega) (by omega) (by omega) (by omega) (by omega)
  · rw [fr 64 j (by omega) (dx62 64 j (by omega))]; exact gz0 64 j (by omega) (by omega) (by omega) (by omega) (by omega) (by omega) (by omega)
  · by_cases s13 : 13 ≤ s ∧ s < 26
    · have a := (Gms (s - 13) n (by omega) (by omega) n0 n1).1 f hf
      rw [show 13 + (s - 13) = s by omega] at a
      have y := gm f (s - 13) n hf (by omega) (by omega) (by omega) n0 n1
      rw [a]
      refine ⟨fun r => y.1 ⟨?_, r.2⟩, fun r => y.2 (fun q => r ⟨?_, q.2⟩)⟩
      · have := r.1; omega
      · have := q.1; omega
    · rw [fr f _ (by unfold kk_mf at hf; omega) (dxm f s n hf s0 s1 s13 n0 n1)]
      exact gm f s n hf s0 s1 (by omega) n0 n1
  · by_cases s13 : 13 ≤ s ∧ s < 26
    · have a := (Gms (s - 13) n (by omega) (by omega) n0 n1).2.1 p p0 p1
      rw [show 13 + (s - 13) = s by omega] at a
      rw [a]
      exact gz0 43 _ (by omega) (by omega) (by omega) (by omega) (by omega) (by omega) (by omega)
    · rw [fr 43 _ (by omega) (dx43 s n p s0 s1 s13 n0 n1 p0 p1)]
      exact gz0 43 _ (by omega) (by omega) (by omega) (by omega) (by omega) (by omega) (by omega)
  · by_cases s13 : 13 ≤ s ∧ s < 26
    · have a := (Gms (s - 13) n (by omega) (by omega) n0 n1).2.2.2.2 e p0 p1
      rw [show 13 + (s - 13) = s by omega] at a
      rw [a]
      exact gz0 52 _ (by omega) (by omega) (by omega) (by omega) (by omega) (by omega) (by omega)
    · rw [fr 52 _ (by omega) (dx52 s n e s0 s1 s13 n0 n1 p0 p1)]
      exact gz0 52 _ (by omega) (by omega) (by omega) (by omega) (by omega) (by omega) (by omega)
end

