/-! a call of both, told for each side by itself -/
def kk_sC (x : mm_Id) : Bool := decide (x.1 < 40 ∨ 90 ≤ x.1)
def kk_sM (x : mm_Id) : Bool := decide (x.1 = 0 ∨ 40 ≤ x.1)
theorem kk_sCi {x : mm_Id} : kk_sC x = true ↔ x.1 < 40 ∨ 90 ≤ x.1 := by unfold kk_sC; exact decide_eq_true_iff
theorem kk_sMi {x : mm_Id} : kk_sM x = true ↔ x.1 = 0 ∨ 40 ≤ x.1 := by unfold kk_sM; exact decide_eq_true_iff
theorem kk_rorF (x : mm_Id) (j : Int) : (mm_ror x j).1 = 0 ∨ 90 ≤ (mm_ror x j).1 := by
  unfold mm_ror
  split
  · exact Or.inr (by simp)
  · exact Or.inr (by simp)
  · exact Or.inr (by simp)
  · exact Or.inl rfl
theorem kk_skC : mm_SK kk_sC := ⟨by decide, by decide, by decide, fun x j _ => by
  rw [kk_sCi]
  have := kk_rorF x j
  omega⟩
theorem kk_skM : mm_SK kk_sM := ⟨by decide, by decide, by decide, fun x j _ => by
  rw [kk_sMi]
  have := kk_rorF x j
  omega⟩
theorem kk_mkC (dh : Int → Int) (nx : Int) (x : mm_Id) (j : Int) (q : x.1 < 40 ∨ 90 ≤ x.1) : (mm_mkR dh nx x j).1 < 40 := by
  obtain ⟨f, a, b⟩ := x
  have q' : f < 40 ∨ 90 ≤ f := q
  unfold mm_mkR
  simp only
  have dr : (mm_dr (dh a)).1 < 40 := by unfold mm_dr; split <;> simp
  split
  all_goals first
    | (simp at q'; done)
    | (repeat' split
       all_goals first
         | decide
         | exact dr
         | simp)
theorem kk_ip {P : mm_Id → Prop} {c : Prop} [Decidable c] {a b : mm_Id} (ha : P a) (hb : P b) : P (if c then a else b) := by split <;> assumption
theorem kk_mkM (dh : Int → Int) (nx : Int) (x : mm_Id) (j : Int) (q : x.1 = 0 ∨ 40 ≤ x.1) : (mm_mkR dh nx x j).1 = 0 ∨ 40 ≤ (mm_mkR dh nx x j).1 := by
  by_cases e : x.1 = 40
  · obtain ⟨f, a, b⟩ := x
    have e' : f = 40 := e
    subst e'
    unfold mm_mkR
    simp only
    split
    · unfold mm_mR
      repeat (refine kk_ip (P := fun y => y.1 = 0 ∨ 40 ≤ y.1) (Or.inr (by decide)) ?_)
      exact Or.inl rfl
    · exact Or.inl rfl
  · obtain ⟨f, a, b⟩ := x
    have e' : f ≠ 40 := e
    have q' : f = 0 ∨ 40 ≤ f := q
    unfold mm_mkR
    simp only
    split
    all_goals first
      | exact Or.inl rfl
      | omega
theorem kk_mkD (dh dh2 : Int → Int) (nx : Int) {x : mm_Id} (j : Int) (q : x.1 ≠ 34) : mm_mkR dh nx x j = mm_mkR dh2 nx x j := by
  obtain ⟨f, a, b⟩ := x
  have q' : f ≠ 34 := q
  unfold mm_mkR
  simp only
  split
  all_goals first
    | rfl
    | omega
theorem kk_scC {h : mm_Id → Int → Int} {dh : Int → Int} {nx ns : Int} (hy : 10581 ≤ nx) : mm_SC kk_sC (mm_z h dh nx ns) := ⟨fun x j q => by
  rw [kk_sCi] at q ⊢
  exact Or.inl (kk_mkC dh nx x j q), hy⟩
theorem kk_scM {h : mm_Id → Int → Int} {dh : Int → Int} {nx ns : Int} (hy : 10581 ≤ nx) : mm_SC kk_sM (mm_z h dh nx ns) := ⟨fun x j q => by
  rw [kk_sMi] at q ⊢
  exact kk_mkM dh nx x j q, hy⟩
def kk_aC (A h : mm_Id → Int → Int) : Prop := ∀ (x : mm_Id) j, x.1 < 40 ∨ 90 ≤ x.1 → A x j = h x j
def kk_aM (B h : mm_Id → Int → Int) : Prop := ∀ (x : mm_Id) j, x.1 = 0 ∨ 40 ≤ x.1 → B x j = h x j
/-- the cls's run, from any heap that is alike on its side -/
theorem kk_ClC {k : Nat} {a : List mm_V} {h : mm_Id → Int → Int} {dh : Int → Int} {nx ns : Int} {Q : mm_V → mm_H → Prop} (hy : 10581 ≤ nx) (ha : mm_SLs kk_sC a) (hc : mm_Cl k a (mm_z h dh nx ns) Q) :
    ∃ r H1, Q r H1 ∧ (∀ g dh1, H1 = mm_z g dh1 nx ns → (∀ (x : mm_Id) j, 40 ≤ x.1 → g x j = h x j) ∧ (∀ (x : mm_Id) j, x.1 = 0 → g x j = h x j) ∧ ∀ A, kk_aC A h → mm_Cl k a (mm_z A dh nx ns) (fun r' h1 => r' = r ∧ ∃ A', h1 = mm_z A' dh1 nx ns ∧ kk_aC A' g ∧ ∀ (x : mm_Id) j, 40 ≤ x.1 → A' x j = A x j)) := by
  obtain ⟨f, r, H1, e, q⟩ := hc
  refine ⟨r, H1, q, fun g dh1 eg => ?_⟩
  obtain ⟨p1, p2, p3, p4, p5⟩ := mm_runS kk_skC f _ _ _ _ _ _ _ e (mm_SLE ha) mm_SLn (kk_scC hy)
  have same : mm_mg kk_sC (mm_z h dh nx ns) (mm_z h dh nx ns) = mm_z h dh nx ns := by
    unfold mm_mg mm_z
    refine Prod.ext ?_ (Prod.ext ?_ rfl)
    · funext x j; show (if _ then _ else _) = _; split <;> rfl
    · funext x j; show (if _ then _ else _) = _; split <;> rfl
  have out : ∀ (x : mm_Id) j, ¬ (x.1 < 40 ∨ 90 ≤ x.1) → H1.1 x j = h x j := fun x j w => by
    have e2 := p5 (mm_z h dh nx ns)
    rw [same, e] at e2
    have e3 : H1 = mm_mg kk_sC H1 (mm_z h dh nx ns) := by
      have := Option.some.inj e2
      exact congrArg Prod.snd this
    rw [e3]
    show (if _ then _ else _) = _
    rw [if_neg (by rw [kk_sCi]; exact w)]
    rfl
  have g40 : ∀ (x : mm_Id) j, 40 ≤ x.1 → g x j = h x j := fun x j w => by
    by_cases w9 : 90 ≤ x.1
    · have := (p4 x j (by omega)).1
      rw [eg] at this
      exact this
    · have := out x j (by omega)
      rw [eg] at this
      exact this
  refine ⟨g40, fun x j w => by have := (p4 x j (by omega)).1; rw [eg] at this; exact this, fun A hA => ?_⟩
  have e2 := p5 (mm_z A dh nx ns)
  have eA : mm_mg kk_sC (mm_z h dh nx ns) (mm_z A dh nx ns) = mm_z A dh nx ns := by
    unfold mm_mg mm_z
    refine Prod.ext ?_ (Prod.ext ?_ rfl)
    · funext x j
      show (if kk_sC x = true then h x j else A x j) = A x j
      by_cases w : kk_sC x = true
      · rw [if_pos w]; exact (hA x j (kk_sCi.1 w)).symm
      · rw [if_neg w]
    · funext x j; show (if _ then _ else _) = _; split <;> rfl
  rw [eA, eg] at e2
  refine ⟨f, r, _, e2, rfl, fun x j => if kk_sC x = true then g x j else A x j, ?_, fun x j w => if_pos (kk_sCi.2 w), fun x j w => ?_⟩
  · unfold mm_mg mm_z
    refine Prod.ext rfl (Prod.ext ?_ rfl)
    funext x j
    show (if kk_sC x = true then mm_mkR dh1 nx x j else mm_mkR dh nx x j) = mm_mkR dh1 nx x j
    by_cases w : kk_sC x = true
    · rw [if_pos w]
    · rw [if_neg w]
      rw [kk_sCi] at w
      exact kk_mkD dh dh1 nx j (by omega)
  · show (if kk_sC x = true then g x j else A x j) = A x j
    by_cases w2 : kk_sC x = true
    · rw [if_pos w2, g40 x j w]
      exact (hA x j (kk_sCi.1 w2)).symm
    · rw [if_neg w2]
/-- the reference's run, from any heap that is alike on its side -/
theorem kk_ClM {k : Nat} {a : List mm_V} {h : mm_Id → Int → Int} {dh : Int → Int} {nx ns : Int} {Q : mm_V → mm_H → Prop} (hy : 10581 ≤ nx) (ha : mm_SLs kk_sM a) (hc : mm_Cl k a (mm_z h dh nx ns) Q) :
    ∃ r H1, Q r H1 ∧ (∀ g, H1 = mm_z g dh nx ns → (∀ (x : mm_Id) j, x.1 < 40 → g x j = h x j) ∧ (∀ (x : mm_Id) j, 90 ≤ x.1 → g x j = h x j) ∧ ∀ B dh', kk_aM B h → mm_Cl k a (mm_z B dh' nx ns) (fun r' h1 => r' = r ∧ ∃ B', h1 = mm_z B' dh' nx ns ∧ kk_aM B' g ∧ ∀ (x : mm_Id) j, x.1 < 40 → B' x j = B x j)) := by
  obtain ⟨f, r, H1, e, q⟩ := hc
  refine ⟨r, H1, q, fun g eg => ?_⟩
  obtain ⟨p1, p2, p3, p4, p5⟩ := mm_runS kk_skM f _ _ _ _ _ _ _ e (mm_SLE ha) mm_SLn (kk_scM hy)
  have same : mm_mg kk_sM (mm_z h dh nx ns) (mm_z h dh nx ns) = mm_z h dh nx ns := by
    unfold mm_mg mm_z
    refine Prod.ext ?_ (Prod.ext ?_ rfl)
    · funext x j; show (if _ then _ else _) = _; split <;> rfl
    · funext x j; show (if _ then _ else _) = _; split <;> rfl
  have out : ∀ (x : mm_Id) j, ¬ (x.1 = 0 ∨ 40 ≤ x.1) → H1.1 x j = h x j := fun x j w => by
    have e2 := p5 (mm_z h dh nx ns)
    rw [same, e] at e2
    have e3 : H1 = mm_mg kk_sM H1 (mm_z h dh nx ns) := by
      have := Option.some.inj e2
      exact congrArg Prod.snd this
    rw [e3]
    show (if _ then _ else _) = _
    rw [if_neg (by rw [kk_sMi]; exact w)]
    rfl
  have g9 : ∀ (x : mm_Id) j, ¬ (x.1 < 90 ∧ x.1 ≠ 0) → g x j = h x j := fun x j w => by
    have := (p4 x j w).1
    rw [eg] at this
    exact this
  have g40 : ∀ (x : mm_Id) j, x.1 < 40 → g x j = h x j := fun x j w => by
    by_cases w9 : x.1 = 0
    · exact g9 x j (by omega)
    · have := out x j (by omega)
      rw [eg] at this
      exact this
  refine ⟨g40, fun x j w => g9 x j (by omega), fun B dh' hB => ?_⟩
  have e2 := p5 (mm_z B dh' nx ns)
  have eB : mm_mg kk_sM (mm_z h dh nx ns) (mm_z B dh' nx ns) = mm_z B dh' nx ns := by
    unfold mm_mg mm_z
    refine Prod.ext ?_ (Prod.ext ?_ rfl)
    · funext x j
      show (if kk_sM x = true then h x j else B x j) = B x j
      by_cases w : kk_sM x = true
      · rw [if_pos w]; exact (hB x j (kk_sMi.1 w)).symm
      · rw [if_neg w]
    · funext x j
      show (if kk_sM x = true then mm_mkR dh nx x j else mm_mkR dh' nx x j) = mm_mkR dh' nx x j
      by_cases w : kk_sM x = true
      · rw [if_pos w]
        rw [kk_sMi] at w
        exact kk_mkD dh dh' nx j (by omega)
      · rw [if_neg w]
  rw [eB, eg] at e2
  refine ⟨f, r, _, e2, rfl, fun x j => if kk_sM x = true then g x j else B x j, ?_, fun x j w => if_pos (kk_sMi.2 w), fun x j w => ?_⟩
  · unfold mm_mg mm_z
    refine Prod.ext rfl (Prod.ext ?_ rfl)
    funext x j
    show (if kk_sM x = true then mm_mkR dh nx x j else mm_mkR dh' nx x j) = mm_mkR dh' nx x j
    by_cases w : kk_sM x = true
    · rw [if_pos w]
      rw [kk_sMi] at w
      exact kk_mkD dh dh' nx j (by omega)
    · rw [if_neg w]
  · show (if kk_sM x = true then g x j else B x j) = B x j
    by_cases w2 : kk_sM x = true
    · rw [if_pos w2, g40 x j w]
      exact (hB x j (kk_sMi.1 w2)).symm
    · rw [if_neg w2]
theorem kk_split {k k2 : Nat} {a : List mm_V} {b : Int} {h : mm_Id → Int → Int} {dh : Int → Int} {nx ns : Int} {S : mm_V → Prop} (hy : 10581 ≤ nx) (ha : ∀ v, v ∈ a → ∀ x, v ≠ zR x) (hc : kk_call k k2 a b h dh nx ns S) :
    ∃ r H dh1, S r ∧ kk_core (b + 1) H dh1 ∧ (∀ x j, kk_scr x j → H x j = h x j) ∧ (∀ A, kk_aC A h → mm_Cl k (zR (1, 0, 0) :: a) (mm_z A dh nx ns) (fun r' h1 => r' = r ∧ ∃ A', h1 = mm_z A' dh1 nx ns ∧ kk_aC A' H ∧ ∀ (x : mm_Id) j, 40 ≤ x.1 → A' x j = A x j)) ∧
      (∀ B dh', kk_aM B h → mm_Cl k2 (zR (40, 0, 0) :: a) (mm_z B dh' nx ns) (fun r' h1 => r' = r ∧ ∃ B', h1 = mm_z B' dh' nx ns ∧ kk_aM B' H ∧ ∀ (x : mm_Id) j, x.1 < 40 → B' x j = B x j)) := by
  have sl : ∀ (S : mm_Id → Bool) x, S x = true → mm_SLs S (zR x :: a) := fun S x q => mm_SLc (mm_SVR q) (fun v w y e => absurd e (ha v w y))
  obtain ⟨r, H1, ⟨q1, g, dh1, eg, q2⟩, q3⟩ := kk_ClC hy (sl kk_sC (1, 0, 0) (by decide)) hc
  obtain ⟨c1, c2, c3⟩ := q3 g dh1 eg
  obtain ⟨r2, H2, ⟨er, g2, eg2, core, scr⟩, q5⟩ := kk_ClM hy (sl kk_sM (40, 0, 0) (by decide)) q2
  obtain ⟨d1, d2, d3⟩ := q5 g2 eg2
  refine ⟨r, g2, dh1, q1, core, scr, fun A hA => ?_, fun B dh' hB => ?_⟩
  · refine mm_Clm ?_ (c3 A hA)
    rintro r' h1 ⟨e1, A', e2, e3, e4⟩
    refine ⟨e1, A', e2, fun x j w => ?_, e4⟩
    rw [e3 x j w]
    rcases w with w | w
    · exact (d1 x j w).symm
    · exact (d2 x j w).symm
  · refine mm_Clm ?_ (d3 B dh' (fun x j w => ?_))
    · rintro r' h1 ⟨e1, B', e2, e3, e4⟩
      exact ⟨e1.trans er, B', e2, e3, e4⟩
    · rw [hB x j w]
      rcases w with w | w
      · exact (c2 x j w).symm
      · exact (c1 x j w).symm

