/-! scripts: both sides at once -/
def kk_M (A B : mm_Id → Int → Int) : mm_Id → Int → Int := fun x j => if x.1 < 40 then A x j else B x j
def kk_EAB (A B : mm_Id → Int → Int) : Prop := ∀ (x : mm_Id) j, x.1 = 0 ∨ 90 ≤ x.1 → A x j = B x j
section
variable {A B A2 B2 : mm_Id → Int → Int} {d d2 dm : Int → Int} {nx ns b b2 z n : Int}
theorem kk_Mc {x : mm_Id} {j : Int} (q : x.1 < 40) : kk_M A B x j = A x j := if_pos q
theorem kk_Mm {x : mm_Id} {j : Int} (q : 40 ≤ x.1) : kk_M A B x j = B x j := if_neg (by omega)
theorem kk_MC (e : kk_EAB A B) : kk_aC A (kk_M A B) := fun x j q => by
  by_cases c : x.1 < 40
  · rw [kk_Mc c]
  · rw [kk_Mm (by omega)]; exact e x j (by omega)
theorem kk_MM (e : kk_EAB A B) : kk_aM B (kk_M A B) := fun x j q => by
  by_cases c : x.1 < 40
  · rw [kk_Mc c]; exact (e x j (by omega)).symm
  · rw [kk_Mm (by omega)]
/-- between two lines of a script: z bytes, n lines done -/
def kk_L (b z n : Int) (A B : mm_Id → Int → Int) (d : Int → Int) : Prop :=
  kk_core b (kk_M A B) d ∧ kk_EAB A B ∧
  (A (8, 0, 0) 1 = z ∧ B (40, 0, 0) 37 = z ∧ 0 ≤ z ∧ z ≤ 8000) ∧ (∀ i, 0 ≤ i → i < z → A (9, 0, 0) i = B (67, 0, 0) i ∧ -128 ≤ A (9, 0, 0) i ∧ A (9, 0, 0) i < 128) ∧
  (A (8, 0, 0) 5 = n ∧ B (40, 0, 0) 42 = n ∧ 0 ≤ n ∧ n ≤ 1600) ∧ (∀ i, 0 ≤ i → i < n → A (11, 0, 0) i = B (69, 0, 0) i ∧ -9223372036854775808 ≤ A (11, 0, 0) i ∧ A (11, 0, 0) i < 9223372036854775808) ∧
  (∃ o, A (8, 0, 0) 3 = o ∧ B (40, 0, 0) 39 = o ∧ 0 ≤ o ∧ o ≤ 21 * n ∧ ∀ i, 0 ≤ i → i < o → A (10, 0, 0) i = B (68, 0, 0) i ∧ -128 ≤ A (10, 0, 0) i ∧ A (10, 0, 0) i < 128) ∧
  (A (8, 0, 0) 9 = -2 ∧ B (40, 0, 0) 43 = -2)
theorem kk_Lf (l : kk_L b z n A B d) (c : kk_core b2 (kk_M A2 B2) d2) (e : kk_EAB A2 B2) (a8 : ∀ j, j = 1 ∨ j = 3 ∨ j = 5 ∨ j = 9 → A2 (8, 0, 0) j = A (8, 0, 0) j) (a9 : ∀ j, A2 (9, 0, 0) j = A (9, 0, 0) j) (a10 : ∀ j, A2 (10, 0, 0) j = A (10, 0, 0) j) (a11 : ∀ j, A2 (11, 0, 0) j = A (11, 0, 0) j)
    (b4 : ∀ j, j = 37 ∨ j = 39 ∨ j = 42 ∨ j = 43 → B2 (40, 0, 0) j = B (40, 0, 0) j) (b67 : ∀ j, B2 (67, 0, 0) j = B (67, 0, 0) j) (b68 : ∀ j, B2 (68, 0, 0) j = B (68, 0, 0) j) (b69 : ∀ j, B2 (69, 0, 0) j = B (69, 0, 0) j) : kk_L b2 z n A2 B2 d2 := by
  obtain ⟨_, _, l1, l2, l3, l4, l5, l6⟩ := l
  refine ⟨c, e, ?_, ?_, ?_, ?_, ?_, ?_⟩
  · rw [a8 1 (by omega), b4 37 (by omega)]; exact l1
  · intro i i0 i1; rw [a9, b67]; exact l2 i i0 i1
  · rw [a8 5 (by omega), b4 42 (by omega)]; exact l3
  · intro i i0 i1; rw [a11, b69]; exact l4 i i0 i1
  · rw [a8 3 (by omega), b4 39 (by omega)]
    simp only [a10, b68]
    exact l5
  · rw [a8 9 (by omega), b4 43 (by omega)]; exact l6
/-- cells that don't matter between two lines -/
def kk_xc (x : mm_Id) (j : Int) : Prop := x = (8, 0, 0) ∧ (j = 8 ∨ 10 ≤ j) ∨ x = (12, 0, 0) ∨ x = (13, 0, 0)
def kk_xmM (x : mm_Id) (j : Int) : Prop := x = (40, 0, 0) ∧ (44 ≤ j ∧ j ≤ 46) ∨ x = (70, 0, 0)
theorem kk_Lx (l : kk_L b z n A B d) (eA : ∀ x j, ¬ kk_xc x j → A2 x j = A x j) (eB : ∀ x j, ¬ kk_xmM x j → B2 x j = B x j) : kk_L b z n A2 B2 d := by
  have c1 : ∀ {x : mm_Id} {j : Int}, kk_xc x j → x.1 = 8 ∨ x.1 = 12 ∨ x.1 = 13 := fun q => by
    rcases q with ⟨q, _⟩ | q | q <;> rw [q] <;> simp
  have c2 : ∀ {x : mm_Id} {j : Int}, kk_xmM x j → (x = (40, 0, 0) ∧ 37 ≤ j ∧ j ≤ 46) ∨ x.1 = 70 := fun q => by
    rcases q with ⟨q, _⟩ | q
    · exact Or.inl ⟨q, by omega⟩
    · rw [q]; simp
  refine kk_Lf l (kk_coreR (h := kk_M A B) (fun x j s1 s2 => ?_) l.1) (fun x j q => ?_) (fun j q => eA _ _ (by unfold kk_xc; simp; omega)) (fun j => eA _ _ (by simp [kk_xc])) (fun j => eA _ _ (by simp [kk_xc])) (fun j => eA _ _ (by simp [kk_xc])) (fun j q => eB _ _ (by unfold kk_xmM; simp; omega)) (fun j => eB _ _ (by simp [kk_xmM])) (fun j => eB _ _ (by simp [kk_xmM])) (fun j => eB _ _ (by simp [kk_xmM]))
  · by_cases c : x.1 < 40
    · rw [kk_Mc c, kk_Mc c]
      refine eA _ _ (fun w => s1 ?_)
      unfold kk_scr
      have := c1 w
      omega
    · rw [kk_Mm (by omega), kk_Mm (by omega)]
      refine eB _ _ (fun w => s1 ?_)
      unfold kk_scr
      rcases c2 w with w | w
      · exact Or.inr (Or.inr (Or.inl w))
      · omega
  · rw [eA x j (fun w => by have := c1 w; omega), eB x j (fun w => by rcases c2 w with w | w <;> first | omega | (rw [w.1] at q; simp at q))]
    exact l.2.1 x j q
/-- both sides come to the same -/
def kk_J (nx ns : Int) (dm : Int → Int) (G : mm_V → (mm_Id → Int → Int) → (Int → Int) → (mm_Id → Int → Int) → Prop) (P P2 : (mm_V → mm_H → Prop) → Prop) : Prop := ∃ r A d B, G r A d B ∧ P (fun r1 h => r1 = r ∧ h = mm_z A d nx ns) ∧ P2 (fun r1 h => r1 = r ∧ h = mm_z B dm nx ns)
variable {G : mm_V → (mm_Id → Int → Int) → (Int → Int) → (mm_Id → Int → Int) → Prop} {KC KM : mm_V → mm_H → (mm_V → mm_H → Prop) → Prop}
theorem kk_Jc {P P1 P2 : (mm_V → mm_H → Prop) → Prop} (w : ∀ Q, P1 Q → P Q) (j : kk_J nx ns dm G P1 P2) : kk_J nx ns dm G P P2 := by
  obtain ⟨r, A, d, B, g, p, q⟩ := j
  exact ⟨r, A, d, B, g, w _ p, q⟩
theorem kk_Jm {P P1 P2 : (mm_V → mm_H → Prop) → Prop} (w : ∀ Q, P1 Q → P2 Q) (j : kk_J nx ns dm G P P1) : kk_J nx ns dm G P P2 := by
  obtain ⟨r, A, d, B, g, p, q⟩ := j
  exact ⟨r, A, d, B, g, p, w _ q⟩
theorem kk_J2 {P P1 P2 P3 : (mm_V → mm_H → Prop) → Prop} (w : ∀ Q, P1 Q → P Q) (w2 : ∀ Q, P3 Q → P2 Q) (j : kk_J nx ns dm G P1 P3) : kk_J nx ns dm G P P2 := kk_Jc w (kk_Jm w2 j)
/-- a call of both -/
theorem kk_callJ {k k2 : Nat} {a : List mm_V} {S : mm_V → Prop} (hy : 5306 ≤ nx) (l : kk_L b z n A B d) (ha : ∀ v, v ∈ a → ∀ x, v ≠ zR x) (hc : kk_call k k2 a b (kk_M A B) d nx ns S)
    (K : ∀ r A2 d2 B2, S r → kk_L (b + 1) z n A2 B2 d2 → (∀ x j, kk_scr x j → x.1 < 40 → A2 x j = A x j) → (∀ x j, kk_scr x j → 40 ≤ x.1 → B2 x j = B x j) → kk_J nx ns dm G (fun Q => KC r (mm_z A2 d2 nx ns) Q) (fun Q => KM r (mm_z B2 dm nx ns) Q)) :
    kk_J nx ns dm G (fun Q => mm_Cl k (zR (1, 0, 0) :: a) (mm_z A d nx ns) (fun r h => KC r h Q)) (fun Q => mm_Cl k2 (zR (40, 0, 0) :: a) (mm_z B dm nx ns) (fun r h => KM r h Q)) := by
  obtain ⟨r, H, dh1, sr, core, scr, hC, hM⟩ := kk_split hy ha hc
  obtain ⟨f, r', h1, run, e1, A2, e2, e3, e4⟩ := hC A (kk_MC l.2.1)
  obtain ⟨f2, r2, h2, run2, e5, B2, e6, e7, e8⟩ := hM B dm (kk_MM l.2.1)
  have eH : H = kk_M A2 B2 := by
    funext x j
    by_cases c : x.1 < 40
    · rw [kk_Mc c]; exact (e3 x j (Or.inl c)).symm
    · rw [kk_Mm (by omega)]; exact (e7 x j (by omega)).symm
  have E2 : kk_EAB A2 B2 := fun x j q => by rw [e3 x j (by omega), e7 x j (by omega)]
  have sA : ∀ x j, kk_scr x j → x.1 < 40 → A2 x j = A x j := fun x j q c => by
    rw [e3 x j (Or.inl c), scr x j q, kk_Mc c]
  have sB : ∀ x j, kk_scr x j → 40 ≤ x.1 → B2 x j = B x j := fun x j q c => by
    rw [e7 x j (by omega), scr x j q, kk_Mm c]
  rw [eH] at core
  have L2 : kk_L (b + 1) z n A2 B2 dh1 := kk_Lf l core E2 (fun j _ => sA _ _ (by simp [kk_scr]) (by decide)) (fun j => sA _ _ (by simp [kk_scr]) (by decide)) (fun j => sA _ _ (by simp [kk_scr]) (by decide)) (fun j => sA _ _ (by simp [kk_scr]) (by decide)) (fun j q => sB _ _ (by unfold kk_scr; simp; omega) (by decide)) (fun j => sB _ _ (by simp [kk_scr]) (by decide)) (fun j => sB _ _ (by simp [kk_scr]) (by decide)) (fun j => sB _ _ (by simp [kk_scr]) (by decide))
  obtain ⟨R, A3, d3, B3, g, pc, pm⟩ := K r A2 dh1 B2 sr L2 sA sB
  exact ⟨R, A3, d3, B3, g, ⟨f, r', h1, run, by rw [e1, e2]; exact pc⟩, ⟨f2, r2, h2, run2, by rw [e5, e6]; exact pm⟩⟩
theorem kk_fstex (P : Int → Prop) (a z : Int) (h : a ≤ z) : ∃ e, kk_fst P a z e := by
  have L : ∀ (k : Nat) (i : Int), z - i = k → a ≤ i → (∀ j, a ≤ j → j < i → ¬ P j) → ∃ e, kk_fst P a z e := by
    intro k
    induction k with
    | zero => intro i e1 e2 e3; exact ⟨i, e2, by omega, e3, fun l => by omega⟩
    | succ k ih =>
      intro i e1 e2 e3
      by_cases c : P i
      · exact ⟨i, e2, by omega, e3, fun _ => c⟩
      · exact ih (i + 1) (by omega) (by omega) (fun j j0 j1 => by
          by_cases w : j = i
          · rw [w]; exact c
          · exact e3 j j0 (by omega))
  exact L (z - a).toNat a (by omega) (by omega) (fun j j0 j1 => by omega)
/-- the next word -/
theorem kk_wordJ (hy : 5306 ≤ nx) {e p : Int} (h11 : A (8, 0, 0) 11 = e) (h13 : A (8, 0, 0) 13 = p) (h0 : 0 ≤ p ∧ p ≤ e ∧ e ≤ 8000) (T : ∀ i, p ≤ i → i < e → A (9, 0, 0) i = B (67, 0, 0) i)
    (K : ∀ w f A2 B2, (∀ x j, ¬ (x = (8, 0, 0) ∧ 12 ≤ j ∧ j ≤ 14) → A2 x j = A x j) → (∀ x j, ¬ (x = (40, 0, 0) ∧ 44 ≤ j ∧ j ≤ 45) → B2 x j = B x j) → (A2 (8, 0, 0) 12 = w ∧ A2 (8, 0, 0) 13 = f ∧ A2 (8, 0, 0) 14 = w) → (B2 (40, 0, 0) 44 = w ∧ B2 (40, 0, 0) 45 = f) → (p ≤ w ∧ w ≤ f ∧ f ≤ e) → kk_fst (fun i => A (9, 0, 0) i ≠ 32) p e w → kk_fst (fun i => A (9, 0, 0) i = 32) w e f →
      kk_J nx ns dm G (fun Q => KC (zI (if w < f then 1 else 0)) (mm_z A2 d nx ns) Q) (fun Q => KM (zI (if w < f then 1 else 0)) (mm_z B2 dm nx ns) Q)) :
    kk_J nx ns dm G (fun Q => mm_Cl 142 [zR (8, 0, 0)] (mm_z A d nx ns) (fun r h => KC r h Q)) (fun Q => mm_Cl 287 [zR (40, 0, 0), zI p, zI e] (mm_z B dm nx ns) (fun r h => KM r h Q)) := by
  have hx : 5275 ≤ nx := by omega
  obtain ⟨w, hw⟩ := kk_fstex (fun i => A (9, 0, 0) i ≠ 32) p e h0.2.1
  obtain ⟨f, hf⟩ := kk_fstex (fun i => A (9, 0, 0) i = 32) w e hw.2.1
  have w1 := hw.1
  have w2 := hf.1
  have w3 := hf.2.1
  have mw : kk_fst (fun i => B (67, 0, 0) i ≠ 32) p e w := kk_fste hw (fun i i0 i1 => by rw [T i i0 i1])
  have mf : kk_fst (fun i => B (67, 0, 0) i = 32) w e f := kk_fste hf (fun i i0 i1 => by rw [T i (by omega) i1])
  refine kk_J2 (P1 := fun Q => KC (zI (if w < f then 1 else 0)) (mm_z (mm_up (mm_up (mm_up A (8, 0, 0) 12 w) (8, 0, 0) 13 f) (8, 0, 0) 14 w) d nx ns) Q) (P3 := fun Q => KM (zI (if w < f then 1 else 0)) (mm_z (mm_up (mm_up B (40, 0, 0) 44 w) (40, 0, 0) 45 f) dm nx ns) Q) (fun Q q => ?_) (fun Q q => ?_) ?_
  · refine s142 hx h11 h13 h0 (fun e1 f1 q1 q2 => ?_)
    have u1 := kk_fstu hw q1
    subst u1
    have u2 := kk_fstu hf q2
    subst u2
    exact q
  · refine m287 hy h0 (fun e1 f1 q1 q2 => ?_)
    have u1 := kk_fstu mw q1
    subst u1
    have u2 := kk_fstu mf q2
    subst u2
    exact q
  · refine K w f _ _ (fun x j q => ?_) (fun x j q => ?_) ⟨?_, ?_, ?_⟩ ⟨?_, ?_⟩ ⟨w1, w2, w3⟩ hw hf
    · rw [mm_upne' (fun v => q ⟨v.1, by omega⟩), mm_upne' (fun v => q ⟨v.1, by omega⟩), mm_upne' (fun v => q ⟨v.1, by omega⟩)]
    · rw [mm_upne' (fun v => q ⟨v.1, by omega⟩), mm_upne' (fun v => q ⟨v.1, by omega⟩)]
    · rw [mm_upj (by decide), mm_upj (by decide), mm_ups]
    · rw [mm_upj (by decide), mm_ups]
    · rw [mm_ups]
    · rw [mm_upj (by decide), mm_ups]
    · rw [mm_ups]
end
