/-! lists of entries, by their pairs -/
def kk_E (f g : Int → Int) (c x v : Int) : Prop := ∃ i, (0 ≤ i ∧ i < c) ∧ f i = x ∧ g i = v
theorem kk_mono {f : Int → Int} {c i j : Int} (hs : mm_srt f c) (i0 : 0 ≤ i) (ij : i ≤ j) (jc : j < c) : f i ≤ f j := by
  by_cases z : i = j
  · rw [z]; exact Int.le_refl _
  · have := hs i j i0 (by omega) jc
    omega
theorem kk_Eeq {f g f2 g2 : Int → Int} {c c2 : Int} (h1 : mm_srt f c) (h2 : mm_srt f2 c2) (c0 : 0 ≤ c) (c20 : 0 ≤ c2) (e : ∀ x v, kk_E f g c x v ↔ kk_E f2 g2 c2 x v) : c = c2 ∧ ∀ i, 0 ≤ i → i < c → f i = f2 i ∧ g i = g2 i := by
  have A : ∀ (k : Nat) (i : Int), i < k → 0 ≤ i → i < c → i < c2 → f i = f2 i := by
    intro k
    induction k with
    | zero => intro i a b; omega
    | succ k ih =>
      intro i a b d1 d2
      obtain ⟨j, hj, q1, _⟩ := (e (f i) (g i)).1 ⟨i, ⟨b, d1⟩, rfl, rfl⟩
      obtain ⟨l, hl, q3, _⟩ := (e (f2 i) (g2 i)).2 ⟨i, ⟨b, d2⟩, rfl, rfl⟩
      have j1 : i ≤ j := Decidable.byContradiction (fun w => by
        have := ih j (by omega) hj.1 (by omega) hj.2
        have := h1 j i hj.1 (by omega) d1
        omega)
      have l1 : i ≤ l := Decidable.byContradiction (fun w => by
        have := ih l (by omega) hl.1 hl.2 (by omega)
        have := h2 l i hl.1 (by omega) d2
        omega)
      have m1 := kk_mono h2 b j1 hj.2
      have m2 := kk_mono h1 b l1 hl.2
      omega
  have ec : c = c2 := by
    by_cases w : c < c2
    · obtain ⟨l, hl, q3, _⟩ := (e (f2 c) (g2 c)).2 ⟨c, ⟨c0, w⟩, rfl, rfl⟩
      have := A (l.toNat + 1) l (by omega) hl.1 hl.2 (by omega)
      have := h2 l c hl.1 hl.2 w
      omega
    · by_cases w2 : c2 < c
      · obtain ⟨l, hl, q3, _⟩ := (e (f c2) (g c2)).1 ⟨c2, ⟨c20, w2⟩, rfl, rfl⟩
        have := A (l.toNat + 1) l (by omega) hl.1 (by omega) hl.2
        have := h1 l c2 hl.1 hl.2 w2
        omega
      · omega
  subst ec
  refine ⟨rfl, fun i i0 i1 => ?_⟩
  have q := A (i.toNat + 1) i (by omega) i0 i1 i1
  refine ⟨q, ?_⟩
  obtain ⟨j, hj, q1, q2⟩ := (e (f i) (g i)).1 ⟨i, ⟨i0, i1⟩, rfl, rfl⟩
  have ej : j = i := kk_inj h2 hj.1 hj.2 i0 i1 (by rw [q1, q])
  rw [← q2, ej]
theorem kk_Edel {f g : Int → Int} {c p x v : Int} (hs : mm_srt f c) (hp : 0 ≤ p ∧ p < c) : kk_E (kk_del f p (c - 1)) (kk_del g p (c - 1)) (c - 1) x v ↔ kk_E f g c x v ∧ x ≠ f p := by
  constructor
  · rintro ⟨i, hi, q1, q2⟩
    unfold kk_del at q1 q2
    by_cases z : i < p
    · rw [if_neg (by omega)] at q1 q2
      refine ⟨⟨i, by omega, q1, q2⟩, ?_⟩
      have := hs i p hi.1 z hp.2
      omega
    · rw [if_pos (by omega)] at q1 q2
      refine ⟨⟨i + 1, by omega, q1, q2⟩, ?_⟩
      have := hs p (i + 1) hp.1 (by omega) (by omega)
      omega
  · rintro ⟨⟨i, hi, q1, q2⟩, q3⟩
    have ip : i ≠ p := fun w => q3 (by rw [← q1, w])
    by_cases z : i < p
    · refine ⟨i, by omega, ?_, ?_⟩
      · unfold kk_del; rw [if_neg (by omega)]; exact q1
      · unfold kk_del; rw [if_neg (by omega)]; exact q2
    · refine ⟨i - 1, by omega, ?_, ?_⟩
      · unfold kk_del; rw [if_pos (by omega), show i - 1 + 1 = i by omega]; exact q1
      · unfold kk_del; rw [if_pos (by omega), show i - 1 + 1 = i by omega]; exact q2
theorem kk_Ec {f g f2 g2 : Int → Int} {c x v : Int} (e : ∀ i, 0 ≤ i → i < c → f2 i = f i ∧ g2 i = g i) : kk_E f2 g2 c x v ↔ kk_E f g c x v := by
  constructor
  · rintro ⟨i, hi, q1, q2⟩
    exact ⟨i, hi, (e i hi.1 hi.2).1.symm.trans q1, (e i hi.1 hi.2).2.symm.trans q2⟩
  · rintro ⟨i, hi, q1, q2⟩
    exact ⟨i, hi, (e i hi.1 hi.2).1.trans q1, (e i hi.1 hi.2).2.trans q2⟩
theorem kk_Eins {f g : Int → Int} {c p x v y w : Int} (p0 : 0 ≤ p) (p1 : p ≤ c) : kk_E (kk_ins f p c y) (kk_ins g p c w) (c + 1) x v ↔ kk_E f g c x v ∨ (x = y ∧ v = w) := by
  constructor
  · rintro ⟨i, hi, q1, q2⟩
    rcases kk_insm p0 p1 hi.1 hi.2 with ⟨_, a⟩ | ⟨j, hj, _, a⟩
    · rw [a] at q1 q2; exact Or.inr ⟨q1.symm, q2.symm⟩
    · rw [a] at q1 q2; exact Or.inl ⟨j, hj, q1, q2⟩
  · rintro (⟨i, hi, q1, q2⟩ | ⟨q1, q2⟩)
    · obtain ⟨k, hk, a⟩ := kk_insi (p := p) (c := c) hi.2
      refine ⟨k, ?_, (a f y).trans q1, (a g w).trans q2⟩
      by_cases z : i < p
      · rw [if_pos z] at hk; omega
      · rw [if_neg z] at hk; omega
    · refine ⟨p, by omega, ?_, ?_⟩
      · unfold kk_ins; rw [if_pos rfl, q1]
      · unfold kk_ins; rw [if_pos rfl, q2]
/-- keys of a sorted list stand once -/
theorem kk_E1 {f g : Int → Int} {c x v w : Int} (hs : mm_srt f c) (a : kk_E f g c x v) (b : kk_E f g c x w) : v = w := by
  obtain ⟨i, hi, q1, q2⟩ := a
  obtain ⟨j, hj, q3, q4⟩ := b
  have e := kk_inj hs hi.1 hi.2 hj.1 hj.2 (by rw [q1, q3])
  rw [← q2, ← q4, e]


