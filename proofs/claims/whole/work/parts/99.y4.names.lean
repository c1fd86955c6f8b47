/-! scripts: a word is a call's name for both alike -/
def kk_pq : Nat → Int
  | 0 => 1
  | n + 1 => 256 * kk_pq n
theorem kk_pqb : ∀ n : Nat, n < 9 → kk_pq n ≤ 18446744073709551616 := by decide
theorem kk_pkB {t : Int → Int} : ∀ (n : Nat) (a : Int), kk_pk t a n < kk_pq n := by
  intro n
  induction n with
  | zero => intro a; show (0 : Int) < 1; omega
  | succ n ih =>
    intro a
    have := ih (a + 1)
    show t a % 256 + 256 * kk_pk t (a + 1) n < 256 * kk_pq n
    omega
theorem kk_tb : ∀ k : Nat, k < 94 → (0 ≤ kk_pkl ((mm_words.getD k []).take 8) ∧ kk_pkl ((mm_words.getD k []).take 8) < 18446744073709551616) ∧ (0 ≤ kk_pkl ((mm_words.getD k []).drop 8) ∧ kk_pkl ((mm_words.getD k []).drop 8) < 18446744073709551616) ∧ ∀ c ∈ mm_words.getD k [], 1 ≤ c ∧ c < 127 := by decide +kernel
theorem kk_Winj {x y : Int} (x0 : 0 ≤ x ∧ x < 18446744073709551616) (y0 : 0 ≤ y ∧ y < 18446744073709551616) : mm_W x = mm_W y ↔ x = y := by
  unfold mm_W
  omega
theorem kk_iswn {t : Int → Int} {a b c : Int} (c0 : 0 ≤ c ∧ c < 47) (hn : 0 ≤ b - a ∧ b - a ≤ 16) (hz : ∀ i, a ≤ i → i < b → t i ≠ 0 ∧ -128 ≤ t i ∧ t i < 128) {p r : Nat} (hp : p ≤ 8 ∧ r ≤ 8 ∧ (p : Int) + r = b - a ∧ (p = 8 ∨ r = 0)) :
    (mm_W (kk_pk t a p), mm_W (kk_pk t (a + 8) r)) = kk_nmv c ↔ kk_isw t a b (2 * c) := by
  obtain ⟨T1, T2, T3⟩ := kk_tb (2 * c).toNat (by omega)
  obtain ⟨w, hw⟩ : ∃ w, w = mm_words.getD (2 * c).toNat [] := ⟨_, rfl⟩
  have E : kk_nmv c = (mm_W (kk_pkl (w.take 8)), mm_W (kk_pkl (w.drop 8))) := by rw [hw]; rfl
  have S : kk_isw t a b (2 * c) ↔ (w.length : Int) = b - a ∧ ∀ i : Int, 0 ≤ i → i < w.length → t (a + i) = w.getD i.toNat 0 := by rw [hw]; exact Iff.rfl
  rw [← hw] at T1 T2 T3
  have B1 := kk_pkb (t := t) p a
  have B2 := kk_pkB (t := t) p a
  have B3 := kk_pqb p (by omega)
  have D1 := kk_pkb (t := t) r (a + 8)
  have D2 := kk_pkB (t := t) r (a + 8)
  have D3 := kk_pqb r (by omega)
  have U1 := kk_pku (t := t) (w.take 8) p a (fun c m => by have := T3 c (List.mem_of_mem_take m); omega) (fun i i0 i1 => by have := hz i i0 (by omega); omega)
  have U2 := kk_pku (t := t) (w.drop 8) r (a + 8) (fun c m => by have := T3 c (List.mem_of_mem_drop m); omega) (fun i i0 i1 => by have := hz i (by omega) (by omega); omega)
  have G : ∀ i : Nat, i < w.length → 1 ≤ w.getD i 0 ∧ w.getD i 0 < 127 := fun i i0 => by
    have m : w.getD i 0 ∈ w := by
      rw [List.getD_eq_getElem?_getD, List.getElem?_eq_getElem i0]
      exact List.getElem_mem i0
    exact T3 _ m
  have G1 : ∀ i : Nat, i < 8 → (w.take 8).getD i 0 = w.getD i 0 := fun i i0 => by
    rw [List.getD_eq_getElem?_getD, List.getD_eq_getElem?_getD, List.getElem?_take_of_lt i0]
  have G2 : ∀ i : Nat, (w.drop 8).getD i 0 = w.getD (8 + i) 0 := fun i => by
    rw [List.getD_eq_getElem?_getD, List.getD_eq_getElem?_getD, List.getElem?_drop]
  rw [List.length_take] at U1
  rw [List.length_drop] at U2
  rw [E, S, Prod.mk.injEq, kk_Winj ⟨B1, by omega⟩ T1, kk_Winj ⟨D1, by omega⟩ T2, U1, U2]
  constructor
  · rintro ⟨⟨l1, q1⟩, l2, q2⟩
    refine ⟨by omega, fun i i0 i1 => ?_⟩
    have g := G i.toNat (by omega)
    have z := hz (a + i) (by omega) (by omega)
    by_cases k : i < 8
    · have x := q1 i.toNat (by omega)
      rw [G1 _ (by omega), show a + ((i.toNat : Nat) : Int) = a + i by omega] at x
      omega
    · have x := q2 (i.toNat - 8) (by omega)
      rw [G2, show a + 8 + ((i.toNat - 8 : Nat) : Int) = a + i by omega, show 8 + (i.toNat - 8) = i.toNat by omega] at x
      omega
  · rintro ⟨l, q⟩
    refine ⟨⟨by omega, fun i i0 => ?_⟩, by omega, fun i i0 => ?_⟩
    · have g := G i (by omega)
      have x := q i (by omega) (by omega)
      rw [show ((i : Int)).toNat = i by omega] at x
      rw [G1 _ (by omega), x]
      omega
    · have g := G (8 + i) (by omega)
      have x := q (8 + i) (by omega) (by omega)
      rw [show ((8 + i : Int)).toNat = 8 + i by omega, show a + (8 + (i : Int)) = a + 8 + i by omega] at x
      rw [G2, x]
      omega
