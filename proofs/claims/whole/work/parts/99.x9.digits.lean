/-! scripts: digits -/
def kk_dv (t : Int → Int) (a : Int) : Nat → Int
  | 0 => 0
  | n + 1 => kk_dv t a n * 10 + (t (a + n) - 48)
def kk_pw : Nat → Int
  | 0 => 1
  | n + 1 => 10 * kk_pw n
def kk_dig (t : Int → Int) (a b m : Int) : Prop := a < b ∧ b - a ≤ m ∧ ∀ i, a ≤ i → i < b → 48 ≤ t i ∧ t i ≤ 57
theorem kk_pwb : ∀ n : Nat, n < 19 → kk_pw n ≤ 1000000000000000000 := by decide
theorem kk_dvb {t : Int → Int} {a : Int} : ∀ n : Nat, (∀ i, a ≤ i → i < a + n → 48 ≤ t i ∧ t i ≤ 57) → 0 ≤ kk_dv t a n ∧ kk_dv t a n < kk_pw n := by
  intro n
  induction n with
  | zero => intro _; exact ⟨by show (0 : Int) ≤ 0; omega, by show (0 : Int) < 1; omega⟩
  | succ n ih =>
    intro q
    have z := ih (fun i i0 i1 => q i i0 (by omega))
    have w := q (a + n) (by omega) (by omega)
    refine ⟨?_, ?_⟩
    · show 0 ≤ kk_dv t a n * 10 + (t (a + n) - 48); omega
    · show kk_dv t a n * 10 + (t (a + n) - 48) < 10 * kk_pw n; omega
theorem kk_dvB {t : Int → Int} {a : Int} {n : Nat} (q : ∀ i, a ≤ i → i < a + n → 48 ≤ t i ∧ t i ≤ 57) (hn : n < 19) : 0 ≤ kk_dv t a n ∧ kk_dv t a n < 1000000000000000000 := by
  have z := kk_dvb n q
  have w := kk_pwb n hn
  omega
theorem kk_pwb2 : ∀ n : Nat, n < 18 → kk_pw n ≤ 100000000000000000 := by decide
theorem kk_dvB2 {t : Int → Int} {a : Int} {n : Nat} (q : ∀ i, a ≤ i → i < a + n → 48 ≤ t i ∧ t i ≤ 57) (hn : n < 18) : 0 ≤ kk_dv t a n ∧ kk_dv t a n < 100000000000000000 := by
  have z := kk_dvb n q
  have w := kk_pwb2 n hn
  omega
theorem kk_dve {t u : Int → Int} {a : Int} : ∀ n : Nat, (∀ i, a ≤ i → i < a + n → t i = u i) → kk_dv t a n = kk_dv u a n := by
  intro n
  induction n with
  | zero => intro _; rfl
  | succ n ih =>
    intro q
    show kk_dv t a n * 10 + (t (a + n) - 48) = kk_dv u a n * 10 + (u (a + n) - 48)
    rw [ih (fun i i0 i1 => q i i0 (by omega)), q (a + n) (by omega) (by omega)]
section
variable {h : mm_Id → Int → Int} {dh : Int → Int} {nx ns : Int} {Q : mm_V → mm_H → Prop}
theorem s145 (hx : 5275 ≤ nx) {a b m : Int} (h0 : 0 ≤ a ∧ a ≤ 8001 ∧ 0 ≤ b ∧ b ≤ 8000 ∧ m ≤ 18)
    (K1 : kk_dig (h (9, 0, 0)) a b m → Q (zL (kk_dv (h (9, 0, 0)) a (b - a).toNat)) (mm_z h dh nx ns)) (K2 : ¬ kk_dig (h (9, 0, 0)) a b m → Q (zL (-1)) (mm_z h dh nx ns)) :
    mm_Cl 145 [zR (8, 0, 0), zI a, zI b, zI m] (mm_z h dh nx ns) Q := by
  have L : a < b → b - a ≤ m → ∀ (d n : Nat), b - (a + n) = d → (∀ i, a ≤ i → i < a + n → 48 ≤ h (9, 0, 0) i ∧ h (9, 0, 0) i ≤ 57) → mm_Wp 145 (mm_blk 145 3) [zR (8, 0, 0), zI a, zI b, zI m, zL (kk_dv (h (9, 0, 0)) a n), zU, zI (a + n)] [] (mm_z h dh nx ns) Q := by
    intro q1 q2 d
    induction d with
    | zero =>
      intro n e1 e2
      rw [r_145_3 (hvx3 := rfl) (hx := hx), if_neg (by omega)]
      have z := K1 ⟨q1, q2, fun i i0 i1 => e2 i i0 (by omega)⟩
      rw [show (b - a).toNat = n by omega] at z
      exact z
    | succ d ih =>
      intro n e1 e2
      have B := kk_dvB2 e2 (by omega)
      rw [r_145_3 (hvx3 := rfl) (hx := hx), if_pos (by omega)]
      refine ⟨by omega, ?_⟩
      by_cases c1 : h (9, 0, 0) (a + n) < 48
      · rw [if_pos c1, r_145_4 (hx := hx)]
        exact K2 (fun k => by have := k.2.2 (a + n) (by omega) (by omega); omega)
      · rw [if_neg c1]
        refine ⟨by omega, ?_⟩
        by_cases c2 : 57 < h (9, 0, 0) (a + n)
        · rw [if_pos c2, r_145_4 (hx := hx)]
          exact K2 (fun k => by have := k.2.2 (a + n) (by omega) (by omega); omega)
        · rw [if_neg c2]
          refine ⟨by omega, ?_⟩
          rw [mm_wi (z := h (9, 0, 0) (a + n) - 48) (by omega) (by omega), mm_Wi (z := kk_dv (h (9, 0, 0)) a n * 10) (by omega) (by omega), mm_Wi (by omega) (by omega), mm_wi (by omega) (by omega)]
          have z := ih (n + 1) (by omega) (fun i i0 i1 => by
            by_cases e : i = a + n
            · rw [e]; omega
            · exact e2 i i0 (by omega))
          rw [show a + ((n + 1 : Nat) : Int) = a + n + 1 by omega] at z
          exact z
  rw [r_145_e (hx := hx)]
  by_cases c1 : a < b
  · rw [if_pos c1, mm_wi (by omega) (by omega)]
    by_cases c2 : m < b - a
    · rw [if_pos c2, r_145_1 (hx := hx)]
      exact K2 (fun k => by have := k.2.1; omega)
    · rw [if_neg c2]
      have z := L c1 (by omega) (b - a).toNat 0 (by omega) (fun i i0 i1 => by omega)
      rw [show a + ((0 : Nat) : Int) = a by omega] at z
      exact z
  · rw [if_neg c1, r_145_1 (hx := hx)]
    exact K2 (fun k => by have := k.1; omega)
theorem m288 (hy : 5306 ≤ nx) {a b m : Int} (h0 : 0 ≤ a ∧ a ≤ 8001 ∧ 0 ≤ b ∧ b ≤ 8000 ∧ m ≤ 18)
    (K1 : kk_dig (h (67, 0, 0)) a b m → Q (zI 1) (mm_z (mm_up h (40, 0, 0) 46 (kk_dv (h (67, 0, 0)) a (b - a).toNat)) dh nx ns)) (K2 : ¬ kk_dig (h (67, 0, 0)) a b m → ∀ v, Q (zI 0) (mm_z (mm_up h (40, 0, 0) 46 v) dh nx ns)) :
    mm_Cl 288 [zR (40, 0, 0), zI a, zI b, zI m] (mm_z h dh nx ns) Q := by
  have Z : ¬ kk_dig (h (67, 0, 0)) a b m → ∀ v (x7 : Int), mm_Wp 288 (mm_blk 288 3) [zR (40, 0, 0), zI a, zI b, zI m, zI 0, zL v, zU, zI x7] [] (mm_z h dh nx ns) Q := by
    intro q v x7
    rw [r_288_3 (hy := hy), r_288_6 (hy := hy)]
    have z : ((0 : Int) = 0 ∨ (0 : Int) = 1) ∧ Q (zI 0) (mm_z (mm_up h (40, 0, 0) 46 v) dh nx ns) := ⟨Or.inl rfl, K2 q v⟩
    by_cases c : x7 < b
    · rw [if_pos c, if_pos rfl]; exact z
    · rw [if_neg c]; exact z
  have L : a < b → b - a ≤ m → ∀ (d n : Nat), b - (a + n) = d → (∀ i, a ≤ i → i < a + n → 48 ≤ h (67, 0, 0) i ∧ h (67, 0, 0) i ≤ 57) → mm_Wp 288 (mm_blk 288 3) [zR (40, 0, 0), zI a, zI b, zI m, zI 1, zL (kk_dv (h (67, 0, 0)) a n), zU, zI (a + n)] [] (mm_z h dh nx ns) Q := by
    intro q1 q2 d
    induction d with
    | zero =>
      intro n e1 e2
      rw [r_288_3 (hy := hy), if_neg (by omega), r_288_6 (hy := hy)]
      have z := K1 ⟨q1, q2, fun i i0 i1 => e2 i i0 (by omega)⟩
      rw [show (b - a).toNat = n by omega] at z
      exact ⟨Or.inr rfl, z⟩
    | succ d ih =>
      intro n e1 e2
      have B := kk_dvB2 e2 (by omega)
      rw [r_288_3 (hy := hy), if_pos (by omega), if_neg (by omega)]
      refine ⟨by omega, ?_⟩
      by_cases c1 : h (67, 0, 0) (a + n) < 48
      · rw [if_pos c1, r_288_4 (hy := hy), r_288_5 (hvx3 := rfl) (hy := hy)]
        exact ⟨by omega, Z (fun k => by have := k.2.2 (a + n) (by omega) (by omega); omega) _ _⟩
      · rw [if_neg c1]
        refine ⟨by omega, ?_⟩
        by_cases c2 : 57 < h (67, 0, 0) (a + n)
        · rw [if_pos c2, r_288_4 (hy := hy), r_288_5 (hvx3 := rfl) (hy := hy)]
          exact ⟨by omega, Z (fun k => by have := k.2.2 (a + n) (by omega) (by omega); omega) _ _⟩
        · rw [if_neg c2, r_288_5 (hvx3 := rfl) (hy := hy)]
          refine ⟨by omega, ?_⟩
          have z := ih (n + 1) (by omega) (fun i i0 i1 => by
            by_cases e : i = a + n
            · rw [e]; omega
            · exact e2 i i0 (by omega))
          rw [show a + ((n + 1 : Nat) : Int) = a + n + 1 by omega] at z
          rw [mm_Wi (z := 10 * kk_dv (h (67, 0, 0)) a n) (by omega) (by omega), mm_Wi (z := 10 * kk_dv (h (67, 0, 0)) a n + h (67, 0, 0) (a + n)) (by omega) (by omega), mm_Wi (by omega) (by omega), mm_wi (by omega) (by omega), show 10 * kk_dv (h (67, 0, 0)) a n + h (67, 0, 0) (a + n) - 48 = kk_dv (h (67, 0, 0)) a (n + 1) from by
            show _ = kk_dv (h (67, 0, 0)) a n * 10 + (h (67, 0, 0) (a + n) - 48)
            omega]
          exact z
  rw [r_288_e (hy := hy), mm_wi (by omega) (by omega)]
  by_cases c1 : b - a < 1
  · rw [if_pos c1, r_288_1 (hy := hy), r_288_2 (hvx3 := rfl) (hy := hy)]
    exact Z (fun k => by have := k.1; omega) _ _
  · rw [if_neg c1]
    by_cases c2 : m < b - a
    · rw [if_pos c2, r_288_1 (hy := hy), r_288_2 (hvx3 := rfl) (hy := hy)]
      exact Z (fun k => by have := k.2.1; omega) _ _
    · rw [if_neg c2, r_288_2 (hvx3 := rfl) (hy := hy)]
      have z := L (by omega) (by omega) (b - a).toNat 0 (by omega) (fun i i0 i1 => by omega)
      rw [show a + ((0 : Nat) : Int) = a by omega] at z
      exact z
end
