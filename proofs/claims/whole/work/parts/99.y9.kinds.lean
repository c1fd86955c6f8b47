/-! scripts: what a call wants -/
def kk_kk : List Int → Int
  | [] => 0
  | c :: r => (if c = 105 then 1 else if c = 108 then 2 else 3) + 4 * kk_kk r
def kk_kb : Nat → Int := fun b => match b with
  | 2 => 1
  | 3 => 3
  | 4 => 5
  | 5 => 13
  | 6 => 21
  | 7 => 53
  | 8 => 85
  | 9 => 213
  | 10 => 341
  | 11 => 405
  | 12 => 917
  | _ => 0
def kk_kw (c : Nat) : List Int := mm_words.getD (2 * c + 1) []
theorem kk_kt1 : ∀ c : Nat, c < 47 → (1 ≤ mm_sw 5 c ∧ mm_sw 5 c ≤ 12) ∧ kk_kb (mm_sw 5 c) = kk_kk (kk_kw c) := by decide +kernel
theorem kk_kt2 : ∀ c : Nat, c < 47 → (0 ≤ mm_sl (2 * c + 1) ∧ mm_sl (2 * c + 1) ≤ 5) ∧ (0 < mm_sl (2 * c + 1) → mm_sc (2 * c + 1) 0 ≠ 108) ∧ (4 ≤ mm_sl (2 * c) ∨ 2 ≤ mm_sl (2 * c) ∧ 0 < mm_sl (2 * c + 1)) := by decide +kernel
def kk_kpk (c i : Nat) : Int := kk_kk ((kk_kw c).drop i)
theorem kk_kt3 : ∀ c : Nat, c < 47 → ∀ i : Nat, i < 6 → ((i : Int) < mm_sl (2 * c + 1) → 0 < kk_kpk c i) ∧ ((i : Int) < mm_sl (2 * c + 1) → mm_shr (kk_kpk c i) 2 = kk_kpk c (i + 1)) ∧ (mm_sl (2 * c + 1) ≤ (i : Int) → kk_kpk c i = 0) := by decide +kernel
theorem kk_kt4 : ∀ c : Nat, c < 47 → ∀ i : Nat, i < 6 → (i : Int) < mm_sl (2 * c + 1) → (mm_sc (2 * c + 1) i = 105 ∧ mm_and (kk_kpk c i) 3 = 1) ∨ (mm_sc (2 * c + 1) i = 108 ∧ mm_and (kk_kpk c i) 3 = 2) ∨ (mm_sc (2 * c + 1) i = 116 ∧ mm_and (kk_kpk c i) 3 = 3) := by decide +kernel
/-- what is left of what a call wants -/
def kk_kn (c i : Int) : Int := kk_kpk c.toNat i.toNat
section
variable {c i : Int}
theorem kk_kn1 (hc : 0 ≤ c ∧ c < 47) : (0 ≤ mm_sl (2 * c + 1) ∧ mm_sl (2 * c + 1) ≤ 5) ∧ (0 < mm_sl (2 * c + 1) → mm_sc (2 * c + 1) 0 ≠ 108) ∧ (4 ≤ mm_sl (2 * c) ∨ 2 ≤ mm_sl (2 * c) ∧ 0 < mm_sl (2 * c + 1)) := by
  have z := kk_kt2 c.toNat (by omega)
  rw [show ((c.toNat : Nat) : Int) = c by omega] at z
  exact z
theorem kk_kn2 (hc : 0 ≤ c ∧ c < 47) (i0 : 0 ≤ i) (i1 : i < mm_sl (2 * c + 1)) : 0 < kk_kn c i ∧ kk_lk2 (mm_sc (2 * c + 1) i) (mm_and (kk_kn c i) 3) ∧ mm_shr (kk_kn c i) 2 = kk_kn c (i + 1) := by
  have k := (kk_kn1 hc).1
  have z := kk_kt3 c.toNat (by omega) i.toNat (by omega)
  have y := kk_kt4 c.toNat (by omega) i.toNat (by omega)
  rw [show ((c.toNat : Nat) : Int) = c by omega, show ((i.toNat : Nat) : Int) = i by omega] at z y
  unfold kk_kn kk_lk2
  rw [show (i + 1).toNat = i.toNat + 1 by omega]
  exact ⟨z.1 i1, y i1, z.2.1 i1⟩
theorem kk_kn3 (hc : 0 ≤ c ∧ c < 47) : kk_kn c (mm_sl (2 * c + 1)) = 0 := by
  have k := (kk_kn1 hc).1
  have z := (kk_kt3 c.toNat (by omega) (mm_sl (2 * c + 1)).toNat (by omega)).2.2
  rw [show ((c.toNat : Nat) : Int) = c by omega] at z
  exact z (by omega)
theorem m283k {h : mm_Id → Int → Int} {dh : Int → Int} {nx ns : Int} {Q : mm_V → mm_H → Prop} (hy : 5306 ≤ nx) {v : mm_V} {k : Nat} (h0 : 1 ≤ k ∧ k ≤ 12) (K : Q (zI (kk_kb k)) (mm_z h dh nx ns)) : mm_Wp 283 (mm_blk 283 k) [v] [] (mm_z h dh nx ns) Q := by
  have e : k = 1 ∨ k = 2 ∨ k = 3 ∨ k = 4 ∨ k = 5 ∨ k = 6 ∨ k = 7 ∨ k = 8 ∨ k = 9 ∨ k = 10 ∨ k = 11 ∨ k = 12 := by omega
  rcases e with e | e | e | e | e | e | e | e | e | e | e | e <;> subst e
  · rw [r_283_1 (hy := hy)]; exact K
  · rw [r_283_2 (hy := hy)]; exact K
  · rw [r_283_3 (hy := hy)]; exact K
  · rw [r_283_4 (hy := hy)]; exact K
  · rw [r_283_5 (hy := hy)]; exact K
  · rw [r_283_6 (hy := hy)]; exact K
  · rw [r_283_7 (hy := hy)]; exact K
  · rw [r_283_8 (hy := hy)]; exact K
  · rw [r_283_9 (hy := hy)]; exact K
  · rw [r_283_10 (hy := hy)]; exact K
  · rw [r_283_11 (hy := hy)]; exact K
  · rw [r_283_12 (hy := hy)]; exact K
theorem m283 {h : mm_Id → Int → Int} {dh : Int → Int} {nx ns : Int} {Q : mm_V → mm_H → Prop} (hy : 5306 ≤ nx) (hc : 0 ≤ c ∧ c < 47) (K : Q (zI (kk_kn c 0)) (mm_z h dh nx ns)) : mm_Cl 283 [zI c] (mm_z h dh nx ns) Q := by
  obtain ⟨z1, z2⟩ := kk_kt1 c.toNat (by omega)
  rw [show ((c.toNat : Nat) : Int) = c by omega] at z1 z2
  rw [r_283_e (hy := hy)]
  refine m283k hy z1 ?_
  rw [z2]
  exact K
end
