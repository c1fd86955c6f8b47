/-! keys; a link's path; a byte put; above -/
section
variable {hi : mm_Id → Int → Int} {dh : Int → Int} {nx ns : Int} {Q : mm_V → mm_H → Prop} {t n t1 n1 : Int}
theorem s108 (ht : mm_isT t) (hn : mm_isN n) (hx : 5275 ≤ nx) {a b : Int} (ha : 0 ≤ a ∧ a < 2160) (hr : 1 ≤ hi (27, t, n) (a / 60) ∧ hi (27, t, n) (a / 60) < 1701) (K : Q zU (mm_z (mm_up hi (16, 0, 0) (60 * hi (27, t, n) (a / 60) + a % 60) (mm_b b)) dh nx ns)) :
    mm_Cl 108 [zR (24, t, n), zI a, zI b, zR (15, 0, 0)] (mm_z hi dh nx ns) Q := by
  have e1 : Int.tdiv a 60 = a / 60 := Int.tdiv_eq_ediv_of_nonneg ha.1
  have e2 : Int.tmod a 60 = a % 60 := Int.tmod_eq_emod_of_nonneg ha.1
  rw [r_108_e (htx0 := ht) (hnx0 := hn) (hx := hx), if_neg (by omega), if_pos ha.2, e1, e2, mm_wi (by omega) (by omega)]
  refine ⟨by omega, s131 hx hr (by omega) ?_⟩
  rw [mm_pU, r_108_0_17 (hx := hx), r_108_1 (hx := hx)]
  exact K
theorem s157 (ht : mm_isT t) (hx : 5275 ≤ nx) {k : Int} (K1 : (1 ≤ k ∧ k < 37) → hi (24, t, k) 0 ≠ 0 → Q (zR (24, t, k)) (mm_z hi dh nx ns)) (K0 : ¬ ((1 ≤ k ∧ k < 37) ∧ hi (24, t, k) 0 ≠ 0) → Q (zR mm_nul) (mm_z hi dh nx ns)) :
    mm_Cl 157 [zR (22, t, 0), zI k] (mm_z hi dh nx ns) Q := by
  rw [r_157_e (htx0 := ht) (hx := hx)]
  split
  · rw [r_157_1 (hx := hx), r_157_3a (hx := hx)]; exact K0 (by omega)
  · split
    · rw [r_157_1 (hx := hx), r_157_3a (hx := hx)]; exact K0 (by omega)
    · refine ⟨by omega, ?_⟩
      split
      · rename_i h3
        rw [r_157_1 (hx := hx), r_157_3a (hx := hx)]; exact K0 (fun q => q.2 h3)
      · rename_i h3
        refine ⟨by omega, ?_⟩
        rw [r_157_3 (hty0 := ht) (hny0 := ⟨by omega, by omega⟩) (hx := hx)]
        exact K1 (by omega) h3
end

