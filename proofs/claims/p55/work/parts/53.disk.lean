/-! the calls of both: steps, users, disks, handles -/
section
variable {hi : mm_Id → Int → Int} {dh : Int → Int} {nx ns : Int} {Q : mm_V → mm_H → Prop}
theorem s84 (hx : 5275 ≤ nx) {d : Int} (K1 : (1 ≤ d ∧ d ≤ hi (14, 0, 0) 0) → Q (zI 1) (mm_z hi dh nx ns)) (K0 : ¬ (1 ≤ d ∧ d ≤ hi (14, 0, 0) 0) → Q (zI 0) (mm_z hi dh nx ns)) : mm_Cl 84 [zR (14, 0, 0), zI d] (mm_z hi dh nx ns) Q := by
  rw [r_84_e (hx := hx)]
  split
  · rename_i c
    rw [r_84_1 (hx := hx), r_84_2 (hx := hx)]; exact ⟨Or.inl rfl, K0 (by omega)⟩
  · rename_i c
    split
    · rename_i c2
      rw [r_84_1 (hx := hx), r_84_2 (hx := hx)]; exact ⟨Or.inl rfl, K0 (by omega)⟩
    · rename_i c2
      rw [r_84_2 (hx := hx)]; exact ⟨Or.inr rfl, K1 (by omega)⟩
theorem s85 (hx : 5275 ≤ nx) {d v : Int} (hv : v = 0 ∨ v = 1) (K1 : hi (14, 0, 0) 2 = 0 → (hi (14, 0, 0) 1 = 0 ∨ hi (14, 0, 0) 1 = d) → Q (zI 1) (mm_z (mm_up (mm_up hi (14, 0, 0) 1 d) (14, 0, 0) 2 v) dh nx ns)) (K0 : ¬ (hi (14, 0, 0) 2 = 0 ∧ (hi (14, 0, 0) 1 = 0 ∨ hi (14, 0, 0) 1 = d)) → Q (zI 0) (mm_z hi dh nx ns)) : mm_Cl 85 [zR (14, 0, 0), zI d, zI v] (mm_z hi dh nx ns) Q := by
  rw [r_85_e (hx := hx)]
  split
  · rename_i c
    split
    · rename_i c2
      rw [r_85_2 (hx := hx)]; exact ⟨hv, K1 c (Or.inl c2)⟩
    · rename_i c2
      split
      · rename_i c3
        rw [r_85_2 (hx := hx)]; exact ⟨hv, K1 c (Or.inr c3)⟩
      · rename_i c3
        rw [r_85_1 (hx := hx)]; exact K0 (by omega)
  · rename_i c
    rw [r_85_1 (hx := hx)]; exact K0 (by omega)
theorem s86 (hx : 5275 ≤ nx) {d : Int} (hl : hi (14, 0, 0) 2 = 0 ∨ hi (14, 0, 0) 2 = 1) (K1 : hi (14, 0, 0) 2 = 1 → hi (14, 0, 0) 1 = d → Q (zI 1) (mm_z (mm_up hi (14, 0, 0) 2 0) dh nx ns)) (K0 : ¬ (hi (14, 0, 0) 2 = 1 ∧ hi (14, 0, 0) 1 = d) → Q (zI 0) (mm_z hi dh nx ns)) : mm_Cl 86 [zR (14, 0, 0), zI d] (mm_z hi dh nx ns) Q := by
  rw [r_86_e (hx := hx)]
  split
  · rename_i c
    rw [r_86_1 (hx := hx), r_86_2 (hvx1 := mm_wI _) (hx := hx), if_pos c, r_86_3 (hx := hx), r_86_4 (hx := hx)]
    refine ⟨Or.inl rfl, Or.inl rfl, ?_⟩
    have e : mm_up hi (14, 0, 0) 2 0 = hi := by
      have := mm_upself hi (14, 0, 0) 2
      rw [c] at this; exact this
    rw [e]; exact K0 (by omega)
  · rename_i c
    split
    · rename_i c2
      rw [r_86_2 (hvx1 := mm_wI _) (hx := hx), if_neg c, if_neg (by decide), r_86_3 (hx := hx), r_86_4 (hx := hx)]
      exact ⟨Or.inl rfl, Or.inr rfl, K1 (by omega) c2⟩
    · rename_i c2
      rw [r_86_1 (hx := hx), r_86_2 (hvx1 := mm_wI _) (hx := hx), if_neg c, if_pos rfl, r_86_4 (hx := hx)]
      refine ⟨Or.inr rfl, Or.inl rfl, ?_⟩
      have e : mm_up hi (14, 0, 0) 2 1 = hi := by
        have := mm_upself hi (14, 0, 0) 2
        rw [show hi (14, 0, 0) 2 = 1 by omega] at this; exact this
      rw [e]; exact K0 (by omega)
theorem s88 (hx : 5275 ≤ nx) {d : Int} (K : ∀ v, (v = if d = hi (14, 0, 0) 1 then (if hi (14, 0, 0) 2 = 0 then 1 else 2) else 0) → Q (zI v) (mm_z hi dh nx ns)) : mm_Cl 88 [zR (14, 0, 0), zI d] (mm_z hi dh nx ns) Q := by
  rw [r_88_e (hx := hx)]
  split
  · rename_i c
    split
    · rename_i c2
      rw [r_88_3 (hx := hx)]; exact K _ (by rw [if_pos c, if_pos c2])
    · rename_i c2
      rw [r_88_3 (hx := hx)]; exact K _ (by rw [if_pos c, if_neg c2])
  · rename_i c
    rw [r_88_3 (hx := hx)]; exact K _ (by rw [if_neg c])
end
/-- the path is the same here and there -/
theorem kk_pth {b : Int} {h : mm_Id → Int → Int} {dh : Int → Int} (hc : kk_core b h dh) : (h (5, 0, 0) 2 = h (40, 0, 0) 30 ∧ 0 ≤ h (5, 0, 0) 2 ∧ h (5, 0, 0) 2 ≤ 8) ∧ (∀ i, 0 ≤ i → i < h (5, 0, 0) 2 → h (6, 0, 0) i = h (65, 0, 0) i ∧ 0 ≤ h (6, 0, 0) i ∧ h (6, 0, 0) i ≤ 1000000) := ⟨hc.1.2.2.2.2.1, hc.1.2.2.2.2.2.1⟩

