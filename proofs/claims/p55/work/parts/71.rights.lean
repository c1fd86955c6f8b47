/-! the reference's questions where the answer is known; rights, own -/
section
variable {g : mm_Id → Int → Int} {dh : Int → Int} {nx ns : Int} {Q : mm_V → mm_H → Prop}
theorem m203y (hy : 10581 ≤ nx) {s n r c o m : Int} (hs : 0 ≤ s ∧ s < 29) (hn : 1 ≤ n ∧ n < 37) (e1 : g (40, 0, 0) 29 = c) (e2 : g (47, 0, 0) (36 * s + n - 1) = o) (e3 : g (48, 0, 0) (36 * s + n - 1) = m) (w : kk_may c o m r) (K : Q (zI 1) (mm_z g dh nx ns)) : mm_Cl 203 [zR (40, 0, 0), zI s, zI n, zI r] (mm_z g dh nx ns) Q := m203 hy hs hn (fun _ => K) (fun q => absurd (by rw [e1, e2, e3]; exact w) q)
theorem m203n (hy : 10581 ≤ nx) {s n r c o m : Int} (hs : 0 ≤ s ∧ s < 29) (hn : 1 ≤ n ∧ n < 37) (e1 : g (40, 0, 0) 29 = c) (e2 : g (47, 0, 0) (36 * s + n - 1) = o) (e3 : g (48, 0, 0) (36 * s + n - 1) = m) (w : ¬ kk_may c o m r) (K : Q (zI 0) (mm_z g dh nx ns)) : mm_Cl 203 [zR (40, 0, 0), zI s, zI n, zI r] (mm_z g dh nx ns) Q := m203 hy hs hn (fun q => absurd (by rw [e1, e2, e3] at q; exact q) w) (fun _ => K)
theorem m204y (hy : 10581 ≤ nx) {s n c o m : Int} (hs : 0 ≤ s ∧ s < 29) (hn : 1 ≤ n ∧ n < 37) (e1 : g (40, 0, 0) 29 = c) (e2 : g (47, 0, 0) (36 * s + n - 1) = o) (e3 : g (48, 0, 0) (36 * s + n - 1) = m) (w : kk_mc c o m) (K : Q (zI 1) (mm_z g dh nx ns)) : mm_Cl 204 [zR (40, 0, 0), zI s, zI n] (mm_z g dh nx ns) Q := m204 hy hs hn (fun _ => K) (fun q => absurd (by rw [e1, e2, e3]; exact w) q)
theorem m204n (hy : 10581 ≤ nx) {s n c o m : Int} (hs : 0 ≤ s ∧ s < 29) (hn : 1 ≤ n ∧ n < 37) (e1 : g (40, 0, 0) 29 = c) (e2 : g (47, 0, 0) (36 * s + n - 1) = o) (e3 : g (48, 0, 0) (36 * s + n - 1) = m) (w : ¬ kk_mc c o m) (K : Q (zI 0) (mm_z g dh nx ns)) : mm_Cl 204 [zR (40, 0, 0), zI s, zI n] (mm_z g dh nx ns) Q := m204 hy hs hn (fun q => absurd (by rw [e1, e2, e3] at q; exact q) w) (fun _ => K)
theorem m211y (hy : 10581 ≤ nx) {s n o : Int} (hs : 0 ≤ s ∧ s < 29) (hn : 1 ≤ n ∧ n < 37) (e1 : g (41, 0, 0) (36 * s + n - 1) = o) (w : o = 2) (K : Q (zI 1) (mm_z g dh nx ns)) : mm_Cl 211 [zR (40, 0, 0), zI s, zI n] (mm_z g dh nx ns) Q := m211 hy hs hn (fun v hv => by rw [e1, if_pos w] at hv; rw [hv]; exact K)
theorem m211n (hy : 10581 ≤ nx) {s n o : Int} (hs : 0 ≤ s ∧ s < 29) (hn : 1 ≤ n ∧ n < 37) (e1 : g (41, 0, 0) (36 * s + n - 1) = o) (w : ¬ o = 2) (K : Q (zI 0) (mm_z g dh nx ns)) : mm_Cl 211 [zR (40, 0, 0), zI s, zI n] (mm_z g dh nx ns) Q := m211 hy hs hn (fun v hv => by rw [e1, if_neg w] at hv; rw [hv]; exact K)
theorem m177y (hy : 10581 ≤ nx) {s n o : Int} (hs : 0 ≤ s ∧ s < 29) (hn : 1 ≤ n ∧ n < 37) (e1 : g (41, 0, 0) (36 * s + n - 1) = o) (w : o = 1) (K : Q (zI 1) (mm_z g dh nx ns)) : mm_Cl 177 [zR (40, 0, 0), zI s, zI n] (mm_z g dh nx ns) Q := m177 hy hs hn (fun v hv => by rw [e1, if_pos w] at hv; rw [hv]; exact K)
theorem m177n (hy : 10581 ≤ nx) {s n o : Int} (hs : 0 ≤ s ∧ s < 29) (hn : 1 ≤ n ∧ n < 37) (e1 : g (41, 0, 0) (36 * s + n - 1) = o) (w : ¬ o = 1) (K : Q (zI 0) (mm_z g dh nx ns)) : mm_Cl 177 [zR (40, 0, 0), zI s, zI n] (mm_z g dh nx ns) Q := m177 hy hs hn (fun v hv => by rw [e1, if_neg w] at hv; rw [hv]; exact K)
theorem m206 (hy : 10581 ≤ nx) {s u : Int} (hs : 0 ≤ s ∧ s < 26) (hu : 0 ≤ u ∧ u < 8) (K1 : ¬ g (61, 0, 0) (8 * s + u) < kk_ub g s u → Q (zI 1) (mm_z g dh nx ns)) (K0 : g (61, 0, 0) (8 * s + u) < kk_ub g s u → Q (zI 0) (mm_z g dh nx ns)) : mm_Cl 206 [zR (40, 0, 0), zI s, zI u] (mm_z g dh nx ns) Q := by
  rw [r_206_e (hy := hy)]
  refine m205 hy (by omega) ?_
  rw [mm_pI, r_206_0_4 (hy := hy), mm_wi (z := 8 * s) (by omega) (by omega), mm_wi (z := 8 * s + u) (by omega) (by omega)]
  refine ⟨by omega, ?_⟩
  split
  · rename_i c
    rw [r_206_2 (hy := hy)]
    exact ⟨Or.inl rfl, K0 c⟩
  · rename_i c
    rw [r_206_2 (hy := hy)]
    exact ⟨Or.inr rfl, K1 c⟩
end
section
variable {b : Int} {h : mm_Id → Int → Int} {dh : Int → Int}
/-- a node's cells there, told by those here -/
theorem kk_nf (hc : kk_core b h dh) {s n : Int} (hs : 0 ≤ s ∧ s < 18) (hn : 1 ≤ n ∧ n < 37) : h (41, 0, 0) (36 * s + n - 1) = h (24, s, n) 0 ∧ h (44, 0, 0) (36 * s + n - 1) = h (24, s, n) 6 ∧ h (49, 0, 0) (36 * s + n - 1) = h (24, s, n) 11 ∧ (h (24, s, n) 0 ≠ 0 → h (42, 0, 0) (36 * s + n - 1) = h (24, s, n) 1 ∧ h (47, 0, 0) (36 * s + n - 1) = h (24, s, n) 2 ∧ h (48, 0, 0) (36 * s + n - 1) = h (24, s, n) 3) := by
  have N := kk_NRC hc hs hn
  exact ⟨N.1.symm, N.2.1.symm, N.2.2.1.symm, fun z => ⟨(N.2.2.2.1 z).1.symm, (N.2.2.2.1 z).2.1.symm, (N.2.2.2.1 z).2.2.1.symm⟩⟩
end

