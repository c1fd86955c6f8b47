/-! the calls of both: rename, the reference's lookups -/
theorem kk_i2 {P R : Prop} [Decidable P] [Decidable R] {A B : Prop} (F : ¬ (P ∧ R)) : (if P then (if R then A else B) else B) = B := by
  by_cases p : P
  · rw [if_pos p, if_neg (fun r => F ⟨p, r⟩)]
  · rw [if_neg p]
theorem kk_EmC {b s : Int} {h G : mm_Id → Int → Int} {dh : Int → Int} (hc : kk_core b h dh) (hs : 0 ≤ s ∧ s < 13) (mG : ∀ (x : mm_Id) j, 40 ≤ x.1 → ¬ (x = (40, 0, 0) ∧ j = 0) → G x j = h x j) {d : Int} (hd : 1 ≤ d ∧ d < 37) : kk_Es G s d ∧ G (44, 0, 0) (36 * s + d - 1) = h (24, s, d) 6 ∧ (∀ i, 0 ≤ i → i < h (24, s, d) 6 → G (45, 0, 0) (24 * (36 * s + d - 1) + i) = h (25, s, d) i ∧ G (46, 0, 0) (24 * (36 * s + d - 1) + i) = h (26, s, d) i) ∧ ∀ x v, kk_Em G s d x v ↔ kk_Ed h s d x v := by
  have N := kk_NRC hc (t := s) (n := d) (by omega) hd
  have W := kk_NWC hc (mm_T13 hs) hd
  have e6 : G (44, 0, 0) (36 * s + d - 1) = h (24, s, d) 6 := (mG _ _ (by simp) (by simp)).trans N.2.1.symm
  have e5 : ∀ i, 0 ≤ i → i < h (24, s, d) 6 → G (45, 0, 0) (24 * (36 * s + d - 1) + i) = h (25, s, d) i ∧ G (46, 0, 0) (24 * (36 * s + d - 1) + i) = h (26, s, d) i := fun i i0 i1 =>
    ⟨(mG _ _ (by simp) (by simp)).trans (N.2.2.2.2.1 i i0 i1).1.symm, (mG _ _ (by simp) (by simp)).trans (N.2.2.2.2.1 i i0 i1).2.symm⟩
  refine ⟨⟨fun i j i0 ij jc => ?_, by rw [e6]; exact W.2.1.1, by rw [e6]; exact W.2.1.2⟩, e6, e5, fun x v => ?_⟩
  · rw [e6] at jc
    show G (45, 0, 0) (24 * (36 * s + d - 1) + i) < G (45, 0, 0) (24 * (36 * s + d - 1) + j)
    rw [(e5 i i0 (by omega)).1, (e5 j (by omega) jc).1]
    exact W.2.2.2.2.2.2.2.2.2.2.2.1 i j i0 ij jc
  · unfold kk_Em kk_Ed
    rw [e6]
    exact kk_Ec e5
theorem m227p {b : Int} {h G : mm_Id → Int → Int} {dh dh0 : Int → Int} {nx ns : Int} {Q : mm_V → mm_H → Prop} (hy : 10581 ≤ nx) (hc : kk_core b h dh0) {s n l k q m p : Int} {v1 v7 v8 v9 v10 v11 v12 : mm_V} (hs : 0 ≤ s ∧ s < 13) (h1n : 1 ≤ n ∧ n < 37) (h1k : 1 ≤ k ∧ k < 37) (mG : ∀ (x : mm_Id) j, 40 ≤ x.1 → ¬ (x = (40, 0, 0) ∧ j = 0) → G x j = h x j) (hp : 0 ≤ p ∧ p < h (24, s, n) 6) (el : h (25, s, n) p = l) (em : h (26, s, n) p = m)
    (K : ∀ x9 x10 o : Int, (x9 = 0 ↔ h (24, s, m) 0 ≠ 2) → ((x10 < 0 ∧ o = 0 ∧ ∀ v, ¬ kk_Ed h s k q v) ∨ ((0 ≤ x10 ∧ x10 < h (24, s, k) 6) ∧ h (25, s, k) x10 = q ∧ h (26, s, k) x10 = o)) → mm_Wp 227 (mm_blk 227 11) [zR (40, 0, 0), v1, zI n, zI l, zI k, zI q, zI s, zI p, zI m, zI x9, zI x10, v11, v12] [zI o] (mm_z G dh nx ns) Q) :
    mm_Cl 184 [zR (40, 0, 0), zI s, zI n, zI l] (mm_z G dh nx ns) (fun r h3 => mm_Wp 227 (bk_227_8.drop 5) [zR (40, 0, 0), v1, zI n, zI l, zI k, zI q, zI s, v7, v8, v9, v10, v11, v12] (mm_push r []) h3 Q) := by
  have hsT := mm_T13 hs
  have Wn := kk_NWC hc hsT h1n
  have Wk := kk_NWC hc hsT h1k
  have srtn := Wn.2.2.2.2.2.2.2.2.2.2.2.1
  have srtk := Wk.2.2.2.2.2.2.2.2.2.2.2.1
  obtain ⟨Sn, n6, nE, _⟩ := kk_EmC hc hs mG h1n
  obtain ⟨Sk, k6, kE, _⟩ := kk_EmC hc hs mG h1k
  have m1 := (Wn.2.2.2.2.2.2.2.2.2.2.2.2.2.1 p hp.1 hp.2).2.1
  rw [em] at m1
  refine m184y hy (by omega) h1n n6 Wn.2.1 ⟨p, hp, (nE p hp.1 hp.2).1.trans el⟩ (fun e e0 e1 e2 => ?_) (p := p)
  have ep : e = p := kk_inj srtn e0 e1 hp.1 hp.2 (by rw [← (nE e e0 e1).1, e2, el])
  rw [ep, mm_pI, r_227_8_5 (hy := hy), if_neg (by omega)]
  refine m185 hy (by omega) h1n (by have := Wn.2.1; omega) ?_
  rw [(nE p hp.1 hp.2).2, em, mm_pI, r_227_9_5 (hvx7 := rfl) (hy := hy)]
  have f41 : G (41, 0, 0) (36 * s + m - 1) = h (24, s, m) 0 := (mG _ _ (by simp) (by simp)).trans (kk_nf hc (by omega) m1).1
  have C : ∀ x9 : Int, (x9 = 0 ↔ h (24, s, m) 0 ≠ 2) → mm_Wp 227 (bk_227_9.drop 10) [zR (40, 0, 0), v1, zI n, zI l, zI k, zI q, zI s, zI p, zI m, v9, v10, v11, v12] [zI x9] (mm_z G dh nx ns) Q := fun x9 h9 => by
    rw [r_227_9_10 (hy := hy)]
    by_cases ex : ∃ e, (0 ≤ e ∧ e < h (24, s, k) 6) ∧ h (25, s, k) e = q
    · obtain ⟨e, he, eq⟩ := ex
      refine m184y hy (by omega) h1k k6 Wk.2.1 ⟨e, he, (kE e he.1 he.2).1.trans eq⟩ (fun e3 a0 a1 a2 => ?_) (p := e)
      have ee : e3 = e := kk_inj srtk a0 a1 he.1 he.2 (by rw [← (kE e3 a0 a1).1, a2, eq])
      rw [ee, mm_pI, r_227_9_16 (hy := hy), if_neg (by omega)]
      refine m185 hy (by omega) h1k (by have := Wk.2.1; omega) ?_
      rw [(kE e he.1 he.2).2, mm_pI, r_227_10_5 (hy := hy)]
      exact K x9 e _ h9 (Or.inr ⟨he, eq, rfl⟩)
    · refine m184n hy (by omega) h1k k6 Wk.2.1 (fun e a0 a1 => by rw [(kE e a0 a1).1]; exact fun w => ex ⟨e, ⟨a0, a1⟩, w⟩) ?_
      rw [mm_pI, r_227_9_16 (hy := hy), if_pos (by decide)]
      exact K x9 (-1) 0 h9 (Or.inl ⟨by decide, rfl, fun v ⟨i, hi, q1, _⟩ => ex ⟨i, hi, q1⟩⟩)
  by_cases z : h (24, s, m) 0 = 2
  · refine m211y hy (by omega) m1 f41 z ?_
    rw [mm_pI]
    exact C 1 ⟨fun u => absurd u (by decide), fun u => absurd z u⟩
  · refine m211n hy (by omega) m1 f41 z ?_
    rw [mm_pI]
    exact C 0 ⟨fun _ => z, fun _ => rfl⟩


