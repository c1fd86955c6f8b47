/-! taken up here and there, told by the snapshot that it was copied from -/
theorem kk_cxm {b : Int} {x : mm_Id} {j : Int} (q : kk_cx b x j) : kk_mx b x j := by
  rcases q with ⟨q | q | q | q, q2⟩ | ⟨q, q2⟩
  · rw [q]; exact Or.inl ⟨kk_f41, q2⟩
  · rw [q]; exact Or.inl ⟨kk_f42, q2⟩
  · rw [q]; exact Or.inl ⟨kk_f44, q2⟩
  · rw [q]; exact Or.inl ⟨kk_f49, q2⟩
  · rw [q]; exact Or.inr (Or.inl ⟨rfl, q2⟩)
theorem kk_unu {b : Int} {h G : mm_Id → Int → Int} {dh : Int → Int} (hc : kk_core b h dh) {i s n : Int} (hs : 0 ≤ s ∧ s < 13) (hn : 1 ≤ n ∧ n < 37) (ms : ∀ n, 1 ≤ n → n < 37 → kk_ms G (36 * i + n - 1) h (36 * s + n - 1)) : (G (41, 0, 0) (36 * i + n - 1) = 1 ∧ kk_ef G i n = 0) ↔ (h (24, s, n) 0 = 1 ∧ h (24, s, n) 5 = 0) := by
  rw [(ms n hn.1 hn.2).1 41 kk_f41, kk_efcp ms, kk_efu hc hs (fun _ _ _ => rfl), (kk_nf hc (s := s) (by omega) hn).1]
  constructor
  · rintro ⟨q, q2⟩
    exact ⟨q, by rw [(kk_TWC hc (mm_T13 hs)).1 n hn.1 hn.2 (by omega)]; exact q2⟩
  · rintro ⟨q, q2⟩
    exact ⟨q, by rw [← (kk_TWC hc (mm_T13 hs)).1 n hn.1 hn.2 (by omega)]; exact q2⟩
section
variable {h : mm_Id → Int → Int} {dh dh0 : Int → Int} {nx ns b : Int} {Q : mm_V → mm_H → Prop}
theorem m194t (hy : 10581 ≤ nx) (hc : kk_core b h dh0) {G : mm_Id → Int → Int} {i s : Int} (hD : mm_isD i) (hs : 0 ≤ s ∧ s < 13) (ms : ∀ n, 1 ≤ n → n < 37 → kk_ms G (36 * i + n - 1) h (36 * s + n - 1)) (eG : ∀ (f : Nat) k, f = 62 ∨ f = 63 ∨ f = 64 → G (f, 0, 0) k = h (f, 0, 0) k)
    (K : ∀ G2, (∀ n, 1 ≤ n → n < 37 → (h (24, s, n) 0 = 1 ∧ h (24, s, n) 5 = 0) → kk_mz G2 (36 * i + n - 1)) → (∀ a n x k, ¬ (a = i ∧ h (24, s, n) 0 = 1 ∧ h (24, s, n) 5 = 0) → 1 ≤ n → n < 37 → kk_mx (36 * a + n - 1) x k → G2 x k = G x k) → (∀ k, G2 (53, 0, 0) k = G (53, 0, 0) k) → (∀ (x : mm_Id) k, x.1 ≠ 63 → x.1 ≠ 64 → x.1 < 41 ∨ 53 < x.1 → G2 x k = G x k) →
      (∀ p, 0 ≤ p → p < 8 → dh0 p = i → G2 (63, 0, 0) (p + 1) = 0 ∧ ∀ a, 0 ≤ a → a < 2160 → G2 (64, 0, 0) (2160 * (p + 1) + a) = 0) → (∀ p, 0 ≤ p → p < 8 → ¬ dh0 p = i → G2 (63, 0, 0) (p + 1) = h (63, 0, 0) (p + 1) ∧ ∀ a, 0 ≤ a → a < 2160 → G2 (64, 0, 0) (2160 * (p + 1) + a) = h (64, 0, 0) (2160 * (p + 1) + a)) → Q zU (mm_z G2 dh nx ns)) :
    mm_Cl 194 [zR (40, 0, 0), zI i] (mm_z G dh nx ns) Q := by
  have hDi := hD
  unfold mm_isD at hDi
  have U : ∀ n, 1 ≤ n → n < 37 → ((G (41, 0, 0) (36 * i + n - 1) = 1 ∧ kk_ef G i n = 0) ↔ (h (24, s, n) 0 = 1 ∧ h (24, s, n) 5 = 0)) := fun n n0 n1 => kk_unu hc hs ⟨n0, n1⟩ ms
  have O : ∀ p, 0 ≤ p → p < 8 → ((0 < G (63, 0, 0) (p + 1) ∧ G (62, 0, 0) (p + 1) = i) ↔ dh0 p = i) := fun p p0 p1 => by
    rw [eG 63 _ (by omega), eG 62 _ (by omega), kk_hop (kk_h17 hc) p0 p1]
    exact ⟨fun q => q.2, fun q => ⟨by rw [q]; exact hD, q⟩⟩
  refine m194 hy (by omega) (fun d d0 d1 => ?_) (fun d d0 d1 => ?_) (fun G2 e1 e2 e3 => ?_)
  · rw [(ms d d0 d1).1 44 kk_f44]; exact (kk_mwC hc (s := s) (by omega) ⟨d0, d1⟩).2.1
  · rw [(ms d d0 d1).1 44 kk_f44, (ms d d0 d1).1 41 kk_f41]
    intro w
    exact (kk_MWC hc (s := s) (by omega) ⟨d0, d1⟩).2.2.1 (by omega)
  · have fr : ∀ (x : mm_Id) k, x.1 ≠ 63 → x.1 ≠ 64 → ¬ (∃ n, 1 ≤ n ∧ n < 37 ∧ (h (24, s, n) 0 = 1 ∧ h (24, s, n) 5 = 0) ∧ kk_cx (36 * i + n - 1) x k) → G2 x k = G x k := fun x k q1 q2 q3 => by
      refine e3 x k ?_ ?_
      · rintro ⟨p, _, _, _, ⟨v, _⟩ | ⟨v, _⟩⟩
        · rw [v] at q1; exact q1 rfl
        · rw [v] at q2; exact q2 rfl
      · rintro ⟨n, n0, n1, w, v⟩
        exact q3 ⟨n, n0, n1, (U n n0 n1).1 w, v⟩
    refine K G2 (fun n n0 n1 q => e2 n n0 n1 ((U n n0 n1).2 q)) (fun a n x k q n0 n1 hx2 => ?_) (fun k => ?_) (fun x k q1 q2 q3 => ?_) (fun p p0 p1 q => ?_) (fun p p0 p1 q => ?_)
    · have r := kk_mxr hx2
      refine fr x k (by omega) (by omega) ?_
      rintro ⟨m, m0, m1, w, v⟩
      by_cases z : 36 * a + n - 1 = 36 * i + m - 1
      · have z1 : a = i := by omega
        have z2 : n = m := by omega
        rw [z2] at q
        exact q ⟨z1, w⟩
      · exact kk_mxd z hx2 (kk_cxm v)
    · refine fr _ k (by decide) (by decide) ?_
      rintro ⟨m, m0, m1, w, v⟩
      unfold kk_cx at v
      simp at v
    · refine fr x k q1 q2 ?_
      rintro ⟨m, m0, m1, w, v⟩
      have r := kk_mxr (kk_cxm v)
      omega
    · exact e1 (p + 1) (by omega) (by omega) ((O p p0 p1).2 q)
    · have nq : ∀ (f : Nat) j, f = 63 ∧ j = p + 1 ∨ f = 64 ∧ 2160 * (p + 1) ≤ j ∧ j < 2160 * (p + 1) + 2160 → G2 (f, 0, 0) j = h (f, 0, 0) j := fun f j w => by
        rw [e3 _ _ ?_ ?_]
        · exact eG f j (by omega)
        · rintro ⟨m, m0, m1, w2, v⟩
          have y := (O (m - 1) (by omega) (by omega)).1 (by rw [show m - 1 + 1 = m by omega]; exact w2)
          have z : m - 1 = p := by
            simp at v
            omega
          rw [z] at y
          exact q y
        · rintro ⟨m, m0, m1, w2, v⟩
          have r := kk_mxr (kk_cxm v)
          simp at r
          omega
      exact ⟨nq 63 _ (by omega), fun a a0 a1 => nq 64 _ (by omega)⟩
theorem s65t (hx : 5275 ≤ nx) (hc : kk_core b h dh0) {A : mm_Id → Int → Int} {i s : Int} (hD : mm_isD i) (hs : mm_isT s) (R : kk_R A) (cC : ∀ n, 1 ≤ n → n < 37 → kk_cpd A i n h s n) (ha : A (22, i, 0) 2 = kk_as i)
    (K : ∀ h2 dh2, kk_R h2 → (∀ n, 1 ≤ n → n < 37 → (h (24, s, n) 0 = 1 ∧ h (24, s, n) 5 = 0) → kk_cl h2 i n) → (∀ n, 1 ≤ n → n < 37 → ¬ (h (24, s, n) 0 = 1 ∧ h (24, s, n) 5 = 0) → kk_cpd h2 i n h s n) →
      (∀ (f : Nat) a c k, f < 40 → ¬ (f = 15 ∧ k = 7) → f ≠ 17 → f ≠ 18 → f ≠ 19 → ¬ (24 ≤ f ∧ f ≤ 30 ∧ a = i ∧ 1 ≤ c ∧ c < 37) → ¬ (f = 31 ∧ a = i ∧ k = 6) → h2 (f, a, c) k = A (f, a, c) k) → (∀ (x : mm_Id) k, 40 ≤ x.1 → h2 x k = A x k) → h2 (31, i, 0) 6 = 1 →
      (∀ p, 0 ≤ p → p < 8 → dh p = i → dh2 p = -1) → (∀ p, 0 ≤ p → p < 8 → ¬ dh p = i → dh2 p = dh p) → Q zU (mm_z h2 dh2 nx ns)) :
    mm_Cl 65 [zR (1, 0, 0), zR (31, i, 0)] (mm_z A dh nx ns) Q := by
  have u : ∀ n, 1 ≤ n → n < 37 → ((A (24, i, n) 0 = 1 ∧ A (24, i, n) 5 = 0) ↔ (h (24, s, n) 0 = 1 ∧ h (24, s, n) 5 = 0)) := fun n n0 n1 => by
    rw [(cC n n0 n1).1.1 0 kk_F0, (cC n n0 n1).1.1 5 kk_F5]
  refine s65 hx hD R (fun n n0 n1 => (kk_nwcp (cC n n0 n1) (kk_nwC hc hs ⟨n0, n1⟩)).2.2) ha (fun h2 dh2 e1 e2 e3 e4 e5 e6 => ?_)
  refine K h2 dh2 e1 (fun n n0 n1 q => e2 n n0 n1 ((u n n0 n1).2 q)) (fun n n0 n1 q => kk_cpdt (kk_cpdr (fun f k f0 f1 => ?_)) (cC n n0 n1)) (fun f a c k f0 q1 q2 q3 q4 q5 q6 => ?_) (fun x k q => ?_) e4 e5 (fun p p0 p1 q => e6 p (fun w => q w.2))
  · refine e3 _ _ (by unfold kk_ct; simp; omega) (fun w => q ((u n n0 n1).1 w.2)) (by simp; omega)
  · refine e3 _ _ (by unfold kk_ct; simp; omega) (fun w => ?_) (fun w => q6 (by have := w.1; simp at this; exact ⟨this.1, this.2.1, w.2⟩))
    have := w.1
    unfold kk_tr at this
    simp at this
    omega
  · refine e3 _ _ (by unfold kk_ct; rintro (⟨v, _⟩ | v | v | v) <;> (rw [v] at q; simp at q)) (fun w => ?_) (fun w => by rw [w.1] at q; simp at q)
    have := w.1
    unfold kk_tr at this
    omega
end

