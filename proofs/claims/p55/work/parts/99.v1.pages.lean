/-! pieces of a file renewed, or let go: what holds after -/
def kk_px (t m : Int) (x : mm_Id) (j : Int) : Prop := x = (27, t, m) ∨ (x = (24, t, m) ∧ (j = 1 ∨ j = 9)) ∨ (x = (42, 0, 0) ∧ j = 36 * t + m - 1) ∨ (x = (43, 0, 0) ∧ 36 * (36 * t + m - 1) ≤ j ∧ j < 36 * (36 * t + m - 1) + 36) ∨ kk_sx 28 x j ∨ kk_ct x j ∨ (x = (15, 0, 0) ∧ j = 8) ∨ x.1 = 16 ∨ x.1 = 54 ∨ x.1 = 55 ∨ (x = (40, 0, 0) ∧ (j = 0 ∨ j = 18)) ∨ x.1 = 56 ∨ (x = (31, t, 0) ∧ j = 6)
theorem kk_pxr {t m : Int} {x : mm_Id} {j : Int} (q : kk_px t m x j) : (x.1 = 27 ∧ x.2.1 = t ∧ x.2.2 = m) ∨ (x.1 = 24 ∧ x.2.1 = t ∧ x.2.2 = m ∧ (j = 1 ∨ j = 9)) ∨ (x.1 = 42 ∧ j = 36 * t + m - 1) ∨ (x.1 = 43 ∧ 36 * (36 * t + m - 1) ≤ j ∧ j < 36 * (36 * t + m - 1) + 36) ∨ (41 ≤ x.1 ∧ x.1 ≤ 53 ∧ kk_sx 28 x j) ∨ (15 ≤ x.1 ∧ x.1 ≤ 19 ∨ 54 ≤ x.1 ∧ x.1 ≤ 56) ∨ (x.1 = 40 ∧ (j = 0 ∨ j = 18)) ∨ (x.1 = 31 ∧ x.2.1 = t ∧ j = 6) := by
  rcases q with q | ⟨q, q2⟩ | ⟨q, q2⟩ | ⟨q, q2⟩ | q | q | ⟨q, q2⟩ | q | q | q | ⟨q, q2⟩ | q | ⟨q, q2⟩
  · rw [q]; exact Or.inl ⟨rfl, rfl, rfl⟩
  · rw [q]; exact Or.inr (Or.inl ⟨rfl, rfl, rfl, q2⟩)
  · rw [q]; exact Or.inr (Or.inr (Or.inl ⟨rfl, q2⟩))
  · rw [q]; exact Or.inr (Or.inr (Or.inr (Or.inl ⟨rfl, q2⟩)))
  · have r := kk_sxr q
    exact Or.inr (Or.inr (Or.inr (Or.inr (Or.inl ⟨r.1, r.2, q⟩))))
  · rcases q with ⟨q, _⟩ | q | q | q <;> rw [q] <;> simp
  · rw [q]; simp
  · rw [q]; simp
  · rw [q]; simp
  · rw [q]; simp
  · rw [q]; simp [q2]
  · rw [q]; simp
  · rw [q]; simp [q2]
theorem kk_pgW {b t m : Int} {h Z : mm_Id → Int → Int} {dh : Int → Int} {S D : Int → Prop} (hc : kk_core b h dh) (ht : 0 ≤ t ∧ t < 5) (hno : 0 < kk_no h t) (hm : 1 ≤ m ∧ m < 37) (hk : h (24, t, m) 0 = 1)
    (fr : ∀ x j, ¬ kk_px t m x j → Z x j = h x j)
    (pg : ∀ p, 0 ≤ p → p < 36 → ¬ S p → (¬ D p ∧ Z (27, t, m) p = h (27, t, m) p ∧ Z (43, 0, 0) (36 * (36 * t + m - 1) + p) = h (43, 0, 0) (36 * (36 * t + m - 1) + p)) ∨ (D p ∧ Z (27, t, m) p = 0 ∧ Z (43, 0, 0) (36 * (36 * t + m - 1) + p) = 0))
    (rS : ∀ p, S p → (0 ≤ p ∧ p < 36) ∧ (1 ≤ Z (27, t, m) p ∧ Z (27, t, m) p < 1701) ∧ (1 ≤ Z (43, 0, 0) (36 * (36 * t + m - 1) + p) ∧ Z (43, 0, 0) (36 * (36 * t + m - 1) + p) ≤ 3000))
    (rH : ∀ p t2 n2 p2, S p → mm_isT t2 → 1 ≤ n2 → n2 < 37 → 0 ≤ p2 → p2 < 36 → h (27, t2, n2) p2 = Z (27, t, m) p → t2 = t ∧ n2 = m ∧ (S p2 ∨ D p2))
    (bH : ∀ p s n2 p2, S p → 0 ≤ s → s < 28 → 1 ≤ n2 → n2 < 37 → 0 ≤ p2 → p2 < 36 → h (43, 0, 0) (36 * (36 * s + n2 - 1) + p2) = Z (43, 0, 0) (36 * (36 * t + m - 1) + p) → s = t ∧ n2 = m ∧ (S p2 ∨ D p2))
    (iR : ∀ p q, S p → S q → Z (27, t, m) p = Z (27, t, m) q → p = q) (iB : ∀ p q, S p → S q → Z (43, 0, 0) (36 * (36 * t + m - 1) + p) = Z (43, 0, 0) (36 * (36 * t + m - 1) + q) → p = q)
    (e16 : ∀ r k, 0 ≤ k → k < 60 → (∀ p, S p → r ≠ Z (27, t, m) p) → Z (16, 0, 0) (60 * r + k) = h (16, 0, 0) (60 * r + k))
    (e54 : ∀ r k, 0 ≤ k → k < 60 → (∀ p, S p → r ≠ Z (43, 0, 0) (36 * (36 * t + m - 1) + p)) → Z (54, 0, 0) (60 * r + k) = h (54, 0, 0) (60 * r + k))
    (eS : ∀ p k, S p → 0 ≤ k → k < 60 → Z (16, 0, 0) (60 * Z (27, t, m) p + k) = Z (54, 0, 0) (60 * Z (43, 0, 0) (36 * (36 * t + m - 1) + p) + k))
    (m28 : ∀ n, 1 ≤ n → n < 37 → kk_ms Z (36 * 28 + n - 1) h (36 * t + n - 1)) (sz : Z (24, t, m) 1 = Z (42, 0, 0) (36 * t + m - 1) ∧ 0 ≤ Z (24, t, m) 1 ∧ Z (24, t, m) 1 ≤ 2160)
    (tl : ∀ i, Z (24, t, m) 1 ≤ i → i < 2160 → Z (16, 0, 0) (60 * Z (27, t, m) (i / 60) + i % 60) = 0) (nz : Z (24, t, m) 9 = kk_nz (Z (27, t, m))) (R : kk_R Z) (r16 : ∀ j, 0 ≤ j → j < 102060 → -128 ≤ Z (16, 0, 0) j ∧ Z (16, 0, 0) j < 128)
    (b1 : ∀ c, 1 ≤ c → c ≤ 3000 → kk_any Z c → Z (55, 0, 0) c ≠ 0) (b2 : 0 ≤ Z (40, 0, 0) 18 ∧ Z (40, 0, 0) 18 ≤ 3000) (b3 : kk_cnt (kk_lb Z (-1)) ≤ 400) (b7 : kk_cnt (kk_bs Z t) ≤ h (59, 0, 0) t) (flag : Z (31, t, 0) 6 = 1) : kk_W b Z dh ∧ kk_KP Z := by
  have hW := hc.1
  have hK := hW.1
  have sT := mm_T13 (s := t) ⟨ht.1, by omega⟩
  have C : ∀ (f : Nat) a c j, f < 40 → ¬ (15 ≤ f ∧ f ≤ 19) → ¬ (f = 27 ∧ a = t ∧ c = m) → ¬ (f = 24 ∧ a = t ∧ c = m ∧ (j = 1 ∨ j = 9)) → ¬ (f = 31 ∧ a = t ∧ j = 6) → Z (f, a, c) j = h (f, a, c) j := fun f a c j f0 q1 q2 q3 q4 => fr _ _ (fun w => by
    rcases kk_pxr w with w | w | w | w | w | w | w | w <;> simp at w <;> omega)
  have M : ∀ (f : Nat) a c j, (57 ≤ f ∨ f = 40 ∧ j ≠ 0 ∧ j ≠ 18) → Z (f, a, c) j = h (f, a, c) j := fun f a c j q => fr _ _ (fun w => by
    rcases kk_pxr w with w | w | w | w | w | w | w | w <;> simp at w <;> omega)
  have mxE : ∀ s n x j, s ≠ 28 → 1 ≤ n → n < 37 → kk_mx (36 * s + n - 1) x j → (36 * s + n - 1 ≠ 36 * t + m - 1 ∨ x.1 ≠ 42 ∧ x.1 ≠ 43) → Z x j = h x j := fun s n x j s2 n0 n1 hx q => fr _ _ (fun w => by
    have r := kk_mxr hx
    have hx2 := hx
    unfold kk_mx kk_mf at hx2
    rcases kk_pxr w with w | w | w | w | w | w | w | w
    · omega
    · omega
    · omega
    · omega
    · exact kk_sxd s2 ⟨n, n0, n1, hx⟩ w.2.2
    · omega
    · omega
    · omega)
  have ms : ∀ s n, 0 ≤ s → s < 28 → 1 ≤ n → n < 37 → ¬ (s = t ∧ n = m) → kk_ms Z (36 * s + n - 1) h (36 * s + n - 1) := fun s n s0 s1 n0 n1 q => by
    have w := (kk_MWC hc (s := s) (n := n) ⟨s0, by omega⟩ ⟨n0, n1⟩).1
    exact kk_msr w.2.1.2 w.2.2.2 (fun x j hx => mxE s n x j (by omega) n0 n1 hx (Or.inl (by omega)))
  have cp : ∀ a n, ¬ (a = t ∧ n = m) → kk_cpd Z a n h a n := fun a n q => kk_cpdr (fun f j f0 f1 => C f a n j (by omega) (by omega) (by omega) (by omega) (by omega))
  have T28 : ∀ u, mm_isT u → 0 ≤ u ∧ u < 28 := fun u q => by unfold mm_isT at q; omega
  -- a place is a new one, or as it was
  have cls : ∀ u n p, mm_isT u → 1 ≤ n → n < 37 → 0 ≤ p → p < 36 → Z (27, u, n) p ≠ 0 → (u = t ∧ n = m ∧ S p) ∨ (Z (27, u, n) p = h (27, u, n) p ∧ Z (43, 0, 0) (36 * (36 * u + n - 1) + p) = h (43, 0, 0) (36 * (36 * u + n - 1) + p) ∧ ¬ (u = t ∧ n = m ∧ (S p ∨ D p))) := fun u n p hu n0 n1 p0 p1 z => by
    by_cases q : u = t ∧ n = m
    · obtain ⟨q1, q2⟩ := q
      rw [q1, q2] at z ⊢
      by_cases s : S p
      · exact Or.inl ⟨rfl, rfl, s⟩
      · rcases pg p p0 p1 s with w | w
        · exact Or.inr ⟨w.2.1, w.2.2, fun e => e.2.2.elim s w.1⟩
        · exact absurd w.2.1 z
    · exact Or.inr ⟨C 27 u n p (by omega) (by omega) (by omega) (by omega) (by omega), (ms u n (T28 u hu).1 (T28 u hu).2 n0 n1 q).2.1 p p0 p1, fun e => q ⟨e.1, e.2.1⟩⟩
  have o16 : ∀ u n p k, mm_isT u → 1 ≤ n → n < 37 → 0 ≤ p → p < 36 → ¬ (u = t ∧ n = m ∧ (S p ∨ D p)) → 0 ≤ k → k < 60 → Z (16, 0, 0) (60 * h (27, u, n) p + k) = h (16, 0, 0) (60 * h (27, u, n) p + k) := fun u n p k hu n0 n1 p0 p1 q k0 k1 =>
    e16 _ k k0 k1 (fun p2 s e => q (rH p2 u n p s hu n0 n1 p0 p1 e))
  have o54 : ∀ u n p k, mm_isT u → 1 ≤ n → n < 37 → 0 ≤ p → p < 36 → ¬ (u = t ∧ n = m ∧ (S p ∨ D p)) → 0 ≤ k → k < 60 → Z (54, 0, 0) (60 * h (43, 0, 0) (36 * (36 * u + n - 1) + p) + k) = h (54, 0, 0) (60 * h (43, 0, 0) (36 * (36 * u + n - 1) + p) + k) := fun u n p k hu n0 n1 p0 p1 q k0 k1 =>
    e54 _ k k0 k1 (fun p2 s e => q (bH p2 u n p s (T28 u hu).1 (T28 u hu).2 n0 n1 p0 p1 e))
  have no : ∀ s2, kk_no Z s2 = kk_no h s2 := fun s2 => by
    unfold kk_no
    rw [C 31 s2 0 3 (by omega) (by omega) (by omega) (by omega) (by omega), C 33 (s2 - 5) 0 1 (by omega) (by omega) (by omega) (by omega) (by omega)]
  have k0 : ∀ n, Z (24, t, n) 0 = h (24, t, n) 0 := fun n => C 24 t n 0 (by omega) (by omega) (by omega) (by omega) (by omega)
  have mk : ∀ x j, kk_mx (36 * t + m - 1) x j → x.1 ≠ 42 → x.1 ≠ 43 → Z x j = h x j := fun x j hx q1 q2 => mxE t m x j (by omega) hm.1 hm.2 hx (Or.inr ⟨q1, q2⟩)
  have mkf : ∀ f : Nat, kk_mf f → f ≠ 42 → Z (f, 0, 0) (36 * t + m - 1) = h (f, 0, 0) (36 * t + m - 1) := fun f hf q => mk _ _ (Or.inl ⟨hf, rfl⟩) q (by show f ≠ 43; unfold kk_mf at hf; omega)
  have N := kk_NRC hc (t := t) (n := m) ⟨ht.1, by omega⟩ hm
  have W := hK.2.1 t m sT hm.1 hm.2
  have MWm := kk_MWC hc (s := t) (n := m) ⟨ht.1, by omega⟩ hm
  have k41 : h (41, 0, 0) (36 * t + m - 1) = 1 := by rw [← N.1]; exact hk
  have f24 : ∀ j, j ≠ 1 → j ≠ 9 → Z (24, t, m) j = h (24, t, m) j := fun j j1 j9 => C 24 t m j (by omega) (by omega) (by omega) (by omega) (by omega)
  have fC : ∀ (f : Nat) j, 25 ≤ f → f ≤ 30 → f ≠ 27 → Z (f, t, m) j = h (f, t, m) j := fun f j f0 f1 f2 => C f t m j (by omega) (by omega) (by omega) (by omega) (by omega)
  refine ⟨kk_WT0 hW ht hno (fun x j w => fr x j (fun w2 => w ?_)) (fun u n p i hu hut n0 n1 p0 p1 i0 i1 => o16 u n p i hu n0 n1 p0 p1 (fun e => hut e.1) i0 i1) (fun u n p i hu hut n0 n1 p0 p1 _ i0 i1 => o54 u n p i hu n0 n1 p0 p1 (fun e => hut e.1) i0 i1) (fun n n0 n1 => ?_) (fun n n0 n1 => ?_) (kk_TWx (fun n j q => C 24 t n j (by omega) (by omega) (by omega) (by omega) (by omega)) (fun n i => C 26 t n i (by omega) (by omega) (by omega) (by omega) (by omega)) (hK.2.2.1 t sT)) (fun s n hs n0 n1 => ?_) ?_ ?_ R ⟨fun e e0 e1 => ?_, r16⟩ b1 b2 b3 ?_ b7 ?_ flag ?_ ?_ ?_ ?_, ?_⟩
  · rcases w2 with q | ⟨q, q2⟩ | ⟨q, q2⟩ | ⟨q, q2⟩ | q | q | ⟨q, q2⟩ | q | q | q | ⟨q, q2⟩ | q | ⟨q, q2⟩
    · subst q; exact Or.inl ⟨by simp, by simp, rfl, hm.1, hm.2⟩
    · subst q; exact Or.inl ⟨by simp, by simp, rfl, hm.1, hm.2⟩
    · refine Or.inr (Or.inl ⟨m, hm.1, hm.2, Or.inl ⟨?_, q2⟩⟩)
      rw [q]; simp [kk_mf]
    · refine Or.inr (Or.inl ⟨m, hm.1, hm.2, Or.inr (Or.inl ⟨?_, q2⟩)⟩)
      rw [q]
    · exact Or.inr (Or.inr (Or.inl q))
    · exact Or.inr (Or.inr (Or.inr (Or.inr (Or.inl q))))
    · exact Or.inr (Or.inr (Or.inr (Or.inr (Or.inr (Or.inl ⟨q, q2⟩)))))
    · exact Or.inr (Or.inr (Or.inr (Or.inr (Or.inr (Or.inr (Or.inl q))))))
    · exact Or.inr (Or.inr (Or.inr (Or.inr (Or.inr (Or.inr (Or.inr (Or.inl q)))))))
    · exact Or.inr (Or.inr (Or.inr (Or.inr (Or.inr (Or.inr (Or.inr (Or.inr (Or.inl q))))))))
    · rcases q2 with q2 | q2
      · refine Or.inr (Or.inr (Or.inr (Or.inr (Or.inr (Or.inr (Or.inr (Or.inr (Or.inr (Or.inr (Or.inl ?_))))))))))
        exact Or.inr (Or.inr (Or.inr (Or.inr (Or.inr (Or.inr (Or.inr ⟨q, Or.inl q2⟩))))))
      · exact Or.inr (Or.inr (Or.inr (Or.inr (Or.inr (Or.inr (Or.inr (Or.inr (Or.inr (Or.inl ⟨q, q2⟩)))))))))
    · refine Or.inr (Or.inr (Or.inr (Or.inr (Or.inr (Or.inr (Or.inr (Or.inr (Or.inr (Or.inr (Or.inl ?_))))))))))
      exact Or.inr (Or.inr (Or.inr (Or.inr (Or.inl q))))
    · exact Or.inr (Or.inr (Or.inr (Or.inl ⟨q, q2⟩)))
  · by_cases q : n = m
    · rw [q]
      obtain ⟨r1, r2, r3, r4, r5, r6, r7, r8⟩ := N
      refine ⟨?_, ?_, ?_, fun _ => ⟨sz.1, ?_, ?_, ?_⟩, ?_, ?_, fun w => ?_, fun p p0 p1 => ?_⟩
      · rw [f24 0 (by omega) (by omega), mkf 41 (by simp [kk_mf]) (by omega)]; exact r1
      · rw [f24 6 (by omega) (by omega), mkf 44 (by simp [kk_mf]) (by omega)]; exact r2
      · rw [f24 11 (by omega) (by omega), mkf 49 (by simp [kk_mf]) (by omega)]; exact r3
      · rw [f24 2 (by omega) (by omega), mkf 47 (by simp [kk_mf]) (by omega)]; exact (r4 (by omega)).2.1
      · rw [f24 3 (by omega) (by omega), mkf 48 (by simp [kk_mf]) (by omega)]; exact (r4 (by omega)).2.2.1
      · rw [f24 14 (by omega) (by omega), mkf 53 (by simp [kk_mf]) (by omega)]; exact (r4 (by omega)).2.2.2
      · rw [f24 6 (by omega) (by omega)]
        intro e e0 e1
        have := W.2.1.2
        rw [fC 25 e (by omega) (by omega) (by omega), fC 26 e (by omega) (by omega) (by omega), mk (45, 0, 0) _ (kk_m45 (Or.inl rfl) ⟨e0, by omega⟩) (by decide) (by decide), mk (46, 0, 0) _ (kk_m45 (Or.inr rfl) ⟨e0, by omega⟩) (by decide) (by decide)]
        exact r5 e e0 e1
      · rw [f24 11 (by omega) (by omega)]
        intro e e0 e1
        have := W.2.2.2.1.2
        rw [fC 28 e (by omega) (by omega) (by omega), fC 29 e (by omega) (by omega) (by omega), mk (50, 0, 0) _ (kk_m50 (Or.inl rfl) ⟨e0, by omega⟩) (by decide) (by decide), mk (51, 0, 0) _ (kk_m50 (Or.inr rfl) ⟨e0, by omega⟩) (by decide) (by decide)]
        exact r6 e e0 e1
      · rw [k0, hk] at w; exact absurd w (by decide)
      · by_cases s : S p
        · have a := rS p s
          exact ⟨by omega, fun _ k k0 k1 => eS p k s k0 k1⟩
        · rcases pg p p0 p1 s with w | w
          · rw [w.2.1, w.2.2]
            refine ⟨(r8 p p0 p1).1, fun z k k0 k1 => ?_⟩
            rw [o16 t m p k sT hm.1 hm.2 p0 p1 (fun e => e.2.2.elim s w.1) k0 k1, o54 t m p k sT hm.1 hm.2 p0 p1 (fun e => e.2.2.elim s w.1) k0 k1]
            exact (r8 p p0 p1).2 z k k0 k1
          · rw [w.2.1, w.2.2]
            exact ⟨by simp, fun z => absurd rfl z⟩
    · exact kk_NRcp (cp t n (fun e => q e.2)) (ms t n ht.1 (by omega) n0 n1 (fun e => q e.2)) (hK.2.1 t n sT n0 n1) (fun p i p0 p1 _ i0 i1 => o16 t n p i sT n0 n1 p0 p1 (fun e => q e.2.1) i0 i1) (fun p i p0 p1 _ i0 i1 => o54 t n p i sT n0 n1 p0 p1 (fun e => q e.2.1) i0 i1) (hK.1 t n ht.1 (by omega) n0 n1)
  · by_cases q : n = m
    · rw [q]
      obtain ⟨w0, w6, w26, w11, w011, w14, w9, wp, w2, w3, w1, ws, wk, we, wv, wst, wz⟩ := W
      have f0 := f24 0 (by omega) (by omega)
      have f6 := f24 6 (by omega) (by omega)
      have f11 := f24 11 (by omega) (by omega)
      refine ⟨by rw [f0]; exact w0, by rw [f6]; exact w6, by rw [f0, f6]; exact w26, by rw [f11]; exact w11, by rw [f0, f11]; exact w011, by rw [f24 14 (by omega) (by omega)]; exact w14, nz, fun w => ?_, by rw [f24 2 (by omega) (by omega)]; exact w2, by rw [f24 3 (by omega) (by omega)]; exact w3, ⟨fun _ => sz.2, fun w => ?_, fun w => ?_⟩, ?_, ?_, ?_, ?_, fun w => ?_, fun _ i i0 i1 => tl i i0 i1⟩
      · rw [f0, hk] at w; exact absurd rfl w
      · rw [f0, hk] at w; exact absurd w (by decide)
      · rw [f0, hk] at w; exact absurd w (by decide)
      · rw [f6]
        intro i j i0 ij jc
        rw [fC 25 i (by omega) (by omega) (by omega), fC 25 j (by omega) (by omega) (by omega)]
        exact ws i j i0 ij jc
      · rw [f11]
        intro i j i0 ij jc
        rw [fC 28 i (by omega) (by omega) (by omega), fC 28 j (by omega) (by omega) (by omega)]
        exact wk i j i0 ij jc
      · rw [f6]
        intro i i0 i1
        rw [fC 25 i (by omega) (by omega) (by omega), fC 26 i (by omega) (by omega) (by omega), k0]
        exact we i i0 i1
      · rw [f11]
        intro i i0 i1
        rw [fC 28 i (by omega) (by omega) (by omega), fC 29 i (by omega) (by omega) (by omega)]
        exact wv i i0 i1
      · rw [f0, hk] at w; exact absurd w (by decide)
    · refine kk_NWx ?_ ?_ ?_ (hK.2.1 t n sT n0 n1)
      · exact fun f j f0 f1 => C f t n j (by omega) (by omega) (by omega) (by omega) (by omega)
      · intro i i0 i1
        rw [k0]
        exact ((hK.2.1 t n sT n0 n1).2.2.2.2.2.2.2.2.2.2.2.2.2.1 i i0 i1).2.2
      · exact fun p i p0 p1 i0 i1 => o16 t n p i sT n0 n1 p0 p1 (fun e => q e.2.1) i0 i1
  · rcases hs with hs | hs
    · rw [hs]
      by_cases q : n = m
      · rw [q]
        obtain ⟨⟨a1, a2, a3⟩, a4, a5, a6⟩ := MWm
        unfold kk_MW kk_mw
        rw [mkf 53 (by simp [kk_mf]) (by omega), mkf 44 (by simp [kk_mf]) (by omega), mkf 49 (by simp [kk_mf]) (by omega), mkf 41 (by simp [kk_mf]) (by omega)]
        refine ⟨⟨a1, a2, a3⟩, a4, a5, fun p p0 p1 => ?_⟩
        by_cases s : S p
        · have a := rS p s
          exact ⟨by omega, fun w => absurd k41 w⟩
        · rcases pg p p0 p1 s with w | w
          · rw [w.2.2]; exact a6 p p0 p1
          · rw [w.2.2]; exact ⟨by omega, fun _ => rfl⟩
      · exact kk_MWcp (ms t n ht.1 (by omega) n0 n1 (fun e => q e.2)) (kk_MWC hc ⟨ht.1, by omega⟩ ⟨n0, n1⟩)
    · rw [hs]
      exact kk_MWcp (m28 n n0 n1) (kk_MWC hc ⟨ht.1, by omega⟩ ⟨n0, n1⟩)
  · intro t1 n1 p1 t2 n2 p2 T1 N1 P1 T2 N2 P2 z1 z2
    rcases cls t1 n1 p1 T1 N1.1 N1.2 P1.1 P1.2 z1 with c1 | c1 <;> rcases cls t2 n2 p2 T2 N2.1 N2.2 P2.1 P2.2 z2 with c2 | c2
    · rw [c1.1, c1.2.1, c2.1, c2.2.1]
      exact ⟨fun e => by rw [iR p1 p2 c1.2.2 c2.2.2 e], fun e => by rw [iB p1 p2 c1.2.2 c2.2.2 e]⟩
    · rw [c1.1, c1.2.1, c2.1, c2.2.1]
      exact ⟨fun e => absurd (rH p1 t2 n2 p2 c1.2.2 T2 N2.1 N2.2 P2.1 P2.2 e.symm) c2.2.2, fun e => absurd (bH p1 t2 n2 p2 c1.2.2 (T28 t2 T2).1 (T28 t2 T2).2 N2.1 N2.2 P2.1 P2.2 e.symm) c2.2.2⟩
    · rw [c1.1, c1.2.1, c2.1, c2.2.1]
      exact ⟨fun e => absurd (rH p2 t1 n1 p1 c2.2.2 T1 N1.1 N1.2 P1.1 P1.2 e) c1.2.2, fun e => absurd (bH p2 t1 n1 p1 c2.2.2 (T28 t1 T1).1 (T28 t1 T1).2 N1.1 N1.2 P1.1 P1.2 e) c1.2.2⟩
    · rw [c1.1] at z1 ⊢
      rw [c2.1] at z2 ⊢
      rw [c1.2.1, c2.2.1]
      exact hK.2.2.2.2.2.1 t1 n1 p1 t2 n2 p2 T1 N1 P1 T2 N2 P2 z1 z2
  · intro u n1 p1 n2 p2 T1 N1 P1 N2 P2 z1 e
    have z2 : Z (27, u, n2) p2 ≠ 0 := by rw [← e]; exact z1
    rcases cls u n1 p1 T1 N1.1 N1.2 P1.1 P1.2 z1 with c1 | c1 <;> rcases cls u n2 p2 T1 N2.1 N2.2 P2.1 P2.2 z2 with c2 | c2
    · rw [c1.1, c1.2.1, c2.2.1] at e
      exact ⟨by rw [c1.2.1, c2.2.1], iR p1 p2 c1.2.2 c2.2.2 e⟩
    · rw [c2.1, c1.2.1] at e
      rw [show (27, u, m) = ((27, t, m) : mm_Id) by rw [c1.1]] at e
      exact absurd (rH p1 u n2 p2 c1.2.2 T1 N2.1 N2.2 P2.1 P2.2 e.symm) c2.2.2
    · rw [c1.1, c2.2.1] at e
      rw [show (27, u, m) = ((27, t, m) : mm_Id) by rw [c2.1]] at e
      exact absurd (rH p2 u n1 p1 c2.2.2 T1 N1.1 N1.2 P1.1 P1.2 e) c1.2.2
    · rw [c1.1] at z1 e
      rw [c2.1] at e
      exact hK.2.2.2.2.2.2.1 u n1 p1 n2 p2 T1 N1 P1 N2 P2 z1 e
  · have a := e16 0 e e0 e1 (fun p s => by have := (rS p s).2.1; omega)
    rw [show 60 * 0 + e = e by omega] at a
    rw [a]; exact hK.2.2.2.2.2.2.2.2.1.1 e e0 e1
  · refine Int.le_trans (kk_cntle (fun c _ _ q => ?_)) hW.2.1.2.2.1
    exact ⟨t, ⟨ht.1, by omega⟩, by rw [kk_NC hc t ht.1 (by omega)]; exact hno, by omega, (kk_bscp m28).1 q⟩
  · rw [k0]; exact hW.2.2.1.2.2.2.2.2.2.2.2.2.2.2.1 t ht.1 (by omega) hno
  · refine kk_KGe (fun x j hx => fr x j (fun w => ?_)) hW.2.2.2
    have r : x.1 = 1 ∨ x.1 = 5 ∨ x.1 = 6 ∨ x.1 = 14 ∨ x.1 = 65 ∨ x.1 = 40 ∧ j ≠ 0 ∧ j ≠ 18 ∨ x.1 = 24 ∧ (x.2.1 = 26 ∨ x.2.1 = 27) := by
      rcases hx with ⟨q, _⟩ | q | q | q | q | ⟨q, q2⟩ | q
      · exact Or.inl (by rw [q])
      · omega
      · omega
      · omega
      · omega
      · have : x.1 = 40 := by rw [q]
        omega
      · omega
    rcases kk_pxr w with w | w | w | w | w | w | w | w <;> omega
  · intro i i0 i1
    rw [M 63 _ _ _ (by omega), M 62 _ _ _ (by omega), C 34 i 0 2 (by omega) (by omega) (by omega) (by omega) (by omega)]
    have d := kk_h17 hc i i0 i1
    refine ⟨fun q => ?_, fun q => ?_⟩
    · obtain ⟨y1, y2, y3, y4, y5, y6⟩ := d.1 q
      refine ⟨y1, y2, ?_, y4, by rw [no]; exact y5, fun a a0 a1 => ?_⟩
      · rw [C 24 _ _ 0 (by omega) (by omega) (by omega) (by omega) (by omega)]; exact y3
      · rw [C 35 i 0 a (by omega) (by omega) (by omega) (by omega) (by omega), M 64 _ _ _ (by omega)]; exact y6 a a0 a1
    · obtain ⟨y1, y2⟩ := d.2 q
      exact ⟨y1, fun a a0 a1 => by rw [M 64 _ _ _ (by omega)]; exact y2 a a0 a1⟩
  · intro a a0 a1
    rw [M 64 _ _ _ (by omega)]
    exact kk_h18 hc a a0 a1
  · intro i n i0 i1 n0 n1 z z5
    rw [C 24 i n 0 (by omega) (by omega) (by omega) (by omega) (by omega)] at z
    rw [C 24 i n 5 (by omega) (by omega) (by omega) (by omega) (by omega)] at z5
    obtain ⟨j, hj, q, q2⟩ := kk_h19 hc i n i0 i1 n0 n1 z z5
    exact ⟨j, hj, q, by rw [C 34 j 0 2 (by omega) (by omega) (by omega) (by omega) (by omega)]; exact q2⟩
  · refine kk_KPc (fun u n t0 t1 n0 n1 => hK.2.1 u n (by unfold mm_isT; omega) n0 n1) (fun s2 n s0 s1 n0 n1 => kk_MWC hc ⟨s0, s1⟩ ⟨n0, n1⟩) ?_ (fun s2 _ _ => no s2) (fun f k hf => ?_) (fun f u n j f0 f1 t0 t1 _ => C f u n j (by omega) (by omega) (by omega) (by omega) (by omega)) (fun s2 x j s0 s1 hx => ?_) (fun u n p i u0 u1 n0 n1 p0 p1 _ i0 i1 => o16 u n p i (by unfold mm_isT; omega) n0 n1 p0 p1 (by omega) i0 i1) (fun u n p i u0 u1 n0 n1 p0 p1 _ i0 i1 => o54 u n p i (by unfold mm_isT; omega) n0 n1 p0 p1 (by omega) i0 i1) hc.2
    · rw [C 1 0 0 13 (by omega) (by omega) (by omega) (by omega) (by omega), M 40 0 0 33 (by omega)]; exact kk_ac hc
    · unfold kk_q4 at hf
      exact M f _ _ _ (by omega)
    · obtain ⟨n, n0, n1, q⟩ := hx
      exact mxE s2 n x j (by omega) n0 n1 q (Or.inl (by omega))

