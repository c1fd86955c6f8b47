/-! the calls of both: crash, the call -/
/-- what a crash leaves here; hcc: ahead of what is put down -/
def kk_cq (P hcc gF : mm_Id → Int → Int) (dh1 : Int → Int) : Prop :=
  kk_R hcc ∧ kk_pdC hcc gF ∧ (∀ a n, 0 ≤ a → a < 5 → 1 ≤ n → n < 37 → kk_uk P a n → kk_cl hcc a n) ∧ (∀ a n, 0 ≤ a → a < 5 → 1 ≤ n → n < 37 → ¬ kk_uk P a n → kk_cpd hcc a n P (13 + a) n) ∧ (∀ t n, t = 26 ∨ t = 27 → 1 ≤ n → n < 37 → kk_cl hcc t n) ∧
  (∀ (f : Nat) a c k, f < 40 → ¬ (f = 15 ∧ k = 7) → f ≠ 17 → f ≠ 18 → f ≠ 19 → ¬ (24 ≤ f ∧ f ≤ 30 ∧ (0 ≤ a ∧ a < 5 ∨ a = 26 ∨ a = 27) ∧ 1 ≤ c ∧ c < 37) → ¬ (f = 31 ∧ 0 ≤ a ∧ a < 5 ∧ k = 6) → ¬ (f = 1 ∧ (k = 9 ∨ k = 12)) → ¬ (f = 5 ∧ k = 2) → hcc (f, a, c) k = P (f, a, c) k) ∧
  (∀ a, 0 ≤ a → a < 5 → ¬ P (31, a, 0) 3 = 0 → hcc (31, a, 0) 6 = 1) ∧ (∀ a, 0 ≤ a → a < 5 → P (31, a, 0) 3 = 0 → hcc (31, a, 0) 6 = P (31, a, 0) 6 ∧ (P (31, a, 0) 6 = 0 → ∀ (f : Nat) n k, 24 ≤ f → f ≤ 30 → hcc (f, a, n) k = P (f, a, n) k)) ∧ (hcc (1, 0, 0) 12 = 0 ∧ hcc (1, 0, 0) 9 = 0 ∧ hcc (5, 0, 0) 2 = 0) ∧
  (∀ q, 0 ≤ q → q < 8 → ¬ mm_isD (dh1 q))
theorem s41t {b : Int} {P A : mm_Id → Int → Int} {dh : Int → Int} {nx ns : Int} {Q : mm_V → mm_H → Prop} (hx : 5275 ≤ nx) (hc : kk_core b P dh) {t : Int} {v2 v3 v4 : mm_V} (eA : ∀ (x : mm_Id) k, x.1 < 40 → A x k = P x k)
    (K : ∀ gF dh1 hcc, kk_cq P hcc gF dh1 → (∀ (x : mm_Id) k, 40 ≤ x.1 → gF x k = A x k) → (∀ (x : mm_Id) k, 8 ≤ x.1 → x.1 ≤ 13 → gF x k = P x k) → Q (zI (P (1, 0, 0) 13)) (mm_z gF dh1 nx ns)) :
    mm_Wp 41 (mm_blk 41 3) [zR (1, 0, 0), zI t, v2, v3, v4] [] (mm_z A dh nx ns) Q := by
  have h22 : ∀ a, mm_isT a → P (22, a, 0) 2 = kk_as a := hc.1.1.2.2.2.2.2.2.2.2.2.1
  rw [r_41_3 (hvx1 := rfl) (hx := hx), eA _ _ (by decide)]
  refine s41l hx hc eA (fun B dh1 v I => ?_)
  obtain ⟨I1, I2, I3, I4, I5, I6, I7, I8, I9⟩ := I
  have bO : ∀ (f : Nat) a n k, 24 ≤ f → f ≤ 30 → ¬ (0 ≤ a ∧ a < 5 ∧ 1 ≤ n ∧ n < 37) → B (f, a, n) k = P (f, a, n) k := fun f a n k f0 f1 q => I4 f a n k (by omega) (by omega) (by omega) (by omega) (by omega) (by omega) (by omega)
  have nwB : ∀ a n, mm_isT a → 1 ≤ n → n < 37 → kk_nw B a n := fun a n hT n0 n1 => by
    by_cases q : 0 ≤ a ∧ a < 5
    · by_cases d : kk_uk P a n
      · exact kk_nwcl (I2 a n q.1 q.2 n0 n1 d)
      · exact kk_nwcp (I3 a n q.1 q.2 n0 n1 d) (kk_nwC hc (mm_T18 ⟨by omega, by omega⟩) ⟨n0, n1⟩)
    · exact kk_nwcp (kk_cpdr (fun f k f0 f1 => bO f a n k f0 f1 (fun w => q ⟨w.1, w.2.1⟩))) (kk_nwC hc hT ⟨n0, n1⟩)
  have aB : ∀ a, mm_isT a → B (22, a, 0) 2 = kk_as a := fun a hT => by rw [I4 22 a 0 2 (by decide) (by omega) (by decide) (by decide) (by decide) (by omega) (by omega)]; exact h22 a hT
  refine s64p hx I1 (fun a n a0 a1 n0 n1 => nwB a n (mm_T18 ⟨a0, a1⟩) n0 n1) (fun a a0 a1 => by rw [aB a (mm_T18 ⟨by omega, a1⟩)]; exact if_neg (by omega)) (fun g k1 k2 k3 => ?_)
  rw [mm_pI, r_41_7_2 (hx := hx), r_119_e (hx := hx), mm_pU, r_41_7_9 (hx := hx)]
  obtain ⟨g1, hg1⟩ : ∃ q, q = mm_up (mm_up (mm_up g (1, 0, 0) 12 0) (5, 0, 0) 2 0) (1, 0, 0) 9 0 := ⟨_, rfl⟩
  rw [← hg1]
  have f1 : ∀ (x : mm_Id) k, ¬ (x = (1, 0, 0) ∧ (k = 9 ∨ k = 12)) → ¬ (x = (5, 0, 0) ∧ k = 2) → g1 x k = g x k := fun x k q q2 => by rw [hg1, mm_upne' (fun v => q ⟨v.1, Or.inl v.2⟩), mm_upne' q2, mm_upne' (fun v => q ⟨v.1, Or.inr v.2⟩)]
  have gB : ∀ (f : Nat) a n k, 24 ≤ f → f ≤ 30 → ¬ (13 ≤ a ∧ a < 18) → g (f, a, n) k = B (f, a, n) k := fun f a n k f0 f1' q => k1.2.2.2.2 _ _ (by show f < 40; omega) (kk_ctn f0) (by rintro ⟨i, hi, _, w⟩; unfold kk_tr at w; simp at w; omega) (by rintro ⟨i, _, w, _⟩; simp at w; omega) (by rintro ⟨w, _⟩; simp at w; omega)
  have R1 : kk_R g1 := by rw [hg1]; exact kk_Rup (by omega) (kk_Rup (by omega) (kk_Rup (by omega) k1.1))
  have nw1 : ∀ a n, a = 26 ∨ a = 27 → 1 ≤ n → n < 37 → kk_nw g1 a n := fun a n ha n0 n1 => kk_nwcp (kk_cpdr (fun f k f0 f1' => by rw [f1 _ _ (by rintro ⟨v, _⟩; simp at v; omega) (by rintro ⟨v, _⟩; simp at v; omega)]; exact gB f a n k f0 f1' (by omega))) (nwB a n (by unfold mm_isT; omega) n0 n1)
  have a1 : ∀ a, a = 26 ∨ a = 27 → g1 (22, a, 0) 2 = kk_as a := fun a ha => by
    rw [f1 _ _ (by simp) (by simp), k1.2.2.2.2 _ _ (by simp) (by simp [kk_ct]) (by rintro ⟨i, hi, _, w⟩; unfold kk_tr at w; simp at w) (by rintro ⟨i, _, w, _⟩; simp at w) (by simp)]
    exact aB a (by unfold mm_isT; omega)
  refine s166 mm_t26 hx R1 (fun n n0 n1 => (nw1 26 n (Or.inl rfl) n0 n1).2.2) (a1 26 (Or.inl rfl)) (fun g2 r2 c2 d2 => ?_)
  have d2' : ∀ (f : Nat) a c k, ¬ (f = 15 ∧ k = 7) → f ≠ 17 → f ≠ 18 → f ≠ 19 → ¬ (24 ≤ f ∧ f ≤ 30 ∧ a = 26 ∧ 1 ≤ c ∧ c < 37) → g2 (f, a, c) k = g1 (f, a, c) k := fun f a c k q1 q2 q3 q4 q5 => d2 _ _ (by unfold kk_ct; simp; omega) (by unfold kk_tr; simp; omega)
  rw [mm_pU, r_41_7_15 (hx := hx)]
  refine s166 mm_t27 hx r2 (fun n n0 n1 => (kk_nwcp (kk_cpdr (fun f k f0 f1' => d2' f 27 n k (by omega) (by omega) (by omega) (by omega) (by omega))) (nw1 27 n (Or.inr rfl) n0 n1)).2.2) (by rw [d2' 22 27 0 2 (by omega) (by decide) (by decide) (by decide) (by omega)]; exact a1 27 (Or.inr rfl)) (fun gF r3 c3 d3 => ?_)
  have d3' : ∀ (f : Nat) a c k, ¬ (f = 15 ∧ k = 7) → f ≠ 17 → f ≠ 18 → f ≠ 19 → ¬ (24 ≤ f ∧ f ≤ 30 ∧ a = 27 ∧ 1 ≤ c ∧ c < 37) → gF (f, a, c) k = g2 (f, a, c) k := fun f a c k q1 q2 q3 q4 q5 => d3 _ _ (by unfold kk_ct; simp; omega) (by unfold kk_tr; simp; omega)
  have Fg1 : ∀ (f : Nat) a c k, ¬ (f = 15 ∧ k = 7) → f ≠ 17 → f ≠ 18 → f ≠ 19 → ¬ (24 ≤ f ∧ f ≤ 30 ∧ (a = 26 ∨ a = 27) ∧ 1 ≤ c ∧ c < 37) → gF (f, a, c) k = g1 (f, a, c) k := fun f a c k q1 q2 q3 q4 q5 => by rw [d3' f a c k q1 q2 q3 q4 (by omega), d2' f a c k q1 q2 q3 q4 (by omega)]
  have Fg : ∀ (f : Nat) a c k, ¬ (f = 15 ∧ k = 7) → f ≠ 17 → f ≠ 18 → f ≠ 19 → ¬ (24 ≤ f ∧ f ≤ 30 ∧ (a = 26 ∨ a = 27) ∧ 1 ≤ c ∧ c < 37) → ¬ (f = 1 ∧ (k = 9 ∨ k = 12)) → ¬ (f = 5 ∧ k = 2) → gF (f, a, c) k = g (f, a, c) k := fun f a c k q1 q2 q3 q4 q5 q6 q7 => by
    rw [Fg1 f a c k q1 q2 q3 q4 q5, f1 _ _ (by rintro ⟨v, v2⟩; simp at v; omega) (by rintro ⟨v, v2⟩; simp at v; omega)]
  have cl6 : ∀ t n, t = 26 ∨ t = 27 → 1 ≤ n → n < 37 → kk_cl gF t n := fun t n ht n0 n1 => by
    rcases ht with q | q
    · rw [q]; exact kk_cle (fun f k w => d3' f 26 n k (by omega) (by omega) (by omega) (by omega) (by omega)) (c2 n n0 n1)
    · rw [q]; exact c3 n n0 n1
  rw [mm_pU, r_41_7_18 (hx := hx)]
  -- what lay ahead of what is put down
  obtain ⟨E, E1, E2⟩ : ∃ E : mm_Id → Int → Int, (∀ (f : Nat) a c k, (24 ≤ f ∧ f ≤ 30 ∧ (a = 26 ∨ a = 27) ∧ 1 ≤ c ∧ c < 37) ∨ (f = 1 ∧ (k = 9 ∨ k = 12)) ∨ (f = 5 ∧ k = 2) → E (f, a, c) k = gF (f, a, c) k) ∧ (∀ (f : Nat) a c k, ¬ ((24 ≤ f ∧ f ≤ 30 ∧ (a = 26 ∨ a = 27) ∧ 1 ≤ c ∧ c < 37) ∨ (f = 1 ∧ (k = 9 ∨ k = 12)) ∨ (f = 5 ∧ k = 2)) → E (f, a, c) k = B (f, a, c) k) := by
    classical
    refine ⟨fun x k => if (24 ≤ x.1 ∧ x.1 ≤ 30 ∧ (x.2.1 = 26 ∨ x.2.1 = 27) ∧ 1 ≤ x.2.2 ∧ x.2.2 < 37) ∨ (x.1 = 1 ∧ (k = 9 ∨ k = 12)) ∨ (x.1 = 5 ∧ k = 2) then gF x k else B x k, fun f a c k q => ?_, fun f a c k q => ?_⟩
    · exact if_pos q
    · exact if_neg q
  obtain ⟨hcc, cR, cE⟩ := kk_cor (A := E) (fun u n p hT hn p0 p1 => by
    by_cases q : (u = 26 ∨ u = 27) ∧ 1 ≤ n
    · unfold mm_isN at hn
      rw [E1 27 u n p (Or.inl ⟨by omega, by omega, q.1, q.2, by omega⟩)]; exact r3.1 u n p hT hn p0 p1
    · rw [E2 27 u n p (by omega)]; exact I1.1 u n p hT hn p0 p1) (by rw [E2 15 0 0 8 (by omega)]; exact ⟨I1.2.2.2.1, I1.2.2.2.2.1⟩)
  have cE' : ∀ (f : Nat) a c k, ¬ (f = 15 ∧ k = 7) → f ≠ 17 → f ≠ 18 → f ≠ 19 → hcc (f, a, c) k = E (f, a, c) k := fun f a c k q1 q2 q3 q4 => cE _ _ (by unfold kk_ct; simp; omega)
  have cB : ∀ (f : Nat) a c k, ¬ (f = 15 ∧ k = 7) → f ≠ 17 → f ≠ 18 → f ≠ 19 → ¬ ((24 ≤ f ∧ f ≤ 30 ∧ (a = 26 ∨ a = 27) ∧ 1 ≤ c ∧ c < 37) ∨ (f = 1 ∧ (k = 9 ∨ k = 12)) ∨ (f = 5 ∧ k = 2)) → hcc (f, a, c) k = B (f, a, c) k := fun f a c k q1 q2 q3 q4 q5 => (cE' f a c k q1 q2 q3 q4).trans (E2 f a c k q5)
  have cFF : ∀ (f : Nat) a c k, ¬ (f = 15 ∧ k = 7) → f ≠ 17 → f ≠ 18 → f ≠ 19 → (24 ≤ f ∧ f ≤ 30 ∧ (a = 26 ∨ a = 27) ∧ 1 ≤ c ∧ c < 37) ∨ (f = 1 ∧ (k = 9 ∨ k = 12)) ∨ (f = 5 ∧ k = 2) → hcc (f, a, c) k = gF (f, a, c) k := fun f a c k q1 q2 q3 q4 q5 => (cE' f a c k q1 q2 q3 q4).trans (E1 f a c k q5)
  have pc : kk_pdC hcc gF := by
    refine ⟨r3, fun i n i0 i1 z n0 n1 => ?_, fun i i0 i1 => ?_, ?_, fun x k x0 q1 q2 q3 q4 => ?_⟩
    · rw [cB 31 i 0 6 (by omega) (by decide) (by decide) (by decide) (by omega)] at z
      refine kk_cpdt (kk_cpdr (fun f k f0 f1' => Fg f _ n k (by omega) (by omega) (by omega) (by omega) (by omega) (by omega) (by omega))) (kk_cpdt (k1.2.1 i n i0 i1 z n0 n1) (kk_cpdr (fun f k f0 f1' => (cB f i n k (by omega) (by omega) (by omega) (by omega) (by omega)).symm)))
    · rw [Fg 31 i 0 6 (by omega) (by decide) (by decide) (by decide) (by omega) (by omega) (by omega)]; exact k1.2.2.1 i i0 i1
    · rw [Fg 1 0 0 13 (by omega) (by decide) (by decide) (by decide) (by omega) (by omega) (by omega)]; exact k1.2.2.2.1
    · obtain ⟨f, a, c⟩ := x
      have n7 : ¬ (f = 15 ∧ a = 0 ∧ c = 0 ∧ k = 7) := fun w => q1 (Or.inl ⟨by rw [w.1, w.2.1, w.2.2.1], w.2.2.2⟩)
      by_cases w : (24 ≤ f ∧ f ≤ 30 ∧ (a = 26 ∨ a = 27) ∧ 1 ≤ c ∧ c < 37) ∨ (f = 1 ∧ (k = 9 ∨ k = 12)) ∨ (f = 5 ∧ k = 2)
      · rw [cFF f a c k (by omega) (by omega) (by omega) (by omega) w]
      · have e1 : gF (f, a, c) k = g1 (f, a, c) k := by
          rw [d3 _ _ q1 (by unfold kk_tr; simp; omega), d2 _ _ q1 (by unfold kk_tr; simp; omega)]
        have e2 : hcc (f, a, c) k = B (f, a, c) k := by rw [cE _ _ q1]; exact E2 f a c k w
        rw [e1, e2, f1 _ _ (by rintro ⟨v, v2⟩; simp at v; omega) (by rintro ⟨v, v2⟩; simp at v; omega)]
        refine k1.2.2.2.2 _ _ x0 q1 (fun v => q2 ?_) q3 q4
        obtain ⟨i, hi, v2, v3⟩ := v
        exact ⟨i, hi, by rw [cB 31 i 0 6 (by omega) (by decide) (by decide) (by decide) (by omega)]; exact v2, v3⟩
  have i31 : ∀ a k, hcc (31, a, 0) k = B (31, a, 0) k := fun a k => cB 31 a 0 k (by omega) (by decide) (by decide) (by decide) (by omega)
  refine K gF dh1 hcc ⟨cR, pc, fun a n a0 a1 n0 n1 q => kk_cle (fun f k w => cB f a n k (by omega) (by omega) (by omega) (by omega) (by omega)) (I2 a n a0 a1 n0 n1 q), fun a n a0 a1 n0 n1 q => kk_cpdt (kk_cpdr (fun f k f0 f1' => cB f a n k (by omega) (by omega) (by omega) (by omega) (by omega))) (I3 a n a0 a1 n0 n1 q), fun t n ht n0 n1 => kk_cle (fun f k w => cFF f t n k (by omega) (by omega) (by omega) (by omega) (Or.inl ⟨by omega, by omega, ht, n0, n1⟩)) (cl6 t n ht n0 n1), fun f a c k f0 q1 q2 q3 q4 q5 q6 q7 q8 => ?_, fun a a0 a1 q => by rw [i31]; exact I5 a a0 a1 q, fun a a0 a1 q => ?_, ⟨?_, ?_, ?_⟩, fun q q0 q1 w => ?_⟩ (fun x k q => ?_) (fun x k q q2 => ?_)
  · rw [cB f a c k q1 q2 q3 q4 (by omega)]
    exact I4 f a c k f0 q1 q2 q3 q4 (by omega) (by omega)
  · have w := I6 a a0 a1 q
    rw [i31]
    exact ⟨w.1, fun w2 f n k f0 f1' => by rw [cB f a n k (by omega) (by omega) (by omega) (by omega) (by omega)]; exact w.2 w2 f n k f0 f1'⟩
  · rw [cFF 1 0 0 12 (by omega) (by decide) (by decide) (by decide) (by omega), Fg1 1 0 0 12 (by omega) (by decide) (by decide) (by decide) (by omega), hg1, mm_upj (by decide), mm_upf (by decide), mm_ups]
  · rw [cFF 1 0 0 9 (by omega) (by decide) (by decide) (by decide) (by omega), Fg1 1 0 0 9 (by omega) (by decide) (by decide) (by decide) (by omega), hg1, mm_ups]
  · rw [cFF 5 0 0 2 (by omega) (by decide) (by decide) (by decide) (by omega), Fg1 5 0 0 2 (by omega) (by decide) (by decide) (by decide) (by omega), hg1, mm_upf (by decide), mm_ups]
  · have w0 := w
    unfold mm_isD at w
    by_cases y : mm_isD (dh q)
    · have y0 := y
      unfold mm_isD at y
      rw [I8 q q0 q1 ⟨y0, y.2⟩] at w
      omega
    · rw [I9 q q0 q1 (fun z => y z.1)] at w0
      exact y w0
  · obtain ⟨f, a, c⟩ := x
    simp at q
    rw [Fg f a c k (by omega) (by omega) (by omega) (by omega) (by omega) (by omega) (by omega), k2 _ k q]
    exact I7 _ k q
  · obtain ⟨f, a, c⟩ := x
    simp at q q2
    rw [Fg f a c k (by omega) (by omega) (by omega) (by omega) (by omega) (by omega) (by omega), k3 _ k q q2]
    exact I4 f a c k (by omega) (by omega) (by omega) (by omega) (by omega) (by omega) (by omega)
/-- and there -/
theorem kk_c41t {b t : Int} {h P G gF hcc : mm_Id → Int → Int} {dh dh1 : Int → Int} {nx ns : Int} {v2 v3 v4 : mm_V} (hy : 10581 ≤ nx) (hb : b + 1 ≤ 1000000) (hc : kk_core b P dh) (cq : kk_cq P hcc gF dh1) (g : kk_cg P G) (gc : ∀ (x : mm_Id) k, x.1 < 40 → G x k = gF x k) (sc : ∀ x j, kk_scr x j → G x j = h x j) :
    mm_Wp 267 (mm_blk 267 2) [zR (40, 0, 0), zI t, v2, v3, v4] [] (mm_z G dh1 nx ns) (fun (r2 : mm_V) (h2 : mm_H) => r2 = zI (P (1, 0, 0) 13) ∧ ∃ g2, h2 = mm_z g2 dh1 nx ns ∧ kk_core (b + 1) g2 dh1 ∧ ∀ x j, kk_scr x j → g2 x j = h x j) := by
  obtain ⟨cR, pc, C1, C2, C6, cF, C5, C50, s1, dcl⟩ := cq
  refine m267p hy hc rfl g (fun g1 gm w3 w4 p1 p2 m1 m2 m53 mF z63 z64 z40 => ?_)
  have GP : ∀ (x : mm_Id) k, 40 ≤ x.1 → x.1 < 41 ∨ 53 < x.1 → ¬ (x = (40, 0, 0) ∧ k = 0) → G x k = P x k := fun x k q q2 q3 => g.1 x k q (by rintro ⟨a, _, w⟩; exact kk_sx6 q2 w) q3
  have pk : ∀ a n, 13 ≤ a → a < 29 → 1 ≤ n → n < 37 → kk_ms g1 (36 * a + n - 1) P (36 * a + n - 1) := fun a n a0 a1 n0 n1 => by
    have w := kk_mwC hc (s := a) (n := n) (by omega) ⟨n0, n1⟩
    have e1 : ∀ x j, kk_mx (36 * a + n - 1) x j → g1 x j = G x j := fun x j hx2 => p2 x j (by
      rintro ⟨c, hc2, q⟩
      exact kk_sxd (s := a) (s2 := c) (by omega) ⟨n, n0, n1, hx2⟩ q)
    by_cases q : a < 26
    · have m := g.2 (a - 13) n (by omega) (by omega) n0 n1
      rw [show 13 + (a - 13) = a by omega] at m
      refine kk_mst (kk_msr ?_ ?_ e1) m
      · rw [m.1 44 kk_f44]; exact w.2.1.2
      · rw [m.1 49 kk_f49]; exact w.2.2.2
    · refine kk_msr w.2.1.2 w.2.2.2 (fun x j hx2 => ?_)
      have r := kk_mxr hx2
      rw [e1 x j hx2]
      exact g.1 x j (by omega) (by
        rintro ⟨c, hc2, q2⟩
        exact kk_sxd (s := a) (s2 := 13 + c) (by omega) ⟨n, n0, n1, hx2⟩ q2) (by rintro ⟨v, _⟩; rw [v] at r; simp at r)
  have WP : kk_W b (kk_mix hcc gm) dh1 := kk_crW hc cR C1 C2 C6 cF C5 C50 s1 p1 pk (fun j => by
    rw [p2 _ _ (by rintro ⟨a, _, w⟩; exact kk_sx6 (by omega) w)]
    exact GP _ _ (by decide) (by decide) (by simp)) m1 m2 m53 (fun x j q q2 q3 q4 q5 => by
    rw [mF x j q2 q3 q4 (fun v => q5 ⟨v.1, by omega⟩)]
    exact GP x j q q2 (fun v => q5 ⟨v.1, by omega⟩)) z63 z64 z40 dcl
  have h01 : ∀ k, 0 ≤ k → k < 13 → gm (60, 0, 0) k = 0 ∨ gm (60, 0, 0) k = 1 := fun k k0 k1 => by
    have := WP.2.2.1.2.2.2.2.2.2.2.2.2.1 k k0 (by omega)
    rw [kk_mixM (by decide)] at this
    exact this
  refine m208p hy h01 (fun k n k0 k1 n0 n1 => ?_) (fun g2 l1 l2 l3 => ?_)
  · have := (WP.1.2.2.2.2.1 k n k0 (by omega) n0 n1).1
    unfold kk_mw at this
    rw [kk_mixM (by decide), kk_mixM (by decide), kk_mixM (by decide)] at this
    exact this
  have e33 : G (40, 0, 0) 33 = P (1, 0, 0) 13 := by rw [GP _ _ (by decide) (by decide) (by simp)]; exact (kk_ac hc).1.symm
  rw [mm_pU, r_267_10_11 (hy := hy), e33]
  refine ⟨rfl, g2, rfl, kk_coreS hb (kk_downC WP pc l1 (fun x k q => ?_)), fun x k q => ?_⟩
  · rw [l2 x k q, mF x k (by omega) (by omega) (by omega) (by rintro ⟨v, _⟩; rw [v] at q; simp at q)]
    exact gc x k q
  · rw [l3 x k q, ← sc x k q]
    have q6 := q
    unfold kk_scr at q6
    obtain ⟨f, a, c⟩ := x
    simp at q6
    exact mF _ k (by show f < 41 ∨ 53 < f; omega) (by show f ≠ 63; omega) (by show f ≠ 64; omega) (by rintro ⟨v, v2⟩; simp at v; omega)

theorem c_41 {b : Int} {h : mm_Id → Int → Int} {dh : Int → Int} {nx ns : Int} (hy : 10581 ≤ nx) (hc : kk_core b h dh) (hb : b + 1 ≤ 1000000) {t : Int} (ht : -2147483648 ≤ t ∧ t < 2147483648) : kk_call 41 267 [zI t] b h dh nx ns kk_SI := by
  unfold kk_call
  have hx : 5275 ≤ nx := by omega
  have hc0 : kk_core b (mm_up h (40, 0, 0) 0 0) dh := kk_core0 hc
  have fin : ∀ v, kk_SI (zI v) → mm_Cl 267 [zR (40, 0, 0), zI t] (mm_z h dh nx ns) (fun (r2 : mm_V) (h2 : mm_H) => r2 = zI v ∧ ∃ g2, h2 = mm_z g2 dh nx ns ∧ kk_core (b + 1) g2 dh ∧ ∀ x j, kk_scr x j → g2 x j = h x j) →
      (fun (r : mm_V) (h1 : mm_H) => kk_SI r ∧ ∃ g dh1, h1 = mm_z g dh1 nx ns ∧ mm_Cl 267 [zR (40, 0, 0), zI t] (mm_z g dh1 nx ns) (fun r2 h2 => r2 = r ∧ ∃ g2, h2 = mm_z g2 dh1 nx ns ∧ kk_core (b + 1) g2 dh1 ∧ ∀ x j, kk_scr x j → g2 x j = h x j)) (zI v) (mm_z h dh nx ns) :=
    fun v h1 h2 => ⟨h1, h, dh, rfl, h2⟩
  have mfin : ∀ v w : Int, w = v → (fun (r2 : mm_V) (h2 : mm_H) => r2 = zI v ∧ ∃ g2, h2 = mm_z g2 dh nx ns ∧ kk_core (b + 1) g2 dh ∧ ∀ x j, kk_scr x j → g2 x j = h x j) (zI w) (mm_z (mm_up h (40, 0, 0) 0 0) dh nx ns) :=
    fun v w e => ⟨by rw [e], _, rfl, kk_coreS hb hc0, fun x j hs => kk_scr0 hs⟩
  have bad : ¬ (0 ≤ t ∧ t ≤ 4) → mm_Wp 41 (mm_blk 41 1) [zR (1, 0, 0), zI t, zU, zU, zU] [] (mm_z h dh nx ns) (fun (r : mm_V) (h1 : mm_H) => kk_SI r ∧ ∃ g dh1, h1 = mm_z g dh1 nx ns ∧ mm_Cl 267 [zR (40, 0, 0), zI t] (mm_z g dh1 nx ns) (fun r2 h2 => r2 = r ∧ ∃ g2, h2 = mm_z g2 dh1 nx ns ∧ kk_core (b + 1) g2 dh1 ∧ ∀ x j, kk_scr x j → g2 x j = h x j)) := fun w => by
    rw [r_41_1 (hx := hx)]
    refine fin (-2) ⟨_, rfl, by omega, by omega⟩ ?_
    rw [r_267_e (hy := hy)]
    refine m174n hy w ?_
    rw [mm_pI, r_267_0_8 (hy := hy), if_pos rfl]
    exact mfin _ _ rfl
  have sI : ∀ {P : mm_Id → Int → Int}, kk_core b P dh → kk_SI (zI (P (1, 0, 0) 13)) := fun {P} c => by
    have := kk_ac c
    exact ⟨_, rfl, by omega, by omega⟩
  rw [r_41_e (hx := hx)]
  by_cases l1 : t < 0
  · rw [if_pos l1]; exact bad (by omega)
  · rw [if_neg l1]
    by_cases l2 : 4 < t
    · rw [if_pos l2]; exact bad (by omega)
    · rw [if_neg l2]
      by_cases l3 : t = 4
      · rw [if_pos l3]
        have Wh : kk_W b (kk_mix h h) dh := by rw [kk_mixS]; exact hc.1
        refine s64W hx Wh (fun gA k1 k2 k3 => ?_)
        rw [mm_pI, r_41_2_5 (hx := hx)]
        have hMw : ∀ k n, 0 ≤ k → k < 13 → 1 ≤ n → n < 37 → kk_mw h (36 * k + n - 1) := fun k n k0 k9 n0 n1 => kk_mwC hc (by omega) ⟨n0, n1⟩
        have hHo : ∀ k, 0 ≤ k → k < 13 → h (60, 0, 0) k = 0 ∨ h (60, 0, 0) k = 1 := fun k k0 k9 => hc.1.2.2.1.2.2.2.2.2.2.2.2.2.1 k k0 (by omega)
        -- what both put down
        have ex : mm_Cl 208 [zR (40, 0, 0)] (mm_z gA dh nx ns) (fun _ h3 => ∃ P, h3 = mm_z P dh nx ns ∧ kk_pdM gA P ∧ (∀ (x : mm_Id) j, x.1 < 40 → P x j = gA x j) ∧ ∀ x j, kk_scr x j → P x j = gA x j) := m208p hy (fun k k0 k9 => by rw [k2 _ _ (by decide)]; exact hHo k k0 k9) (fun k n k0 k9 n0 n1 => by
          unfold kk_mw
          rw [k2 _ _ (by decide), k2 _ _ (by decide), k2 _ _ (by decide)]
          exact hMw k n k0 k9 n0 n1) (fun P a1 a2 a3 => ⟨P, rfl, a1, a2, a3⟩)
        obtain ⟨_, _, _, _, P, _, pM, pC, _⟩ := ex
        have pM' : kk_pdM h P := kk_pdMc (fun k n k0 k9 n0 n1 => by
          unfold kk_mw
          rw [k2 _ _ (by decide), k2 _ _ (by decide), k2 _ _ (by decide)]
          exact hMw k n k0 k9 n0 n1) (fun x j q => (k2 x j q).symm) pM
        have hcP : kk_core b P dh := kk_downL hc.1 (kk_pdCc (fun _ _ _ => rfl) pC k1) pM'
        refine s41t hx hcP (fun x k q => (pC x k q).symm) (fun gF dh1 hcc cq f40 f8 => ?_)
        have e40 : ∀ (x : mm_Id) k, 40 ≤ x.1 → gF x k = h x k := fun x k q => (f40 x k q).trans (k2 x k q)
        refine ⟨sI hcP, gF, dh1, rfl, ?_⟩
        rw [r_267_e (hy := hy)]
        refine m174y hy (by omega) ?_
        rw [mm_pI, r_267_0_8 (hy := hy), if_neg (by decide), if_pos l3]
        obtain ⟨G0, hG0⟩ : ∃ q, q = mm_up gF (40, 0, 0) 0 0 := ⟨_, rfl⟩
        rw [← hG0]
        have g0h : ∀ (x : mm_Id) k, 40 ≤ x.1 → ¬ (x = (40, 0, 0) ∧ k = 0) → G0 x k = h x k := fun x k q q2 => by rw [hG0, mm_upne' q2]; exact e40 x k q
        have g0c : ∀ (x : mm_Id) k, x.1 < 40 → G0 x k = gF x k := fun x k q => by rw [hG0]; exact kk_clU q (by simp)
        refine m208p hy (fun k k0 k9 => by rw [g0h _ _ (by decide) (by simp)]; exact hHo k k0 k9) (fun k n k0 k9 n0 n1 => by
          unfold kk_mw
          rw [g0h _ _ (by decide) (by simp), g0h _ _ (by decide) (by simp), g0h _ _ (by decide) (by simp)]
          exact hMw k n k0 k9 n0 n1) (fun G4 a1 a2 a3 => ?_)
        rw [mm_pU, r_267_1_5 (hy := hy)]
        refine kk_c41t hy hb hcP cq ⟨fun x j q q2 q3 => ?_, fun k n k0 k9 n0 n1 => ?_⟩ (fun x k q => (a2 x k q).trans (g0c x k q)) (fun x j q => ?_)
        · by_cases d : kk_dx x j
          · unfold kk_dx at d
            rcases d with ⟨d, d2, d3⟩ | ⟨d, d2, d3⟩ | d
            · have e : ∀ (f : Nat), kk_q4 f → G4 (f, 0, 0) j = P (f, 0, 0) j := fun f hf => by
                have w1 := a1.2.1 (j - 13) f (by omega) (by omega) hf
                have w2 := pM'.2.1 (j - 13) f (by omega) (by omega) hf
                rw [show 13 + (j - 13) = j by omega] at w1 w2
                rw [w1, w2]
                exact g0h _ _ (by unfold kk_q4 at hf; show 40 ≤ f; omega) (by unfold kk_q4 at hf; rintro ⟨v, _⟩; simp at v; omega)
              rcases d with d | d | d | d
              · rw [d]; exact e 57 (by simp [kk_q4])
              · rw [d]; exact e 58 (by simp [kk_q4])
              · rw [d]; exact e 59 (by simp [kk_q4])
              · rw [d]; exact e 60 (by simp [kk_q4])
            · have w1 := a1.2.2.1 (j / 8 - 13) (j % 8) (by omega) (by omega) (by omega) (by omega)
              have w2 := pM'.2.2.1 (j / 8 - 13) (j % 8) (by omega) (by omega) (by omega) (by omega)
              rw [show 8 * (13 + (j / 8 - 13)) + j % 8 = j by omega] at w1 w2
              rw [d, w1, w2]
              exact g0h _ _ (by decide) (by simp)
            · exact absurd d q2
          · by_cases e : x = (40, 0, 0) ∧ j = 33
            · rw [e.1, e.2, a1.1, pM'.1]
            · rw [a1.2.2.2.2 x j q d e, pM'.2.2.2.2 x j q d e]
              exact g0h x j q q3
        · have w := hMw k n k0 k9 n0 n1
          exact kk_msj (kk_mst (a1.2.2.2.1 k n k0 k9 n0 n1) (kk_msr w.2.1.2 w.2.2.2 (fun x i hx2 => by have r := kk_mxr hx2; exact g0h x i (by omega) (by rintro ⟨v, _⟩; rw [v] at r; simp at r)))) (pM'.2.2.2.1 k n k0 k9 n0 n1)
        · rw [a3 x j q]
          rcases kk_scrC q with q5 | q5
          · have q6 := q
            unfold kk_scr at q6
            exact g0h x j q5 (by rintro ⟨v, v2⟩; rw [v] at q6; simp at q6; omega)
          · rw [g0c x j (by omega), f8 x j q5.1 q5.2, pC x j (by omega)]
            exact k3 x j q5.1 q5.2
      · rw [if_neg l3]
        refine s41t hx hc (fun _ _ _ => rfl) (fun gF dh1 hcc cq f40 f8 => ?_)
        refine ⟨sI hc, gF, dh1, rfl, ?_⟩
        rw [r_267_e (hy := hy)]
        refine m174y hy (by omega) ?_
        rw [mm_pI, r_267_0_8 (hy := hy), if_neg (by decide), if_neg l3]
        refine kk_c41t hy hb hc cq ⟨fun x j q q2 q3 => (mm_upne' q3).trans (f40 x j q), fun k n k0 k9 n0 n1 => ?_⟩ (fun x k q => kk_clU q (by simp)) (fun x j q => ?_)
        · have w := kk_mwC hc (s := 13 + k) (n := n) (by omega) ⟨n0, n1⟩
          exact kk_msr w.2.1.2 w.2.2.2 (fun x i hx2 => by have r := kk_mxr hx2; exact (mm_upne' (by rintro ⟨v, _⟩; rw [v] at r; simp at r)).trans (f40 x i (by omega)))
        · rw [kk_scrU q (Or.inr ⟨rfl, by omega⟩)]
          rcases kk_scrC q with q5 | q5
          · exact f40 x j q5
          · exact f8 x j q5.1 q5.2


