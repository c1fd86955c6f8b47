/-! receive, the reference: a tree becomes as the stream's -/
/-- a piece is as that of the stream's -/
def kk_kr (G : mm_Id → Int → Int) (n p : Int) : Prop := (G (41, 0, 0) (36 * 28 + n - 1) = 1 ∧ kk_ctn2 G 28 n) ∧ 0 < G (43, 0, 0) (36 * (36 * 28 + n - 1) + p) ∧ kk_mb G (G (43, 0, 0) (36 * (36 * 28 + n - 1) + p)) (G (43, 0, 0) (36 * (36 * 27 + n - 1) + p))
def kk_pg (t : Int) (G c : mm_Id → Int → Int) (n p : Int) : Prop :=
  (G (43, 0, 0) (36 * (36 * 27 + n - 1) + p) = 0 → c (43, 0, 0) (36 * (36 * t + n - 1) + p) = 0) ∧ (G (43, 0, 0) (36 * (36 * 27 + n - 1) + p) ≠ 0 → kk_kr G n p → c (43, 0, 0) (36 * (36 * t + n - 1) + p) = G (43, 0, 0) (36 * (36 * 28 + n - 1) + p)) ∧
  (G (43, 0, 0) (36 * (36 * 27 + n - 1) + p) ≠ 0 → ¬ kk_kr G n p → (1 ≤ c (43, 0, 0) (36 * (36 * t + n - 1) + p) ∧ c (43, 0, 0) (36 * (36 * t + n - 1) + p) ≤ 3000) ∧ ¬ kk_any G (c (43, 0, 0) (36 * (36 * t + n - 1) + p)) ∧ (∀ n2 p2, 1 ≤ n2 → n2 < 37 → 0 ≤ p2 → p2 < 36 → ¬ (n2 = n ∧ p2 = p) → c (43, 0, 0) (36 * (36 * t + n2 - 1) + p2) ≠ c (43, 0, 0) (36 * (36 * t + n - 1) + p)) ∧
    ∀ e, 0 ≤ e → e < 60 → c (54, 0, 0) (60 * c (43, 0, 0) (36 * (36 * t + n - 1) + p) + e) = G (54, 0, 0) (60 * G (43, 0, 0) (36 * (36 * 27 + n - 1) + p) + e))
def kk_RX (t : Int) (G c : mm_Id → Int → Int) : Prop :=
  ((∀ v, 1 ≤ v → v ≤ 3000 → kk_any c v → c (55, 0, 0) v ≠ 0) ∧ (0 ≤ c (40, 0, 0) 18 ∧ c (40, 0, 0) 18 ≤ 3000)) ∧ (∀ v k, kk_any G v → 1 ≤ v → v ≤ 3000 → 0 ≤ k → k < 60 → c (54, 0, 0) (60 * v + k) = G (54, 0, 0) (60 * v + k)) ∧
  (∀ x i, x ≠ (54, 0, 0) → x ≠ (55, 0, 0) → ¬ (x = (40, 0, 0) ∧ i = 18) → ¬ kk_sx t x i → c x i = G x i) ∧ (∀ s, 0 ≤ s → s < 29 → kk_br c s) ∧ (∀ s, 0 ≤ s → s < 29 → kk_fo c s) ∧ (∀ n, 1 ≤ n → n < 37 → c (53, 0, 0) (36 * t + n - 1) = 0 ∨ c (53, 0, 0) (36 * t + n - 1) = 1)
def kk_DN (t : Int) (G c : mm_Id → Int → Int) (n : Int) : Prop := (kk_ctn2 G 27 n → kk_m0 c (36 * t + n - 1) G (36 * 27 + n - 1) ∧ ∀ p, 0 ≤ p → p < 36 → kk_pg t G c n p) ∧ (¬ kk_ctn2 G 27 n → kk_mz c (36 * t + n - 1))
def kk_KA (t : Int) (G c : mm_Id → Int → Int) (n0 : Int) : Prop := kk_RX t G c ∧ (∀ n, 1 ≤ n → n < n0 → kk_DN t G c n) ∧ (∀ n x i, n0 ≤ n → n < 37 → kk_mx (36 * t + n - 1) x i → c x i = G x i) ∧ kk_cnt (kk_any c) ≤ 1200 + 36 * (n0 - 1)
def kk_Kb (t : Int) (G c : mm_Id → Int → Int) (n0 p0 : Int) : Prop := kk_RX t G c ∧ (∀ n, 1 ≤ n → n < n0 → kk_DN t G c n) ∧ (∀ n x i, n0 < n → n < 37 → kk_mx (36 * t + n - 1) x i → c x i = G x i) ∧ kk_cnt (kk_any c) ≤ 1200 + 36 * (n0 - 1) + p0 ∧
  kk_ctn2 G 27 n0 ∧ kk_m0 c (36 * t + n0 - 1) G (36 * 27 + n0 - 1) ∧ (∀ p, 0 ≤ p → p < p0 → kk_pg t G c n0 p) ∧ (∀ p, p0 ≤ p → p < 36 → c (43, 0, 0) (36 * (36 * t + n0 - 1) + p) = G (43, 0, 0) (36 * (36 * 27 + n0 - 1) + p))
/-- facts of where it begins -/
def kk_GF (t : Int) (G : mm_Id → Int → Int) : Prop := (∀ s, 0 ≤ s → s < 29 → kk_br G s) ∧ (∀ s, 0 ≤ s → s < 29 → kk_fo G s) ∧ (∀ s n, 0 ≤ s → s < 29 → 1 ≤ n → n < 37 → kk_mw G (36 * s + n - 1)) ∧ kk_cnt (kk_any G) ≤ 1200 ∧ (∀ v, 1 ≤ v → v ≤ 3000 → kk_any G v → G (55, 0, 0) v ≠ 0) ∧ (0 ≤ G (40, 0, 0) 18 ∧ G (40, 0, 0) 18 ≤ 3000) ∧
  (∀ n p, 1 ≤ n → n < 37 → 0 ≤ p → p < 36 → G (43, 0, 0) (36 * (36 * 28 + n - 1) + p) = G (43, 0, 0) (36 * (36 * t + n - 1) + p)) ∧ (∀ n, 1 ≤ n → n < 37 → G (41, 0, 0) (36 * 28 + n - 1) = G (41, 0, 0) (36 * t + n - 1)) ∧
  (∀ n p e, 1 ≤ n → n < 37 → 0 ≤ p → p < 36 → kk_ctn2 G 27 n → G (43, 0, 0) (36 * (36 * 27 + n - 1) + p) ≠ 0 → 0 ≤ e → e < 60 → -128 ≤ G (54, 0, 0) (60 * G (43, 0, 0) (36 * (36 * 27 + n - 1) + p) + e) ∧ G (54, 0, 0) (60 * G (43, 0, 0) (36 * (36 * 27 + n - 1) + p) + e) < 128)
section
variable {t : Int} {G c c2 : mm_Id → Int → Int}
theorem kk_mxt {n n2 : Int} (h : n ≠ n2) {x : mm_Id} {i : Int} (q : kk_mx (36 * t + n - 1) x i) : ¬ kk_mx (36 * t + n2 - 1) x i := kk_mxd (by omega) q
theorem kk_pgt {n p : Int} (P : kk_pg t G c n p) (ht : 0 ≤ t ∧ t < 13) (hn : 1 ≤ n ∧ n < 37) (hp : 0 ≤ p ∧ p < 36) (fo : kk_fo c t) (e43 : c2 (43, 0, 0) (36 * (36 * t + n - 1) + p) = c (43, 0, 0) (36 * (36 * t + n - 1) + p))
    (o : ∀ n2 p2, 1 ≤ n2 → n2 < 37 → 0 ≤ p2 → p2 < 36 → c2 (43, 0, 0) (36 * (36 * t + n2 - 1) + p2) = c (43, 0, 0) (36 * (36 * t + n2 - 1) + p2) ∨ c2 (43, 0, 0) (36 * (36 * t + n2 - 1) + p2) = 0 ∨ kk_any G (c2 (43, 0, 0) (36 * (36 * t + n2 - 1) + p2)) ∨ ¬ kk_any c (c2 (43, 0, 0) (36 * (36 * t + n2 - 1) + p2)))
    (e54 : ∀ v k, kk_any c v → 1 ≤ v → v ≤ 3000 → 0 ≤ k → k < 60 → c2 (54, 0, 0) (60 * v + k) = c (54, 0, 0) (60 * v + k)) : kk_pg t G c2 n p := by
  obtain ⟨P1, P2, P3⟩ := P
  unfold kk_pg
  rw [e43]
  refine ⟨P1, P2, fun z k => ?_⟩
  obtain ⟨q1, q2, q3, q4⟩ := P3 z k
  have a : kk_any c (c (43, 0, 0) (36 * (36 * t + n - 1) + p)) := ⟨t, by omega, n, p, hn, hp, fo n p hn.1 hn.2 hp.1 hp.2 (by omega), rfl⟩
  refine ⟨q1, q2, fun n2 p2 h1 h2 h3 h4 h5 => ?_, fun e e0 e1 => by rw [e54 _ e a q1.1 q1.2 e0 e1]; exact q4 e e0 e1⟩
  rcases o n2 p2 h1 h2 h3 h4 with w | w | w | w
  · rw [w]; exact q3 n2 p2 h1 h2 h3 h4 h5
  · omega
  · exact fun v => q2 (by rw [← v]; exact w)
  · exact fun v => w (by rw [v]; exact a)
theorem kk_m0c {a b : Int} {g : mm_Id → Int → Int} (e : ∀ x i, kk_mx b x i → x.1 ≠ 43 → c2 x i = c x i) (h44 : g (44, 0, 0) a ≤ 24) (h49 : g (49, 0, 0) a ≤ 4) (m : kk_m0 c b g a) : kk_m0 c2 b g a := by
  obtain ⟨m1, m2, m3, m4⟩ := m
  refine ⟨fun f hf => by rw [e _ _ (Or.inl ⟨hf, rfl⟩) (by show f ≠ 43; unfold kk_mf at hf; omega)]; exact m1 f hf, fun i i0 i1 => ?_, fun i i0 i1 => ?_, fun i i0 i1 => ?_⟩
  · rw [e _ _ (kk_m45 (Or.inl rfl) ⟨i0, by omega⟩) (by decide), e _ _ (kk_m45 (Or.inr rfl) ⟨i0, by omega⟩) (by decide)]; exact m2 i i0 i1
  · rw [e _ _ (kk_m50 (Or.inl rfl) ⟨i0, by omega⟩) (by decide), e _ _ (kk_m50 (Or.inr rfl) ⟨i0, by omega⟩) (by decide)]; exact m3 i i0 i1
  · rw [e _ _ (kk_m52 ⟨i0, i1⟩) (by decide)]; exact m4 i i0 i1
theorem kk_DNt {n : Int} (D : kk_DN t G c n) (GF : kk_GF t G) (ht : 0 ≤ t ∧ t < 13) (hn : 1 ≤ n ∧ n < 37) (fo : kk_fo c t) (e : ∀ x i, kk_mx (36 * t + n - 1) x i → c2 x i = c x i)
    (o : ∀ n2 p2, 1 ≤ n2 → n2 < 37 → 0 ≤ p2 → p2 < 36 → c2 (43, 0, 0) (36 * (36 * t + n2 - 1) + p2) = c (43, 0, 0) (36 * (36 * t + n2 - 1) + p2) ∨ c2 (43, 0, 0) (36 * (36 * t + n2 - 1) + p2) = 0 ∨ kk_any G (c2 (43, 0, 0) (36 * (36 * t + n2 - 1) + p2)) ∨ ¬ kk_any c (c2 (43, 0, 0) (36 * (36 * t + n2 - 1) + p2)))
    (e54 : ∀ v k, kk_any c v → 1 ≤ v → v ≤ 3000 → 0 ≤ k → k < 60 → c2 (54, 0, 0) (60 * v + k) = c (54, 0, 0) (60 * v + k)) : kk_DN t G c2 n := by
  have w := GF.2.2.1 27 n (by omega) (by omega) hn.1 hn.2
  refine ⟨fun k => ⟨kk_m0c (fun x i q _ => e x i q) w.2.1.2 w.2.2.2 (D.1 k).1, fun p p0 p1 => kk_pgt ((D.1 k).2 p p0 p1) ht hn ⟨p0, p1⟩ fo (e _ _ (kk_m43 ⟨p0, p1⟩)) o e54⟩, fun k => ?_⟩
  obtain ⟨⟨m1, m2, m3, m4⟩, m5⟩ := D.2 k
  have f : ∀ f : Nat, kk_mf f → c2 (f, 0, 0) (36 * t + n - 1) = c (f, 0, 0) (36 * t + n - 1) := fun f hf => e _ _ (Or.inl ⟨hf, rfl⟩)
  exact ⟨⟨by rw [f 41 kk_f41]; exact m1, by rw [f 42 kk_f42]; exact m2, by rw [f 44 kk_f44]; exact m3, by rw [f 49 kk_f49]; exact m4⟩, fun p p0 p1 => by rw [e _ _ (kk_m43 ⟨p0, p1⟩)]; exact m5 p p0 p1⟩
/-- what stood there stands there still -/
theorem kk_RXa {v : Int} (ht : 0 ≤ t ∧ t < 13) (GF : kk_GF t G) (X : kk_RX t G c) (q : kk_any G v) : kk_any c v := by
  obtain ⟨s, hs, n, p, hn, hp, k, e⟩ := q
  have F := X.2.2.1
  by_cases z : s = t
  · refine ⟨28, by omega, n, p, hn, hp, ?_, ?_⟩
    · rw [F _ _ (by simp) (by simp) (by simp) (kk_sxd (s := 28) (by omega) ⟨n, hn.1, hn.2, Or.inl ⟨kk_f41, rfl⟩⟩), GF.2.2.2.2.2.2.2.1 n hn.1 hn.2, ← z]; exact k
    · rw [F _ _ (by simp) (by simp) (by simp) (kk_sxd (s := 28) (by omega) ⟨n, hn.1, hn.2, kk_m43 hp⟩), GF.2.2.2.2.2.2.1 n p hn.1 hn.2 hp.1 hp.2, ← z]; exact e
  · refine ⟨s, hs, n, p, hn, hp, ?_, ?_⟩
    · rw [F _ _ (by simp) (by simp) (by simp) (kk_sxd z ⟨n, hn.1, hn.2, Or.inl ⟨kk_f41, rfl⟩⟩)]; exact k
    · rw [F _ _ (by simp) (by simp) (by simp) (kk_sxd z ⟨n, hn.1, hn.2, kk_m43 hp⟩)]; exact e
/-- cells of other slots -/
theorem kk_RXo (X : kk_RX t G c) {s n p : Int} (z : s ≠ t) (hn : 1 ≤ n ∧ n < 37) (hp : 0 ≤ p ∧ p < 36) : c (43, 0, 0) (36 * (36 * s + n - 1) + p) = G (43, 0, 0) (36 * (36 * s + n - 1) + p) := X.2.2.1 _ _ (by simp) (by simp) (by simp) (kk_sxd z ⟨n, hn.1, hn.2, kk_m43 hp⟩)
theorem kk_RXf (X : kk_RX t G c) {s n : Int} {f : Nat} (hf : kk_mf f) (z : s ≠ t) (hn : 1 ≤ n ∧ n < 37) : c (f, 0, 0) (36 * s + n - 1) = G (f, 0, 0) (36 * s + n - 1) := X.2.2.1 _ _ (by rintro v; simp at v; unfold kk_mf at hf; omega) (by rintro v; simp at v; unfold kk_mf at hf; omega) (by rintro ⟨v, _⟩; simp at v; unfold kk_mf at hf; omega) (kk_sxd z ⟨n, hn.1, hn.2, Or.inl ⟨hf, rfl⟩⟩)
/-- a node changes so that only what stands somewhere stands there -/
theorem kk_RXn {n0 : Int} (X : kk_RX t G c) (ht : 0 ≤ t ∧ t < 13) (hn : 1 ≤ n0 ∧ n0 < 37) (fr : ∀ x i, ¬ kk_mx (36 * t + n0 - 1) x i → c2 x i = c x i) (al : ∀ p, 0 ≤ p → p < 36 → c2 (41, 0, 0) (36 * t + n0 - 1) = 1 → c2 (43, 0, 0) (36 * (36 * t + n0 - 1) + p) ≠ 0 → kk_any c (c2 (43, 0, 0) (36 * (36 * t + n0 - 1) + p)))
    (br : ∀ p, 0 ≤ p → p < 36 → 0 ≤ c2 (43, 0, 0) (36 * (36 * t + n0 - 1) + p) ∧ c2 (43, 0, 0) (36 * (36 * t + n0 - 1) + p) ≤ 3000) (fo : ∀ p, 0 ≤ p → p < 36 → c2 (43, 0, 0) (36 * (36 * t + n0 - 1) + p) ≠ 0 → c2 (41, 0, 0) (36 * t + n0 - 1) = 1) (m53 : c2 (53, 0, 0) (36 * t + n0 - 1) = 0 ∨ c2 (53, 0, 0) (36 * t + n0 - 1) = 1) : kk_RX t G c2 ∧ ∀ v, 1 ≤ v → kk_any c2 v → kk_any c v := by
  obtain ⟨⟨x1, x2⟩, x3, x4, x5, x6, x7⟩ := X
  have nmx : ∀ (f : Nat) i, f < 41 ∨ 53 < f → ¬ kk_mx (36 * t + n0 - 1) (f, 0, 0) i := fun f i hf q => by have := kk_mxr q; simp at this; omega
  have o41 : ∀ s n, 1 ≤ n → n < 37 → ¬ (s = t ∧ n = n0) → c2 (41, 0, 0) (36 * s + n - 1) = c (41, 0, 0) (36 * s + n - 1) := fun s n n0' n1 q => fr _ _ (kk_mxd (a := 36 * s + n - 1) (by omega) (Or.inl ⟨kk_f41, rfl⟩))
  have o53 : ∀ n, 1 ≤ n → n < 37 → n ≠ n0 → c2 (53, 0, 0) (36 * t + n - 1) = c (53, 0, 0) (36 * t + n - 1) := fun n n0' n1 q => fr _ _ (kk_mxd (a := 36 * t + n - 1) (by omega) (Or.inl ⟨kk_f53, rfl⟩))
  have o43 : ∀ s n p, 1 ≤ n → n < 37 → 0 ≤ p → p < 36 → ¬ (s = t ∧ n = n0) → c2 (43, 0, 0) (36 * (36 * s + n - 1) + p) = c (43, 0, 0) (36 * (36 * s + n - 1) + p) := fun s n p n0' n1 p0 p1 q => fr _ _ (kk_mxd (a := 36 * s + n - 1) (by omega) (kk_m43 ⟨p0, p1⟩))
  have sub : ∀ v, 1 ≤ v → kk_any c2 v → kk_any c v := fun v v1 q => by
    obtain ⟨s, hs, n, p, hn', hp, k, e⟩ := q
    by_cases z : s = t ∧ n = n0
    · rw [z.1, z.2] at k e
      rw [← e]
      exact al p hp.1 hp.2 k (by omega)
    · rw [o41 s n hn'.1 hn'.2 z] at k
      rw [o43 s n p hn'.1 hn'.2 hp.1 hp.2 z] at e
      exact ⟨s, hs, n, p, hn', hp, k, e⟩
  refine ⟨⟨⟨fun v v0 v1 q => ?_, ?_⟩, fun v k q v0 v1 k0 k1 => ?_, fun x i q1 q2 q3 q4 => ?_, fun s s0 s1 n p n0' n1 p0 p1 => ?_, fun s s0 s1 n p n0' n1 p0 p1 z => ?_, fun n n0' n1 => ?_⟩, sub⟩
  · rw [fr _ _ (nmx 55 _ (by omega))]; exact x1 v v0 v1 (sub v v0 q)
  · rw [fr _ _ (nmx 40 _ (by omega))]; exact x2
  · rw [fr _ _ (nmx 54 _ (by omega))]; exact x3 v k q v0 v1 k0 k1
  · rw [fr x i (fun w => q4 ⟨n0, hn.1, hn.2, w⟩)]; exact x4 x i q1 q2 q3 q4
  · by_cases z : s = t ∧ n = n0
    · rw [z.1, z.2]; exact br p p0 p1
    · rw [o43 s n p n0' n1 p0 p1 z]; exact x5 s s0 s1 n p n0' n1 p0 p1
  · by_cases y : s = t ∧ n = n0
    · rw [y.1, y.2] at z ⊢; exact fo p p0 p1 z
    · rw [o43 s n p n0' n1 p0 p1 y] at z
      rw [o41 s n n0' n1 y]
      exact x6 s s0 s1 n p n0' n1 p0 p1 z
  · by_cases y : n = n0
    · rw [y]; exact m53
    · rw [o53 n n0' n1 y]; exact x7 n n0' n1
/-- a node that doesn't count is cleared -/
theorem kk_jA {n0 : Int} (A : kk_KA t G c n0) (GF : kk_GF t G) (ht : 0 ≤ t ∧ t < 13) (hn : 1 ≤ n0 ∧ n0 < 37) (nc : ¬ kk_ctn2 G 27 n0) (z4 : c2 (41, 0, 0) (36 * t + n0 - 1) = 0 ∧ c2 (42, 0, 0) (36 * t + n0 - 1) = 0 ∧ c2 (44, 0, 0) (36 * t + n0 - 1) = 0 ∧ c2 (49, 0, 0) (36 * t + n0 - 1) = 0) (zp : ∀ p, 0 ≤ p → p < 36 → c2 (43, 0, 0) (36 * (36 * t + n0 - 1) + p) = 0)
    (fr : ∀ x i, ¬ ((x = (41, 0, 0) ∨ x = (42, 0, 0) ∨ x = (44, 0, 0) ∨ x = (49, 0, 0)) ∧ i = 36 * t + n0 - 1) → ¬ (x = (43, 0, 0) ∧ 36 * (36 * t + n0 - 1) ≤ i ∧ i < 36 * (36 * t + n0 - 1) + 36) → c2 x i = c x i) : kk_KA t G c2 (n0 + 1) := by
  obtain ⟨X, A2, A3, A4⟩ := A
  have fr2 : ∀ x i, ¬ kk_mx (36 * t + n0 - 1) x i → c2 x i = c x i := fun x i q => fr x i (by rintro ⟨v | v | v | v, w⟩ <;> exact q (Or.inl ⟨by rw [v]; simp [kk_mf], w⟩)) (fun v => q (Or.inr (Or.inl ⟨by rw [v.1], v.2⟩)))
  obtain ⟨X2, sub⟩ := kk_RXn X ht hn fr2 (fun p p0 p1 k z => absurd (zp p p0 p1) z) (fun p p0 p1 => by rw [zp p p0 p1]; omega) (fun p p0 p1 z => absurd (zp p p0 p1) z) (by rw [fr _ _ (by simp) (by simp)]; exact X.2.2.2.2.2 n0 hn.1 hn.2)
  have fo := X.2.2.2.2.1 t ht.1 (by omega)
  have o : ∀ n2 p2, 1 ≤ n2 → n2 < 37 → 0 ≤ p2 → p2 < 36 → c2 (43, 0, 0) (36 * (36 * t + n2 - 1) + p2) = c (43, 0, 0) (36 * (36 * t + n2 - 1) + p2) ∨ c2 (43, 0, 0) (36 * (36 * t + n2 - 1) + p2) = 0 ∨ kk_any G (c2 (43, 0, 0) (36 * (36 * t + n2 - 1) + p2)) ∨ ¬ kk_any c (c2 (43, 0, 0) (36 * (36 * t + n2 - 1) + p2)) := fun n2 p2 h1 h2 h3 h4 => by
    by_cases y : n2 = n0
    · rw [y]; exact Or.inr (Or.inl (zp p2 h3 h4))
    · exact Or.inl (fr2 _ _ (kk_mxt y (kk_m43 ⟨h3, h4⟩)))
  refine ⟨X2, fun n n1 n2 => ?_, fun n x i n1 n2 q => ?_, ?_⟩
  · by_cases y : n = n0
    · rw [y]; exact ⟨fun k => absurd k nc, fun _ => ⟨z4, zp⟩⟩
    · exact kk_DNt (A2 n n1 (by omega)) GF ht ⟨n1, by omega⟩ fo (fun x i q => fr2 x i (kk_mxt y q)) o (fun v k _ _ _ _ _ => fr _ _ (by simp) (by simp))
  · rw [fr2 x i (kk_mxt (by omega) q)]; exact A3 n x i (by omega) n2 q
  · have := kk_cntle (fun v v0 _ q => sub v v0 q)
    omega
/-- a node is copied -/
theorem kk_jB {n0 : Int} (A : kk_KA t G c n0) (GF : kk_GF t G) (ht : 0 ≤ t ∧ t < 13) (hn : 1 ≤ n0 ∧ n0 < 37) (yc : kk_ctn2 G 27 n0) (ms : kk_ms c2 (36 * t + n0 - 1) c (36 * 27 + n0 - 1)) (fr2 : ∀ x i, ¬ kk_mx (36 * t + n0 - 1) x i → c2 x i = c x i) : kk_Kb t G c2 n0 0 := by
  obtain ⟨X, A2, A3, A4⟩ := A
  have e43 : ∀ p, 0 ≤ p → p < 36 → c2 (43, 0, 0) (36 * (36 * t + n0 - 1) + p) = G (43, 0, 0) (36 * (36 * 27 + n0 - 1) + p) := fun p p0 p1 => by rw [ms.2.1 p p0 p1, kk_RXo X (by omega) hn ⟨p0, p1⟩]
  have e41 : c2 (41, 0, 0) (36 * t + n0 - 1) = G (41, 0, 0) (36 * 27 + n0 - 1) := by rw [ms.1 41 kk_f41, kk_RXf X kk_f41 (by omega) hn]
  have aG : ∀ p, 0 ≤ p → p < 36 → G (43, 0, 0) (36 * (36 * 27 + n0 - 1) + p) ≠ 0 → kk_any G (G (43, 0, 0) (36 * (36 * 27 + n0 - 1) + p)) := fun p p0 p1 z => ⟨27, by omega, n0, p, hn, ⟨p0, p1⟩, GF.2.1 27 (by omega) (by omega) n0 p hn.1 hn.2 p0 p1 z, rfl⟩
  obtain ⟨X2, sub⟩ := kk_RXn X ht hn fr2 (fun p p0 p1 k z => by rw [e43 p p0 p1] at z ⊢; exact kk_RXa ht GF X (aG p p0 p1 z)) (fun p p0 p1 => by rw [e43 p p0 p1]; exact GF.1 27 (by omega) (by omega) n0 p hn.1 hn.2 p0 p1) (fun p p0 p1 z => by rw [e43 p p0 p1] at z; rw [e41]; exact GF.2.1 27 (by omega) (by omega) n0 p hn.1 hn.2 p0 p1 z)
    (by rw [ms.1 53 kk_f53, kk_RXf X kk_f53 (by omega) hn]; exact (GF.2.2.1 27 n0 (by omega) (by omega) hn.1 hn.2).1)
  have fo := X.2.2.2.2.1 t ht.1 (by omega)
  have o : ∀ n2 p2, 1 ≤ n2 → n2 < 37 → 0 ≤ p2 → p2 < 36 → c2 (43, 0, 0) (36 * (36 * t + n2 - 1) + p2) = c (43, 0, 0) (36 * (36 * t + n2 - 1) + p2) ∨ c2 (43, 0, 0) (36 * (36 * t + n2 - 1) + p2) = 0 ∨ kk_any G (c2 (43, 0, 0) (36 * (36 * t + n2 - 1) + p2)) ∨ ¬ kk_any c (c2 (43, 0, 0) (36 * (36 * t + n2 - 1) + p2)) := fun n2 p2 h1 h2 h3 h4 => by
    by_cases y : n2 = n0
    · rw [y, e43 p2 h3 h4]
      by_cases z : G (43, 0, 0) (36 * (36 * 27 + n0 - 1) + p2) = 0
      · exact Or.inr (Or.inl z)
      · exact Or.inr (Or.inr (Or.inl (aG p2 h3 h4 z)))
    · exact Or.inl (fr2 _ _ (kk_mxt y (kk_m43 ⟨h3, h4⟩)))
  have n54 : ∀ i, ¬ kk_mx (36 * t + n0 - 1) (54, 0, 0) i := fun i q => by have := kk_mxr q; simp at this
  have w := GF.2.2.1 27 n0 (by omega) (by omega) hn.1 hn.2
  have f44 := kk_RXf X kk_f44 (s := 27) (by omega) hn
  have f49 := kk_RXf X kk_f49 (s := 27) (by omega) hn
  have f27 : ∀ x i, kk_mx (36 * 27 + n0 - 1) x i → c x i = G x i := fun x i q => by
    have r := kk_mxr q
    exact X.2.2.1 x i (by rintro v; rw [v] at r; simp at r) (by rintro v; rw [v] at r; simp at r) (by rintro ⟨v, _⟩; rw [v] at r; simp at r) (kk_sxd (s := 27) (by omega) ⟨n0, hn.1, hn.2, q⟩)
  refine ⟨X2, fun n n1 n2 => kk_DNt (A2 n n1 n2) GF ht ⟨n1, by omega⟩ fo (fun x i q => fr2 x i (kk_mxt (by omega) q)) o (fun v k _ _ _ _ _ => fr2 _ _ (n54 _)), fun n x i n1 n2 q => ?_, ?_, yc, ⟨fun f hf => by rw [ms.1 f hf, kk_RXf X hf (by omega) hn], fun i i0 i1 => ?_, fun i i0 i1 => ?_, fun i i0 i1 => ?_⟩, fun p p0 p1 => by omega, fun p p0 p1 => e43 p p0 p1⟩
  · rw [fr2 x i (kk_mxt (by omega) q)]; exact A3 n x i (by omega) n2 q
  · have := kk_cntle (fun v v0 _ q => sub v v0 q)
    omega
  · have z := ms.2.2.1 i i0 (by omega)
    have := w.2.1.2
    rw [z.1, z.2, f27 _ _ (kk_m45 (Or.inl rfl) ⟨i0, by omega⟩), f27 _ _ (kk_m45 (Or.inr rfl) ⟨i0, by omega⟩)]
    exact ⟨rfl, rfl⟩
  · have z := ms.2.2.2.1 i i0 (by omega)
    have := w.2.2.2
    rw [z.1, z.2, f27 _ _ (kk_m50 (Or.inl rfl) ⟨i0, by omega⟩), f27 _ _ (kk_m50 (Or.inr rfl) ⟨i0, by omega⟩)]
    exact ⟨rfl, rfl⟩
  · rw [ms.2.2.2.2 i i0 i1, f27 _ _ (kk_m52 ⟨i0, i1⟩)]
/-- nothing there -/
theorem kk_jC {n0 p : Int} (B : kk_Kb t G c n0 p) (hp : 0 ≤ p ∧ p < 36) (z : G (43, 0, 0) (36 * (36 * 27 + n0 - 1) + p) = 0) : kk_Kb t G c n0 (p + 1) := by
  obtain ⟨X, B2, B3, B4, B5, B6, B7, B8⟩ := B
  refine ⟨X, B2, B3, by omega, B5, B6, fun q q0 q1 => ?_, fun q q0 q1 => B8 q (by omega) q1⟩
  by_cases y : q = p
  · rw [y]; exact ⟨fun _ => by rw [B8 p (Int.le_refl _) hp.2]; exact z, fun w => absurd z w, fun w => absurd z w⟩
  · exact B7 q q0 (by omega)
theorem kk_jD {n0 : Int} (B : kk_Kb t G c n0 36) : kk_KA t G c (n0 + 1) := by
  obtain ⟨X, B2, B3, B4, B5, B6, B7, B8⟩ := B
  refine ⟨X, fun n n1 n2 => ?_, fun n x i n1 n2 q => B3 n x i (by omega) n2 q, by omega⟩
  by_cases y : n = n0
  · rw [y]; exact ⟨fun _ => ⟨B6, fun p p0 p1 => B7 p p0 p1⟩, fun k => absurd B5 k⟩
  · exact B2 n n1 (by omega)
/-- a piece changes: it is one that was there, or a new one -/
theorem kk_jE {n0 p v : Int} (B : kk_Kb t G c n0 p) (GF : kk_GF t G) (ht : 0 ≤ t ∧ t < 13) (hn : 1 ≤ n0 ∧ n0 < 37) (hp : 0 ≤ p ∧ p < 36) (z : G (43, 0, 0) (36 * (36 * 27 + n0 - 1) + p) ≠ 0) (k : kk_kr G n0 p ∧ v = G (43, 0, 0) (36 * (36 * 28 + n0 - 1) + p) ∨ ¬ kk_kr G n0 p ∧ ¬ kk_any c v ∧ ∀ e, 0 ≤ e → e < 60 → c2 (54, 0, 0) (60 * v + e) = G (54, 0, 0) (60 * G (43, 0, 0) (36 * (36 * 27 + n0 - 1) + p) + e)) (v1 : 1 ≤ v ∧ v ≤ 3000)
    (a55 : ∀ q, 1 ≤ q → q ≤ 3000 → kk_any c q ∨ q = v → c2 (55, 0, 0) q ≠ 0) (a18 : 0 ≤ c2 (40, 0, 0) 18 ∧ c2 (40, 0, 0) 18 ≤ 3000) (e43 : c2 (43, 0, 0) (36 * (36 * t + n0 - 1) + p) = v) (e54 : ∀ q i, kk_any c q → 1 ≤ q → q ≤ 3000 → 0 ≤ i → i < 60 → c2 (54, 0, 0) (60 * q + i) = c (54, 0, 0) (60 * q + i))
    (fr : ∀ x i, x ≠ (54, 0, 0) → x ≠ (55, 0, 0) → ¬ (x = (40, 0, 0) ∧ i = 18) → ¬ (x = (43, 0, 0) ∧ i = 36 * (36 * t + n0 - 1) + p) → c2 x i = c x i) : kk_Kb t G c2 n0 (p + 1) := by
  obtain ⟨X, B2, B3, B4, B5, B6, B7, B8⟩ := B
  obtain ⟨⟨x1, x2⟩, x3, x4, x5, x6, x7⟩ := id X
  have f41 : ∀ i, c2 (41, 0, 0) i = c (41, 0, 0) i := fun i => fr _ _ (by simp) (by simp) (by simp) (by simp)
  have o43 : ∀ s n q, 1 ≤ n → n < 37 → 0 ≤ q → q < 36 → ¬ (s = t ∧ n = n0 ∧ q = p) → c2 (43, 0, 0) (36 * (36 * s + n - 1) + q) = c (43, 0, 0) (36 * (36 * s + n - 1) + q) := fun s n q n1 n2 q0 q1 w => fr _ _ (by simp) (by simp) (by simp) (by rintro ⟨_, y⟩; omega)
  have k41 : c (41, 0, 0) (36 * t + n0 - 1) = 1 := by rw [B6.1 41 kk_f41]; exact GF.2.1 27 (by omega) (by omega) n0 p hn.1 hn.2 hp.1 hp.2 z
  have an : ∀ q, kk_any c2 q → kk_any c q ∨ q = v := fun q w => by
    obtain ⟨s, hs, n, r, hn', hr, k1, e⟩ := w
    rw [f41] at k1
    by_cases y : s = t ∧ n = n0 ∧ r = p
    · rw [y.1, y.2.1, y.2.2, e43] at e; exact Or.inr e.symm
    · rw [o43 s n r hn'.1 hn'.2 hr.1 hr.2 y] at e
      exact Or.inl ⟨s, hs, n, r, hn', hr, k1, e⟩
  have o : ∀ n2 p2, 1 ≤ n2 → n2 < 37 → 0 ≤ p2 → p2 < 36 → c2 (43, 0, 0) (36 * (36 * t + n2 - 1) + p2) = c (43, 0, 0) (36 * (36 * t + n2 - 1) + p2) ∨ c2 (43, 0, 0) (36 * (36 * t + n2 - 1) + p2) = 0 ∨ kk_any G (c2 (43, 0, 0) (36 * (36 * t + n2 - 1) + p2)) ∨ ¬ kk_any c (c2 (43, 0, 0) (36 * (36 * t + n2 - 1) + p2)) := fun n2 p2 h1 h2 h3 h4 => by
    by_cases y : n2 = n0 ∧ p2 = p
    · rw [y.1, y.2, e43]
      rcases k with k | k
      · refine Or.inr (Or.inr (Or.inl ?_))
        rw [k.2]
        exact ⟨28, by omega, n0, p, hn, hp, k.1.1.1, rfl⟩
      · exact Or.inr (Or.inr (Or.inr k.2.1))
    · exact Or.inl (o43 t n2 p2 h1 h2 h3 h4 (fun w => y w.2))
  have X2 : kk_RX t G c2 := by
    refine ⟨⟨fun q q0 q1 w => a55 q q0 q1 (an q w), a18⟩, fun q i w q0 q1 i0 i1 => ?_, fun x i w1 w2 w3 w4 => ?_, fun s s0 s1 n q n1 n2 q0 q1 => ?_, fun s s0 s1 n q n1 n2 q0 q1 w => ?_, fun n n1 n2 => ?_⟩
    · rw [e54 q i (kk_RXa ht GF X w) q0 q1 i0 i1]; exact x3 q i w q0 q1 i0 i1
    · rw [fr x i w1 w2 w3 (fun y => w4 ⟨n0, hn.1, hn.2, by rw [y.1, y.2]; exact kk_m43 hp⟩)]; exact x4 x i w1 w2 w3 w4
    · by_cases y : s = t ∧ n = n0 ∧ q = p
      · rw [y.1, y.2.1, y.2.2, e43]; omega
      · rw [o43 s n q n1 n2 q0 q1 y]; exact x5 s s0 s1 n q n1 n2 q0 q1
    · rw [f41]
      by_cases y : s = t ∧ n = n0 ∧ q = p
      · rw [y.1, y.2.1]; exact k41
      · rw [o43 s n q n1 n2 q0 q1 y] at w; exact x6 s s0 s1 n q n1 n2 q0 q1 w
    · rw [fr _ _ (by simp) (by simp) (by simp) (by simp)]; exact x7 n n1 n2
  have fo := x6 t ht.1 (by omega)
  have mx : ∀ n x i, n ≠ n0 → kk_mx (36 * t + n - 1) x i → c2 x i = c x i := fun n x i y q => by
    have r := kk_mxr q
    exact fr x i (by rintro w; rw [w] at r; simp at r) (by rintro w; rw [w] at r; simp at r) (by rintro ⟨w, _⟩; rw [w] at r; simp at r) (fun w => kk_mxt y q (by rw [w.1, w.2]; exact kk_m43 hp))
  have w27 := GF.2.2.1 27 n0 (by omega) (by omega) hn.1 hn.2
  refine ⟨X2, fun n n1 n2 => kk_DNt (B2 n n1 n2) GF ht ⟨n1, by omega⟩ fo (fun x i q => mx n x i (by omega) q) o e54, fun n x i n1 n2 q => by rw [mx n x i (by omega) q]; exact B3 n x i n1 n2 q, ?_, B5, ?_, fun q q0 q1 => ?_, fun q q0 q1 => ?_⟩
  · have := kk_cnv1 an
    omega
  · refine kk_m0c (fun x i q q43 => ?_) w27.2.1.2 w27.2.2.2 B6
    have r := kk_mxr q
    exact fr x i (by rintro w; rw [w] at r; simp at r) (by rintro w; rw [w] at r; simp at r) (by rintro ⟨w, _⟩; rw [w] at r; simp at r) (fun w => q43 (by rw [w.1]))
  · by_cases y : q = p
    · rw [y]
      refine ⟨fun w => absurd w z, fun _ kk => ?_, fun _ kk => ?_⟩
      · rcases k with k | k
        · rw [e43]; exact k.2
        · exact absurd kk k.1
      · rcases k with k | k
        · exact absurd k.1 kk
        · rw [e43]
          refine ⟨v1, fun w => k.2.1 (kk_RXa ht GF X w), fun n2 p2 h1 h2 h3 h4 h5 w => ?_, k.2.2⟩
          rw [o43 t n2 p2 h1 h2 h3 h4 (fun y => h5 y.2)] at w
          exact k.2.1 ⟨t, by omega, n2, p2, ⟨h1, h2⟩, ⟨h3, h4⟩, fo n2 p2 h1 h2 h3 h4 (by omega), w⟩
    · exact kk_pgt (B7 q q0 (by omega)) ht hn ⟨q0, by omega⟩ fo (o43 t n0 q hn.1 hn.2 q0 (by omega) (fun w => y w.2.2)) o e54
  · rw [o43 t n0 q hn.1 hn.2 (by omega) q1 (by omega)]; exact B8 q (by omega) q1
end

