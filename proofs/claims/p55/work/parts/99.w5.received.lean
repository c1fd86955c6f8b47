/-! receive: what holds after -/
/-- entries of a stream's tree are counted alike -/
theorem kk_SRe {b : Int} {h : mm_Id → Int → Int} {dh : Int → Int} (hc : kk_core b h dh) {t : Int} (ht : t = 26 ∨ t = 27) (m : Int) : kk_ec h t m = kk_ef h t m := by
  have hT : mm_isT t := by unfold mm_isT; omega
  refine sm_cgI 36 (fun i i1 i2 => ?_)
  have s := hc.1.1.2.2.2.1 t ht (i + 1) (by omega) (by omega)
  have W := hc.1.1.2.1 t (i + 1) hT (by omega) (by omega)
  have M := kk_MWC hc (s := t) (n := i + 1) (by omega) (by omega)
  show mm_sm _ _ = mm_sm _ _
  by_cases c : kk_ctn2 h t (i + 1)
  · have N := s.1 c
    rw [N.2.1]
    refine sm_cgI _ (fun e e1 e2 => ?_)
    rw [(N.2.2.2.2.1 e e1 (by have := N.2.1; omega)).2]
  · have k := s.2 c
    have e1 : h (24, t, i + 1) 6 = 0 := W.2.2.1 (by omega)
    have e2 : h (44, 0, 0) (36 * t + (i + 1) - 1) = 0 := by
      refine M.2.2.1 (fun q => c ⟨by omega, fun w => by omega⟩)
    rw [e1, e2]
    rfl
/-- a stream's tree has no unused files -/
theorem kk_SRu {b : Int} {h : mm_Id → Int → Int} {dh : Int → Int} (hc : kk_core b h dh) {t n : Int} (ht : t = 26 ∨ t = 27) (hn : 1 ≤ n ∧ n < 37) : ¬ (h (24, t, n) 0 = 1 ∧ h (24, t, n) 5 = 0) := fun q => by
  have hT : mm_isT t := by unfold mm_isT; omega
  have s := hc.1.1.2.2.2.1 t ht n hn.1 hn.2
  have T := (hc.1.1.2.2.1 t hT).1 n hn.1 hn.2 (by omega)
  by_cases c : kk_ctn2 h t n
  · have N := s.1 c
    have k := c.2 (by rw [← N.1]; exact q.1)
    rw [← kk_SRe hc ht n] at k
    omega
  · have := s.2 c
    omega
/-- a node as another, pieces left out -/
def kk_m0 (h : mm_Id → Int → Int) (b : Int) (g : mm_Id → Int → Int) (a : Int) : Prop :=
  (∀ f, kk_mf f → h (f, 0, 0) b = g (f, 0, 0) a) ∧ (∀ e, 0 ≤ e → e < g (44, 0, 0) a → h (45, 0, 0) (24 * b + e) = g (45, 0, 0) (24 * a + e) ∧ h (46, 0, 0) (24 * b + e) = g (46, 0, 0) (24 * a + e)) ∧
  (∀ e, 0 ≤ e → e < g (49, 0, 0) a → h (50, 0, 0) (4 * b + e) = g (50, 0, 0) (4 * a + e) ∧ h (51, 0, 0) (4 * b + e) = g (51, 0, 0) (4 * a + e)) ∧ (∀ e, 0 ≤ e → e < 8 → h (52, 0, 0) (8 * b + e) = g (52, 0, 0) (8 * a + e))
/-- a piece of the reference's, after: gone, kept, or new -/
def kk_pm (t : Int) (h Z : mm_Id → Int → Int) (n p : Int) : Prop :=
  (h (43, 0, 0) (36 * (36 * 27 + n - 1) + p) = 0 → Z (43, 0, 0) (36 * (36 * t + n - 1) + p) = 0) ∧
  (h (43, 0, 0) (36 * (36 * 27 + n - 1) + p) ≠ 0 → kk_kp h t n 27 n p → Z (43, 0, 0) (36 * (36 * t + n - 1) + p) = h (43, 0, 0) (36 * (36 * t + n - 1) + p)) ∧
  (h (43, 0, 0) (36 * (36 * 27 + n - 1) + p) ≠ 0 → ¬ kk_kp h t n 27 n p → (1 ≤ Z (43, 0, 0) (36 * (36 * t + n - 1) + p) ∧ Z (43, 0, 0) (36 * (36 * t + n - 1) + p) ≤ 3000) ∧ (∀ s n2 p2, 0 ≤ s → s < 28 → 1 ≤ n2 → n2 < 37 → 0 ≤ p2 → p2 < 36 → h (43, 0, 0) (36 * (36 * s + n2 - 1) + p2) ≠ Z (43, 0, 0) (36 * (36 * t + n - 1) + p)) ∧
    (∀ n2 p2, 1 ≤ n2 → n2 < 37 → 0 ≤ p2 → p2 < 36 → ¬ (n2 = n ∧ p2 = p) → Z (43, 0, 0) (36 * (36 * t + n2 - 1) + p2) ≠ Z (43, 0, 0) (36 * (36 * t + n - 1) + p)) ∧ ∀ e, 0 ≤ e → e < 60 → Z (54, 0, 0) (60 * Z (43, 0, 0) (36 * (36 * t + n - 1) + p) + e) = h (54, 0, 0) (60 * h (43, 0, 0) (36 * (36 * 27 + n - 1) + p) + e))
theorem kk_rcW {b t : Int} {h Z : mm_Id → Int → Int} {dh dh' : Int → Int} (hc : kk_core b h dh) (ht : 0 ≤ t ∧ t < 5) (hno : 0 < kk_no h t) (s9 : h (1, 0, 0) 9 = 1) (R : kk_R Z) (sd : ∀ n, 1 ≤ n → n < 37 → kk_sd Z t n h 27 n ∧ Z (24, t, n) 9 = h (24, 27, n) 9)
    (pa : ∀ n p, 1 ≤ n → n < 37 → 0 ≤ p → p < 36 → kk_pa h Z t 27 n p) (ps : ∀ t2 n p, mm_isT t2 → mm_isN n → 0 ≤ p → p < 36 → ¬ (t2 = t ∧ 1 ≤ n) → kk_ps h Z t2 n p) (z16 : ∀ e, 0 ≤ e → e < 60 → Z (16, 0, 0) e = h (16, 0, 0) e) (ba : kk_ba h Z)
    (cF : ∀ (x : mm_Id) k, x.1 < 40 → ¬ kk_ct x k → ¬ (x = (15, 0, 0) ∧ k = 8) → x.1 ≠ 16 → ¬ kk_tr t 1 37 x → ¬ (x = (31, t, 0) ∧ k = 6) → Z x k = h x k) (fl : Z (31, t, 0) 6 = 1)
    (mN : ∀ n, 1 ≤ n → n < 37 → kk_ctn2 h 27 n → kk_m0 Z (36 * t + n - 1) h (36 * 27 + n - 1)) (mZ : ∀ n, 1 ≤ n → n < 37 → ¬ kk_ctn2 h 27 n → kk_mz Z (36 * t + n - 1)) (m53 : ∀ n, 1 ≤ n → n < 37 → Z (53, 0, 0) (36 * t + n - 1) = 0 ∨ Z (53, 0, 0) (36 * t + n - 1) = 1)
    (pg : ∀ n p, 1 ≤ n → n < 37 → 0 ≤ p → p < 36 → kk_ctn2 h 27 n → kk_pm t h Z n p) (e54 : ∀ s n p e, 0 ≤ s → s < 28 → 1 ≤ n → n < 37 → 0 ≤ p → p < 36 → h (43, 0, 0) (36 * (36 * s + n - 1) + p) ≠ 0 → 0 ≤ e → e < 60 → Z (54, 0, 0) (60 * h (43, 0, 0) (36 * (36 * s + n - 1) + p) + e) = h (54, 0, 0) (60 * h (43, 0, 0) (36 * (36 * s + n - 1) + p) + e))
    (m28 : ∀ n, 1 ≤ n → n < 37 → kk_ms Z (36 * 28 + n - 1) h (36 * t + n - 1)) (mF : ∀ (x : mm_Id) k, 40 ≤ x.1 → ¬ kk_sx t x k → ¬ kk_sx 28 x k → x.1 ≠ 54 → x.1 ≠ 55 → x.1 ≠ 56 → x.1 ≠ 63 → x.1 ≠ 64 → ¬ (x = (40, 0, 0) ∧ (k = 0 ∨ k = 18)) → Z x k = h x k)
    (b1 : ∀ c, 1 ≤ c → c ≤ 3000 → kk_any Z c → Z (55, 0, 0) c ≠ 0) (b2 : 0 ≤ Z (40, 0, 0) 18 ∧ Z (40, 0, 0) 18 ≤ 3000) (b3 : kk_cnt (kk_lb Z (-1)) ≤ 400) (b7 : kk_cnt (kk_bs Z t) ≤ h (59, 0, 0) t)
    (dcl : ∀ q, 0 ≤ q → q < 8 → dh q = t → dh' q = -1 ∧ Z (63, 0, 0) (q + 1) = 0 ∧ ∀ a, 0 ≤ a → a < 2160 → Z (64, 0, 0) (2160 * (q + 1) + a) = 0) (dno : ∀ q, 0 ≤ q → q < 8 → ¬ dh q = t → dh' q = dh q ∧ Z (63, 0, 0) (q + 1) = h (63, 0, 0) (q + 1) ∧ ∀ a, 0 ≤ a → a < 2160 → Z (64, 0, 0) (2160 * (q + 1) + a) = h (64, 0, 0) (2160 * (q + 1) + a)) : kk_W b Z dh' := by
  have hW := hc.1
  have hK := hW.1
  have sT := mm_T13 (s := t) ⟨ht.1, by omega⟩
  have T27 : mm_isT 27 := by unfold mm_isT; omega
  have T28 : ∀ u, mm_isT u → 0 ≤ u ∧ u < 28 := fun u q => by unfold mm_isT at q; omega
  have W27 : ∀ n, 1 ≤ n → n < 37 → kk_NW h 27 n := fun n n0 n1 => hK.2.1 27 n T27 n0 n1
  have S27 : ∀ n, 1 ≤ n → n < 37 → (kk_ctn2 h 27 n → kk_NR h 27 n) ∧ (¬ kk_ctn2 h 27 n → h (24, 27, n) 0 = 0) := fun n n0 n1 => hK.2.2.2.1 27 (Or.inr rfl) n n0 n1
  have C : ∀ (f : Nat) a c k, f < 40 → ¬ (15 ≤ f ∧ f ≤ 19) → ¬ (24 ≤ f ∧ f ≤ 30 ∧ a = t ∧ 1 ≤ c ∧ c < 37) → ¬ (f = 31 ∧ a = t ∧ k = 6) → Z (f, a, c) k = h (f, a, c) k := fun f a c k f0 q1 q2 q3 => cF _ _ f0 (by unfold kk_ct; rintro (⟨v, _⟩ | v | v | v) <;> simp at v <;> omega) (by rintro ⟨v, _⟩; simp at v; omega) (by show f ≠ 16; omega) (by unfold kk_tr; simp; omega) (by rintro ⟨v, v2⟩; simp at v; omega)
  have M : ∀ (f : Nat) a c k, 57 ≤ f ∨ f = 40 ∧ k ≠ 0 ∧ k ≠ 18 → f ≠ 63 → f ≠ 64 → Z (f, a, c) k = h (f, a, c) k := fun f a c k q1 q2 q3 => mF _ _ (by show 40 ≤ f; omega) (kk_sx6 (by omega)) (kk_sx6 (by omega)) (by show f ≠ 54; omega) (by show f ≠ 55; omega) (by show f ≠ 56; omega) q2 q3 (by rintro ⟨v, v2⟩; simp at v; omega)
  have mo : ∀ s x k, s ≠ t → s ≠ 28 → kk_sx s x k → Z x k = h x k := fun s x k q1 q2 hx => by
    have r := kk_sxr hx
    exact mF x k (by omega) (kk_sxd q1 hx) (kk_sxd q2 hx) (by omega) (by omega) (by omega) (by omega) (by omega) (by rintro ⟨v, _⟩; rw [v] at r; simp at r)
  have ms : ∀ s n, 0 ≤ s → s < 28 → s ≠ t → 1 ≤ n → n < 37 → kk_ms Z (36 * s + n - 1) h (36 * s + n - 1) := fun s n s0 s1 q n0 n1 => by
    have w := (kk_MWC hc (s := s) (n := n) ⟨s0, by omega⟩ ⟨n0, n1⟩).1
    exact kk_msr w.2.1.2 w.2.2.2 (fun x j hx => mo s x j q (by omega) ⟨n, n0, n1, hx⟩)
  have no : ∀ s2, kk_no Z s2 = kk_no h s2 := fun s2 => by
    unfold kk_no
    rw [C 31 s2 0 3 (by omega) (by omega) (by omega) (by omega), C 33 _ 0 1 (by omega) (by omega) (by omega) (by omega)]
  -- pieces: gone, kept, or new
  have pc : ∀ n p, 1 ≤ n → n < 37 → 0 ≤ p → p < 36 → (Z (27, t, n) p = 0 ∧ Z (43, 0, 0) (36 * (36 * t + n - 1) + p) = 0 ∧ h (27, 27, n) p = 0) ∨ (h (27, 27, n) p ≠ 0 ∧ kk_ctn2 h 27 n ∧ kk_kp h t n 27 n p ∧ Z (27, t, n) p = h (27, t, n) p ∧ h (27, t, n) p ≠ 0 ∧ Z (43, 0, 0) (36 * (36 * t + n - 1) + p) = h (43, 0, 0) (36 * (36 * t + n - 1) + p)) ∨ (h (27, 27, n) p ≠ 0 ∧ kk_ctn2 h 27 n ∧ h (43, 0, 0) (36 * (36 * 27 + n - 1) + p) ≠ 0 ∧ ¬ kk_kp h t n 27 n p ∧ Z (27, t, n) p ≠ 0) := fun n p n0 n1 p0 p1 => by
    obtain ⟨q1, q2, q3⟩ := pa n p n0 n1 p0 p1
    by_cases r : h (27, 27, n) p = 0
    · refine Or.inl ⟨?_, ?_, r⟩
      · by_cases k : kk_kp h t n 27 n p
        · rw [(q1 k).1]; exact k.2.1.2 r
        · exact q2 k r
      · by_cases c : kk_ctn2 h 27 n
        · exact (pg n p n0 n1 p0 p1 c).1 ((((S27 n n0 n1).1 c).2.2.2.2.2.2.2 p p0 p1).1.1 r)
        · exact (mZ n n0 n1 c).2 p p0 p1
    · have c : kk_ctn2 h 27 n := Classical.byContradiction (fun c => r ((W27 n n0 n1).2.2.2.2.2.2.2.1 (by have := (S27 n n0 n1).2 c; omega) p p0 p1))
      have now : h (43, 0, 0) (36 * (36 * 27 + n - 1) + p) ≠ 0 := fun w => r ((((S27 n n0 n1).1 c).2.2.2.2.2.2.2 p p0 p1).1.2 w)
      by_cases k : kk_kp h t n 27 n p
      · exact Or.inr (Or.inl ⟨r, c, k, (q1 k).1, fun w => r (k.2.1.1 w), (pg n p n0 n1 p0 p1 c).2.1 now k⟩)
      · exact Or.inr (Or.inr ⟨r, c, now, k, (q3 k r).1⟩)
  have by1 : ∀ n p e, 1 ≤ n → n < 37 → 0 ≤ p → p < 36 → 0 ≤ e → e < 60 → Z (16, 0, 0) (60 * Z (27, t, n) p + e) = h (16, 0, 0) (60 * h (27, 27, n) p + e) := fun n p e n0 n1 p0 p1 e0 e1 => by
    obtain ⟨q1, q2, q3⟩ := pa n p n0 n1 p0 p1
    rcases pc n p n0 n1 p0 p1 with w | w | w
    · rw [w.1, w.2.2, show 60 * 0 + e = e by omega]; exact z16 e e0 e1
    · rw [w.2.2.2.1, (q1 w.2.2.1).2 e e0 e1]; exact w.2.2.1.2.2 e e0 e1
    · exact (q3 w.2.2.2.1 w.1).2.1 e e0 e1
  have zz : ∀ n p, 1 ≤ n → n < 37 → 0 ≤ p → p < 36 → (Z (27, t, n) p = 0 ↔ h (27, 27, n) p = 0) := fun n p n0 n1 p0 p1 => by
    rcases pc n p n0 n1 p0 p1 with w | w | w
    · exact ⟨fun _ => w.2.2, fun _ => w.1⟩
    · exact ⟨fun v => absurd (by rw [← w.2.2.2.1]; exact v) w.2.2.2.2.1, fun v => absurd v w.1⟩
    · exact ⟨fun v => absurd v w.2.2.2.2, fun v => absurd v w.1⟩
  have sdf : ∀ n f, 1 ≤ n → n < 37 → kk_F f → Z (24, t, n) f = h (24, 27, n) f := fun n f n0 n1 hf => (sd n n0 n1).1.1 f hf
  -- places: old ones, or new ones
  have cls : ∀ u n p, mm_isT u → 1 ≤ n → n < 37 → 0 ≤ p → p < 36 → Z (27, u, n) p ≠ 0 →
      (Z (27, u, n) p = h (27, u, n) p ∧ Z (43, 0, 0) (36 * (36 * u + n - 1) + p) = h (43, 0, 0) (36 * (36 * u + n - 1) + p)) ∨
      ((∀ t2 n2 p2, mm_isT t2 → 1 ≤ n2 → n2 < 37 → 0 ≤ p2 → p2 < 36 → ¬ (t2 = u ∧ n2 = n ∧ p2 = p) → Z (27, t2, n2) p2 ≠ Z (27, u, n) p) ∧ ∀ t2 n2 p2, mm_isT t2 → 1 ≤ n2 → n2 < 37 → 0 ≤ p2 → p2 < 36 → ¬ (t2 = u ∧ n2 = n ∧ p2 = p) → Z (43, 0, 0) (36 * (36 * t2 + n2 - 1) + p2) ≠ Z (43, 0, 0) (36 * (36 * u + n - 1) + p)) := fun u n p hu n0 n1 p0 p1 z => by
    by_cases q : u = t
    · rw [q] at z ⊢
      rcases pc n p n0 n1 p0 p1 with w | w | w
      · exact absurd w.1 z
      · exact Or.inl ⟨w.2.2.2.1, w.2.2.2.2.2⟩
      · refine Or.inr ⟨fun t2 n2 p2 h1 h2 h3 h4 h5 h6 => ((pa n p n0 n1 p0 p1).2.2 w.2.2.2.1 w.1).2.2 t2 n2 p2 h1 ⟨by omega, h3⟩ h4 h5 h6, fun t2 n2 p2 h1 h2 h3 h4 h5 h6 => ?_⟩
        have g := (pg n p n0 n1 p0 p1 w.2.1).2.2 w.2.2.1 w.2.2.2.1
        by_cases q2 : t2 = t
        · rw [q2]; exact g.2.2.1 n2 p2 h2 h3 h4 h5 (fun v => h6 ⟨q2, v⟩)
        · rw [(ms t2 n2 (T28 t2 h1).1 (T28 t2 h1).2 q2 h2 h3).2.1 p2 h4 h5]
          exact g.2.1 t2 n2 p2 (T28 t2 h1).1 (T28 t2 h1).2 h2 h3 h4 h5
    · exact Or.inl ⟨(ps u n p hu ⟨by omega, n1⟩ p0 p1 (fun v => q v.1)).1, (ms u n (T28 u hu).1 (T28 u hu).2 q n0 n1).2.1 p p0 p1⟩
  refine kk_WT0 hW ht hno (fun x j w => ?_) (fun u n p i hu hut n0 n1 p0 p1 i0 i1 => (ps u n p hu ⟨by omega, n1⟩ p0 p1 (fun v => hut v.1)).2 i i0 i1) (fun u n p i hu hut n0 n1 p0 p1 z i0 i1 => ?_) (fun n n0 n1 => ?_) (fun n n0 n1 => ?_) ?_ (fun s n hs n0 n1 => ?_) ?_ ?_ R ⟨fun e e0 e1 => ?_, fun j j0 j1 => ?_⟩ b1 b2 b3 ?_ b7 ?_ fl ?_ ?_ ?_ ?_
  · by_cases q : x.1 < 40
    · exact cF x j q (fun v => w (Or.inr (Or.inr (Or.inr (Or.inr (Or.inl v)))))) (fun v => w (Or.inr (Or.inr (Or.inr (Or.inr (Or.inr (Or.inl v))))))) (fun v => w (Or.inr (Or.inr (Or.inr (Or.inr (Or.inr (Or.inr (Or.inl v)))))))) (fun v => w (Or.inl v)) (fun v => w (Or.inr (Or.inr (Or.inr (Or.inl v)))))
    · have w54 : x.1 ≠ 54 := fun v => w (Or.inr (Or.inr (Or.inr (Or.inr (Or.inr (Or.inr (Or.inr (Or.inl v))))))))
      have w55 : x.1 ≠ 55 := fun v => w (Or.inr (Or.inr (Or.inr (Or.inr (Or.inr (Or.inr (Or.inr (Or.inr (Or.inl v)))))))))
      have w18 : ¬ (x = (40, 0, 0) ∧ j = 18) := fun v => w (Or.inr (Or.inr (Or.inr (Or.inr (Or.inr (Or.inr (Or.inr (Or.inr (Or.inr (Or.inl v))))))))))
      have wg : ¬ kk_gx x j := fun v => w (Or.inr (Or.inr (Or.inr (Or.inr (Or.inr (Or.inr (Or.inr (Or.inr (Or.inr (Or.inr (Or.inl v)))))))))))
      have w63 : x.1 ≠ 63 := fun v => w (by unfold kk_tx; simp [v])
      have w64 : x.1 ≠ 64 := fun v => w (by unfold kk_tx; simp [v])
      refine mF x j (by omega) (fun v => w (Or.inr (Or.inl v))) (fun v => w (Or.inr (Or.inr (Or.inl v)))) w54 w55 (fun v => wg ?_) w63 w64 (fun v => ?_)
      · exact Or.inr (Or.inr (Or.inr (Or.inr (Or.inl v))))
      · rcases v.2 with v2 | v2
        · exact wg (Or.inr (Or.inr (Or.inr (Or.inr (Or.inr (Or.inr (Or.inr ⟨v.1, Or.inl v2⟩)))))))
        · exact w18 ⟨v.1, v2⟩
  · have z2 := (kk_rcT hc hu ⟨n0, n1⟩ ⟨p0, p1⟩ z).2
    exact e54 u n p i (T28 u hu).1 (T28 u hu).2 n0 n1 p0 p1 z2 i0 i1
  · obtain ⟨⟨s1, s2, s3, s4⟩, s5⟩ := sd n n0 n1
    have W := W27 n n0 n1
    have f0 := s1 0 kk_F0
    have f6 := s1 6 (by unfold kk_F; omega)
    have f11 := s1 11 (by unfold kk_F; omega)
    by_cases c : kk_ctn2 h 27 n
    · obtain ⟨r1, r2, r3, r4, r5, r6, r7, r8⟩ := (S27 n n0 n1).1 c
      obtain ⟨y1, y2, y3, y4⟩ := mN n n0 n1 c
      refine ⟨?_, ?_, ?_, fun z => ⟨?_, ?_, ?_, ?_⟩, fun e e0 e1 => ?_, fun e e0 e1 => ?_, fun z e e0 e1 => ?_, fun p p0 p1 => ?_⟩
      · rw [f0, y1 41 kk_f41]; exact r1
      · rw [f6, y1 44 kk_f44]; exact r2
      · rw [f11, y1 49 kk_f49]; exact r3
      · rw [s1 1 (by unfold kk_F; omega), y1 42 kk_f42]; exact (r4 (by rw [← f0]; exact z)).1
      · rw [s1 2 (by unfold kk_F; omega), y1 47 kk_f47]; exact (r4 (by rw [← f0]; exact z)).2.1
      · rw [s1 3 (by unfold kk_F; omega), y1 48 (by simp [kk_mf])]; exact (r4 (by rw [← f0]; exact z)).2.2.1
      · rw [s1 14 (by unfold kk_F; omega), y1 53 kk_f53]; exact (r4 (by rw [← f0]; exact z)).2.2.2
      · rw [f6] at e1
        have k2 : h (24, 27, n) 0 = 2 := Classical.byContradiction (fun v => by have := W.2.2.1 v; omega)
        have := W.2.1.2
        rw [(s2 k2 e e0 (by omega)).1, (s2 k2 e e0 (by omega)).2, (y2 e e0 (by omega)).1, (y2 e e0 (by omega)).2]
        exact r5 e e0 e1
      · rw [f11] at e1
        rw [(s4 e e0 e1).1, (s4 e e0 e1).2, (y3 e e0 (by omega)).1, (y3 e e0 (by omega)).2]
        exact r6 e e0 e1
      · rw [f0] at z
        rw [s1 1 (by unfold kk_F; omega)] at e1
        have := (W.2.2.2.2.2.2.2.2.2.2.1.2.2 z).2
        rw [s3 z e e0 (by omega), y4 e e0 (by omega)]
        exact r7 z e e0 e1
      · rcases pc n p n0 n1 p0 p1 with w | w | w
        · rw [w.1, w.2.1]; exact ⟨by simp, fun v => absurd rfl v⟩
        · have N := (kk_NRC hc (t := t) (n := n) ⟨ht.1, by omega⟩ ⟨n0, n1⟩).2.2.2.2.2.2.2 p p0 p1
          have z2 : h (43, 0, 0) (36 * (36 * t + n - 1) + p) ≠ 0 := fun v => w.2.2.2.2.1 (N.1.2 v)
          refine ⟨by rw [w.2.2.2.1, w.2.2.2.2.2]; exact N.1, fun _ i i0 i1 => ?_⟩
          rw [w.2.2.2.1, w.2.2.2.2.2, ((pa n p n0 n1 p0 p1).1 w.2.2.1).2 i i0 i1, e54 t n p i ht.1 (by omega) n0 n1 p0 p1 z2 i0 i1]
          exact N.2 w.2.2.2.2.1 i i0 i1
        · have g := (pg n p n0 n1 p0 p1 c).2.2 w.2.2.1 w.2.2.2.1
          refine ⟨⟨fun v => absurd v w.2.2.2.2, fun v => by have := g.1; omega⟩, fun _ i i0 i1 => ?_⟩
          rw [by1 n p i n0 n1 p0 p1 i0 i1, g.2.2.2 i i0 i1]
          exact (r8 p p0 p1).2 w.1 i i0 i1
    · have k := (S27 n n0 n1).2 c
      obtain ⟨⟨y1, y2, y3, y4⟩, y5⟩ := mZ n n0 n1 c
      have g6 : h (24, 27, n) 6 = 0 := W.2.2.1 (by omega)
      have g11 : h (24, 27, n) 11 = 0 := W.2.2.2.2.1 k
      refine ⟨by rw [f0, y1]; exact k, by rw [f6, y3]; exact g6, by rw [f11, y4]; exact g11, fun z => absurd (by rw [f0]; exact k) z, fun e e0 e1 => by omega, fun e e0 e1 => by omega, fun z => by omega, fun p p0 p1 => ?_⟩
      rcases pc n p n0 n1 p0 p1 with w | w | w
      · rw [w.1, w.2.1]; exact ⟨by simp, fun v => absurd rfl v⟩
      · exact absurd w.2.1 c
      · exact absurd w.2.1 c
  · obtain ⟨⟨s1, s2, s3, s4⟩, s5⟩ := sd n n0 n1
    obtain ⟨w0, w6, w26, w11, w011, w14, w9, wp, w2, w3, w1, ws, wk, we, wv, wst, wz⟩ := W27 n n0 n1
    have f0 := s1 0 kk_F0
    have f1 := s1 1 (by unfold kk_F; omega)
    have f6 := s1 6 (by unfold kk_F; omega)
    have f11 := s1 11 (by unfold kk_F; omega)
    have k2 : ∀ i, 0 ≤ i → i < h (24, 27, n) 6 → h (24, 27, n) 0 = 2 ∧ i < 24 := fun i i0 i1 => ⟨Classical.byContradiction (fun v => by have := w26 v; omega), by omega⟩
    refine ⟨by rw [f0]; exact w0, by rw [f6]; exact w6, by rw [f0, f6]; exact w26, by rw [f11]; exact w11, by rw [f0, f11]; exact w011, by rw [s1 14 (by unfold kk_F; omega)]; exact w14, ?_, fun k p p0 p1 => ?_, by rw [s1 2 (by unfold kk_F; omega)]; exact w2, by rw [s1 3 (by unfold kk_F; omega)]; exact w3, by rw [f0, f1]; exact w1, ?_, ?_, ?_, ?_, ?_, ?_⟩
    · rw [s5, w9]
      exact sm_cgI 36 (fun p p0 p1 => by
        have := zz n p n0 n1 p0 (by omega)
        by_cases v : Z (27, t, n) p = 0
        · rw [if_pos v, if_pos (this.1 v)]
        · rw [if_neg v, if_neg (fun u => v (this.2 u))])
    · rw [f0] at k
      exact (zz n p n0 n1 p0 p1).2 (wp k p p0 p1)
    · rw [f6]
      intro i j i0 ij jc
      rw [(s2 (k2 i i0 (by omega)).1 i i0 (k2 i i0 (by omega)).2).1, (s2 (k2 j (by omega) jc).1 j (by omega) (k2 j (by omega) jc).2).1]
      exact ws i j i0 ij jc
    · rw [f11]
      intro i j i0 ij jc
      rw [(s4 i i0 (by omega)).1, (s4 j (by omega) jc).1]
      exact wk i j i0 ij jc
    · rw [f6]
      intro i i0 i1
      have e := s2 (k2 i i0 i1).1 i i0 (k2 i i0 i1).2
      have z := we i i0 i1
      rw [e.1, e.2, sdf _ 0 z.2.1.1 z.2.1.2 kk_F0]
      exact z
    · rw [f11]
      intro i i0 i1
      rw [(s4 i i0 i1).1, (s4 i i0 i1).2]
      exact wv i i0 i1
    · rw [f0, f1]
      intro k i i0 i1
      have := (w1.2.2 k).2
      rw [s3 k i i0 (by omega)]
      exact wst k i i0 i1
    · rw [f0, f1]
      intro k i i0 i1
      have := w1.1 k
      rw [by1 n (i / 60) (i % 60) n0 n1 (by omega) (by omega) (by omega) (by omega)]
      exact wz k i i0 i1
  · obtain ⟨F, eF⟩ : ∃ q : mm_Id → Int → Int, q = fun x j => if x.1 = 27 ∧ x.2.1 = t then h (27, 27, x.2.2) j else Z x j := ⟨_, rfl⟩
    have nF : ∀ (f : Nat) n j, f ≠ 27 → F (f, t, n) j = Z (f, t, n) j := fun f n j q => by rw [eF]; exact if_neg (fun v => q v.1)
    have T := kk_TWcp (h := h) (g := F) (t := t) (t1 := 27) (fun n n0 n1 => ?_) (fun n n0 n1 => W27 n n0 n1) (hK.2.2.1 27 T27)
    · exact kk_TWx (fun n j _ => (nF 24 n j (by decide)).symm) (fun n i => (nF 26 n i (by decide)).symm) T
    · obtain ⟨⟨s1, s2, s3, s4⟩, s5⟩ := sd n n0 n1
      refine ⟨⟨fun f hf => by rw [nF 24 n f (by decide)]; exact s1 f hf, fun k e e0 e1 => by rw [nF 25 n e (by decide), nF 26 n e (by decide)]; exact s2 k e e0 e1, fun k e e0 e1 => by rw [nF 30 n e (by decide)]; exact s3 k e e0 e1, fun e e0 e1 => by rw [nF 28 n e (by decide), nF 29 n e (by decide)]; exact s4 e e0 e1⟩, by rw [nF 24 n 9 (by decide)]; exact s5, fun p _ _ => ?_⟩
      rw [eF]; exact if_pos ⟨rfl, rfl⟩
  · rcases hs with hs | hs
    · rw [hs]
      have br : ∀ p, 0 ≤ p → p < 36 → (0 ≤ Z (43, 0, 0) (36 * (36 * t + n - 1) + p) ∧ Z (43, 0, 0) (36 * (36 * t + n - 1) + p) ≤ 3000) ∧ (h (24, 27, n) 0 ≠ 1 → Z (43, 0, 0) (36 * (36 * t + n - 1) + p) = 0) := fun p p0 p1 => by
        rcases pc n p n0 n1 p0 p1 with w | w | w
        · rw [w.2.1]; exact ⟨by omega, fun _ => rfl⟩
        · rw [w.2.2.2.2.2]
          exact ⟨kk_brC hc (s := t) ⟨ht.1, by omega⟩ n p n0 n1 p0 p1, fun k => absurd ((W27 n n0 n1).2.2.2.2.2.2.2.1 k p p0 p1) w.1⟩
        · have g := (pg n p n0 n1 p0 p1 w.2.1).2.2 w.2.2.1 w.2.2.2.1
          exact ⟨by have := g.1; omega, fun k => absurd ((W27 n n0 n1).2.2.2.2.2.2.2.1 k p p0 p1) w.1⟩
      by_cases c : kk_ctn2 h 27 n
      · obtain ⟨y1, y2, y3, y4⟩ := mN n n0 n1 c
        have m := kk_MWC hc (s := 27) (n := n) (by omega) ⟨n0, n1⟩
        have k41 := ((S27 n n0 n1).1 c).1
        unfold kk_MW kk_mw
        rw [y1 44 kk_f44, y1 49 kk_f49, y1 41 kk_f41]
        exact ⟨⟨m53 n n0 n1, m.1.2.1, m.1.2.2⟩, m.2.1, m.2.2.1, fun p p0 p1 => ⟨(br p p0 p1).1, fun k => (br p p0 p1).2 (by rw [k41]; exact k)⟩⟩
      · obtain ⟨⟨y1, y2, y3, y4⟩, y5⟩ := mZ n n0 n1 c
        unfold kk_MW kk_mw
        rw [y1, y3, y4]
        exact ⟨⟨m53 n n0 n1, by omega, by omega⟩, by omega, fun _ => rfl, fun p p0 p1 => by rw [y5 p p0 p1]; exact ⟨by omega, fun _ => rfl⟩⟩
    · rw [hs]
      exact kk_MWcp (m28 n n0 n1) (kk_MWC hc ⟨ht.1, by omega⟩ ⟨n0, n1⟩)
  · intro t1 n1 p1 t2 n2 p2 T1 N1 P1 T2 N2 P2 z1 z2
    by_cases same : t1 = t2 ∧ n1 = n2 ∧ p1 = p2
    · rw [same.1, same.2.1, same.2.2]
      exact ⟨fun _ => rfl, fun _ => rfl⟩
    · rcases cls t1 n1 p1 T1 N1.1 N1.2 P1.1 P1.2 z1 with c1 | c1
      · rcases cls t2 n2 p2 T2 N2.1 N2.2 P2.1 P2.2 z2 with c2 | c2
        · rw [c1.1] at z1 ⊢
          rw [c2.1] at z2 ⊢
          rw [c1.2, c2.2]
          exact hK.2.2.2.2.2.1 t1 n1 p1 t2 n2 p2 T1 N1 P1 T2 N2 P2 z1 z2
        · exact ⟨fun e => absurd e (c2.1 t1 n1 p1 T1 N1.1 N1.2 P1.1 P1.2 same), fun e => absurd e (c2.2 t1 n1 p1 T1 N1.1 N1.2 P1.1 P1.2 same)⟩
      · have s2 : ¬ (t2 = t1 ∧ n2 = n1 ∧ p2 = p1) := fun v => same ⟨v.1.symm, v.2.1.symm, v.2.2.symm⟩
        exact ⟨fun e => absurd e.symm (c1.1 t2 n2 p2 T2 N2.1 N2.2 P2.1 P2.2 s2), fun e => absurd e.symm (c1.2 t2 n2 p2 T2 N2.1 N2.2 P2.1 P2.2 s2)⟩
  · intro u n1 p1 n2 p2 T1 N1 P1 N2 P2 z1 e
    have z2 : Z (27, u, n2) p2 ≠ 0 := by rw [← e]; exact z1
    by_cases same : n1 = n2 ∧ p1 = p2
    · exact same
    · rcases cls u n1 p1 T1 N1.1 N1.2 P1.1 P1.2 z1 with c1 | c1
      · rcases cls u n2 p2 T1 N2.1 N2.2 P2.1 P2.2 z2 with c2 | c2
        · rw [c1.1] at z1 e
          rw [c2.1] at e
          exact hK.2.2.2.2.2.2.1 u n1 p1 n2 p2 T1 N1 P1 N2 P2 z1 e
        · exact absurd e (c2.1 u n1 p1 T1 N1.1 N1.2 P1.1 P1.2 (fun v => same v.2))
      · exact absurd e.symm (c1.1 u n2 p2 T1 N2.1 N2.2 P2.1 P2.2 (fun v => same ⟨v.2.1.symm, v.2.2.symm⟩))
  · rw [z16 e e0 e1]; exact hK.2.2.2.2.2.2.2.2.1.1 e e0 e1
  · obtain ⟨k, hk, e⟩ := ba j j0 j1
    rw [e]; exact hK.2.2.2.2.2.2.2.2.1.2 k hk.1 hk.2
  · refine Int.le_trans (kk_cntle (fun c _ _ q => ?_)) hW.2.1.2.2.1
    exact ⟨t, ⟨ht.1, by omega⟩, by rw [kk_NC hc t ht.1 (by omega)]; exact hno, by omega, (kk_bscp m28).1 q⟩
  · rw [sdf 1 0 (by omega) (by omega) kk_F0]; exact hW.2.2.2.2.2.2.2.2.2.2.2 s9
  · refine kk_KGe (fun x j hx => ?_) hW.2.2.2
    obtain ⟨f, a, c⟩ := x
    rcases hx with ⟨q, q2⟩ | q | q | q | q | ⟨q, q2⟩ | ⟨q, q2⟩
    · rw [q]; exact C 1 0 0 j (by omega) (by omega) (by omega) (by omega)
    · simp at q; exact C f a c j (by omega) (by omega) (by omega) (by omega)
    · simp at q; exact C f a c j (by omega) (by omega) (by omega) (by omega)
    · simp at q; exact C f a c j (by omega) (by omega) (by omega) (by omega)
    · simp at q; exact M f a c j (by omega) (by omega) (by omega)
    · rw [q]; exact M 40 0 0 j (by omega) (by omega) (by omega)
    · simp at q q2; exact C f a c j (by omega) (by omega) (by omega) (by omega)
  · exact kk_d17c (t := t) (P := fun q => dh q = t) (kk_h17 hc) (fun q q0 q1 e => dcl q q0 q1 e) (fun q q0 q1 e => ⟨fun _ => e, dno q q0 q1 e⟩) (fun f i j hf => C f i 0 j (by omega) (by omega) (by omega) (by omega)) (fun j => M 62 0 0 j (by omega) (by omega) (by omega)) (fun s _ _ _ z => by rw [no]; exact z) (fun s n s0 s1 ne n0 n1 z => by rw [C 24 s n 0 (by omega) (by omega) (by omega) (by omega)]; exact z)
  · intro a a0 a1
    obtain ⟨q, hq⟩ : ∃ q, q = a / 2160 - 1 := ⟨_, rfl⟩
    have ea : a = 2160 * (q + 1) + a % 2160 := by omega
    by_cases e : dh q = t
    · have z := (dcl q (by omega) (by omega) e).2.2 (a % 2160) (by omega) (by omega)
      rw [← ea] at z
      rw [z]; omega
    · have z := (dno q (by omega) (by omega) e).2.2 (a % 2160) (by omega) (by omega)
      rw [← ea] at z
      rw [z]; exact kk_h18 hc a a0 a1
  · intro i n i0 i1 n0 n1 z z5
    by_cases q : i = t
    · rw [q, sdf n 0 n0 n1 kk_F0] at z
      rw [q, sdf n 5 n0 n1 kk_F5] at z5
      exact absurd ⟨z, z5⟩ (kk_SRu hc (Or.inr rfl) ⟨n0, n1⟩)
    · rw [C 24 i n 0 (by omega) (by omega) (by omega) (by omega)] at z
      rw [C 24 i n 5 (by omega) (by omega) (by omega) (by omega)] at z5
      obtain ⟨j, hj, q1, q2⟩ := kk_h19 hc i n i0 i1 n0 n1 z z5
      exact ⟨j, hj, by rw [(dno j hj.1 hj.2 (by omega)).1]; exact q1, by rw [C 34 j 0 2 (by omega) (by omega) (by omega) (by omega)]; exact q2⟩

