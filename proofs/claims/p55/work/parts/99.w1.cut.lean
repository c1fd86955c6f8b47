/-! cut: pieces dropped, counted; what holds after -/
/-- pieces from w to before j dropped there -/
def kk_Dj (s n w j : Int) (G : mm_Id → Int → Int) : mm_Id → Int → Int := fun x i => if x = (43, 0, 0) ∧ 36 * (36 * s + n - 1) + w ≤ i ∧ i < 36 * (36 * s + n - 1) + j then 0 else G x i
theorem kk_Dj0 (s n w : Int) (G : mm_Id → Int → Int) : kk_Dj s n w w G = G := by
  funext x i
  unfold kk_Dj
  rw [if_neg (by omega)]
theorem kk_Dj1 {s n w j : Int} {G : mm_Id → Int → Int} (h : w ≤ j) : mm_up (kk_Dj s n w j G) (43, 0, 0) (36 * (36 * s + n - 1) + j) 0 = kk_Dj s n w (j + 1) G := by
  funext x i
  unfold kk_Dj mm_up
  by_cases q : x = (43, 0, 0) ∧ i = 36 * (36 * s + n - 1) + j
  · rw [if_pos q, if_pos ⟨q.1, by omega, by omega⟩]
  · rw [if_neg q]
    show (if x = (43, 0, 0) ∧ 36 * (36 * s + n - 1) + w ≤ i ∧ i < 36 * (36 * s + n - 1) + j then 0 else G x i) = _
    by_cases q2 : x = (43, 0, 0) ∧ 36 * (36 * s + n - 1) + w ≤ i ∧ i < 36 * (36 * s + n - 1) + j
    · rw [if_pos q2, if_pos ⟨q2.1, q2.2.1, by omega⟩]
    · rw [if_neg q2, if_neg (fun v => q2 ⟨v.1, v.2.1, by have := v.2; have : i ≠ 36 * (36 * s + n - 1) + j := fun e => q ⟨v.1, e⟩; omega⟩)]
section
variable {s n w j : Int} {G : mm_Id → Int → Int}
theorem kk_Djn {x : mm_Id} {i : Int} (q : ¬ (x = (43, 0, 0) ∧ 36 * (36 * s + n - 1) + w ≤ i ∧ i < 36 * (36 * s + n - 1) + j)) : kk_Dj s n w j G x i = G x i := if_neg q
theorem kk_Djz {p : Int} (h : w ≤ p ∧ p < j) : kk_Dj s n w j G (43, 0, 0) (36 * (36 * s + n - 1) + p) = 0 := if_pos ⟨rfl, by omega, by omega⟩
theorem kk_Djs (h : w ≤ j) : kk_st s n j 0 (kk_Dj s n w j G) (kk_Dj s n w (j + 1) G) :=
  ⟨kk_Djz ⟨h, by omega⟩, fun i q => by
    rw [← kk_Dj1 h, mm_upj q], fun i => by rw [kk_Djn (by simp), kk_Djn (by simp)], fun i => by rw [kk_Djn (by simp), kk_Djn (by simp)], fun i => by rw [kk_Djn (by simp), kk_Djn (by simp)]⟩
theorem kk_drop (hs : 0 ≤ s ∧ s < 13) (h57 : 0 < G (57, 0, 0) s) (hn : 1 ≤ n ∧ n < 37) (hw : 0 ≤ w) (hk : G (41, 0, 0) (36 * s + n - 1) = 1) (D : kk_Dm G s) (F : ∀ a, 0 ≤ a → a < 29 → kk_fo G a) (br : ∀ a, 0 ≤ a → a < 29 → kk_br G a) :
    ∀ d : Nat, w + d ≤ 36 → (kk_Dm (kk_Dj s n w (w + d) G) s ∧ (∀ a, 0 ≤ a → a < 29 → kk_fo (kk_Dj s n w (w + d) G) a) ∧ (∀ a, 0 ≤ a → a < 29 → kk_br (kk_Dj s n w (w + d) G) a) ∧ (∀ c, kk_lb (kk_Dj s n w (w + d) G) s c ↔ kk_lb G s c) ∧ (∀ c, 1 ≤ c → kk_any (kk_Dj s n w (w + d) G) c → kk_any G c)) ∧
      kk_cnt (kk_lb (kk_Dj s n w (w + d) G) (-1)) = kk_cnt (kk_lb G (-1)) - kk_sf (fun p => kk_b (G (43, 0, 0) (36 * (36 * s + n - 1) + p) ≠ 0 ∧ ¬ kk_lb G s (G (43, 0, 0) (36 * (36 * s + n - 1) + p)))) w (w + d) ∧ kk_cnt (kk_bs (kk_Dj s n w (w + d) G) s) ≤ kk_cnt (kk_bs G s) := by
  intro d
  induction d with
  | zero =>
    intro _
    rw [show w + ((0 : Nat) : Int) = w by omega, kk_Dj0, kk_sf0]
    exact ⟨⟨D, F, br, fun _ => Iff.rfl, fun _ _ q => q⟩, by omega, Int.le_refl _⟩
  | succ d ih =>
    intro h36
    obtain ⟨⟨i1, i2, i3, i4, i5⟩, i6, i7⟩ := ih (by omega)
    rw [show w + ((d + 1 : Nat) : Int) = (w + (d : Int)) + 1 by omega]
    have hp : 0 ≤ w + (d : Int) ∧ w + (d : Int) < 36 := ⟨by omega, by omega⟩
    have st : kk_st s n (w + d) 0 (kk_Dj s n w (w + d) G) (kk_Dj s n w (w + d + 1) G) := kk_Djs (by omega)
    have e41 : kk_Dj s n w (w + d) G (41, 0, 0) (36 * s + n - 1) = 1 := by rw [kk_Djn (by simp)]; exact hk
    have e57 : 0 < kk_Dj s n w (w + d) G (57, 0, 0) s := by rw [kk_Djn (by simp)]; exact h57
    have eo : kk_Dj s n w (w + d) G (43, 0, 0) (36 * (36 * s + n - 1) + (w + d)) = G (43, 0, 0) (36 * (36 * s + n - 1) + (w + d)) := kk_Djn (by rintro ⟨_, v⟩; omega)
    refine ⟨⟨kk_stD st hn hp (Or.inl rfl) i1, fun a a0 a1 => ?_, fun a a0 a1 => ?_, fun c => (kk_stlo st hn hp c).trans (i4 c), fun c c0 q => ?_⟩, ?_, ?_⟩
    · by_cases y : a = s
      · rw [y]; exact kk_stF st hp e41 (i2 s hs.1 (by omega))
      · intro v q n0 n1 q0 q1 z
        rw [kk_sto st hn ⟨n0, n1⟩ hp ⟨q0, q1⟩ y] at z
        rw [st.2.2.1]
        exact i2 a a0 a1 v q n0 n1 q0 q1 z
    · intro v q n0 n1 q0 q1
      by_cases y : a = s
      · by_cases y2 : v = n ∧ q = w + d
        · rw [y, y2.1, y2.2, st.1]; omega
        · rw [y, kk_stp st hp ⟨q0, q1⟩ y2]; exact i3 s hs.1 (by omega) v q n0 n1 q0 q1
      · rw [kk_sto st hn ⟨n0, n1⟩ hp ⟨q0, q1⟩ y]; exact i3 a a0 a1 v q n0 n1 q0 q1
    · rcases kk_stA st (by omega) hn hp q with q | q
      · exact i5 c c0 q
      · omega
    · have r := kk_stL st hs e57 hn hp e41 i1 (i3 s hs.1 (by omega)) (Or.inl rfl)
      rw [if_pos rfl, eo] at r
      have bb := kk_bc (P := G (43, 0, 0) (36 * (36 * s + n - 1) + (w + d)) ≠ 0 ∧ ¬ kk_lb (kk_Dj s n w (w + d) G) s (G (43, 0, 0) (36 * (36 * s + n - 1) + (w + d)))) (R := G (43, 0, 0) (36 * (36 * s + n - 1) + (w + d)) ≠ 0 ∧ ¬ kk_lb G s (G (43, 0, 0) (36 * (36 * s + n - 1) + (w + d)))) (by rw [i4])
      rw [bb] at r
      rw [r, i6, kk_sf1 _ (by omega)]
      omega
    · have r := kk_stB st hn hp e41 i1 (i3 s hs.1 (by omega)) (Or.inl rfl)
      rw [if_pos rfl] at r
      have := kk_bb (kk_Dj s n w (w + d) G (43, 0, 0) (36 * (36 * s + n - 1) + (w + d)) ≠ 0)
      omega
end
section
variable {h G c2 : mm_Id → Int → Int} {dh : Int → Int} {b s n lo hi lim w j : Int}
theorem kk_RDn {p c : Int} (hs : 0 ≤ s ∧ s < 13) (hn : 1 ≤ n ∧ n < 37) (hw : 0 ≤ w) (hj : j ≤ 36) (IG : kk_G28 s h G) (I : kk_RI s n lo hi lim (kk_Dj s n w j G) c2) (p0 : lo ≤ p) (p1 : p < hi) (q : kk_any G c) : c ≠ c2 (43, 0, 0) (36 * (36 * s + n - 1) + p) := fun e => by
  obtain ⟨a, ha, n2, p2, hn2, hp2, _, e2⟩ := q
  by_cases z : a = s ∧ n2 = n
  · rw [z.1, z.2] at e2
    have e3 := (IG.2 n hn.1 hn.2).2.1 p2 hp2.1 hp2.2
    rw [← kk_G43 IG (by omega) hn.2 hp2.2] at e3
    have z2 := I.2.2.1 p 28 n p2 p0 p1 (by omega) (by omega) hn.1 hn.2 hp2.1 hp2.2 (by rw [kk_Djn (by rintro ⟨_, v⟩; omega), e3, e2]; exact e)
    omega
  · have z2 := I.2.2.1 p a n2 p2 p0 p1 ha.1 ha.2 hn2.1 hn2.2 hp2.1 hp2.2 (by rw [kk_Djn (by rintro ⟨_, v⟩; omega), e2]; exact e)
    exact z ⟨z2.1, z2.2.1⟩
theorem kk_RDa {c : Int} (hs : 0 ≤ s ∧ s < 13) (hn : 1 ≤ n ∧ n < 37) (hw : 0 ≤ w) (hj : j ≤ 36) (h0 : 0 ≤ lo) (h36 : hi ≤ 36) (IG : kk_G28 s h G) (I : kk_RI s n lo hi lim (kk_Dj s n w j G) c2) (q : kk_any G c) : kk_any c2 c := by
  obtain ⟨a, ha, n2, p2, hn2, hp2, k, e2⟩ := q
  have F := I.2.2.2.2.2.2.1
  by_cases z : a = s ∧ n2 = n
  · rw [z.1, z.2] at e2 k
    have e3 := (IG.2 n hn.1 hn.2).2.1 p2 hp2.1 hp2.2
    rw [← kk_G43 IG (by omega) hn.2 hp2.2, e2] at e3
    have e4 := (IG.2 n hn.1 hn.2).1 41 kk_f41
    rw [← kk_G41 IG kk_f41 (by decide) (by decide) (by omega) hn.2, k] at e4
    refine ⟨28, by omega, n, p2, hn, hp2, ?_, ?_⟩
    · rw [F _ _ (by simp) (by simp) (by simp) (by simp), kk_Djn (by simp)]; exact e4
    · rw [F _ _ (by simp) (by simp) (by simp) (fun v => by have := v.2; omega), kk_Djn (by rintro ⟨_, v⟩; omega)]; exact e3
  · refine ⟨a, ha, n2, p2, hn2, hp2, ?_, ?_⟩
    · rw [F _ _ (by simp) (by simp) (by simp) (by simp), kk_Djn (by simp)]; exact k
    · rw [F _ _ (by simp) (by simp) (by simp) (fun v => by have := v.2; omega), kk_Djn (by rintro ⟨_, v⟩; omega)]; exact e2
/-- cut: what holds after -/
theorem kk_ctW {t m a p1 : Int} {c0 c g hz gm Z : mm_Id → Int → Int} (hc : kk_core b h dh) (ht : 0 ≤ t ∧ t < 5) (hno : 0 < kk_no h t) (hm : 1 ≤ m ∧ m < 37) (hk : h (24, t, m) 0 = 1) (ha : 0 ≤ a ∧ a ≤ 2160) (hlo : lo = a / 60) (hw : w = (a + 59) / 60)
    (hU : hi = lo + 1 ∧ lo < w ∧ h (27, t, m) lo ≠ 0 ∨ hi = lo ∧ (h (24, t, m) 1 ≤ a ∨ a % 60 = 0 ∨ h (27, t, m) lo = 0))
    (c1 : ∀ p, 0 ≤ p → p < 36 → c0 (27, t, m) p = if p < w then h (27, t, m) p else 0) (c2' : ∀ x j, ¬ kk_ct x j → ¬ kk_bk t m x j → c0 x j = h x j)
    (Ic : kk_RN t m (fun p => lo ≤ p ∧ p < hi) c0 c) (P1 : ∀ x q, x ≠ (16, 0, 0) → g x q = c x q) (P2 : ∀ p k, (lo ≤ p ∧ p < hi) → 0 ≤ k → k < 60 → g (16, 0, 0) (60 * c (27, t, m) p + k) = if 60 * p + k < a then c (16, 0, 0) (60 * c (27, t, m) p + k) else 0) (P3 : ∀ r k, 0 ≤ k → k < 60 → (∀ p, (lo ≤ p ∧ p < hi) → r ≠ c (27, t, m) p) → g (16, 0, 0) (60 * r + k) = c (16, 0, 0) (60 * r + k))
    (IG : kk_G28 t h G) (Ir : kk_RI t m lo hi lim (kk_Dj t m w 36 G) c2) (hl : lim = a) (ehz : hz = mm_up g (24, t, m) 1 a) (egm : ∀ (x : mm_Id) j, 40 ≤ x.1 → x.1 ≠ 56 → gm x j = mm_up c2 (42, 0, 0) (36 * t + m - 1) a x j) (hZ : Z = mm_up (kk_mix hz gm) (31, t, 0) 6 1) (b3 : kk_cnt (kk_lb gm (-1)) ≤ 400) (b7 : kk_cnt (kk_bs gm t) ≤ h (59, 0, 0) t) : kk_W b Z dh ∧ kk_KP Z := by
  have hT := mm_T13 (s := t) ⟨ht.1, by omega⟩
  have W := hc.1.1.2.1 t m hT hm.1 hm.2
  have N := kk_NRC hc (t := t) (n := m) ⟨ht.1, by omega⟩ hm
  have wz := W.2.2.2.2.2.2.2.2.2.2.2.2.2.2.2.2 hk
  have t9 := hc.1.1.2.2.2.2.2.2.2.2.1
  obtain ⟨cR, cn, cS, cH, cI, cO, cB, cE, cF, cr⟩ := Ic
  obtain ⟨⟨I1, I2⟩, I3, I4, I5, I6, I7, I8, _⟩ := Ir
  have zc : ∀ (x : mm_Id) j, x.1 < 40 → ¬ (x = (31, t, 0) ∧ j = 6) → Z x j = hz x j := fun x j q q2 => by rw [hZ, mm_upne' q2]; exact kk_mixC q
  have zm : ∀ (x : mm_Id) j, 40 ≤ x.1 → Z x j = gm x j := fun x j q => by rw [hZ, mm_upne' (by rintro ⟨v, _⟩; rw [v] at q; simp at q)]; exact kk_mixM q
  have z27 : ∀ p, Z (27, t, m) p = c (27, t, m) p := fun p => by rw [zc _ _ (by simp) (by simp), ehz, mm_upf (by decide)]; exact P1 _ _ (by simp)
  have z16 : ∀ j, Z (16, 0, 0) j = g (16, 0, 0) j := fun j => by rw [zc _ _ (by decide) (by simp), ehz, mm_upf (by decide)]
  have gc2 : ∀ (x : mm_Id) j, 40 ≤ x.1 → x.1 ≠ 56 → ¬ (x = (42, 0, 0) ∧ j = 36 * t + m - 1) → Z x j = c2 x j := fun x j q q2 q4 => by rw [zm x j q, egm x j q q2, mm_upne' q4]
  have z43 : ∀ j, Z (43, 0, 0) j = c2 (43, 0, 0) j := fun j => gc2 _ _ (by decide) (by decide) (by simp)
  have z54 : ∀ j, Z (54, 0, 0) j = c2 (54, 0, 0) j := fun j => gc2 _ _ (by decide) (by decide) (by simp)
  have g54 : ∀ j, kk_Dj t m w 36 G (54, 0, 0) j = h (54, 0, 0) j := fun j => by rw [kk_Djn (by simp)]; exact IG.1 _ _ (by decide) (kk_sx6 (by omega)) (by decide) (by simp)
  have o43 : ∀ u v p, u < 28 → 1 ≤ v → v < 37 → p < 36 → 0 ≤ p → ¬ (u = t ∧ v = m ∧ w ≤ p) → kk_Dj t m w 36 G (43, 0, 0) (36 * (36 * u + v - 1) + p) = h (43, 0, 0) (36 * (36 * u + v - 1) + p) := fun u v p u1 v0 v1 p1 p0 q => by rw [kk_Djn (by rintro ⟨_, y⟩; omega)]; exact kk_G43 IG u1 v1 p1
  have e16 : ∀ j, c0 (16, 0, 0) j = h (16, 0, 0) j := fun j => c2' _ _ (by unfold kk_ct; simp) (by unfold kk_bk; simp)
  have z24 : ∀ j, Z (24, t, m) j = if j = 1 then a else g (24, t, m) j := fun j => by
    rw [zc _ _ (by simp) (by simp), ehz]
    by_cases q : j = 1
    · rw [q, mm_ups, if_pos rfl]
    · rw [mm_upj q, if_neg q]
  have zsz : Z (24, t, m) 1 = a := by rw [z24, if_pos rfl]
  have out16 : ∀ r k, 0 ≤ k → k < 60 → (∀ p, (lo ≤ p ∧ p < hi) → r ≠ c (27, t, m) p) → g (16, 0, 0) (60 * r + k) = h (16, 0, 0) (60 * r + k) := fun r k k0 k1 q => by
    rw [P3 r k k0 k1 q, cE r k k0 k1 q, e16]
  refine kk_pgW (S := fun p => lo ≤ p ∧ p < hi) (D := fun p => w ≤ p ∧ p < 36) hc ht hno hm hk (fun x j q => ?_) (fun p p0 p2 ns => ?_) (fun p s => ?_) (fun p t2 n2 p2 s hT2 n0 n1 p0 p3 e => ?_) (fun p s n2 p2 sp s0 s1 n0 n1 p0 p3 e => ?_) (fun p q s s2 e => ?_) (fun p q s s2 e => ?_) (fun r k k0 k1 w => ?_) (fun r k k0 k1 w => ?_) (fun p k s k0 k1 => ?_) (fun n n0 n1 => ?_) ⟨?_, ?_, ?_⟩ (fun i i0 i1 => ?_) ?_ ?_ (fun j j0 j1 => ?_) (fun v v0 v1 q => ?_) ?_ ?_ ?_ (by rw [hZ, mm_ups])
  · by_cases q0 : x.1 < 40
    · have nct : ¬ kk_ct x j := fun v => q (Or.inr (Or.inr (Or.inr (Or.inr (Or.inr (Or.inl v))))))
      have n16 : x ≠ (16, 0, 0) := fun v => q (Or.inr (Or.inr (Or.inr (Or.inr (Or.inr (Or.inr (Or.inr (Or.inl (by rw [v])))))))))
      rw [zc x j q0 (fun v => q (Or.inr (Or.inr (Or.inr (Or.inr (Or.inr (Or.inr (Or.inr (Or.inr (Or.inr (Or.inr (Or.inr (Or.inr v))))))))))))), ehz, mm_upne' (fun v => q (Or.inr (Or.inl ⟨v.1, Or.inl v.2⟩))), P1 x j n16,
        cF x j nct (fun v => q (Or.inr (Or.inr (Or.inr (Or.inr (Or.inr (Or.inr (Or.inl v)))))))) n16 (fun v => q (Or.inl v)) (fun v => q (Or.inr (Or.inl ⟨v.1, Or.inr v.2⟩)))]
      exact c2' x j nct (fun v => v.elim (fun v => q (Or.inl v.1)) (fun v => q (Or.inr (Or.inl ⟨v.1, Or.inr v.2⟩))))
    · have n56 : x.1 ≠ 56 := fun v => q (Or.inr (Or.inr (Or.inr (Or.inr (Or.inr (Or.inr (Or.inr (Or.inr (Or.inr (Or.inr (Or.inr (Or.inl v))))))))))))
      have n54 : x.1 ≠ 54 := fun v => q (Or.inr (Or.inr (Or.inr (Or.inr (Or.inr (Or.inr (Or.inr (Or.inr (Or.inl v)))))))))
      have n55 : x.1 ≠ 55 := fun v => q (Or.inr (Or.inr (Or.inr (Or.inr (Or.inr (Or.inr (Or.inr (Or.inr (Or.inr (Or.inl v))))))))))
      have n40 : ¬ (x = (40, 0, 0) ∧ (j = 0 ∨ j = 18)) := fun v => q (Or.inr (Or.inr (Or.inr (Or.inr (Or.inr (Or.inr (Or.inr (Or.inr (Or.inr (Or.inr (Or.inl v)))))))))))
      rw [gc2 x j (by omega) n56 (fun v => q (Or.inr (Or.inr (Or.inl v)))), I8 x j (fun v => n55 (by rw [v])) (fun v => n40 ⟨v.1, Or.inr v.2⟩) (fun v => n54 (by rw [v])) (fun v => q (Or.inr (Or.inr (Or.inr (Or.inl ⟨v.1, by have := v.2; omega⟩))))), kk_Djn (fun v => q (Or.inr (Or.inr (Or.inr (Or.inl ⟨v.1, by have := v.2; omega⟩)))))]
      exact IG.1 x j (by omega) (fun v => q (Or.inr (Or.inr (Or.inr (Or.inr (Or.inl v)))))) n56 (fun v => n40 ⟨v.1, Or.inl v.2⟩)
  · have x1 := cO p p0 p2 ns
    have x2 : c2 (43, 0, 0) (36 * (36 * t + m - 1) + p) = kk_Dj t m w 36 G (43, 0, 0) (36 * (36 * t + m - 1) + p) := I8 _ _ (by simp) (by simp) (by simp) (fun v => ns (by have := v.2; omega))
    rw [z27, z43, x1, x2, c1 p p0 p2]
    by_cases y : p < w
    · rw [if_pos y, o43 t m p (by omega) hm.1 hm.2 p2 p0 (by omega)]
      exact Or.inl ⟨by omega, rfl, rfl⟩
    · rw [if_neg y, kk_Djz ⟨by omega, p2⟩]
      exact Or.inr ⟨by omega, rfl, rfl⟩
  · rw [z27, z43]
    exact ⟨(cS p s).1, (cS p s).2, I3 p s.1 s.2⟩
  · rw [z27] at e
    by_cases y : t2 = t ∧ n2 = m ∧ w ≤ p2
    · exact ⟨y.1, y.2.1, Or.inr ⟨y.2.2, p3⟩⟩
    · have e2 : c0 (27, t2, n2) p2 = h (27, t2, n2) p2 := by
        by_cases y2 : t2 = t ∧ n2 = m
        · rw [y2.1, y2.2, c1 p2 p0 p3, if_pos (by omega)]
        · exact c2' _ _ (by unfold kk_ct; simp) (by unfold kk_bk; rintro (⟨v, _⟩ | ⟨v, _⟩) <;> simp at v; exact y2 v)
      have z := cH p t2 n2 p2 s hT2 n0 n1 p0 p3 (by rw [e2]; exact e)
      exact ⟨z.1, z.2.1, Or.inl z.2.2⟩
  · rw [z43] at e
    by_cases y : s = t ∧ n2 = m ∧ w ≤ p2
    · exact ⟨y.1, y.2.1, Or.inr ⟨y.2.2, p3⟩⟩
    · rw [← o43 s n2 p2 s1 n0 n1 p3 p0 y] at e
      have z := I4 p s n2 p2 sp.1 sp.2 s0 (by omega) n0 n1 p0 p3 e
      exact ⟨z.1, z.2.1, Or.inl z.2.2⟩
  · rw [z27, z27] at e; exact cI p q s s2 e
  · rw [z43, z43] at e; exact I5 p q s.1 s.2 s2.1 s2.2 e
  · rw [z16]; exact out16 r k k0 k1 (fun p s => by rw [← z27]; exact w p s)
  · rw [z54, ← g54]
    exact I7 r k k0 k1 (fun p s s2 => by rw [← z43]; exact w p ⟨s, s2⟩)
  · have U : p = lo ∧ lo < w ∧ h (27, t, m) lo ≠ 0 := by
      rcases hU with u | u
      · exact ⟨by have := s.1; have := s.2; omega, u.2⟩
      · have := s.1; have := s.2; omega
    obtain ⟨u1, u2, u3⟩ := U
    have p36 : 0 ≤ p ∧ p < 36 := (cS p s).1
    have r8 := N.2.2.2.2.2.2.2 p p36.1 p36.2
    have br := kk_brC hc (s := t) ⟨ht.1, by omega⟩ m p hm.1 hm.2 p36.1 p36.2
    have n0 : h (43, 0, 0) (36 * (36 * t + m - 1) + p) ≠ 0 := fun q => by rw [u1] at q r8; exact u3 (r8.1.2 q)
    rw [z16, z54, z27, z43, P2 p k s k0 k1, I6 p k s.1 s.2 k0 k1, o43 t m p (by omega) hm.1 hm.2 p36.2 p36.1 (by omega), g54, cB p k s k0 k1, e16, c1 p p36.1 p36.2, if_pos (show p < w by omega), hl]
    by_cases y : 60 * p + k < a
    · rw [if_pos y, if_pos ⟨by omega, y⟩]
      exact r8.2 (by rw [u1]; exact u3) k k0 k1
    · rw [if_neg y, if_neg (fun v => y v.2)]
  · refine kk_mst (kk_msr (h := G) ?_ ?_ (fun x j hx => ?_)) (IG.2 n n0 n1)
    · rw [(IG.2 n n0 n1).1 44 kk_f44]; exact (kk_MWC hc (s := t) (n := n) (by omega) ⟨n0, n1⟩).1.2.1.2
    · rw [(IG.2 n n0 n1).1 49 kk_f49]; exact (kk_MWC hc (s := t) (n := n) (by omega) ⟨n0, n1⟩).1.2.2.2
    · have r := kk_mxr hx
      have nt : ¬ kk_sx t x j := kk_sxd (s := 28) (by omega) ⟨n, n0, n1, hx⟩
      have n43 : ∀ u v : Int, 0 ≤ u → v ≤ 36 → ¬ (x = (43, 0, 0) ∧ 36 * (36 * t + m - 1) + u ≤ j ∧ j < 36 * (36 * t + m - 1) + v) := fun u v u0 v1 y => nt ⟨m, hm.1, hm.2, Or.inr (Or.inl ⟨by rw [y.1], by have := y.2; omega⟩)⟩
      rw [gc2 x j (by omega) (by omega) (fun v => nt ⟨m, hm.1, hm.2, Or.inl ⟨by rw [v.1]; simp [kk_mf], v.2⟩⟩), I8 x j (by rintro v; rw [v] at r; simp at r) (by rintro ⟨v, _⟩; rw [v] at r; simp at r) (by rintro v; rw [v] at r; simp at r) (n43 lo hi (by omega) (by omega))]
      exact kk_Djn (n43 w 36 (by omega) (by omega))
  · rw [zsz, zm _ _ (by decide), egm _ _ (by decide) (by decide), mm_ups]
  · rw [zsz]; exact ha.1
  · rw [zsz]; exact ha.2
  · rw [zsz] at i0
    rw [z16, z27]
    by_cases s : lo ≤ i / 60 ∧ i / 60 < hi
    · rw [P2 (i / 60) (i % 60) s (by omega) (by omega), if_neg (by omega)]
    · have q := cO (i / 60) (by omega) (by omega) s
      rw [c1 (i / 60) (by omega) (by omega)] at q
      have z0 : g (16, 0, 0) (60 * 0 + i % 60) = 0 := by
        rw [out16 0 (i % 60) (by omega) (by omega) (fun p sp => by have := (cS p sp).2; omega), show 60 * 0 + i % 60 = i % 60 by omega]
        exact t9.1 _ (by omega) (by omega)
      by_cases y : i / 60 < w
      · rw [if_pos y] at q
        have il : i / 60 = lo := by omega
        rcases hU with u | u
        · omega
        · rcases u.2 with u2 | u2 | u2
          · have nr : ∀ p, lo ≤ p ∧ p < hi → c (27, t, m) (i / 60) ≠ c (27, t, m) p := fun p sp => by have := u.1; omega
            rw [out16 _ (i % 60) (by omega) (by omega) nr, q]
            exact wz i (by omega) i1
          · omega
          · rw [q, il, u2]; exact z0
      · rw [if_neg y] at q
        rw [q]; exact z0
  · rw [z24, if_neg (by decide), P1 _ _ (by simp), cn]
    exact kk_nzc (fun p _ _ => (z27 p).symm)
  · have k1 : kk_R hz := by
      rw [ehz]
      exact kk_Rcong (fun u n p => by rw [mm_upf (by decide)]; exact P1 _ _ (by simp)) (by rw [mm_upf (by decide)]; exact P1 _ _ (by simp)) (by rw [mm_upf (by decide)]; exact P1 _ _ (by simp)) (fun _ => by rw [mm_upf (by decide)]; exact P1 _ _ (by simp)) (fun _ => by rw [mm_upf (by decide)]; exact P1 _ _ (by simp)) (fun _ => by rw [mm_upf (by decide)]; exact P1 _ _ (by simp)) cR
    exact kk_Rcong (fun u n p => zc _ _ (by simp) (by simp)) (zc _ _ (by simp) (by simp)) (zc _ _ (by simp) (by simp)) (fun _ => zc _ _ (by simp) (by simp)) (fun _ => zc _ _ (by simp) (by simp)) (fun _ => zc _ _ (by simp) (by simp)) k1
  · rw [z16]
    by_cases s : ∃ p, (lo ≤ p ∧ p < hi) ∧ j / 60 = c (27, t, m) p
    · obtain ⟨p, sp, e⟩ := s
      have := P2 p (j % 60) sp (by omega) (by omega)
      rw [← e, show 60 * (j / 60) + j % 60 = j by omega] at this
      rw [this]
      split
      · exact cr j j0 j1
      · omega
    · have := P3 (j / 60) (j % 60) (by omega) (by omega) (fun p sp e => s ⟨p, sp, e⟩)
      rw [show 60 * (j / 60) + j % 60 = j by omega] at this
      rw [this]; exact cr j j0 j1
  · rw [gc2 _ _ (by decide) (by decide) (by simp)]
    refine I1 v v0 v1 ?_
    obtain ⟨s, hs, n, p, hn, hp, k, e⟩ := q
    exact ⟨s, hs, n, p, hn, hp, by rw [← gc2 _ _ (by decide) (by decide) (by simp)]; exact k, by rw [← z43]; exact e⟩
  · rw [gc2 _ _ (by decide) (by decide) (by simp)]; exact I2
  · refine Int.le_trans (kk_cntle (fun v _ _ q => ?_)) b3
    obtain ⟨k, hk, z, w, n, p, hn, hp, k1, e⟩ := q
    exact ⟨k, hk, by rw [← zm _ _ (by decide)]; exact z, w, n, p, hn, hp, by rw [← zm _ _ (by decide)]; exact k1, by rw [← zm _ _ (by decide)]; exact e⟩
  · refine Int.le_trans (kk_cntle (fun v _ _ q => ?_)) b7
    obtain ⟨n, p, hn, hp, k1, e⟩ := q
    exact ⟨n, p, hn, hp, by rw [← zm _ _ (by decide)]; exact k1, by rw [← zm _ _ (by decide)]; exact e⟩
end

