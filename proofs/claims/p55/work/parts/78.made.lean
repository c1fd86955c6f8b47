/-! what holds where a tree's nodes and entries change; a node made, here and there -/
def kk_ts (s : Int) (x : mm_Id) (j : Int) : Prop := (24 ≤ x.1 ∧ x.1 ≤ 30 ∧ x.2.1 = s ∧ 1 ≤ x.2.2 ∧ x.2.2 < 37) ∨ kk_sx s x j ∨ (x = (31, s, 0) ∧ j = 6) ∨ kk_ct x j ∨ (x = (40, 0, 0) ∧ j = 0) ∨ x.1 = 56 ∨ x.1 = 34 ∨ x.1 = 35 ∨ x.1 = 62 ∨ x.1 = 63 ∨ x.1 = 64
theorem kk_tsx {s : Int} {x : mm_Id} {j : Int} (q : kk_ts s x j) : kk_tx s x j := by
  rcases q with q | q | q | q | q | q | q | q | q | q | q
  · exact Or.inl q
  · exact Or.inr (Or.inl q)
  · exact Or.inr (Or.inr (Or.inr (Or.inl q)))
  · exact Or.inr (Or.inr (Or.inr (Or.inr (Or.inl q))))
  · have w : kk_gx x j := Or.inr (Or.inr (Or.inr (Or.inr (Or.inr (Or.inr (Or.inr ⟨q.1, Or.inl q.2⟩))))))
    exact Or.inr (Or.inr (Or.inr (Or.inr (Or.inr (Or.inr (Or.inr (Or.inr (Or.inr (Or.inr (Or.inl w))))))))))
  · have w : kk_gx x j := Or.inr (Or.inr (Or.inr (Or.inr (Or.inl q))))
    exact Or.inr (Or.inr (Or.inr (Or.inr (Or.inr (Or.inr (Or.inr (Or.inr (Or.inr (Or.inr (Or.inl w))))))))))
  · exact Or.inr (Or.inr (Or.inr (Or.inr (Or.inr (Or.inr (Or.inr (Or.inr (Or.inr (Or.inr (Or.inr (Or.inr (Or.inr (Or.inl q)))))))))))))
  · exact Or.inr (Or.inr (Or.inr (Or.inr (Or.inr (Or.inr (Or.inr (Or.inr (Or.inr (Or.inr (Or.inr (Or.inr (Or.inr (Or.inr (Or.inl q))))))))))))))
  · exact Or.inr (Or.inr (Or.inr (Or.inr (Or.inr (Or.inr (Or.inr (Or.inr (Or.inr (Or.inr (Or.inr (Or.inr (Or.inr (Or.inr (Or.inr (Or.inl q)))))))))))))))
  · exact Or.inr (Or.inr (Or.inr (Or.inr (Or.inr (Or.inr (Or.inr (Or.inr (Or.inr (Or.inr (Or.inr (Or.inr (Or.inr (Or.inr (Or.inr (Or.inr (Or.inl q))))))))))))))))
  · exact Or.inr (Or.inr (Or.inr (Or.inr (Or.inr (Or.inr (Or.inr (Or.inr (Or.inr (Or.inr (Or.inr (Or.inr (Or.inr (Or.inr (Or.inr (Or.inr (Or.inr q))))))))))))))))
theorem kk_tsr {s : Int} {x : mm_Id} {j : Int} (q : kk_ts s x j) : (24 ≤ x.1 ∧ x.1 ≤ 30 ∧ x.2.1 = s ∧ 1 ≤ x.2.2) ∨ (41 ≤ x.1 ∧ x.1 ≤ 53 ∧ kk_sx s x j) ∨ (x.1 = 31 ∧ x.2.1 = s ∧ j = 6) ∨ (x.1 = 15 ∧ j = 7 ∨ x.1 = 17 ∨ x.1 = 18 ∨ x.1 = 19) ∨ (x.1 = 40 ∧ j = 0) ∨ (x.1 = 56 ∨ x.1 = 34 ∨ x.1 = 35 ∨ x.1 = 62 ∨ x.1 = 63 ∨ x.1 = 64) := by
  rcases q with q | q | ⟨q, q2⟩ | q | ⟨q, q2⟩ | q | q | q | q | q | q
  · exact Or.inl ⟨q.1, q.2.1, q.2.2.1, q.2.2.2.1⟩
  · have r := kk_sxr q
    exact Or.inr (Or.inl ⟨r.1, r.2, q⟩)
  · subst q; exact Or.inr (Or.inr (Or.inl ⟨rfl, rfl, q2⟩))
  · refine Or.inr (Or.inr (Or.inr (Or.inl ?_)))
    rcases q with ⟨q, q2⟩ | q | q | q
    · exact Or.inl ⟨by rw [q], q2⟩
    · exact Or.inr (Or.inl (by rw [q]))
    · exact Or.inr (Or.inr (Or.inl (by rw [q])))
    · exact Or.inr (Or.inr (Or.inr (by rw [q])))
  · subst q; exact Or.inr (Or.inr (Or.inr (Or.inr (Or.inl ⟨rfl, q2⟩))))
  all_goals exact Or.inr (Or.inr (Or.inr (Or.inr (Or.inr (by omega)))))
theorem kk_WS {b s : Int} {h Z : mm_Id → Int → Int} {dh dh' : Int → Int} (hc : kk_core b h dh) (hs : 0 ≤ s ∧ s < 5) (hno : 0 < kk_no h s) (E : ∀ x j, ¬ kk_ts s x j → Z x j = h x j) (flag : Z (31, s, 0) 6 = 1) (R : kk_R Z)
    (NR : ∀ n, 1 ≤ n → n < 37 → kk_NR Z s n) (NW : ∀ n, 1 ≤ n → n < 37 → kk_NW Z s n) (TW : kk_TW Z s) (m53 : ∀ n, 1 ≤ n → n < 37 → Z (53, 0, 0) (36 * s + n - 1) = 0 ∨ Z (53, 0, 0) (36 * s + n - 1) = 1)
    (pc : ∀ n p, (1 ≤ n ∧ n < 37) → (0 ≤ p ∧ p < 36) → (Z (27, s, n) p = h (27, s, n) p ∨ Z (27, s, n) p = 0) ∧ (Z (43, 0, 0) (36 * (36 * s + n - 1) + p) = h (43, 0, 0) (36 * (36 * s + n - 1) + p) ∨ Z (43, 0, 0) (36 * (36 * s + n - 1) + p) = 0))
    (root : Z (24, s, 1) 0 = 2) (q17 : kk_d17 Z dh') (q18 : kk_d18 Z) (q19 : kk_d19 Z dh') : kk_W b Z dh' ∧ kk_KP Z := by
  have hK := hc.1.1
  have ec : ∀ (f : Nat) t m j, (f = 1 ∨ f = 5 ∨ f = 6 ∨ f = 14 ∨ f = 15 ∧ j ≠ 7 ∨ f = 16 ∨ f = 22 ∨ f = 32 ∨ f = 33 ∨ f = 31 ∧ (t ≠ s ∨ j ≠ 6) ∨ (24 ≤ f ∧ f ≤ 30) ∧ (t ≠ s ∨ m = 0) ∨ f = 54 ∨ f = 55 ∨ 57 ≤ f ∧ f ≤ 61 ∨ f = 65 ∨ f = 40 ∧ j ≠ 0) → Z (f, t, m) j = h (f, t, m) j := fun f t m j q => E _ _ (fun w => by
    rcases kk_tsr w with w | w | w | w | w | w <;> simp at w <;> omega)
  have es : ∀ s2 x j, s2 ≠ s → kk_sx s2 x j → Z x j = h x j := fun s2 x j q hx => E _ _ (fun w => by
    have r := kk_sxr hx
    have d := kk_sxd q hx
    rcases kk_tsr w with w | w | w | w | w | w
    · omega
    · exact d w.2.2
    all_goals omega)
  have no : ∀ s2, kk_no Z s2 = kk_no h s2 := fun s2 => by
    unfold kk_no
    rw [ec 31 _ _ _ (by omega), ec 33 _ _ _ (by omega)]
  refine ⟨kk_WTs hc.1 hs hno (fun x j w => E x j (fun q => w (kk_tsx q))) (fun x j hx => es 28 x j (by omega) hx) (fun j => ec 16 _ _ _ (by omega)) (fun j => ec 54 _ _ _ (by omega)) (fun j => ec 55 _ _ _ (by omega)) (ec 40 _ _ _ (by omega)) NR NW TW m53 pc R root flag ?_ q17 q18 q19, ?_⟩
  · refine kk_KGe (fun x j hx => E x j (fun w => ?_)) hc.1.2.2.2
    have r : x.1 = 1 ∨ x.1 = 5 ∨ x.1 = 6 ∨ x.1 = 14 ∨ x.1 = 65 ∨ x.1 = 40 ∧ j ≠ 0 ∨ x.1 = 24 ∧ (x.2.1 = 26 ∨ x.2.1 = 27) := by
      rcases hx with ⟨q, _⟩ | q | q | q | q | ⟨q, q2⟩ | q
      · exact Or.inl (by rw [q])
      · omega
      · omega
      · omega
      · omega
      · have : x.1 = 40 := by rw [q]
        omega
      · omega
    rcases kk_tsr w with w | w | w | w | w | w <;> omega
  · refine kk_KPc (fun t m t0 t1 m0 m1 => hK.2.1 t m (by unfold mm_isT; omega) m0 m1) (fun s2 m s0 s1 m0 m1 => hK.2.2.2.2.1 s2 m s0 s1 m0 m1) ?_ (fun s2 _ _ => no s2) (fun f k hf => ?_) (fun f t m j f0 f1 t0 t1 _ => ec f t m j (by omega)) (fun s2 x j s0 s1 hx => es s2 x j (by omega) hx) (fun _ _ _ _ _ _ _ _ _ _ _ _ _ => ec 16 _ _ _ (by omega)) (fun _ _ _ _ _ _ _ _ _ _ _ _ _ => ec 54 _ _ _ (by omega)) hc.2
    · rw [ec 1 _ _ _ (by omega), ec 40 _ _ _ (by omega)]; exact hc.2.2.1
    · unfold kk_q4 at hf
      exact ec f _ _ _ (by omega)
/-- handles that did not change, of files that are there -/
theorem kk_d17s {b s : Int} {h Z : mm_Id → Int → Int} {dh : Int → Int} (hc : kk_core b h dh) (eh : ∀ x j, x.1 = 34 ∨ x.1 = 35 ∨ x.1 = 62 ∨ x.1 = 63 ∨ x.1 = 64 → Z x j = h x j) (no : ∀ s2, kk_no Z s2 = kk_no h s2) (eo : ∀ t n j, t ≠ s → Z (24, t, n) j = h (24, t, n) j)
    (k1 : ∀ n, 1 ≤ n → n < 37 → h (24, s, n) 0 = 1 → (∃ i, (0 ≤ i ∧ i < 8) ∧ dh i = s ∧ h (34, i, 0) 2 = n) → Z (24, s, n) 0 = 1) (k5 : ∀ n, 1 ≤ n → n < 37 → Z (24, s, n) 0 = 1 → Z (24, s, n) 5 = 0 → ∃ i, (0 ≤ i ∧ i < 8) ∧ dh i = s ∧ h (34, i, 0) 2 = n) : kk_d17 Z dh ∧ kk_d18 Z ∧ kk_d19 Z dh := by
  refine ⟨fun i i0 i1 => ?_, fun a a0 a1 => ?_, fun i n i0 i1 n0 n1 z z5 => ?_⟩
  · have H := kk_h17 hc i i0 i1
    rw [eh (63, 0, 0) _ (by simp), eh (34, i, 0) 2 (by simp), eh (62, 0, 0) _ (by simp), no]
    refine ⟨fun q => ?_, fun q => ?_⟩
    · obtain ⟨y1, y2, y3, y4, y5, y6⟩ := H.1 q
      refine ⟨y1, y2, ?_, y4, y5, fun a a0 a1 => ?_⟩
      · by_cases w : dh i = s
        · rw [w] at y3 ⊢
          exact k1 _ y2.1 y2.2 y3 ⟨i, ⟨i0, i1⟩, w, rfl⟩
        · rw [eo _ _ _ w]; exact y3
      · rw [eh (35, i, 0) _ (by simp), eh (64, 0, 0) _ (by simp)]; exact y6 a a0 a1
    · obtain ⟨y1, y2⟩ := H.2 q
      exact ⟨y1, fun a a0 a1 => by rw [eh (64, 0, 0) _ (by simp)]; exact y2 a a0 a1⟩
  · rw [eh (64, 0, 0) _ (by simp)]; exact kk_h18 hc a a0 a1
  · by_cases w : i = s
    · subst w
      obtain ⟨j, hj, q, q2⟩ := k5 n n0 n1 z z5
      exact ⟨j, hj, q, by rw [eh (34, j, 0) 2 (by simp)]; exact q2⟩
    · rw [eo _ _ _ w] at z z5
      obtain ⟨j, hj, q, q2⟩ := kk_h19 hc i n i0 i1 n0 n1 z z5
      exact ⟨j, hj, q, by rw [eh (34, j, 0) 2 (by simp)]; exact q2⟩
/-- the place of a name that is not there, told from below and from above -/
theorem kk_pl3 {f : Int → Int} {c p q x : Int} (hs : mm_srt f c) (ab : ∀ i, 0 ≤ i → i < c → f i ≠ x) (p0 : 0 ≤ p) (p1 : p ≤ c) (p2 : ∀ i, 0 ≤ i → i < p → f i < x) (p3 : p < c → x ≤ f p) (q0 : 0 ≤ q) (q1 : q ≤ c) (q2 : ∀ i, q ≤ i → i < c → x < f i) (q3 : 0 < q → f (q - 1) ≤ x) : p = q := by
  refine kk_pl2 (f := f) p0 p1 p2 p3 q0 q1 (fun i i0 i1 => ?_) (fun w => by have := q2 q (by omega) w; omega)
  have a := q3 (by omega)
  have a2 := ab (q - 1) (by omega) (by omega)
  by_cases z : i = q - 1
  · rw [z]; omega
  · have := hs i (q - 1) i0 (by omega) (by omega)
    omega
/-- a tree with a node made -/
theorem kk_mkZ {h Z : mm_Id → Int → Int} {s d m x p : Int} (NW : ∀ n, 1 ≤ n → n < 37 → kk_NW h s n) (T : kk_TW h s) (k1 : h (24, s, 1) 0 = 2) (hm : 1 ≤ m ∧ m < 37) (km : h (24, s, m) 0 = 0) (hd : 1 ≤ d ∧ d < 37) (kd : h (24, s, d) 0 = 2) (hc : h (24, s, d) 6 < 24) (hp : 0 ≤ p ∧ p ≤ h (24, s, d) 6) (lo : ∀ i, 0 ≤ i → i < p → h (25, s, d) i < x) (hi : p < h (24, s, d) 6 → x < h (25, s, d) p) (hx : 1 ≤ x ∧ x ≤ 1000000)
    (z0 : 1 ≤ Z (24, s, m) 0 ∧ Z (24, s, m) 0 ≤ 3) (zl : (Z (24, s, m) 0 = 1 → Z (24, s, m) 1 = 0) ∧ (Z (24, s, m) 0 = 2 → Z (24, s, m) 1 = 0) ∧ (Z (24, s, m) 0 = 3 → 1 ≤ Z (24, s, m) 1 ∧ Z (24, s, m) 1 ≤ 8)) (z2 : 0 ≤ Z (24, s, m) 2 ∧ Z (24, s, m) 2 < 8) (z3 : Z (24, s, m) 3 = 61) (z4 : Z (24, s, m) 4 = if Z (24, s, m) 0 = 1 then 0 else d) (z5 : Z (24, s, m) 5 = 1) (z6 : Z (24, s, m) 6 = 0) (z11 : Z (24, s, m) 11 = 0) (z14 : Z (24, s, m) 14 = 0 ∨ Z (24, s, m) 14 = 1) (z9 : Z (24, s, m) 9 = h (24, s, m) 9) (z27 : ∀ j, Z (27, s, m) j = h (27, s, m) j) (z30 : Z (24, s, m) 0 = 3 → ∀ e, 0 ≤ e → e < Z (24, s, m) 1 → 0 ≤ Z (30, s, m) e ∧ Z (30, s, m) e ≤ 1000000)
    (g25 : ∀ i, 0 ≤ i → i < h (24, s, d) 6 + 1 → Z (25, s, d) i = kk_ins (h (25, s, d)) p (h (24, s, d) 6) x i) (g26 : ∀ i, 0 ≤ i → i < h (24, s, d) 6 + 1 → Z (26, s, d) i = kk_ins (h (26, s, d)) p (h (24, s, d) 6) m i) (g6 : Z (24, s, d) 6 = h (24, s, d) 6 + 1)
    (fr : ∀ (f : Nat) n j, 24 ≤ f → f ≤ 30 → n ≠ m → ¬ ((f = 25 ∨ f = 26) ∧ n = d) → ¬ (f = 24 ∧ n = d ∧ j = 6) → Z (f, s, n) j = h (f, s, n) j) (e16 : ∀ j, Z (16, 0, 0) j = h (16, 0, 0) j) (z16 : ∀ e, 0 ≤ e → e < 60 → h (16, 0, 0) e = 0) : (∀ n, 1 ≤ n → n < 37 → kk_NW Z s n) ∧ kk_TW Z s := by
  have dm : d ≠ m := fun q => by rw [q] at kd; omega
  have hm2 : 2 ≤ m := by
    by_cases q : m = 1
    · rw [q] at km; omega
    · omega
  obtain ⟨G, hG⟩ : ∃ G : mm_Id → Int → Int, G = fun y j => if (y = (25, s, d) ∨ y = (26, s, d)) ∨ y = (24, s, d) ∧ j = 6 then h y j else if y = (24, s, m) ∧ (j = 4 ∨ j = 5) then 0 else Z y j := ⟨_, rfl⟩
  have gm : ∀ j, j ≠ 4 → j ≠ 5 → G (24, s, m) j = Z (24, s, m) j := fun j a1 a2 => by rw [hG]; simp; omega
  have gm4 : G (24, s, m) 4 = 0 := by rw [hG]; simp
  have gm5 : G (24, s, m) 5 = 0 := by rw [hG]; simp
  have gmf : ∀ (f : Nat) j, 25 ≤ f → f ≤ 30 → G (f, s, m) j = Z (f, s, m) j := fun f j f0 f1 => by rw [hG]; simp; omega
  have gd : ∀ j, (j = 6 → G (24, s, d) j = h (24, s, d) 6) ∧ G (25, s, d) j = h (25, s, d) j ∧ G (26, s, d) j = h (26, s, d) j := fun j => by rw [hG]; simp; intro q; rw [q]; simp
  have gfr : ∀ (f : Nat) n j, 24 ≤ f → f ≤ 30 → n ≠ m → G (f, s, n) j = h (f, s, n) j := fun f n j f0 f1 q => by
    rw [hG]
    dsimp only
    split
    · rfl
    · rename_i w
      rw [if_neg (by rintro ⟨w2, _⟩; simp at w2; omega)]
      exact fr f n j f0 f1 q (by rintro ⟨w2, w3⟩; rw [w3] at w; rcases w2 with w2 | w2 <;> rw [w2] at w <;> simp at w) (by rintro ⟨w2, w3, w4⟩; rw [w2, w3, w4] at w; simp at w)
  have G16 : ∀ j, G (16, 0, 0) j = h (16, 0, 0) j := fun j => by rw [hG]; simp; exact e16 j
  obtain ⟨S, em, eo⟩ := kk_beg (g := G) NW T ⟨hm2, hm.2⟩ km k1 (by rw [gm 0 (by decide) (by decide)]; exact z0) (by rw [gm 0 (by decide) (by decide), gm 1 (by decide) (by decide)]; exact zl) (by rw [gm 2 (by decide) (by decide)]; exact z2) (by rw [gm 3 (by decide) (by decide)]; exact z3) gm4 gm5 (by rw [gm 6 (by decide) (by decide)]; exact z6) (by rw [gm 11 (by decide) (by decide)]; exact z11) (by rw [gm 14 (by decide) (by decide)]; exact z14) (by rw [gm 9 (by decide) (by decide)]; exact z9) (fun j => by rw [gmf 27 j (by decide) (by decide)]; exact z27 j)
    (by rw [gm 0 (by decide) (by decide), gm 1 (by decide) (by decide)]; intro q e e0 e1; rw [gmf 30 e (by decide) (by decide)]; exact z30 q e e0 e1) gfr G16 z16
  have d6 : G (24, s, d) 6 = h (24, s, d) 6 := (gd 6).1 rfl
  have noab := kk_noab NW T ((NW m hm.1 hm.2).2.2.1 (by omega))
  obtain ⟨r, hr⟩ := T.2.2.2.2.2.2.2
  have k0 : G (24, s, m) 0 = Z (24, s, m) 0 := gm 0 (by decide) (by decide)
  obtain ⟨S2, _, _⟩ := kk_enter (g := Z) (t := s) (d := d) (p := p) (x := x) (m := m) S hd (by rw [gfr 24 d 0 (by decide) (by decide) dm]; exact kd) (by rw [d6]; exact hc) (by rw [d6]; exact hp) (fun i i0 i1 => by rw [(gd i).2.1]; exact lo i i0 i1) (by rw [d6, (gd p).2.1]; exact hi) hx ⟨hm2, hm.2⟩ (by rw [k0]; omega) (fun _ => em) (fun _ => by rw [em]; omega)
    (fun _ => ⟨fun n => if n = m then r d + 1 else r n, fun n n0 n1 k => by
      by_cases q : n = m
      · dsimp only
        rw [if_pos q, if_pos q, if_neg dm]
        omega
      · rw [gfr 24 n 0 (by decide) (by decide) q] at k
        dsimp only
        rw [if_neg q, if_neg q, gfr 24 n 4 (by decide) (by decide) q, if_neg (noab n n0 n1 (Or.inl k))]
        exact hr n n0 n1 k⟩)
    (by rw [d6]; intro i i0 i1; rw [g25 i i0 i1]; exact kk_insc (fun j _ _ => ((gd j).2.1).symm) hp.1 hp.2 i0 i1) (by rw [d6]; intro i i0 i1; rw [g26 i i0 i1]; exact kk_insc (fun j _ _ => ((gd j).2.2).symm) hp.1 hp.2 i0 i1) (by rw [d6]; exact g6) (by rw [gm5, z5]; rfl) (by rw [k0, gm4]; exact z4)
    (fun f n j f0 f1 a1 a2 a3 => by
      rw [hG]
      dsimp only
      rw [if_neg (by
        rintro ((w | w) | ⟨w, w2⟩)
        · simp at w; exact a1 ⟨Or.inl w.1, w.2⟩
        · simp at w; exact a1 ⟨Or.inr w.1, w.2⟩
        · simp at w; exact a2 ⟨w.1, w.2, w2⟩), if_neg (by
        rintro ⟨w, w2⟩
        simp at w
        exact a3 ⟨w.1, w.2, w2⟩)]) (fun j => by rw [hG]; simp)
  exact ⟨S2.1, kk_THW S2.2 (fun n _ _ _ w => w.2 w.1)⟩

