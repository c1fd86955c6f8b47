/-! who lies within whom -/
def kk_pr (h : mm_Id → Int → Int) (s n : Int) : Int := if 1 ≤ n then h (24, s, n) 4 else 0
def kk_it (h : mm_Id → Int → Int) (s : Int) : Nat → Int → Int
  | 0, n => n
  | k + 1, n => kk_it h s k (kk_pr h s n)
/-- n is m, or lies within it -/
def kk_hit (h : mm_Id → Int → Int) (s m n : Int) : Prop := ∃ k, kk_it h s k n = m
theorem kk_hits {h : mm_Id → Int → Int} {s m n : Int} (hn : n ≠ m) : kk_hit h s m n ↔ kk_hit h s m (kk_pr h s n) := by
  constructor
  · rintro ⟨k, hk⟩
    cases k with
    | zero => exact absurd hk hn
    | succ k => exact ⟨k, hk⟩
  · rintro ⟨k, hk⟩
    exact ⟨k + 1, hk⟩
theorem kk_hitz {h : mm_Id → Int → Int} {s m : Int} (hm : 1 ≤ m) : ¬ kk_hit h s m 0 := by
  rintro ⟨k, hk⟩
  have : ∀ k : Nat, kk_it h s k 0 = 0 := by
    intro k
    induction k with
    | zero => rfl
    | succ k ih =>
      show kk_it h s k (kk_pr h s 0) = 0
      have : kk_pr h s 0 = 0 := by unfold kk_pr; rw [if_neg (by decide)]
      rw [this]; exact ih
  rw [this k] at hk
  omega
/-- above a directory there is one, or none above the first -/
theorem kk_prd {h : mm_Id → Int → Int} {s n : Int} (NW : ∀ n, 1 ≤ n → n < 37 → kk_NW h s n) (T : kk_TW h s) (hn : 1 ≤ n ∧ n < 37) (k2 : h (24, s, n) 0 = 2) : (n = 1 ∧ kk_pr h s n = 0) ∨ (2 ≤ n ∧ (1 ≤ kk_pr h s n ∧ kk_pr h s n < 37) ∧ h (24, s, kk_pr h s n) 0 = 2 ∧ ∃ e, (0 ≤ e ∧ e < h (24, s, kk_pr h s n) 6) ∧ h (26, s, kk_pr h s n) e = n) := by
  have ep : kk_pr h s n = h (24, s, n) 4 := if_pos hn.1
  by_cases z : n = 1
  · exact Or.inl ⟨z, by rw [ep]; exact T.2.2.2.2.1 n hn.1 hn.2 (Or.inl z)⟩
  · refine Or.inr ⟨by omega, ?_⟩
    have ec := T.2.1 n (by omega) hn.2 (Or.inl k2)
    obtain ⟨d, e, hd, he, q2⟩ := kk_ecx (show 0 < kk_ec h s n by omega)
    have e4 := T.2.2.2.2.2.1 n d e (by omega) hn.2 (Or.inl k2) hd.1 hd.2 he.1 he.2 q2
    have kd : h (24, s, d) 0 = 2 := Decidable.byContradiction (fun z => by
      have := (NW d hd.1 hd.2).2.2.1 z
      omega)
    rw [ep, e4]
    exact ⟨hd, kd, e, he, q2⟩
theorem kk_rkm {h : mm_Id → Int → Int} {s m d : Int} (r : Int → Nat) (hr : ∀ n, 2 ≤ n → n < 37 → h (24, s, n) 0 = 2 → r (h (24, s, n) 4) < r n) (nh : ¬ kk_hit h s m d) : ∃ r2 : Int → Nat, ∀ n, 2 ≤ n → n < 37 → h (24, s, n) 0 = 2 → r2 (if n = m then d else h (24, s, n) 4) < r2 n := by
  classical
  refine ⟨fun n => if kk_hit h s m n then r n + r d + 1 else r n, fun n n0 n1 k2 => ?_⟩
  show (if kk_hit h s m (if n = m then d else h (24, s, n) 4) then r (if n = m then d else h (24, s, n) 4) + r d + 1 else r (if n = m then d else h (24, s, n) 4)) < (if kk_hit h s m n then r n + r d + 1 else r n)
  by_cases z : n = m
  · rw [if_pos z, if_neg nh, if_pos ⟨0, z⟩]; omega
  · rw [if_neg z]
    have e : kk_pr h s n = h (24, s, n) 4 := if_pos (by omega)
    have i := kk_hits (h := h) (s := s) z
    rw [e] at i
    have q := hr n n0 n1 k2
    by_cases w : kk_hit h s m n
    · rw [if_pos w, if_pos (i.1 w)]; omega
    · rw [if_neg w, if_neg (fun v => w (i.2 v))]; exact q
section
variable {h : mm_Id → Int → Int} {dh : Int → Int} {nx ns : Int} {Q : mm_V → mm_H → Prop}
theorem s164 (hx : 5275 ≤ nx) {s n m : Int} (hsT : mm_isT s) (NW : ∀ n, 1 ≤ n → n < 37 → kk_NW h s n) (T : kk_TW h s) (hn : 1 ≤ n ∧ n < 37) (k2 : h (24, s, n) 0 = 2) (hm : 1 ≤ m ∧ m < 37)
    (K1 : kk_hit h s m n → Q (zI 1) (mm_z h dh nx ns)) (K0 : ¬ kk_hit h s m n → Q (zI 0) (mm_z h dh nx ns)) : mm_Cl 164 [zR (22, s, 0), zI n, zI m] (mm_z h dh nx ns) Q := by
  obtain ⟨r, hr⟩ := T.2.2.2.2.2.2.2
  have L : ∀ (k : Nat) (c i : Int) (f : Int → Int) (v : mm_V), 37 - i = k → 0 ≤ i → (c = 0 ∨ ((1 ≤ c ∧ c < 37) ∧ h (24, s, c) 0 = 2)) → (kk_hit h s m c ↔ kk_hit h s m n) → (∀ x, f x = 0 ∨ f x = 1) → f 0 = 0 → mm_sm f 37 = i → (∀ x, f x = 1 → c ≠ 0 → r c < r x) →
      mm_Wp 164 (mm_blk 164 1) [zR (22, s, 0), zI n, zI m, zI c, zI i, v] [] (mm_z h dh nx ns) Q := by
    intro k
    induction k with
    | zero =>
      intro c i f v e1 e2 e3 e4 e5 e6 e7 e8
      have a := sm_one (f := f) (g := fun x => if x = 0 then 1 else f x) 37 0 (by omega) (by omega) (fun x _ _ q => if_neg q)
      have b := sm_ub (f := fun x => if x = 0 then 1 else f x) 1 37 (fun x _ _ => by
        by_cases z : (x : Int) = 0
        · rw [if_pos z]; omega
        · rw [if_neg z]; have := e5 x; omega)
      have c1 : (if (0 : Int) = 0 then (1 : Int) else f 0) = 1 := if_pos rfl
      rw [c1] at a
      omega
    | succ k ih =>
      intro c i f v e1 e2 e3 e4 e5 e6 e7 e8
      rw [r_164_1 (htx0 := hsT) (hx := hx), if_neg (by omega)]
      by_cases z : c = m
      · rw [if_pos z, r_164_3 (hx := hx), if_pos z, r_164_5 (hx := hx)]
        exact ⟨Or.inr rfl, K1 (e4.1 ⟨0, z⟩)⟩
      · rw [if_neg z]
        refine s157 hsT hx (fun w1 w2 => ?_) (fun w => ?_)
        · have k3 : h (24, s, c) 0 = 2 := by
            rcases e3 with e3 | e3
            · omega
            · exact e3.2
          have ep : kk_pr h s c = h (24, s, c) 4 := if_pos w1.1
          rw [mm_pR, r_164_1_9a (htx0 := hsT) (hty0 := hsT) (hny0 := ⟨by omega, w1.2⟩) (hx := hx), mm_wi (z := i + 1) (by omega) (by omega), ← ep]
          have fc : f c = 0 := by
            rcases e5 c with q | q
            · exact q
            · have := e8 c q (by omega)
              omega
          have a := sm_one (f := f) (g := fun x => if x = c then 1 else f x) 37 c (by omega) (by omega) (fun x _ _ q => if_neg q)
          have c1 : (if c = c then (1 : Int) else f c) = 1 := if_pos rfl
          rw [c1, fc] at a
          have P := kk_prd NW T w1 k3
          refine ih (kk_pr h s c) (i + 1) (fun x => if x = c then 1 else f x) _ (by omega) (by omega) ?_ ((kk_hits z).symm.trans e4) (fun x => ?_) ?_ (by rw [a, e7]; omega) (fun x q1 q2 => ?_)
          · rcases P with P | P
            · exact Or.inl P.2
            · exact Or.inr ⟨P.2.1, P.2.2.1⟩
          · by_cases y : x = c
            · exact Or.inr (if_pos y)
            · show (if x = c then (1 : Int) else f x) = 0 ∨ (if x = c then (1 : Int) else f x) = 1
              rw [if_neg y]; exact e5 x
          · show (if (0 : Int) = c then (1 : Int) else f 0) = 0
            rw [if_neg (by omega)]; exact e6
          · have c2 : 2 ≤ c := by
              rcases P with P | P
              · exact absurd P.2 q2
              · exact P.1
            have rc := hr c c2 w1.2 k3
            rw [← ep] at rc
            by_cases y : x = c
            · rw [y]; exact rc
            · have q3 : (if x = c then (1 : Int) else f x) = 1 := q1
              rw [if_neg y] at q3
              have := e8 x q3 (by omega)
              omega
        · rw [mm_pR, r_164_1_9 (htx0 := hsT) (hx := hx)]
          have c0 : c = 0 := by
            rcases e3 with e3 | e3
            · exact e3
            · exact absurd ⟨e3.1, by omega⟩ w
          exact K0 (fun q => kk_hitz hm.1 (by have := e4.2 q; rw [c0] at this; exact this))
  rw [r_164_e (htx0 := hsT) (hx := hx)]
  exact L 37 n 0 (fun _ => 0) _ (by omega) (by omega) (Or.inr ⟨hn, k2⟩) Iff.rfl (fun _ => Or.inl rfl) rfl (sm_zero _ (fun _ _ _ => rfl)) (fun x q => by omega)
theorem m226 (hy : 10581 ≤ nx) {g : mm_Id → Int → Int} {s n m : Int} (hs : 0 ≤ s ∧ s < 29) (NW : ∀ n, 1 ≤ n → n < 37 → kk_NW h s n) (T : kk_TW h s) (hn : 1 ≤ n ∧ n < 37) (k2 : h (24, s, n) 0 = 2) (hm : 1 ≤ m ∧ m < 37)
    (c44 : ∀ d, 1 ≤ d ∧ d < 37 → g (44, 0, 0) (36 * s + d - 1) = h (24, s, d) 6) (c46 : ∀ d, 1 ≤ d ∧ d < 37 → ∀ e, 0 ≤ e → e < h (24, s, d) 6 → g (46, 0, 0) (24 * (36 * s + d - 1) + e) = h (26, s, d) e)
    (K1 : kk_hit h s m n → Q (zI 1) (mm_z g dh nx ns)) (K0 : ¬ kk_hit h s m n → Q (zI 0) (mm_z g dh nx ns)) : mm_Cl 226 [zR (40, 0, 0), zI s, zI n, zI m] (mm_z g dh nx ns) Q := by
  obtain ⟨r, hr⟩ := T.2.2.2.2.2.2.2
  have L : ∀ (k : Nat) (c : Int), (c = 0 ∨ ((1 ≤ c ∧ c < 37) ∧ h (24, s, c) 0 = 2 ∧ r c < k)) → (kk_hit h s m c ↔ kk_hit h s m n) →
      mm_Wp 226 (mm_blk 226 1) [zR (40, 0, 0), zI s, zI n, zI m, zI c] [] (mm_z g dh nx ns) Q := by
    have Z : ∀ c : Int, c = 0 → (kk_hit h s m c ↔ kk_hit h s m n) → mm_Wp 226 (mm_blk 226 1) [zR (40, 0, 0), zI s, zI n, zI m, zI c] [] (mm_z g dh nx ns) Q := fun c z e => by
      rw [r_226_1 (hy := hy), if_pos z, r_226_2 (hy := hy), if_neg (by omega), r_226_4 (hy := hy)]
      exact ⟨Or.inl rfl, K0 (fun q => kk_hitz hm.1 (by have := e.2 q; rw [z] at this; exact this))⟩
    intro k
    induction k with
    | zero =>
      intro c e1 e2
      rcases e1 with e1 | e1
      · exact Z c e1 e2
      · omega
    | succ k ih =>
      intro c e1 e2
      rcases e1 with e1 | ⟨hc, k3, e1⟩
      · exact Z c e1 e2
      · rw [r_226_1 (hy := hy), if_neg (by omega)]
        by_cases z : c = m
        · rw [if_pos z, r_226_2 (hy := hy), if_pos z, r_226_4 (hy := hy)]
          exact ⟨Or.inr rfl, K1 (e2.1 ⟨0, z⟩)⟩
        · rw [if_neg z]
          have i2 := (kk_hits z).symm.trans e2
          have ep : kk_pr h s c = h (24, s, c) 4 := if_pos hc.1
          refine m189 hy hs (fun d d0 d1 => by rw [c44 d ⟨d0, d1⟩]; exact (NW d d0 d1).2.1) (fun d e d0 d1 q1 q3 q5 => ?_) (fun q5 => ?_)
          · rw [c44 d ⟨d0, d1⟩] at q3
            rw [c46 d ⟨d0, d1⟩ e q1 q3] at q5
            rw [mm_pI, r_226_1_9 (hy := hy)]
            have c2 : 2 ≤ c := by
              by_cases y : c = 1
              · have a := kk_ecp ⟨d0, d1⟩ ⟨q1, q3⟩ q5
                rw [y, T.2.2.2.1] at a
                omega
              · omega
            have e4 := T.2.2.2.2.2.1 c d e c2 hc.2 (Or.inl k3) d0 d1 q1 q3 q5
            have rc := hr c c2 hc.2 k3
            have kd : h (24, s, d) 0 = 2 := Decidable.byContradiction (fun z => by
              have := (NW d d0 d1).2.2.1 z
              omega)
            rw [ep, e4] at i2
            rw [e4] at rc
            exact ih d (Or.inr ⟨⟨d0, d1⟩, kd, by omega⟩) i2
          · rw [mm_pI, r_226_1_9 (hy := hy)]
            rcases kk_prd NW T hc k3 with P | ⟨p2, p3, p4, e, p5, p6⟩
            · rw [P.2] at i2
              exact Z 0 rfl i2
            · exact absurd ((c46 _ p3 e p5.1 p5.2).trans p6) (q5 _ e p3.1 p3.2 p5.1 (by rw [c44 _ p3]; exact p5.2))
  rw [r_226_e (hy := hy)]
  exact L (r n + 1) n (Or.inr ⟨hn, k2, by omega⟩) Iff.rfl
end


