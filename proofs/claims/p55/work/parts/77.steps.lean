/-! steps of a tree here: an entry struck, an entry put in, a node dropped, a node begun -/
theorem sm_del {f G : Int → Int} {p C : Int} (p0 : 0 ≤ p) (p1 : p ≤ C) : mm_sm (fun e => G (kk_del f p C e)) C.toNat = mm_sm (fun e => G (f e)) (C + 1).toNat - G (f p) := by
  have L : ∀ k : Nat, (k : Int) ≤ C → mm_sm (fun e => G (kk_del f p C e)) k = if (k : Int) ≤ p then mm_sm (fun e => G (f e)) k else mm_sm (fun e => G (f e)) (k + 1) - G (f p) := by
    intro k
    induction k with
    | zero => intro _; rw [if_pos (by omega)]; rfl
    | succ k ih =>
      intro hk
      have i := ih (by omega)
      show mm_sm (fun e => G (kk_del f p C e)) k + G (kk_del f p C k) = _
      rw [i]
      by_cases z : (k : Int) < p
      · rw [if_pos (by omega), if_pos (by omega)]
        have e : kk_del f p C k = f k := by unfold kk_del; rw [if_neg (by omega)]
        rw [e]; rfl
      · have e : kk_del f p C k = f (k + 1) := by unfold kk_del; rw [if_pos (by omega)]
        rw [e]
        by_cases y : (k : Int) ≤ p
        · have e2 : (k : Int) = p := by omega
          rw [if_pos y, if_neg (by omega)]
          show _ = mm_sm (fun e => G (f e)) k + G (f k) + G (f ((k + 1 : Nat) : Int)) - G (f p)
          rw [e2, show ((k + 1 : Nat) : Int) = p + 1 by omega]
          omega
        · rw [if_neg y, if_neg (by omega)]
          show _ = mm_sm (fun e => G (f e)) (k + 1) + G (f ((k + 1 : Nat) : Int)) - G (f p)
          rw [show ((k + 1 : Nat) : Int) = (k : Int) + 1 by omega]
          omega
  have := L C.toNat (by omega)
  rw [this, show (C + 1).toNat = C.toNat + 1 by omega]
  by_cases z : (C.toNat : Int) ≤ p
  · rw [if_pos z]
    show _ = mm_sm (fun e => G (f e)) C.toNat + G (f (C.toNat : Int)) - G (f p)
    rw [show (C.toNat : Int) = p by omega]
    omega
  · rw [if_neg z]
theorem sm_ins {f G : Int → Int} {p c v : Int} (p0 : 0 ≤ p) (p1 : p ≤ c) : mm_sm (fun e => G (kk_ins f p c v e)) (c + 1).toNat = mm_sm (fun e => G (f e)) c.toNat + G v := by
  have L : ∀ k : Nat, (k : Int) ≤ c → mm_sm (fun e => G (kk_ins f p c v e)) k = if (k : Int) ≤ p then mm_sm (fun e => G (f e)) k else mm_sm (fun e => G (f e)) (k - 1) + G v := by
    intro k
    induction k with
    | zero => intro _; rw [if_pos (by omega)]; rfl
    | succ k ih =>
      intro hk
      have i := ih (by omega)
      show mm_sm (fun e => G (kk_ins f p c v e)) k + G (kk_ins f p c v k) = _
      rw [i]
      by_cases z : (k : Int) < p
      · rw [if_pos (by omega), if_pos (by omega)]
        have e : kk_ins f p c v k = f k := by unfold kk_ins; rw [if_neg (by omega), if_neg (by omega)]
        rw [e]; rfl
      · by_cases y : (k : Int) = p
        · have e : kk_ins f p c v k = v := by unfold kk_ins; rw [if_pos y]
          rw [e, if_pos (by omega), if_neg (by omega), show k + 1 - 1 = k by omega]
        · have e : kk_ins f p c v k = f (k - 1) := by unfold kk_ins; rw [if_neg y, if_pos (by omega)]
          rw [e, if_neg (by omega), if_neg (by omega)]
          obtain ⟨j, rfl⟩ : ∃ j, k = j + 1 := ⟨k - 1, by omega⟩
          show mm_sm (fun e => G (f e)) j + G v + G (f (((j + 1 : Nat) : Int) - 1)) = mm_sm (fun e => G (f e)) j + G (f j) + G v
          rw [show ((j + 1 : Nat) : Int) - 1 = j by omega]
          omega
  have e1 : (c + 1).toNat = c.toNat + 1 := by omega
  rw [e1]
  show mm_sm (fun e => G (kk_ins f p c v e)) c.toNat + G (kk_ins f p c v c.toNat) = _
  rw [L c.toNat (by omega), show (c.toNat : Int) = c by omega]
  by_cases z : c ≤ p
  · have e : kk_ins f p c v c = v := by unfold kk_ins; rw [if_pos (by omega)]
    rw [if_pos z, e]
  · have e : kk_ins f p c v c = f (c - 1) := by unfold kk_ins; rw [if_neg (by omega), if_pos (by omega)]
    rw [if_neg z, e]
    obtain ⟨j, hj⟩ : ∃ j : Nat, c.toNat = j + 1 := ⟨c.toNat - 1, by omega⟩
    rw [hj]
    show mm_sm (fun e => G (f e)) j + G v + G (f (c - 1)) = mm_sm (fun e => G (f e)) j + G (f j) + G v
    rw [show c - 1 = (j : Int) by omega]
    omega
theorem kk_S1 {f g : Int → Int} {d : Int} (hd : 1 ≤ d ∧ d < 37) (h : ∀ i, 1 ≤ i → i < 37 → i ≠ d → g i = f i) : kk_S g 36 = kk_S f 36 + (g d - f d) := by
  have := sm_1I (f := fun i => f (i + 1)) (g := fun i => g (i + 1)) 36 (d - 1) (by omega) (by omega) (fun i i0 i1 ne => h (i + 1) (by omega) (by omega) (by omega))
  rw [show d - 1 + 1 = d by omega] at this
  exact this
theorem kk_NWq {h g : mm_Id → Int → Int} {t n : Int} (e24 : ∀ j, j ≠ 4 → j ≠ 5 → j ≠ 6 → g (24, t, n) j = h (24, t, n) j) (e : ∀ (f : Nat) j, 27 ≤ f → f ≤ 30 → g (f, t, n) j = h (f, t, n) j) (e16 : ∀ j, g (16, 0, 0) j = h (16, 0, 0) j)
    (c6 : 0 ≤ g (24, t, n) 6 ∧ g (24, t, n) 6 ≤ 24) (c2 : g (24, t, n) 0 ≠ 2 → g (24, t, n) 6 = 0) (srt : mm_srt (g (25, t, n)) (g (24, t, n) 6))
    (ent : ∀ i, 0 ≤ i → i < g (24, t, n) 6 → (1 ≤ g (25, t, n) i ∧ g (25, t, n) i ≤ 1000000) ∧ (1 ≤ g (26, t, n) i ∧ g (26, t, n) i < 37) ∧ g (24, t, g (26, t, n) i) 0 ≠ 0) (W : kk_NW h t n) : kk_NW g t n := by
  obtain ⟨w0, w6, w26, w11, w011, w14, w9, wp, w2, w3, w1, ws, wk, we, wv, wst, wz⟩ := W
  have f0 := e24 0 (by decide) (by decide) (by decide)
  have f1 := e24 1 (by decide) (by decide) (by decide)
  have f2 := e24 2 (by decide) (by decide) (by decide)
  have f3 := e24 3 (by decide) (by decide) (by decide)
  have f9 := e24 9 (by decide) (by decide) (by decide)
  have f11 := e24 11 (by decide) (by decide) (by decide)
  have f14 := e24 14 (by decide) (by decide) (by decide)
  have e27 := fun j => e 27 j (by omega) (by omega)
  have e28 := fun j => e 28 j (by omega) (by omega)
  have e29 := fun j => e 29 j (by omega) (by omega)
  have e30 := fun j => e 30 j (by omega) (by omega)
  refine ⟨by rw [f0]; exact w0, c6, c2, by rw [f11]; exact w11, by rw [f0, f11]; exact w011, by rw [f14]; exact w14, ?_, ?_, by rw [f2]; exact w2, by rw [f3]; exact w3, by rw [f0, f1]; exact w1, srt, ?_, ent, ?_, ?_, ?_⟩
  · rw [f9, w9]; exact (kk_nzc (fun p _ _ => e27 p)).symm
  · rw [f0]; exact fun k p p0 p1 => by rw [e27]; exact wp k p p0 p1
  · rw [f11]
    intro i j i0 ij jc
    rw [e28, e28]
    exact wk i j i0 ij jc
  · rw [f11]
    intro i i0 i1
    rw [e28, e29]
    exact wv i i0 i1
  · rw [f0, f1]
    intro k i i0 i1
    rw [e30]
    exact wst k i i0 i1
  · rw [f0, f1]
    intro k i i0 i1
    rw [e27, e16]
    exact wz k i i0 i1
/-- a tree where some directories or links may have no entry -/
def kk_TH (h : mm_Id → Int → Int) (t : Int) (H : Int → Prop) : Prop :=
  (∀ n, 1 ≤ n → n < 37 → h (24, t, n) 0 ≠ 0 → h (24, t, n) 5 = kk_ec h t n) ∧ (∀ n, 2 ≤ n → n < 37 → ¬ H n → (h (24, t, n) 0 = 2 ∨ h (24, t, n) 0 = 3) → kk_ec h t n = 1) ∧ (∀ n, 1 ≤ n → n < 37 → h (24, t, n) 0 = 1 → kk_ec h t n ≤ 9) ∧ kk_ec h t 1 = 0 ∧
  (∀ n, 1 ≤ n → n < 37 → (n = 1 ∨ h (24, t, n) 0 = 1) → h (24, t, n) 4 = 0) ∧
  (∀ n d e, 2 ≤ n → n < 37 → (h (24, t, n) 0 = 2 ∨ h (24, t, n) 0 = 3) → 1 ≤ d → d < 37 → 0 ≤ e → e < h (24, t, d) 6 → h (26, t, d) e = n → h (24, t, n) 4 = d) ∧
  (∀ n, 1 ≤ n → n < 37 → h (24, t, n) 0 ≠ 0 → h (24, t, 1) 0 = 2) ∧
  ∃ r : Int → Nat, ∀ n, 2 ≤ n → n < 37 → h (24, t, n) 0 = 2 → r (h (24, t, n) 4) < r n
theorem kk_THW {h : mm_Id → Int → Int} {t : Int} {H : Int → Prop} (T : kk_TH h t H) (hH : ∀ n, 2 ≤ n → n < 37 → (h (24, t, n) 0 = 2 ∨ h (24, t, n) 0 = 3) → ¬ H n) : kk_TW h t := by
  obtain ⟨a1, a2, a3⟩ := T
  exact ⟨a1, fun n n0 n1 k => a2 n n0 n1 (hH n n0 n1 k) k, a3⟩
theorem kk_TWH {h : mm_Id → Int → Int} {t : Int} (T : kk_TW h t) : kk_TH h t (fun _ => False) := by
  obtain ⟨a1, a2, a3⟩ := T
  exact ⟨a1, fun n n0 n1 _ k => a2 n n0 n1 k, a3⟩
theorem kk_THm {h : mm_Id → Int → Int} {t : Int} {H H2 : Int → Prop} (T : kk_TH h t H) (hH : ∀ n, 2 ≤ n → n < 37 → (h (24, t, n) 0 = 2 ∨ h (24, t, n) 0 = 3) → H n → H2 n) : kk_TH h t H2 := by
  obtain ⟨a1, a2, a3⟩ := T
  exact ⟨a1, fun n n0 n1 q k => a2 n n0 n1 (fun w => q (hH n n0 n1 k w)) k, a3⟩
def kk_SC (h : mm_Id → Int → Int) (t : Int) (H : Int → Prop) : Prop := (∀ n, 1 ≤ n → n < 37 → kk_NW h t n) ∧ kk_TH h t H
/-- an entry's count of a directory changes -/
theorem kk_ec1 {h g : mm_Id → Int → Int} {t d m v : Int} (hd : 1 ≤ d ∧ d < 37) (ho : ∀ d2, 1 ≤ d2 → d2 < 37 → d2 ≠ d → kk_e1 g t d2 m = kk_e1 h t d2 m) (h1 : kk_e1 g t d m = kk_e1 h t d m + v) : kk_ec g t m = kk_ec h t m + v := by
  unfold kk_ec
  rw [kk_S1 (f := fun d => kk_e1 h t d m) hd ho]
  omega
theorem kk_e1c {h g : mm_Id → Int → Int} {t d m : Int} (h6 : g (24, t, d) 6 = h (24, t, d) 6) (h26 : ∀ i, g (26, t, d) i = h (26, t, d) i) : kk_e1 g t d m = kk_e1 h t d m := by
  unfold kk_e1
  rw [h6]
  simp only [h26]
theorem kk_e1nn (h : mm_Id → Int → Int) (t d m : Int) : 0 ≤ kk_e1 h t d m := sm_nn _ (fun i _ _ => by split <;> omega)
theorem kk_ecnn (h : mm_Id → Int → Int) (t m : Int) : 0 ≤ kk_ec h t m := kk_Snn 36 (fun i _ _ => kk_e1nn h t i m)
/-- an entry struck -/
theorem kk_strike {h g : mm_Id → Int → Int} {t d p m : Int} {H : Int → Prop} (S : kk_SC h t H) (hd : 1 ≤ d ∧ d < 37) (hp : 0 ≤ p ∧ p < h (24, t, d) 6) (hm : h (26, t, d) p = m)
    (g25 : ∀ i, 0 ≤ i → i < h (24, t, d) 6 - 1 → g (25, t, d) i = kk_del (h (25, t, d)) p (h (24, t, d) 6 - 1) i) (g26 : ∀ i, 0 ≤ i → i < h (24, t, d) 6 - 1 → g (26, t, d) i = kk_del (h (26, t, d)) p (h (24, t, d) 6 - 1) i)
    (g6 : g (24, t, d) 6 = h (24, t, d) 6 - 1) (g5 : g (24, t, m) 5 = h (24, t, m) 5 - 1) (fr : ∀ (f : Nat) n j, 24 ≤ f → f ≤ 30 → ¬ ((f = 25 ∨ f = 26) ∧ n = d) → ¬ (f = 24 ∧ n = d ∧ j = 6) → ¬ (f = 24 ∧ n = m ∧ j = 5) → g (f, t, n) j = h (f, t, n) j) (e16 : ∀ j, g (16, 0, 0) j = h (16, 0, 0) j) :
    kk_SC g t (fun n => H n ∨ n = m) ∧ kk_ec g t m = kk_ec h t m - 1 ∧ ∀ n, n ≠ m → kk_ec g t n = kk_ec h t n := by
  obtain ⟨NW, a1, a2, a3, a4, a5, a6, a7, r, a8⟩ := S
  have Wd := NW d hd.1 hd.2
  have hm1 := (Wd.2.2.2.2.2.2.2.2.2.2.2.2.2.1 p hp.1 hp.2).2
  rw [hm] at hm1
  have e1d : ∀ n, kk_e1 g t d n = kk_e1 h t d n - (if m = n then 1 else 0) := fun n => by
    unfold kk_e1
    have q := sm_del (f := h (26, t, d)) (G := fun v => if v = n then 1 else 0) (p := p) (C := h (24, t, d) 6 - 1) hp.1 (by omega)
    rw [g6, show h (24, t, d) 6 - 1 + 1 = h (24, t, d) 6 by omega] at *
    rw [hm] at q
    rw [← q]
    exact sm_cgI _ (fun i i0 i1 => by rw [g26 i i0 (by omega)])
  have e1o : ∀ n d2, 1 ≤ d2 → d2 < 37 → d2 ≠ d → kk_e1 g t d2 n = kk_e1 h t d2 n := fun n d2 _ _ q => kk_e1c (fr 24 d2 6 (by omega) (by omega) (by omega) (by omega) (by omega)) (fun i => fr 26 d2 i (by omega) (by omega) (by omega) (by omega) (by omega))
  have ecm : kk_ec g t m = kk_ec h t m - 1 := by
    have := kk_ec1 (v := -1) hd (e1o m) (by rw [e1d m, if_pos rfl]; omega)
    omega
  have eco : ∀ n, n ≠ m → kk_ec g t n = kk_ec h t n := fun n q => by
    have := kk_ec1 (v := 0) hd (e1o n) (by rw [e1d n, if_neg (fun w => q w.symm)]; omega)
    omega
  have k0 : ∀ n, g (24, t, n) 0 = h (24, t, n) 0 := fun n => fr 24 n 0 (by omega) (by omega) (by omega) (by omega) (by omega)
  have k4 : ∀ n, g (24, t, n) 4 = h (24, t, n) 4 := fun n => fr 24 n 4 (by omega) (by omega) (by omega) (by omega) (by omega)
  have hm2 : m ≠ 1 := fun q => by
    have := kk_ecp (h := h) (m := m) hd hp hm
    rw [q, a4] at this
    omega
  have in_h : ∀ d2 e, 1 ≤ d2 → d2 < 37 → 0 ≤ e → e < g (24, t, d2) 6 → ∃ e2, (0 ≤ e2 ∧ e2 < h (24, t, d2) 6) ∧ g (25, t, d2) e = h (25, t, d2) e2 ∧ g (26, t, d2) e = h (26, t, d2) e2 := fun d2 e d0 d1 e0 e1 => by
    by_cases q : d2 = d
    · subst q
      rw [g6] at e1
      obtain ⟨i, hi, _, w⟩ := kk_delm (c := h (24, t, d2) 6 - 1) hp.1 e0 e1
      exact ⟨i, by omega, by rw [g25 e e0 e1, w], by rw [g26 e e0 e1, w]⟩
    · rw [fr 24 d2 6 (by omega) (by omega) (by omega) (by omega) (by omega)] at e1
      exact ⟨e, ⟨e0, e1⟩, fr 25 d2 e (by omega) (by omega) (by omega) (by omega) (by omega), fr 26 d2 e (by omega) (by omega) (by omega) (by omega) (by omega)⟩
  refine ⟨⟨fun n n0 n1 => ?_, fun n n0 n1 k => ?_, fun n n0 n1 q k => ?_, fun n n0 n1 k => ?_, by rw [eco 1 (Ne.symm hm2)]; exact a4, fun n n0 n1 k => ?_, fun n d2 e n0 n1 k d0 d1 e0 e1 q => ?_, fun n n0 n1 k => ?_, r, fun n n0 n1 k => ?_⟩, ecm, eco⟩
  · have W := NW n n0 n1
    refine kk_NWq (fun j j4 j5 j6 => fr 24 n j (by omega) (by omega) (by omega) (by omega) (by omega)) (fun f j f0 f1 => fr f n j (by omega) f1 (by omega) (by omega) (by omega)) e16 ?_ ?_ ?_ ?_ W
    · by_cases q : n = d
      · rw [q, g6]; have := Wd.2.1; omega
      · rw [fr 24 n 6 (by omega) (by omega) (by omega) (by omega) (by omega)]; exact W.2.1
    · rw [k0]
      intro z
      have := W.2.2.1 z
      by_cases q : n = d
      · rw [q] at this; omega
      · rw [fr 24 n 6 (by omega) (by omega) (by omega) (by omega) (by omega)]; exact this
    · by_cases q : n = d
      · rw [q, g6]
        have s := kk_dels (f := h (25, t, d)) (p := p) (c := h (24, t, d) 6 - 1) (by rw [show h (24, t, d) 6 - 1 + 1 = h (24, t, d) 6 by omega]; exact Wd.2.2.2.2.2.2.2.2.2.2.2.1)
        intro i j i0 ij jc
        rw [g25 i i0 (by omega), g25 j (by omega) jc]
        exact s i j i0 ij jc
      · rw [fr 24 n 6 (by omega) (by omega) (by omega) (by omega) (by omega)]
        intro i j i0 ij jc
        rw [fr 25 n i (by omega) (by omega) (by omega) (by omega) (by omega), fr 25 n j (by omega) (by omega) (by omega) (by omega) (by omega)]
        exact W.2.2.2.2.2.2.2.2.2.2.2.1 i j i0 ij jc
    · intro i i0 i1
      obtain ⟨e2, q, w1, w2⟩ := in_h n i n0 n1 i0 i1
      rw [w1, w2, k0]
      exact W.2.2.2.2.2.2.2.2.2.2.2.2.2.1 e2 q.1 q.2
  · rw [k0] at k
    by_cases q : n = m
    · rw [q, g5, ecm, ← a1 m hm1.1.1 hm1.1.2 hm1.2]
    · rw [eco n q, fr 24 n 5 (by omega) (by omega) (by omega) (by omega) (by omega)]; exact a1 n n0 n1 k
  · rw [k0] at k
    rw [eco n (fun w => q (Or.inr w))]
    exact a2 n n0 n1 (fun w => q (Or.inl w)) k
  · rw [k0] at k
    have := a3 n n0 n1 k
    by_cases q : n = m
    · rw [q] at this ⊢; omega
    · rw [eco n q]; exact this
  · rw [k0] at k
    rw [k4]; exact a5 n n0 n1 k
  · rw [k0] at k
    obtain ⟨e2, w, _, w2⟩ := in_h d2 e d0 d1 e0 e1
    rw [k4]
    exact a6 n d2 e2 n0 n1 k d0 d1 w.1 w.2 (by omega)
  · rw [k0] at k
    rw [k0]; exact a7 n n0 n1 k
  · rw [k0] at k
    rw [k4]; exact a8 n n0 n1 k
/-- an entry put in -/
theorem kk_enter {h g : mm_Id → Int → Int} {t d p x m : Int} {H : Int → Prop} (S : kk_SC h t H) (hd : 1 ≤ d ∧ d < 37) (kd : h (24, t, d) 0 = 2) (hc : h (24, t, d) 6 < 24) (hp : 0 ≤ p ∧ p ≤ h (24, t, d) 6) (lo : ∀ i, 0 ≤ i → i < p → h (25, t, d) i < x) (hi : p < h (24, t, d) 6 → x < h (25, t, d) p) (hx : 1 ≤ x ∧ x ≤ 1000000)
    (hm : 2 ≤ m ∧ m < 37) (km : h (24, t, m) 0 ≠ 0) (m23 : h (24, t, m) 0 ≠ 1 → kk_ec h t m = 0) (m1 : h (24, t, m) 0 = 1 → kk_ec h t m ≤ 8) (hr : h (24, t, m) 0 = 2 → ∃ r : Int → Nat, ∀ n, 2 ≤ n → n < 37 → h (24, t, n) 0 = 2 → r (if n = m then d else h (24, t, n) 4) < r n)
    (g25 : ∀ i, 0 ≤ i → i < h (24, t, d) 6 + 1 → g (25, t, d) i = kk_ins (h (25, t, d)) p (h (24, t, d) 6) x i) (g26 : ∀ i, 0 ≤ i → i < h (24, t, d) 6 + 1 → g (26, t, d) i = kk_ins (h (26, t, d)) p (h (24, t, d) 6) m i)
    (g6 : g (24, t, d) 6 = h (24, t, d) 6 + 1) (g5 : g (24, t, m) 5 = h (24, t, m) 5 + 1) (g4 : g (24, t, m) 4 = if h (24, t, m) 0 = 1 then h (24, t, m) 4 else d)
    (fr : ∀ (f : Nat) n j, 24 ≤ f → f ≤ 30 → ¬ ((f = 25 ∨ f = 26) ∧ n = d) → ¬ (f = 24 ∧ n = d ∧ j = 6) → ¬ (f = 24 ∧ n = m ∧ (j = 4 ∨ j = 5)) → g (f, t, n) j = h (f, t, n) j) (e16 : ∀ j, g (16, 0, 0) j = h (16, 0, 0) j) :
    kk_SC g t (fun n => H n ∧ n ≠ m) ∧ kk_ec g t m = kk_ec h t m + 1 ∧ ∀ n, n ≠ m → kk_ec g t n = kk_ec h t n := by
  obtain ⟨NW, a1, a2, a3, a4, a5, a6, a7, r, a8⟩ := S
  have Wd := NW d hd.1 hd.2
  have c0 := Wd.2.1.1
  have e1d : ∀ n, kk_e1 g t d n = kk_e1 h t d n + (if m = n then 1 else 0) := fun n => by
    unfold kk_e1
    have q := sm_ins (f := h (26, t, d)) (G := fun v => if v = n then 1 else 0) (v := m) hp.1 hp.2
    rw [g6]
    rw [← q]
    exact sm_cgI _ (fun i i0 i1 => by rw [g26 i i0 (by omega)])
  have e1o : ∀ n d2, 1 ≤ d2 → d2 < 37 → d2 ≠ d → kk_e1 g t d2 n = kk_e1 h t d2 n := fun n d2 _ _ q => kk_e1c (fr 24 d2 6 (by omega) (by omega) (by omega) (by omega) (by omega)) (fun i => fr 26 d2 i (by omega) (by omega) (by omega) (by omega) (by omega))
  have ecm : kk_ec g t m = kk_ec h t m + 1 := kk_ec1 (v := 1) hd (e1o m) (by rw [e1d m, if_pos rfl])
  have eco : ∀ n, n ≠ m → kk_ec g t n = kk_ec h t n := fun n q => by
    have := kk_ec1 (v := 0) hd (e1o n) (by rw [e1d n, if_neg (fun w => q w.symm)])
    omega
  have k0 : ∀ n, g (24, t, n) 0 = h (24, t, n) 0 := fun n => fr 24 n 0 (by omega) (by omega) (by omega) (by omega) (by omega)
  have k4 : ∀ n, n ≠ m → g (24, t, n) 4 = h (24, t, n) 4 := fun n q => fr 24 n 4 (by omega) (by omega) (by omega) (by omega) (by omega)
  have in_h : ∀ d2 e, 1 ≤ d2 → d2 < 37 → 0 ≤ e → e < g (24, t, d2) 6 → (d2 = d ∧ g (25, t, d2) e = x ∧ g (26, t, d2) e = m) ∨ ∃ e2, (0 ≤ e2 ∧ e2 < h (24, t, d2) 6) ∧ g (25, t, d2) e = h (25, t, d2) e2 ∧ g (26, t, d2) e = h (26, t, d2) e2 := fun d2 e d0 d1 e0 e1 => by
    by_cases q : d2 = d
    · subst q
      rw [g6] at e1
      rcases kk_insm hp.1 hp.2 e0 e1 with ⟨_, w⟩ | ⟨i, hi2, _, w⟩
      · exact Or.inl ⟨rfl, by rw [g25 e e0 e1, w], by rw [g26 e e0 e1, w]⟩
      · exact Or.inr ⟨i, hi2, by rw [g25 e e0 e1, w], by rw [g26 e e0 e1, w]⟩
    · rw [fr 24 d2 6 (by omega) (by omega) (by omega) (by omega) (by omega)] at e1
      exact Or.inr ⟨e, ⟨e0, e1⟩, fr 25 d2 e (by omega) (by omega) (by omega) (by omega) (by omega), fr 26 d2 e (by omega) (by omega) (by omega) (by omega) (by omega)⟩
  refine ⟨⟨fun n n0 n1 => ?_, fun n n0 n1 k => ?_, fun n n0 n1 q k => ?_, fun n n0 n1 k => ?_, by rw [eco 1 (by omega)]; exact a4, fun n n0 n1 k => ?_, fun n d2 e n0 n1 k d0 d1 e0 e1 q => ?_, fun n n0 n1 k => ?_, ?_⟩, ecm, eco⟩
  · have W := NW n n0 n1
    refine kk_NWq (fun j j4 j5 j6 => fr 24 n j (by omega) (by omega) (by omega) (by omega) (by omega)) (fun f j f0 f1 => fr f n j (by omega) f1 (by omega) (by omega) (by omega)) e16 ?_ ?_ ?_ ?_ W
    · by_cases q : n = d
      · rw [q, g6]; omega
      · rw [fr 24 n 6 (by omega) (by omega) (by omega) (by omega) (by omega)]; exact W.2.1
    · rw [k0]
      intro z
      by_cases q : n = d
      · rw [q] at z; exact absurd kd z
      · rw [fr 24 n 6 (by omega) (by omega) (by omega) (by omega) (by omega)]; exact W.2.2.1 z
    · by_cases q : n = d
      · rw [q, g6]
        have s := kk_inss Wd.2.2.2.2.2.2.2.2.2.2.2.1 hp.1 hp.2 lo hi
        intro i j i0 ij jc
        rw [g25 i i0 (by omega), g25 j (by omega) jc]
        exact s i j i0 ij jc
      · rw [fr 24 n 6 (by omega) (by omega) (by omega) (by omega) (by omega)]
        intro i j i0 ij jc
        rw [fr 25 n i (by omega) (by omega) (by omega) (by omega) (by omega), fr 25 n j (by omega) (by omega) (by omega) (by omega) (by omega)]
        exact W.2.2.2.2.2.2.2.2.2.2.2.1 i j i0 ij jc
    · intro i i0 i1
      rcases in_h n i n0 n1 i0 i1 with ⟨_, w1, w2⟩ | ⟨e2, q, w1, w2⟩
      · rw [w1, w2, k0]
        exact ⟨hx, ⟨by omega, hm.2⟩, km⟩
      · rw [w1, w2, k0]
        exact W.2.2.2.2.2.2.2.2.2.2.2.2.2.1 e2 q.1 q.2
  · rw [k0] at k
    by_cases q : n = m
    · rw [q, g5, ecm, ← a1 m (by omega) hm.2 km]
    · rw [eco n q, fr 24 n 5 (by omega) (by omega) (by omega) (by omega) (by omega)]; exact a1 n n0 n1 k
  · rw [k0] at k
    by_cases y : n = m
    · rw [y] at k ⊢
      rw [ecm, m23 (by omega)]; omega
    · rw [eco n y]
      exact a2 n n0 n1 (fun w => q ⟨w, y⟩) k
  · rw [k0] at k
    by_cases q : n = m
    · rw [q] at k ⊢
      have := m1 k
      omega
    · rw [eco n q]; exact a3 n n0 n1 k
  · rw [k0] at k
    by_cases q : n = m
    · rw [q] at k ⊢
      have k1 : h (24, t, m) 0 = 1 := by omega
      rw [g4, if_pos k1]; exact a5 m (by omega) hm.2 (Or.inr k1)
    · rw [k4 n q]; exact a5 n n0 n1 k
  · rw [k0] at k
    by_cases y : n = m
    · rw [y] at k q ⊢
      rcases in_h d2 e d0 d1 e0 e1 with ⟨w, _, _⟩ | ⟨e2, w, _, w2⟩
      · rw [g4, if_neg (by omega), w]
      · have := kk_ecp (h := h) (m := m) ⟨d0, d1⟩ w (by omega)
        rw [m23 (by omega)] at this
        omega
    · rw [k4 n y]
      rcases in_h d2 e d0 d1 e0 e1 with ⟨w, _, w2⟩ | ⟨e2, w, _, w2⟩
      · omega
      · exact a6 n d2 e2 n0 n1 k d0 d1 w.1 w.2 (by omega)
  · rw [k0] at k
    rw [k0]; exact a7 n n0 n1 k
  · by_cases z : h (24, t, m) 0 = 2
    · obtain ⟨r2, hr2⟩ := hr z
      refine ⟨r2, fun n n0 n1 k => ?_⟩
      rw [k0] at k
      have := hr2 n n0 n1 k
      by_cases q : n = m
      · rw [if_pos q] at this
        rw [q] at k ⊢
        rw [g4, if_neg (by omega)]
        rw [q] at this
        exact this
      · rw [if_neg q] at this
        rw [k4 n q]; exact this
    · refine ⟨r, fun n n0 n1 k => ?_⟩
      rw [k0] at k
      rw [k4 n (fun q => z (by rw [← q]; exact k))]
      exact a8 n n0 n1 k
/-- a node dropped -/
theorem kk_clear {h g : mm_Id → Int → Int} {t m : Int} {H : Int → Prop} (S : kk_SC h t H) (hm : 2 ≤ m ∧ m < 37) (em : kk_ec h t m = 0) (cm : h (24, t, m) 6 = 0) (gc : kk_cl g t m) (fr : ∀ (f : Nat) n j, 24 ≤ f → f ≤ 30 → n ≠ m → g (f, t, n) j = h (f, t, n) j) (e16 : ∀ j, g (16, 0, 0) j = h (16, 0, 0) j) :
    kk_SC g t (fun n => H n ∧ n ≠ m) ∧ ∀ n, kk_ec g t n = kk_ec h t n := by
  obtain ⟨NW, a1, a2, a3, a4, a5, a6, a7, r, a8⟩ := S
  have c0 : g (24, t, m) 0 = 0 := by rw [gc.1 0 kk_F0]; rfl
  have c6 : g (24, t, m) 6 = 0 := by rw [gc.1 6 kk_F6]; rfl
  have c11 : g (24, t, m) 11 = 0 := by rw [gc.1 11 kk_F11]; rfl
  have ec : ∀ n, kk_ec g t n = kk_ec h t n := fun n => by
    refine kk_Sc _ (fun d d0 d1 => ?_)
    by_cases q : d = m
    · unfold kk_e1
      rw [q, c6, cm]
      rfl
    · exact kk_e1c (fr 24 d 6 (by omega) (by omega) q) (fun i => fr 26 d i (by omega) (by omega) q)
  have nm : ∀ d e, 1 ≤ d → d < 37 → 0 ≤ e → e < h (24, t, d) 6 → h (26, t, d) e ≠ m := fun d e d0 d1 e0 e1 q => by
    have := kk_ecp (h := h) (m := m) ⟨d0, d1⟩ ⟨e0, e1⟩ q
    omega
  refine ⟨⟨fun n n0 n1 => ?_, fun n n0 n1 k => ?_, fun n n0 n1 q k => ?_, fun n n0 n1 k => ?_, by rw [ec]; exact a4, fun n n0 n1 k => ?_, fun n d2 e n0 n1 k d0 d1 e0 e1 q => ?_, fun n n0 n1 k => ?_, r, fun n n0 n1 k => ?_⟩, ec⟩
  · by_cases q : n = m
    · subst q
      have c1 : g (24, t, n) 1 = 0 := by rw [gc.1 1 kk_F1]; rfl
      have c2 : g (24, t, n) 2 = 0 := by rw [gc.1 2 kk_F2]; rfl
      have c3 : g (24, t, n) 3 = 61 := by rw [gc.1 3 kk_F3]; rfl
      have c14 : g (24, t, n) 14 = 0 := by rw [gc.1 14 kk_F14]; rfl
      refine ⟨by omega, by omega, fun _ => c6, by omega, fun _ => c11, Or.inl c14, ?_, fun _ => gc.2.2, by omega, by omega, ⟨fun w => by omega, fun w => by omega, fun w => by omega⟩, fun i j _ _ w => by omega, fun i j _ _ w => by omega, fun e _ w => by omega, fun e _ w => by omega, fun w => by omega, fun w => by omega⟩
      rw [gc.2.1, kk_nz0 gc.2.2]
    · refine kk_NWx (fun f j f0 f1 => fr f n j f0 f1 q) (fun i i0 i1 => ?_) (fun _ _ _ _ _ _ => e16 _) (NW n n0 n1)
      rw [fr 24 _ 0 (by omega) (by omega) (nm n i n0 n1 i0 i1)]
      exact ((NW n n0 n1).2.2.2.2.2.2.2.2.2.2.2.2.2.1 i i0 i1).2.2
  · have q : n ≠ m := fun q => k (by rw [q]; exact c0)
    rw [fr 24 n 0 (by omega) (by omega) q] at k
    rw [fr 24 n 5 (by omega) (by omega) q, ec]
    exact a1 n n0 n1 k
  · have y : n ≠ m := fun y => by rw [y, c0] at k; omega
    rw [fr 24 n 0 (by omega) (by omega) y] at k
    rw [ec]
    exact a2 n n0 n1 (fun w => q ⟨w, y⟩) k
  · have y : n ≠ m := fun y => by rw [y, c0] at k; omega
    rw [fr 24 n 0 (by omega) (by omega) y] at k
    rw [ec]
    exact a3 n n0 n1 k
  · by_cases y : n = m
    · rw [y, gc.1 4 kk_F4]; rfl
    · rw [fr 24 n 0 (by omega) (by omega) y] at k
      rw [fr 24 n 4 (by omega) (by omega) y]
      exact a5 n n0 n1 k
  · have y : n ≠ m := fun y => by rw [y, c0] at k; omega
    rw [fr 24 n 0 (by omega) (by omega) y] at k
    have z : d2 ≠ m := fun z => by rw [z, c6] at e1; omega
    rw [fr 24 d2 6 (by omega) (by omega) z] at e1
    rw [fr 26 d2 e (by omega) (by omega) z] at q
    rw [fr 24 n 4 (by omega) (by omega) y]
    exact a6 n d2 e n0 n1 k d0 d1 e0 e1 q
  · have q : n ≠ m := fun q => k (by rw [q]; exact c0)
    rw [fr 24 n 0 (by omega) (by omega) q] at k
    rw [fr 24 1 0 (by omega) (by omega) (by omega)]
    exact a7 n n0 n1 k
  · have q : n ≠ m := fun q => by rw [q, c0] at k; omega
    rw [fr 24 n 0 (by omega) (by omega) q] at k
    rw [fr 24 n 4 (by omega) (by omega) q]
    exact a8 n n0 n1 k
/-- a node that no entry means is above none -/
theorem kk_noab {h : mm_Id → Int → Int} {t m : Int} (NW : ∀ n, 1 ≤ n → n < 37 → kk_NW h t n) (T : kk_TW h t) (cm : h (24, t, m) 6 = 0) : ∀ n, 2 ≤ n → n < 37 → (h (24, t, n) 0 = 2 ∨ h (24, t, n) 0 = 3) → h (24, t, n) 4 ≠ m := fun n n0 n1 k q => by
  have e := T.2.1 n n0 n1 k
  obtain ⟨d, i, hd, hi, w⟩ := kk_ecx (h := h) (t := t) (m := n) (by omega)
  have := T.2.2.2.2.2.1 n d i n0 n1 k hd.1 hd.2 hi.1 hi.2 w
  have z : d = m := by omega
  rw [z] at hi
  omega
/-- a node begun -/
theorem kk_beg {h g : mm_Id → Int → Int} {t m : Int} (NW : ∀ n, 1 ≤ n → n < 37 → kk_NW h t n) (T : kk_TW h t) (hm : 2 ≤ m ∧ m < 37) (km : h (24, t, m) 0 = 0) (k1 : h (24, t, 1) 0 = 2) (g0 : 1 ≤ g (24, t, m) 0 ∧ g (24, t, m) 0 ≤ 3) (gl : (g (24, t, m) 0 = 1 → g (24, t, m) 1 = 0) ∧ (g (24, t, m) 0 = 2 → g (24, t, m) 1 = 0) ∧ (g (24, t, m) 0 = 3 → 1 ≤ g (24, t, m) 1 ∧ g (24, t, m) 1 ≤ 8))
    (g2 : 0 ≤ g (24, t, m) 2 ∧ g (24, t, m) 2 < 8) (g3 : g (24, t, m) 3 = 61) (g4 : g (24, t, m) 4 = 0) (g5 : g (24, t, m) 5 = 0) (g6 : g (24, t, m) 6 = 0) (g11 : g (24, t, m) 11 = 0) (g14 : g (24, t, m) 14 = 0 ∨ g (24, t, m) 14 = 1) (g9 : g (24, t, m) 9 = h (24, t, m) 9) (g27 : ∀ j, g (27, t, m) j = h (27, t, m) j)
    (g30 : g (24, t, m) 0 = 3 → ∀ e, 0 ≤ e → e < g (24, t, m) 1 → 0 ≤ g (30, t, m) e ∧ g (30, t, m) e ≤ 1000000) (fr : ∀ (f : Nat) n j, 24 ≤ f → f ≤ 30 → n ≠ m → g (f, t, n) j = h (f, t, n) j) (e16 : ∀ j, g (16, 0, 0) j = h (16, 0, 0) j) (z16 : ∀ e, 0 ≤ e → e < 60 → h (16, 0, 0) e = 0) :
    kk_SC g t (fun n => n = m) ∧ kk_ec g t m = 0 ∧ ∀ n, kk_ec g t n = kk_ec h t n := by
  have Wm := NW m (by omega) hm.2
  have cm : h (24, t, m) 6 = 0 := Wm.2.2.1 (by omega)
  have noab := kk_noab NW T cm
  obtain ⟨a1, a2, a3, a4, a5, a6, a7, r, a8⟩ := T
  have ec : ∀ n, kk_ec g t n = kk_ec h t n := fun n => by
    refine kk_Sc _ (fun d d0 d1 => ?_)
    by_cases q : d = m
    · unfold kk_e1
      rw [q, g6, cm]
      rfl
    · exact kk_e1c (fr 24 d 6 (by omega) (by omega) q) (fun i => fr 26 d i (by omega) (by omega) q)
  have nm : ∀ d e, 1 ≤ d → d < 37 → 0 ≤ e → e < h (24, t, d) 6 → h (26, t, d) e ≠ m := fun d e d0 d1 e0 e1 q => by
    have := ((NW d d0 d1).2.2.2.2.2.2.2.2.2.2.2.2.2.1 e e0 e1).2.2
    rw [q] at this
    exact this km
  have em : kk_ec h t m = 0 := by
    have nn := kk_ecnn h t m
    by_cases z : 0 < kk_ec h t m
    · obtain ⟨d, e, hd, he, q⟩ := kk_ecx z
      exact absurd q (nm d e hd.1 hd.2 he.1 he.2)
    · omega
  have p0 : ∀ p, 0 ≤ p → p < 36 → g (27, t, m) p = 0 := fun p p0 p1 => by rw [g27]; exact Wm.2.2.2.2.2.2.2.1 (by omega) p p0 p1
  refine ⟨⟨fun n n0 n1 => ?_, fun n n0 n1 k => ?_, fun n n0 n1 q k => ?_, fun n n0 n1 k => ?_, by rw [ec]; exact a4, fun n n0 n1 k => ?_, fun n d2 e n0 n1 k d0 d1 e0 e1 q => ?_, fun n n0 n1 k => ?_, ?_⟩, by rw [ec]; exact em, ec⟩
  · by_cases q : n = m
    · subst q
      refine ⟨by omega, by omega, fun _ => g6, by omega, fun _ => g11, g14, ?_, fun _ => p0, g2, by omega, ⟨fun w => by have := gl.1 w; omega, gl.2.1, gl.2.2⟩, fun i j _ _ w => by omega, fun i j _ _ w => by omega, fun e _ w => by omega, fun e _ w => by omega, g30, fun w i i0 i1 => ?_⟩
      · rw [g9, Wm.2.2.2.2.2.2.1]; exact (kk_nzc (fun p _ _ => g27 p)).symm
      · rw [p0 (i / 60) (by omega) (by omega), e16]
        exact z16 _ (by omega) (by omega)
    · refine kk_NWx (fun f j f0 f1 => fr f n j f0 f1 q) (fun i i0 i1 => ?_) (fun _ _ _ _ _ _ => e16 _) (NW n n0 n1)
      rw [fr 24 _ 0 (by omega) (by omega) (nm n i n0 n1 i0 i1)]
      exact ((NW n n0 n1).2.2.2.2.2.2.2.2.2.2.2.2.2.1 i i0 i1).2.2
  · by_cases q : n = m
    · rw [q, g5, ec, em]
    · rw [fr 24 n 0 (by omega) (by omega) q] at k
      rw [fr 24 n 5 (by omega) (by omega) q, ec]
      exact a1 n n0 n1 k
  · rw [fr 24 n 0 (by omega) (by omega) q] at k
    rw [ec]
    exact a2 n n0 n1 k
  · rw [ec]
    by_cases q : n = m
    · rw [q, em]; omega
    · rw [fr 24 n 0 (by omega) (by omega) q] at k
      exact a3 n n0 n1 k
  · by_cases y : n = m
    · rw [y]; exact g4
    · rw [fr 24 n 0 (by omega) (by omega) y] at k
      rw [fr 24 n 4 (by omega) (by omega) y]
      exact a5 n n0 n1 k
  · have z : d2 ≠ m := fun z => by rw [z, g6] at e1; omega
    rw [fr 24 d2 6 (by omega) (by omega) z] at e1
    rw [fr 26 d2 e (by omega) (by omega) z] at q
    have y : n ≠ m := fun y => nm d2 e d0 d1 e0 e1 (by omega)
    rw [fr 24 n 0 (by omega) (by omega) y] at k
    rw [fr 24 n 4 (by omega) (by omega) y]
    exact a6 n d2 e n0 n1 k d0 d1 e0 e1 q
  · rw [fr 24 1 0 (by omega) (by omega) (by omega)]
    exact k1
  · refine ⟨fun n => if n = m then r 0 + 1 else r n, fun n n0 n1 k => ?_⟩
    by_cases q : n = m
    · rw [q, g4]
      dsimp only
      rw [if_pos rfl, if_neg (by omega)]
      omega
    · rw [fr 24 n 0 (by omega) (by omega) q] at k
      rw [fr 24 n 4 (by omega) (by omega) q]
      dsimp only
      rw [if_neg q, if_neg (noab n n0 n1 (Or.inl k))]
      exact a8 n n0 n1 k

