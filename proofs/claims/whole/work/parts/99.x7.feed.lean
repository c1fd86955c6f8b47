/-! scripts: feed -/
/-- bytes are put behind -/
def kk_fd (f : Nat) (y : mm_Id) (J : Int) (B : Int → Int) (n : Int) (h g : mm_Id → Int → Int) : Prop := g y J = h y J + n ∧ (∀ i, 0 ≤ i → i < n → g (f, 0, 0) (h y J + i) = B i) ∧ (∀ q, ¬ (h y J ≤ q ∧ q < h y J + n) → g (f, 0, 0) q = h (f, 0, 0) q) ∧ (∀ x q, x ≠ (f, 0, 0) → ¬ (x = y ∧ q = J) → g x q = h x q)
theorem kk_fd0 {f : Nat} {y : mm_Id} {J : Int} {B : Int → Int} {h : mm_Id → Int → Int} : kk_fd f y J B 0 h h := ⟨by omega, fun i i0 i1 => by omega, fun _ _ => rfl, fun _ _ _ _ => rfl⟩
theorem kk_fd1 {f : Nat} {y : mm_Id} {J n v w : Int} {B : Int → Int} {h g : mm_Id → Int → Int} (I : kk_fd f y J B n h g) (ny : y ≠ (f, 0, 0)) (n0 : 0 ≤ n) (hv : v = B n) (hw : w = g y J + 1) : kk_fd f y J B (n + 1) h (mm_up (mm_up g (f, 0, 0) (g y J) v) y J w) := by
  obtain ⟨I1, I2, I3, I4⟩ := I
  have nf : ∀ q, mm_up (mm_up g (f, 0, 0) (g y J) v) y J w (f, 0, 0) q = mm_up g (f, 0, 0) (g y J) v (f, 0, 0) q := fun q => mm_upne' (fun e => ny e.1.symm)
  refine ⟨by rw [mm_ups]; omega, fun i i0 i1 => ?_, fun q hq => ?_, fun x q q1 q2 => ?_⟩
  · rw [nf]
    by_cases e : i = n
    · rw [e, ← I1, mm_ups]; exact hv
    · rw [mm_upj (by omega)]; exact I2 i i0 (by omega)
  · rw [nf, mm_upj (by omega)]; exact I3 q (by omega)
  · rw [mm_upne' q2, mm_upne' (fun e => q1 e.1)]; exact I4 x q q1 q2
section
variable {h g : mm_Id → Int → Int} {dh : Int → Int} {nx ns b : Int} {Q : mm_V → mm_H → Prop}
theorem s139f (hx : 5275 ≤ nx) {x n : Int} {B : Int → Int} (I : kk_fd 9 (8, 0, 0) 1 B n h g) (h0 : 0 ≤ h (8, 0, 0) 1 ∧ h (8, 0, 0) 1 + n + 4 ≤ 8000) (n0 : 0 ≤ n) (hB : ∀ i, 0 ≤ i → i < 4 → B (n + i) = mm_b (mm_b (mm_shr x (24 - 8 * i)))) (K : ∀ g2, kk_fd 9 (8, 0, 0) 1 B (n + 4) h g2 → Q zU (mm_z g2 dh nx ns)) :
    mm_Cl 139 [zR (8, 0, 0), zI x] (mm_z g dh nx ns) Q := by
  have L : ∀ (d : Nat) (i : Int) (g : mm_Id → Int → Int), 4 - i = d → 0 ≤ i → kk_fd 9 (8, 0, 0) 1 B (n + i) h g → mm_Wp 139 (mm_blk 139 1) [zR (8, 0, 0), zI x, zI (24 - 8 * i)] [] (mm_z g dh nx ns) Q := by
    intro d
    induction d with
    | zero =>
      intro i g e1 e2 I
      rw [r_139_1 (hx := hx), if_pos (by omega), r_139_2 (hx := hx)]
      rw [show i = 4 by omega] at I
      exact K g I
    | succ d ih =>
      intro i g e1 e2 I
      have I1 := I.1
      rw [r_139_1 (hx := hx), if_neg (by omega), if_pos (by omega), mm_upf (by decide), mm_wi (z := g (8, 0, 0) 1 + 1) (by omega) (by omega), mm_wi (z := 24 - 8 * i + -8) (by omega) (by omega), show 24 - 8 * i + -8 = 24 - 8 * (i + 1) by omega]
      have I2 := kk_fd1 (v := mm_b (mm_b (mm_shr x (24 - 8 * i)))) (w := g (8, 0, 0) 1 + 1) I (by simp) (by omega) (hB i e2 (by omega)).symm rfl
      rw [show n + i + 1 = n + (i + 1) by omega] at I2
      exact ⟨by omega, ih (i + 1) _ (by omega) (by omega) I2⟩
  rw [r_139_e (hx := hx)]
  have z := L 4 0 g (by omega) (by omega) (by rw [show n + 0 = n by omega]; exact I)
  exact z
theorem m276f (hy : 5306 ≤ nx) {x n x6 : Int} {y1 y2 y3 y4 y5 : Int} {B : Int → Int} (I : kk_fd 67 (40, 0, 0) 37 B n h g) (h6 : 0 ≤ x6 ∧ x6 ≤ 4) (h0 : 0 ≤ h (40, 0, 0) 37 ∧ h (40, 0, 0) 37 + n + 4 ≤ 8000) (n0 : 0 ≤ n) (hB : ∀ i, 0 ≤ i → i < 4 → B (n + i) = mm_b (mm_b (mm_shr x (24 - 8 * i))))
    (K : ∀ g2 v, kk_fd 67 (40, 0, 0) 37 B (n + 4) h g2 → mm_Wp 276 (mm_blk 276 2) [zR (40, 0, 0), zI y1, zI y2, zI y3, zI y4, zI y5, zI (x6 + 1), zI x, v] [] (mm_z g2 dh nx ns) Q) :
    mm_Wp 276 (mm_blk 276 8) [zR (40, 0, 0), zI y1, zI y2, zI y3, zI y4, zI y5, zI x6, zI x, zI 24] [] (mm_z g dh nx ns) Q := by
  have L : ∀ (d : Nat) (i : Int) (g : mm_Id → Int → Int), 4 - i = d → 0 ≤ i → kk_fd 67 (40, 0, 0) 37 B (n + i) h g → mm_Wp 276 (mm_blk 276 8) [zR (40, 0, 0), zI y1, zI y2, zI y3, zI y4, zI y5, zI x6, zI x, zI (24 - 8 * i)] [] (mm_z g dh nx ns) Q := by
    intro d
    induction d with
    | zero =>
      intro i g e1 e2 I
      rw [r_276_8 (hy := hy), if_pos (by omega), mm_wi (z := x6 + 1) (by omega) (by omega)]
      rw [show i = 4 by omega] at I
      exact K g _ I
    | succ d ih =>
      intro i g e1 e2 I
      have I1 := I.1
      rw [r_276_8 (hy := hy), if_neg (by omega), mm_upf (by decide), mm_wi (z := g (40, 0, 0) 37 + 1) (by omega) (by omega), mm_wi (z := 24 - 8 * i + -8) (by omega) (by omega), show 24 - 8 * i + -8 = 24 - 8 * (i + 1) by omega]
      have I2 := kk_fd1 (v := mm_b (mm_b (mm_shr x (24 - 8 * i)))) (w := g (40, 0, 0) 37 + 1) I (by simp) (by omega) (hB i e2 (by omega)).symm rfl
      rw [show n + i + 1 = n + (i + 1) by omega] at I2
      exact ⟨by omega, ih (i + 1) _ (by omega) (by omega) I2⟩
  have z := L 4 0 g (by omega) (by omega) (by rw [show n + 0 = n by omega]; exact I)
  exact z
theorem c_47 (hy : 5306 ≤ nx) (hc : kk_core b h dh) (hs : kk_sI h) (hb : b + 1 ≤ 1000000) {t n k l m : Int} : kk_callS 47 276 [zI t, zI n, zI k, zI l, zI m] b 1 h dh nx ns := by
  have hx : 5275 ≤ nx := by omega
  have s1 := hs.1
  obtain ⟨B, hB⟩ : ∃ B : Int → Int, B = fun i => mm_b (mm_b (mm_shr (if i < 4 then t else if i < 8 then n else if i < 12 then k else if i < 16 then l else m) (24 - 8 * (i % 4)))) := ⟨_, rfl⟩
  have B0 : ∀ i, 0 ≤ i → i < 4 → B (0 + i) = mm_b (mm_b (mm_shr t (24 - 8 * i))) := fun i i0 i1 => by
    rw [hB]; show mm_b (mm_b (mm_shr (if 0 + i < 4 then t else _) (24 - 8 * ((0 + i) % 4)))) = _
    rw [if_pos (by omega), show (0 + i) % 4 = i by omega]
  have B1 : ∀ i, 0 ≤ i → i < 4 → B (0 + 4 + i) = mm_b (mm_b (mm_shr n (24 - 8 * i))) := fun i i0 i1 => by
    rw [hB]; show mm_b (mm_b (mm_shr (if 0 + 4 + i < 4 then t else if 0 + 4 + i < 8 then n else _) (24 - 8 * ((0 + 4 + i) % 4)))) = _
    rw [if_neg (by omega), if_pos (by omega), show (0 + 4 + i) % 4 = i by omega]
  have B2 : ∀ i, 0 ≤ i → i < 4 → B (0 + 4 + 4 + i) = mm_b (mm_b (mm_shr k (24 - 8 * i))) := fun i i0 i1 => by
    rw [hB]; show mm_b (mm_b (mm_shr (if 0 + 4 + 4 + i < 4 then t else if 0 + 4 + 4 + i < 8 then n else if 0 + 4 + 4 + i < 12 then k else _) (24 - 8 * ((0 + 4 + 4 + i) % 4)))) = _
    rw [if_neg (by omega), if_neg (by omega), if_pos (by omega), show (0 + 4 + 4 + i) % 4 = i by omega]
  have B3 : ∀ i, 0 ≤ i → i < 4 → B (0 + 4 + 4 + 4 + i) = mm_b (mm_b (mm_shr l (24 - 8 * i))) := fun i i0 i1 => by
    rw [hB]; show mm_b (mm_b (mm_shr (if 0 + 4 + 4 + 4 + i < 4 then t else if 0 + 4 + 4 + 4 + i < 8 then n else if 0 + 4 + 4 + 4 + i < 12 then k else if 0 + 4 + 4 + 4 + i < 16 then l else m) (24 - 8 * ((0 + 4 + 4 + 4 + i) % 4)))) = _
    rw [if_neg (by omega), if_neg (by omega), if_neg (by omega), if_pos (by omega), show (0 + 4 + 4 + 4 + i) % 4 = i by omega]
  have B4 : ∀ i, 0 ≤ i → i < 4 → B (0 + 4 + 4 + 4 + 4 + i) = mm_b (mm_b (mm_shr m (24 - 8 * i))) := fun i i0 i1 => by
    rw [hB]; show mm_b (mm_b (mm_shr (if 0 + 4 + 4 + 4 + 4 + i < 4 then t else if 0 + 4 + 4 + 4 + 4 + i < 8 then n else if 0 + 4 + 4 + 4 + 4 + i < 12 then k else if 0 + 4 + 4 + 4 + 4 + i < 16 then l else m) (24 - 8 * ((0 + 4 + 4 + 4 + 4 + i) % 4)))) = _
    rw [if_neg (by omega), if_neg (by omega), if_neg (by omega), if_neg (by omega), show (0 + 4 + 4 + 4 + 4 + i) % 4 = i by omega]
  have Br : ∀ i, -128 ≤ B i ∧ B i < 128 := fun i => by
    rw [hB]
    exact ⟨by show -128 ≤ mm_b _; unfold mm_b; omega, by show mm_b _ < 128; unfold mm_b; omega⟩
  clear hB
  unfold kk_callS
  rw [r_47_e (hx := hx), r_138_e (hx := hx), mm_wi (z := h (8, 0, 0) 1 + 20) (by omega) (by omega)]
  by_cases c : 8000 < h (8, 0, 0) 1 + 20
  · rw [if_pos c, r_138_2 (hx := hx), mm_pI, r_47_0_3 (hx := hx), if_pos rfl]
    refine ⟨Or.inl rfl, ⟨_, rfl, by omega, by omega⟩, h, dh, rfl, ?_⟩
    rw [r_276_e (hy := hy), mm_upj (by decide), ← s1.1, mm_wi (z := h (8, 0, 0) 1 + 20) (by omega) (by omega), if_pos c]
    exact ⟨rfl, _, rfl, kk_coreS hb (kk_core0 hc), kk_sI0 hs⟩
  · rw [if_neg c, r_138_2 (hx := hx), mm_pI, r_47_0_3 (hx := hx), if_neg (by decide)]
    refine ⟨Or.inr rfl, ?_⟩
    refine s139f hx kk_fd0 (by omega) (by omega) B0 (fun g1 I1 => ?_)
    rw [mm_pU, r_47_1_4 (hx := hx)]
    refine s139f hx I1 (by omega) (by omega) B1 (fun g2 I2 => ?_)
    rw [mm_pU, r_47_1_8 (hx := hx)]
    refine s139f hx I2 (by omega) (by omega) B2 (fun g3 I3 => ?_)
    rw [mm_pU, r_47_1_12 (hx := hx)]
    refine s139f hx I3 (by omega) (by omega) B3 (fun g4 I4 => ?_)
    rw [mm_pU, r_47_1_16 (hx := hx)]
    refine s139f hx I4 (by omega) (by omega) B4 (fun g5 I5 => ?_)
    rw [mm_pU, r_47_1_20 (hx := hx)]
    have e1 := I5.1
    refine ⟨⟨_, rfl, by omega, by omega⟩, g5, dh, rfl, ?_⟩
    have ek : ∀ (x : mm_Id) j, 40 ≤ x.1 → g5 x j = h x j := fun x j q => I5.2.2.2 x j (by rintro v; rw [v] at q; simp at q) (by rintro ⟨v, _⟩; rw [v] at q; simp at q)
    have e37 : mm_up g5 (40, 0, 0) 0 0 (40, 0, 0) 37 = h (8, 0, 0) 1 := by rw [mm_upj (by decide), ek _ _ (by decide)]; exact s1.1.symm
    rw [r_276_e (hy := hy), e37, mm_wi (z := h (8, 0, 0) 1 + 20) (by omega) (by omega), if_neg c]
    rw [r_276_2 (hy := hy), if_pos (by decide), if_pos rfl, r_276_7 (hy := hy)]
    refine m276f hy kk_fd0 (by omega) (by omega) (by omega) B0 (fun q1 v J1 => ?_)
    rw [r_276_2 (hy := hy), if_pos (by decide), if_neg (by decide), if_pos (by decide), r_276_7 (hy := hy)]
    refine m276f hy J1 (by omega) (by omega) (by omega) B1 (fun q2 v J2 => ?_)
    rw [r_276_2 (hy := hy), if_pos (by decide), if_neg (by decide), if_neg (by decide), if_pos (by decide), r_276_7 (hy := hy)]
    refine m276f hy J2 (by omega) (by omega) (by omega) B2 (fun q3 v J3 => ?_)
    rw [r_276_2 (hy := hy), if_pos (by decide), if_neg (by decide), if_neg (by decide), if_neg (by decide), if_pos (by decide), r_276_7 (hy := hy)]
    refine m276f hy J3 (by omega) (by omega) (by omega) B3 (fun q4 v J4 => ?_)
    rw [r_276_2 (hy := hy), if_pos (by decide), if_neg (by decide), if_neg (by decide), if_neg (by decide), if_neg (by decide), r_276_7 (hy := hy)]
    refine m276f hy J4 (by omega) (by omega) (by omega) B4 (fun q5 v J5 => ?_)
    rw [r_276_2 (hy := hy), if_neg (by decide)]
    have f1 := J5.1
    rw [e37] at f1
    have G : ∀ (x : mm_Id) j, x ≠ (9, 0, 0) → x ≠ (67, 0, 0) → ¬ (x = (8, 0, 0) ∧ j = 1) → ¬ (x = (40, 0, 0) ∧ j = 37) → ¬ (x = (40, 0, 0) ∧ j = 0) → q5 x j = h x j := fun x j a1 a2 a3 a4 a5 => by
      rw [J5.2.2.2 x j a2 a4, mm_upne' a5]; exact I5.2.2.2 x j a1 a3
    have q9 : ∀ j, q5 (9, 0, 0) j = g5 (9, 0, 0) j := fun j => by rw [J5.2.2.2 _ _ (by simp) (by simp), mm_upf (by decide)]
    have q8 : q5 (8, 0, 0) 1 = h (8, 0, 0) 1 + (0 + 4 + 4 + 4 + 4 + 4) := by rw [J5.2.2.2 _ _ (by simp) (by simp), mm_upf (by decide)]; exact e1
    refine ⟨by rw [f1, e1], q5, rfl, kk_coreS hb (kk_coreR (fun x j a1 a2 => G x j (fun w => a1 (by rw [w]; simp [kk_scr])) (fun w => a1 (by rw [w]; simp [kk_scr])) (fun w => a1 (by rw [w.1]; simp [kk_scr])) (fun w => a1 (by rw [w.1, w.2]; simp [kk_scr])) a2) hc), ?_⟩
    obtain ⟨a1, a2, a3, a4, a5⟩ := hs
    refine ⟨⟨by rw [q8, f1], by omega, by omega⟩, fun i i0 i1 => ?_, ?_, fun i i0 i1 => ?_, ?_⟩
    · rw [q8] at i1
      rw [q9]
      by_cases y : i < h (8, 0, 0) 1
      · have z := J5.2.2.1 i (by rw [e37]; omega)
        rw [mm_upf (by decide), ek _ _ (by decide)] at z
        rw [I5.2.2.1 i (by omega), z]; exact a2 i i0 y
      · have z1 := I5.2.1 (i - h (8, 0, 0) 1) (by omega) (by omega)
        have z2 := J5.2.1 (i - h (8, 0, 0) 1) (by omega) (by omega)
        rw [e37] at z2
        rw [show h (8, 0, 0) 1 + (i - h (8, 0, 0) 1) = i by omega] at z1 z2
        rw [z1, z2]
        exact ⟨rfl, Br _⟩
    · rw [G _ _ (by simp) (by simp) (by simp) (by simp) (by simp), G _ _ (by simp) (by simp) (by simp) (by simp) (by simp)]; exact a3
    · rw [G _ _ (by simp) (by simp) (by simp) (by simp) (by simp)] at i1
      rw [G _ _ (by simp) (by simp) (by simp) (by simp) (by simp), G _ _ (by simp) (by simp) (by simp) (by simp) (by simp)]; exact a4 i i0 i1
    · rw [G _ _ (by simp) (by simp) (by simp) (by simp) (by simp), G _ _ (by simp) (by simp) (by simp) (by simp) (by simp)]; exact a5
end
