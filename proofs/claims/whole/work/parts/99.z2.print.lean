/-! scripts: an answer is written down -/
def kk_q (u : Int) : Nat → Int
  | 0 => u
  | k + 1 => kk_q u k / 10
theorem kk_q0 {u : Int} (h : 0 ≤ u) : ∀ k, 0 ≤ kk_q u k := by
  intro k
  induction k with
  | zero => exact h
  | succ k ih => show 0 ≤ kk_q u k / 10; omega
theorem kk_ql {u : Int} (h : 0 ≤ u) : ∀ k, kk_q u k ≤ u := by
  intro k
  induction k with
  | zero => exact Int.le_refl _
  | succ k ih =>
    have := kk_q0 h k
    show kk_q u k / 10 ≤ u; omega
theorem kk_q19 {u : Int} (h : 0 ≤ u ∧ u ≤ 9223372036854775808) : kk_q u 19 = 0 := by
  show u / 10 / 10 / 10 / 10 / 10 / 10 / 10 / 10 / 10 / 10 / 10 / 10 / 10 / 10 / 10 / 10 / 10 / 10 / 10 = 0
  omega
theorem kk_pwp : ∀ k, 0 < kk_pw k := by
  intro k
  induction k with
  | zero => decide
  | succ k ih => show 0 < 10 * kk_pw k; omega
theorem kk_qd {u : Int} (h : 0 ≤ u) : ∀ k, u / kk_pw k = kk_q u k := by
  intro k
  induction k with
  | zero => show u / 1 = u; omega
  | succ k ih =>
    show u / (10 * kk_pw k) = kk_q u k / 10
    have p := kk_pwp k
    rw [Int.mul_comm, ← Int.ediv_ediv_of_nonneg (by omega), ih]
/-- how many digits -/
def kk_ndg (u : Int) (m : Nat) : Prop := 1 ≤ m ∧ m ≤ 19 ∧ kk_q u m = 0 ∧ ∀ k, 1 ≤ k → k < m → kk_q u k ≠ 0
theorem kk_ndx {u : Int} (h : 0 ≤ u ∧ u ≤ 9223372036854775808) : ∃ m, kk_ndg u m := by
  obtain ⟨e, e1, e2, e3, e4⟩ := kk_fstex (fun i => kk_q u i.toNat = 0) 1 19 (by omega)
  refine ⟨e.toNat, by omega, by omega, ?_, fun k k0 k1 w => e3 k (by omega) (by omega) (by show kk_q u (k : Int).toNat = 0; rw [show ((k : Int)).toNat = k by omega]; exact w)⟩
  by_cases c : e < 19
  · exact e4 c
  · rw [show e.toNat = 19 by omega]; exact kk_q19 h
/-- the text of an answer -/
def kk_tsg (v : Int) : Int := if v < 0 then 1 else 0
def kk_ab (v : Int) : Int := if v < 0 then -v else v
def kk_txt (v : Int) (m : Nat) (i : Int) : Int := if i < kk_tsg v then 45 else if i < kk_tsg v + m then 48 + kk_q (kk_ab v) (m - 1 - (i - kk_tsg v)).toNat % 10 else 10
theorem kk_txtr {v i : Int} {m : Nat} : -128 ≤ kk_txt v m i ∧ kk_txt v m i < 128 := by
  unfold kk_txt
  split
  · omega
  · split <;> omega
theorem kk_txd {v : Int} {m k : Nat} (hk : k < m) : kk_txt v m (kk_tsg v + (m - 1 - k)) = 48 + kk_q (kk_ab v) k % 10 := by
  unfold kk_txt
  rw [if_neg (by omega), if_pos (by omega), show ((m : Int) - 1 - (kk_tsg v + (m - 1 - k) - kk_tsg v)).toNat = k by omega]
theorem kk_txe {v : Int} {m : Nat} : kk_txt v m (kk_tsg v + m) = 10 := by
  unfold kk_txt
  rw [if_neg (by omega), if_neg (by omega)]
theorem kk_dgt {u : Int} (h : 0 ≤ u) : mm_b (mm_b (mm_w (mm_W (48 - Int.tmod (-u) 10)))) = 48 + u % 10 := by
  rw [Int.neg_tmod, Int.tmod_eq_emod_of_nonneg h, mm_Wi (by omega) (by omega), mm_wi (by omega) (by omega), mm_bi (z := 48 - -(u % 10)) (by omega) (by omega), mm_bi (by omega) (by omega)]
  omega
theorem kk_tdt {u : Int} (h : 0 ≤ u) : Int.tdiv (-u) 10 = -(u / 10) := by
  rw [Int.neg_tdiv, Int.tdiv_eq_ediv_of_nonneg h]
section
variable {h : mm_Id → Int → Int} {dh : Int → Int} {nx ns : Int} {Q : mm_V → mm_H → Prop}
theorem s152 (hx : 5275 ≤ nx) {g : mm_Id → Int → Int} {x n : Int} {B : Int → Int} (I : kk_fd 10 (8, 0, 0) 3 B n h g) (h0 : 0 ≤ h (8, 0, 0) 3 ∧ h (8, 0, 0) 3 + n < 33600) (n0 : 0 ≤ n) (hB : B n = x) (xr : -128 ≤ x ∧ x < 128) (K : ∀ g2, kk_fd 10 (8, 0, 0) 3 B (n + 1) h g2 → Q zU (mm_z g2 dh nx ns)) :
    mm_Cl 152 [zR (8, 0, 0), zI x] (mm_z g dh nx ns) Q := by
  have I1 := I.1
  rw [r_152_e (hx := hx), if_pos (by omega), mm_upf (by decide), mm_wi (by omega) (by omega), r_152_1 (hx := hx), mm_bi (z := x) xr.1 xr.2, mm_bi xr.1 xr.2]
  exact ⟨by omega, K _ (kk_fd1 I (by simp) n0 hB.symm rfl)⟩
theorem s151 (hx : 5275 ≤ nx) {v n o : Int} {m : Nat} (vr : -9223372036854775808 ≤ v ∧ v < 9223372036854775808) (hm : kk_ndg (kk_ab v) m) (a5 : h (8, 0, 0) 5 = n) (a3 : h (8, 0, 0) 3 = o) (hn : 0 ≤ n ∧ n < 1600) (ho : 0 ≤ o ∧ o ≤ 21 * n)
    (K : ∀ g, (∀ x j, ¬ (x = (8, 0, 0) ∧ (j = 3 ∨ j = 5)) → x ≠ (10, 0, 0) → x ≠ (11, 0, 0) → x ≠ (13, 0, 0) → g x j = h x j) → g (8, 0, 0) 5 = n + 1 → g (8, 0, 0) 3 = o + (kk_tsg v + m + 1) → (∀ i, 0 ≤ i → i < kk_tsg v + m + 1 → g (10, 0, 0) (o + i) = kk_txt v m i) → (∀ i, i < o → g (10, 0, 0) i = h (10, 0, 0) i) → g (11, 0, 0) n = v → (∀ i, i ≠ n → g (11, 0, 0) i = h (11, 0, 0) i) → Q zU (mm_z g dh nx ns)) :
    mm_Cl 151 [zR (8, 0, 0), zL v] (mm_z h dh nx ns) Q := by
  obtain ⟨u, hu⟩ : ∃ u, u = kk_ab v := ⟨_, rfl⟩
  have u0 : 0 ≤ u ∧ u ≤ 9223372036854775808 := by rw [hu]; unfold kk_ab; split <;> omega
  have ts : 0 ≤ kk_tsg v ∧ kk_tsg v ≤ 1 := by unfold kk_tsg; split <;> omega
  rw [← hu] at hm
  obtain ⟨m1, m2, m3, m4⟩ := hm
  obtain ⟨h1, eh⟩ : ∃ h1, h1 = mm_up (mm_up h (11, 0, 0) n v) (8, 0, 0) 5 (n + 1) := ⟨_, rfl⟩
  have f1 : ∀ x j, ¬ (x = (8, 0, 0) ∧ (j = 3 ∨ j = 5)) → x ≠ (11, 0, 0) → h1 x j = h x j := fun x j q q2 => by rw [eh, mm_upne' (fun w => q ⟨w.1, Or.inr w.2⟩), mm_upne' (fun w => q2 w.1)]
  -- what is put out
  have P : ∀ (g0 : mm_Id → Int → Int), (∀ x j, x ≠ (13, 0, 0) → g0 x j = h1 x j) → (∀ k : Nat, k < m → g0 (13, 0, 0) k = 48 + kk_q u k % 10) → ∀ (x4 : Int) (v6 : mm_V), mm_Wp 151 (mm_blk 151 5) [zR (8, 0, 0), zL v, zU, zI m, zL x4, zU, v6] [] (mm_z g0 dh nx ns) Q := by
    intro g0 g1 g2 x4 v6
    have o0 : g0 (8, 0, 0) 3 = o := by rw [g1 _ _ (by simp), eh, mm_upj (by decide), mm_upf (by decide), a3]
    have fin : ∀ g, kk_fd 10 (8, 0, 0) 3 (kk_txt v m) (kk_tsg v + m + 1) g0 g → Q zU (mm_z g dh nx ns) := fun g I => by
      obtain ⟨I1, I2, I3, I4⟩ := I
      rw [o0] at I1 I2 I3
      refine K g (fun x j q q2 q3 q4 => ?_) ?_ I1 I2 (fun i i0 => ?_) ?_ (fun i i0 => ?_)
      · rw [I4 x j q2 (fun w => q ⟨w.1, Or.inl w.2⟩), g1 x j q4]
        exact f1 x j q q3
      · rw [I4 _ _ (by simp) (by simp), g1 _ _ (by simp), eh, mm_ups]
      · rw [I3 i (by omega), g1 _ _ (by simp)]
        exact f1 _ _ (by simp) (by simp)
      · rw [I4 _ _ (by simp) (by simp), g1 _ _ (by simp), eh, mm_upf (by decide), mm_ups]
      · rw [I4 _ _ (by simp) (by simp), g1 _ _ (by simp), eh, mm_upf (by decide), mm_upj i0]
    have D : ∀ (d : Nat) (g : mm_Id → Int → Int), d ≤ m → kk_fd 10 (8, 0, 0) 3 (kk_txt v m) (kk_tsg v + (m - d)) g0 g → mm_Wp 151 (mm_blk 151 7) [zR (8, 0, 0), zL v, zU, zI m, zL x4, zU, zI ((d : Int) - 1)] [] (mm_z g dh nx ns) Q := by
      intro d
      induction d with
      | zero =>
        intro g d0 I
        rw [r_151_7 (hx := hx), if_pos (by omega)]
        rw [show kk_tsg v + ((m : Int) - ((0 : Nat) : Int)) = kk_tsg v + m by omega] at I
        refine s152 hx I (by omega) (by omega) kk_txe (by omega) (fun g2 I2 => ?_)
        rw [mm_pU, r_151_8_3 (hx := hx)]
        exact fin g2 I2
      | succ d ih =>
        intro g d0 I
        have e13 : g (13, 0, 0) (d : Int) = 48 + kk_q u d % 10 := by rw [I.2.2.2 _ _ (by simp) (by simp)]; exact g2 d (by omega)
        rw [r_151_7 (hx := hx), if_neg (by omega), show ((d + 1 : Nat) : Int) - 1 = d by omega, e13]
        refine ⟨by omega, ?_⟩
        rw [show kk_tsg v + ((m : Int) - ((d + 1 : Nat) : Int)) = kk_tsg v + (m - 1 - d) by omega] at I
        refine s152 hx I (by omega) (by omega) (by rw [kk_txd (by omega), hu]) (by omega) (fun g3 I3 => ?_)
        rw [mm_pU, r_151_7_8 (hx := hx), mm_wi (by omega) (by omega), show (d : Int) + -1 = d - 1 by omega]
        refine ih g3 (by omega) ?_
        rw [show kk_tsg v + ((m : Int) - 1 - d) + 1 = kk_tsg v + (m - d) by omega] at I3
        exact I3
    have S : ∀ g, kk_fd 10 (8, 0, 0) 3 (kk_txt v m) (kk_tsg v) g0 g → mm_Wp 151 (mm_blk 151 6) [zR (8, 0, 0), zL v, zU, zI m, zL x4, zU, v6] [] (mm_z g dh nx ns) Q := fun g I => by
      rw [r_151_6 (hx := hx), mm_wi (by omega) (by omega)]
      refine D m g (by omega) ?_
      rw [show kk_tsg v + ((m : Int) - m) = kk_tsg v by omega]
      exact I
    rw [r_151_5 (hx := hx)]
    by_cases c : v < 0
    · have t1 : kk_tsg v = 1 := by unfold kk_tsg; rw [if_pos c]
      rw [if_pos (by rw [mm_cmpl]; exact c)]
      refine s152 (h := g0) (n := 0) (B := kk_txt v m) hx kk_fd0 (by omega) (by omega) (by unfold kk_txt; rw [if_pos (by omega)]) (by omega) (fun g2 I2 => ?_)
      rw [mm_pU, r_151_5_7 (hx := hx)]
      refine S g2 ?_
      rw [t1]
      exact I2
    · have t1 : kk_tsg v = 0 := by unfold kk_tsg; rw [if_neg c]
      rw [if_neg (by rw [mm_cmpl]; exact c)]
      refine S g0 ?_
      rw [t1]
      exact kk_fd0
  -- the digits
  have L : ∀ (d k : Nat) (g : mm_Id → Int → Int) (v6 : mm_V), (m : Int) - 1 - k = d → (∀ x j, x ≠ (13, 0, 0) → g x j = h1 x j) → (∀ i : Nat, i < k → g (13, 0, 0) i = 48 + kk_q u i % 10) → mm_Wp 151 (mm_blk 151 4) [zR (8, 0, 0), zL v, zU, zI k, zL (-kk_q u k), zU, v6] [] (mm_z g dh nx ns) Q := by
    intro d
    induction d with
    | zero =>
      intro k g v6 e1 g1 g2
      have q0 := kk_q0 u0.1 k
      have q1 := kk_ql u0.1 k
      have km : k + 1 = m := by omega
      have z : kk_q u k / 10 = 0 := by rw [← km] at m3; exact m3
      rw [r_151_4 (hx := hx), kk_tdt q0, z, mm_Wi (by omega) (by omega), if_pos (by rw [mm_cmp0]; omega), kk_dgt q0, mm_wi (by omega) (by omega), show (k : Int) + 1 = m by omega]
      refine ⟨by omega, P _ (fun x j q => ?_) (fun i i0 => ?_) _ _⟩
      · rw [mm_upx q]; exact g1 x j q
      · by_cases e : i = k
        · rw [e, mm_ups]
        · rw [mm_upj (by omega)]; exact g2 i (by omega)
    | succ d ih =>
      intro k g v6 e1 g1 g2
      have q0 := kk_q0 u0.1 k
      have q1 := kk_ql u0.1 k
      have z : kk_q u k / 10 ≠ 0 := m4 (k + 1) (by omega) (by omega)
      rw [r_151_4 (hx := hx), kk_tdt q0, mm_Wi (by omega) (by omega), if_neg (by rw [mm_cmp0]; omega), kk_dgt q0, mm_wi (by omega) (by omega), if_pos (by omega)]
      refine ⟨by omega, ih (k + 1) _ _ (by omega) (fun x j q => ?_) (fun i i0 => ?_)⟩
      · rw [mm_upx q]; exact g1 x j q
      · by_cases e : i = k
        · rw [e, mm_ups]
        · rw [mm_upj (by omega)]; exact g2 i (by omega)
  have E : ∀ v3 v4 v5 v6 : mm_V, mm_Wp 151 (mm_blk 151 1) [zR (8, 0, 0), zL v, zU, v3, v4, v5, v6] [] (mm_z h1 dh nx ns) Q := by
    intro v3 v4 v5 v6
    have l0 := fun v6 => L (m - 1) 0 h1 v6 (by omega) (fun _ _ _ => rfl) (fun i i0 => by omega)
    have q0 : kk_q u 0 = u := rfl
    rw [q0] at l0
    rw [r_151_1 (hx := hx)]
    by_cases c : 0 < v
    · have e1 : u = v := by rw [hu]; unfold kk_ab; rw [if_neg (by omega)]
      rw [if_pos (by rw [mm_cmpg]; exact c), r_151_3 (hx := hx), mm_Wi (by omega) (by omega)]
      rw [e1] at l0
      exact l0 _
    · have e1 : -u = v := by rw [hu]; unfold kk_ab; split <;> omega
      rw [if_neg (by rw [mm_cmpg]; exact c), r_151_3 (hx := hx)]
      rw [e1] at l0
      exact l0 _
  rw [r_151_e (hx := hx), a5, if_pos hn.2, mm_upf (by decide), a5, mm_wi (by omega) (by omega), ← eh]
  exact ⟨hn, E _ _ _ _⟩
theorem m291 (hy : 5306 ≤ nx) {v n o : Int} {m : Nat} (vr : -9223372036854775808 ≤ v ∧ v < 9223372036854775808) (hm : kk_ndg (kk_ab v) m) (a3 : h (40, 0, 0) 39 = o) (hn : 0 ≤ n ∧ n < 1600) (ho : 0 ≤ o ∧ o ≤ 21 * n)
    (K : ∀ g, (∀ x j, ¬ (x = (40, 0, 0) ∧ j = 39) → x ≠ (68, 0, 0) → g x j = h x j) → g (40, 0, 0) 39 = o + (kk_tsg v + m + 1) → (∀ i, 0 ≤ i → i < kk_tsg v + m + 1 → g (68, 0, 0) (o + i) = kk_txt v m i) → (∀ i, i < o → g (68, 0, 0) i = h (68, 0, 0) i) → Q zU (mm_z g dh nx ns)) :
    mm_Cl 291 [zR (40, 0, 0), zL v] (mm_z h dh nx ns) Q := by
  obtain ⟨u, hu⟩ : ∃ u, u = kk_ab v := ⟨_, rfl⟩
  have u0 : 0 ≤ u ∧ u ≤ 9223372036854775808 := by rw [hu]; unfold kk_ab; split <;> omega
  have ts : 0 ≤ kk_tsg v ∧ kk_tsg v ≤ 1 := by unfold kk_tsg; split <;> omega
  rw [← hu] at hm
  obtain ⟨m1, m2, m3, m4⟩ := hm
  have fin : ∀ g, kk_fd 68 (40, 0, 0) 39 (kk_txt v m) (kk_tsg v + m + 1) h g → Q zU (mm_z g dh nx ns) := fun g I => by
    obtain ⟨I1, I2, I3, I4⟩ := I
    rw [a3] at I1 I2 I3
    exact K g (fun x j q q2 => I4 x j q2 q) I1 I2 (fun i i0 => I3 i (by omega))
  -- the last byte
  have Z : ∀ g, kk_fd 68 (40, 0, 0) 39 (kk_txt v m) (kk_tsg v + m) h g → mm_Wp 291 (mm_blk 291 5) [zR (40, 0, 0), zL v, zU, zL (-u), zU, zL 0, zU] [] (mm_z g dh nx ns) Q := fun g I => by
    have I1 := I.1
    rw [r_291_5 (hy := hy), if_neg (by rw [mm_cmpg]; omega), mm_upf (by decide), mm_wi (by omega) (by omega), mm_bi (by omega) (by omega)]
    exact ⟨by omega, fin _ (kk_fd1 I (by simp) (by omega) kk_txe.symm rfl)⟩
  have D : ∀ (d : Nat) (g : mm_Id → Int → Int), d < m → kk_fd 68 (40, 0, 0) 39 (kk_txt v m) (kk_tsg v + (m - 1 - d)) h g → mm_Wp 291 (mm_blk 291 5) [zR (40, 0, 0), zL v, zU, zL (-u), zU, zL (kk_pw d), zU] [] (mm_z g dh nx ns) Q := by
    intro d
    induction d with
    | zero =>
      intro g d0 I
      have I1 := I.1
      have p1 : kk_pw 0 = 1 := rfl
      have q0 := kk_q0 u0.1 0
      have q1 := kk_ql u0.1 0
      have qd := kk_qd u0.1 0
      have e : Int.tdiv (-u) (kk_pw 0) = -kk_q u 0 := by rw [Int.neg_tdiv, Int.tdiv_eq_ediv_of_nonneg u0.1, qd]
      have e2 : Int.tdiv (kk_pw 0) 10 = 0 := by rw [p1]; decide
      rw [r_291_5 (hy := hy), if_pos (by rw [mm_cmpg, p1]; omega), e, e2, mm_Wi (z := -kk_q u 0) (by omega) (by omega), kk_dgt q0, mm_Wi (z := 0) (by omega) (by omega), mm_upf (by decide), mm_wi (by omega) (by omega)]
      refine ⟨by rw [p1]; omega, by omega, Z _ ?_⟩
      have I2 := kk_fd1 (v := 48 + kk_q u 0 % 10) (w := g (40, 0, 0) 39 + 1) I (by simp) (by omega) (by rw [kk_txd d0, hu]) rfl
      rw [show kk_tsg v + ((m : Int) - 1 - ((0 : Nat) : Int)) + 1 = kk_tsg v + m by omega] at I2
      exact I2
    | succ d ih =>
      intro g d0 I
      have I1 := I.1
      have pp := kk_pwp (d + 1)
      have pb := kk_pwb (d + 1) (by omega)
      have q0 := kk_q0 u0.1 (d + 1)
      have q1 := kk_ql u0.1 (d + 1)
      have qd := kk_qd u0.1 (d + 1)
      have e : Int.tdiv (-u) (kk_pw (d + 1)) = -kk_q u (d + 1) := by rw [Int.neg_tdiv, Int.tdiv_eq_ediv_of_nonneg u0.1, qd]
      have e2 : Int.tdiv (kk_pw (d + 1)) 10 = kk_pw d := by
        rw [Int.tdiv_eq_ediv_of_nonneg (by omega)]
        show 10 * kk_pw d / 10 = kk_pw d
        omega
      have pb0 := kk_pwb d (by omega)
      have pp0 := kk_pwp d
      rw [r_291_5 (hy := hy), if_pos (by rw [mm_cmpg]; exact pp), e, e2, mm_Wi (z := -kk_q u (d + 1)) (by omega) (by omega), kk_dgt q0, mm_Wi (z := kk_pw d) (by omega) (by omega), mm_upf (by decide), mm_wi (by omega) (by omega)]
      refine ⟨by omega, by omega, ih _ (by omega) ?_⟩
      have I2 := kk_fd1 (v := 48 + kk_q u (d + 1) % 10) (w := g (40, 0, 0) 39 + 1) I (by simp) (by omega) (by rw [kk_txd d0, hu]) rfl
      rw [show kk_tsg v + ((m : Int) - 1 - ((d + 1 : Nat) : Int)) + 1 = kk_tsg v + (m - 1 - d) by omega] at I2
      exact I2
  -- how large it is
  have S : ∀ g, kk_fd 68 (40, 0, 0) 39 (kk_txt v m) (kk_tsg v) h g → ∀ (d k : Nat), (m : Int) - 1 - k = d → mm_Wp 291 (mm_blk 291 4) [zR (40, 0, 0), zL v, zU, zL (-u), zU, zL (kk_pw k), zU] [] (mm_z g dh nx ns) Q := by
    intro g I d
    induction d with
    | zero =>
      intro k e1
      have pp := kk_pwp k
      have q0 := kk_q0 u0.1 k
      have q1 := kk_ql u0.1 k
      have km : k + 1 = m := by omega
      have z : kk_q u k / 10 = 0 := by rw [← km] at m3; exact m3
      have e : Int.tdiv (-u) (kk_pw k) = -kk_q u k := by rw [Int.neg_tdiv, Int.tdiv_eq_ediv_of_nonneg u0.1, kk_qd u0.1 k]
      rw [r_291_4 (hy := hy), e, mm_Wi (by omega) (by omega), if_neg (by rw [mm_cmpl]; omega)]
      refine ⟨by omega, D k g (by omega) ?_⟩
      rw [show kk_tsg v + ((m : Int) - 1 - k) = kk_tsg v by omega]
      exact I
    | succ d ih =>
      intro k e1
      have pp := kk_pwp k
      have pb := kk_pwb k (by omega)
      have q0 := kk_q0 u0.1 k
      have q1 := kk_ql u0.1 k
      have z : kk_q u k / 10 ≠ 0 := m4 (k + 1) (by omega) (by omega)
      have e : Int.tdiv (-u) (kk_pw k) = -kk_q u k := by rw [Int.neg_tdiv, Int.tdiv_eq_ediv_of_nonneg u0.1, kk_qd u0.1 k]
      have pb1 := kk_pwb (k + 1) (by omega)
      have pe : kk_pw (k + 1) = 10 * kk_pw k := rfl
      rw [r_291_4 (hy := hy), e, mm_Wi (z := -kk_q u k) (by omega) (by omega), if_pos (by rw [mm_cmpl]; omega), mm_Wi (z := kk_pw k * 10) (by omega) (by omega), Int.mul_comm]
      exact ⟨by omega, ih (k + 1) (by omega)⟩
  have F : ∀ v5 v6 : mm_V, mm_Wp 291 (mm_blk 291 2) [zR (40, 0, 0), zL v, zU, zU, zU, v5, v6] [zL (-u)] (mm_z h dh nx ns) Q := by
    intro v5 v6
    rw [r_291_2 (hy := hy), a3]
    by_cases c : v < 0
    · have t1 : kk_tsg v = 1 := by unfold kk_tsg; rw [if_pos c]
      have I := kk_fd1 (f := 68) (y := (40, 0, 0)) (J := 39) (n := 0) (v := 45) (w := o + 1) (B := kk_txt v m) (h := h) (g := h) kk_fd0 (by simp) (by omega) (by unfold kk_txt; rw [if_pos (by omega)]) (by rw [a3])
      rw [a3, show (0 : Int) + 1 = kk_tsg v by omega] at I
      rw [if_pos (by rw [mm_cmpl]; exact c), mm_upf (by decide), a3, mm_wi (by omega) (by omega), mm_bi (by omega) (by omega), r_291_3 (hy := hy)]
      exact ⟨by omega, S _ I (m - 1) 0 (by omega)⟩
    · have t1 : kk_tsg v = 0 := by unfold kk_tsg; rw [if_neg c]
      rw [if_neg (by rw [mm_cmpl]; exact c), r_291_3 (hy := hy)]
      exact S h (by rw [t1]; exact kk_fd0) (m - 1) 0 (by omega)
  rw [r_291_e (hy := hy)]
  by_cases c : v < 0
  · have e1 : -u = v := by rw [hu]; unfold kk_ab; rw [if_pos c]; omega
    have z := F zU zU
    rw [e1] at z
    rw [if_pos (by rw [mm_cmpl]; exact c)]
    exact z
  · have e1 : u = v := by rw [hu]; unfold kk_ab; rw [if_neg c]
    have z := F zU zU
    rw [e1] at z
    rw [if_neg (by rw [mm_cmpl]; exact c), mm_Wi (by omega) (by omega)]
    exact z
end
section
variable {A B A2 B2 : mm_Id → Int → Int} {d d2 dm : Int → Int} {nx ns b b2 z n : Int} {G : mm_V → (mm_Id → Int → Int) → (Int → Int) → (mm_Id → Int → Int) → Prop} {KC KM : mm_V → mm_H → (mm_V → mm_H → Prop) → Prop}
/-- the answer of a line -/
theorem kk_noteJ (hy : 5306 ≤ nx) {v : Int} {u1 u2 u3 u4 u5 u6 u7 : mm_V} (l : kk_L b z n A B d) (hn : n < 1600) (vr : -9223372036854775808 ≤ v ∧ v < 9223372036854775808) (w5 : mm_wt u5 = 1)
    (K : ∀ A2 B2, kk_L b z (n + 1) A2 B2 d → A2 (8, 0, 0) 10 = A (8, 0, 0) 10 → kk_J nx ns dm G (fun Q => KC zU (mm_z A2 d nx ns) Q) (fun Q => KM (zI (-1)) (mm_z B2 dm nx ns) Q)) :
    kk_J nx ns dm G (fun Q => mm_Cl 151 [zR (8, 0, 0), zL v] (mm_z A d nx ns) (fun r h => KC r h Q)) (fun Q => mm_Wp 292 (mm_blk 292 10) [zR (40, 0, 0), u1, u2, u3, u4, u5, u6, u7] [zL v] (mm_z B dm nx ns) (fun r h => KM r h Q)) := by
  have hx : 5275 ≤ nx := by omega
  have ur : 0 ≤ kk_ab v ∧ kk_ab v ≤ 9223372036854775808 := by unfold kk_ab; split <;> omega
  have ts : 0 ≤ kk_tsg v ∧ kk_tsg v ≤ 1 := by unfold kk_tsg; split <;> omega
  obtain ⟨m, hm⟩ := kk_ndx ur
  have l' := l
  obtain ⟨l0, lE, l1, l2, l3, l4, ⟨o, p1, p2, p3, p4, p5⟩, l6⟩ := l'
  have m2 := hm.2.1
  -- what the runs come to
  obtain ⟨f, r, h1, run, e1, A2, e2, a1, a2, a3, a4, a5, a6, a7⟩ := s151 (Q := fun r h1 => r = zU ∧ ∃ g, h1 = mm_z g d nx ns ∧ (∀ x j, ¬ (x = (8, 0, 0) ∧ (j = 3 ∨ j = 5)) → x ≠ (10, 0, 0) → x ≠ (11, 0, 0) → x ≠ (13, 0, 0) → g x j = A x j) ∧ g (8, 0, 0) 5 = n + 1 ∧ g (8, 0, 0) 3 = o + (kk_tsg v + m + 1) ∧ (∀ i, 0 ≤ i → i < kk_tsg v + m + 1 → g (10, 0, 0) (o + i) = kk_txt v m i) ∧ (∀ i, i < o → g (10, 0, 0) i = A (10, 0, 0) i) ∧ g (11, 0, 0) n = v ∧ (∀ i, i ≠ n → g (11, 0, 0) i = A (11, 0, 0) i)) (dh := d) (ns := ns) hx vr hm l3.1 p1 ⟨by omega, hn⟩ ⟨p3, p4⟩ (fun g q1 q2 q3 q4 q5 q6 q7 => ⟨rfl, g, rfl, q1, q2, q3, q4, q5, q6, q7⟩)
  obtain ⟨h2, eh⟩ : ∃ h2, h2 = mm_up (mm_up B (69, 0, 0) n v) (40, 0, 0) 42 (n + 1) := ⟨_, rfl⟩
  have o2 : h2 (40, 0, 0) 39 = o := by rw [eh, mm_upj (by decide), mm_upf (by decide), p2]
  obtain ⟨f', r', h1', run', e1', B2, e2', b1, b2, b3, b4⟩ := m291 (Q := fun r h1 => r = zU ∧ ∃ g, h1 = mm_z g dm nx ns ∧ (∀ x j, ¬ (x = (40, 0, 0) ∧ j = 39) → x ≠ (68, 0, 0) → g x j = h2 x j) ∧ g (40, 0, 0) 39 = o + (kk_tsg v + m + 1) ∧ (∀ i, 0 ≤ i → i < kk_tsg v + m + 1 → g (68, 0, 0) (o + i) = kk_txt v m i) ∧ (∀ i, i < o → g (68, 0, 0) i = h2 (68, 0, 0) i)) (dh := dm) (ns := ns) hy vr hm o2 ⟨by omega, hn⟩ ⟨p3, p4⟩ (fun g q1 q2 q3 q4 => ⟨rfl, g, rfl, q1, q2, q3, q4⟩)
  have FB : ∀ x j, ¬ (x = (40, 0, 0) ∧ (j = 39 ∨ j = 42)) → x ≠ (68, 0, 0) → x ≠ (69, 0, 0) → B2 x j = B x j := fun x j q q2 q3 => by
    rw [b1 x j (fun w => q ⟨w.1, Or.inl w.2⟩) q2, eh, mm_upne' (fun w => q ⟨w.1, Or.inr w.2⟩), mm_upne' (fun w => q3 w.1)]
  have L2 : kk_L b z (n + 1) A2 B2 d := by
    refine ⟨?_, ?_, ?_, ?_, ?_, ?_, ⟨o + (kk_tsg v + m + 1), a3, b2, by omega, by omega, ?_⟩, ?_⟩
    · refine kk_coreR (h := kk_M A B) (fun x j s1 s2 => ?_) l0
      by_cases c : x.1 < 40
      · rw [kk_Mc c, kk_Mc c]
        refine a1 x j (fun w => s1 ?_) (fun w => s1 ?_) (fun w => s1 ?_) (fun w => s1 ?_)
        · rw [w.1]; simp [kk_scr]
        · rw [w]; simp [kk_scr]
        · rw [w]; simp [kk_scr]
        · rw [w]; simp [kk_scr]
      · rw [kk_Mm (by omega), kk_Mm (by omega)]
        refine FB x j (fun w => s1 ?_) (fun w => s1 ?_) (fun w => s1 ?_)
        · rw [w.1]; unfold kk_scr; simp; omega
        · rw [w]; simp [kk_scr]
        · rw [w]; simp [kk_scr]
    · intro x j q
      rw [a1 x j (fun w => by rw [w.1] at q; simp at q) (fun w => by rw [w] at q; simp at q) (fun w => by rw [w] at q; simp at q) (fun w => by rw [w] at q; simp at q), FB x j (fun w => by rw [w.1] at q; simp at q) (fun w => by rw [w] at q; simp at q) (fun w => by rw [w] at q; simp at q)]
      exact lE x j q
    · rw [a1 _ _ (by simp) (by simp) (by simp) (by simp), FB _ _ (by simp) (by simp) (by simp)]; exact l1
    · intro i i0 i1
      rw [a1 _ _ (by simp) (by simp) (by simp) (by simp), FB _ _ (by simp) (by simp) (by simp)]; exact l2 i i0 i1
    · rw [a2, b1 _ _ (by simp) (by simp), eh, mm_ups]
      exact ⟨rfl, rfl, by omega, by omega⟩
    · intro i i0 i1
      by_cases e : i = n
      · rw [e, a6, b1 _ _ (by simp) (by simp), eh, mm_upf (by decide), mm_ups]
        exact ⟨rfl, vr⟩
      · rw [a7 i e, b1 _ _ (by simp) (by simp), eh, mm_upf (by decide), mm_upj e]
        exact l4 i i0 (by omega)
    · intro i i0 i1
      by_cases e : i < o
      · rw [a5 i e, b4 i e, eh, mm_upf (by decide), mm_upf (by decide)]
        exact p5 i i0 e
      · have z1 := a4 (i - o) (by omega) (by omega)
        have z2 := b3 (i - o) (by omega) (by omega)
        rw [show o + (i - o) = i by omega] at z1 z2
        rw [z1, z2]
        exact ⟨rfl, kk_txtr⟩
    · rw [a1 _ _ (by simp) (by simp) (by simp) (by simp), FB _ _ (by simp) (by simp) (by simp)]; exact l6
  refine kk_J2 (fun Q q => ⟨f, r, h1, run, by rw [e1, e2]; exact q⟩) (fun Q q => ?_) (K A2 B2 L2 (a1 _ _ (by simp) (by simp) (by simp) (by simp)))
  rw [r_292_10 (hvx5 := w5) (hy := hy), l3.2.1, mm_upf (by decide), l3.2.1, mm_wi (by omega) (by omega), ← eh]
  refine ⟨by omega, f', r', h1', run', ?_⟩
  rw [e1', e2']
  show mm_Wp 292 (bk_292_10.drop 16) _ _ _ _
  rw [mm_pU, r_292_10_16 (hy := hy)]
  exact q
end
