/-! the families: shapes, references (printed by wip/whole/mk22.py) -/
theorem mm_tbT (t : Int) (ht : mm_isT t) : 0 ≤ mm_tb t ∧ mm_tb t ≤ 4998 := by
  unfold mm_isT at ht
  unfold mm_tb
  split
  · omega
  · split
    · omega
    · split <;> omega
theorem mm_tb2 (t : Int) (ht : mm_isT t) : 21 ≤ mm_tb t ∧ mm_tb t + 261 ≤ 5259 := by
  unfold mm_isT at ht
  unfold mm_tb
  split
  · omega
  · split
    · omega
    · split <;> omega
theorem mm_td {d : Int} (h : mm_isD d) : mm_isT d := by unfold mm_isD at h; unfold mm_isT; omega
theorem mm_tk {d : Int} (h : mm_isD d) : mm_isT (13 + d) := by unfold mm_isD at h; unfold mm_isT; omega
theorem mm_ts {d : Int} (h : mm_isS d) : mm_isT (5 + d) := by unfold mm_isS at h; unfold mm_isT; omega
theorem mm_t26 : mm_isT 26 := by unfold mm_isT; omega
theorem mm_t27 : mm_isT 27 := by unfold mm_isT; omega
theorem mm_q1 {nx : Int} (hx : 5275 ≤ nx) : mm_SH (1, 0, 0) = (1, 0) ∧ mm_lv (1, 0, 0) nx = true := by
  refine ⟨rfl, ?_⟩
  show decide (mm_off (1, 0, 0) < nx) = true
  rw [show mm_off (1, 0, 0) = 0 from by decide]
  exact decide_eq_true (by omega)
theorem mm_o1 {nx : Int} (hx : 5275 ≤ nx) : mm_ok (1, 0, 0) nx 1 0 = true := by
  have q := mm_q1 hx
  simp [mm_ok, q.1, q.2]
theorem mm_q2 {nx : Int} (hx : 5275 ≤ nx) : mm_SH (2, 0, 0) = (6, 5) ∧ mm_lv (2, 0, 0) nx = true := by
  refine ⟨rfl, ?_⟩
  show decide (mm_off (2, 0, 0) < nx) = true
  rw [show mm_off (2, 0, 0) = 1 from by decide]
  exact decide_eq_true (by omega)
theorem mm_q3 {nx : Int} (hx : 5275 ≤ nx) : mm_SH (3, 0, 0) = (7, 8) ∧ mm_lv (3, 0, 0) nx = true := by
  refine ⟨rfl, ?_⟩
  show decide (mm_off (3, 0, 0) < nx) = true
  rw [show mm_off (3, 0, 0) = 2 from by decide]
  exact decide_eq_true (by omega)
theorem mm_q4 {nx : Int} (hx : 5275 ≤ nx) : mm_SH (4, 0, 0) = (8, 8) ∧ mm_lv (4, 0, 0) nx = true := by
  refine ⟨rfl, ?_⟩
  show decide (mm_off (4, 0, 0) < nx) = true
  rw [show mm_off (4, 0, 0) = 3 from by decide]
  exact decide_eq_true (by omega)
theorem mm_q5 {nx : Int} (hx : 5275 ≤ nx) : mm_SH (5, 0, 0) = (1, 5) ∧ mm_lv (5, 0, 0) nx = true := by
  refine ⟨rfl, ?_⟩
  show decide (mm_off (5, 0, 0) < nx) = true
  rw [show mm_off (5, 0, 0) = 4 from by decide]
  exact decide_eq_true (by omega)
theorem mm_o5 {nx : Int} (hx : 5275 ≤ nx) : mm_ok (5, 0, 0) nx 1 5 = true := by
  have q := mm_q5 hx
  simp [mm_ok, q.1, q.2]
theorem mm_q6 {nx : Int} (hx : 5275 ≤ nx) : mm_SH (6, 0, 0) = (2, 8) ∧ mm_lv (6, 0, 0) nx = true := by
  refine ⟨rfl, ?_⟩
  show decide (mm_off (6, 0, 0) < nx) = true
  rw [show mm_off (6, 0, 0) = 5 from by decide]
  exact decide_eq_true (by omega)
theorem mm_q7 {nx : Int} (hx : 5275 ≤ nx) : mm_SH (7, 0, 0) = (2, 100) ∧ mm_lv (7, 0, 0) nx = true := by
  refine ⟨rfl, ?_⟩
  show decide (mm_off (7, 0, 0) < nx) = true
  rw [show mm_off (7, 0, 0) = 6 from by decide]
  exact decide_eq_true (by omega)
theorem mm_q8 {nx : Int} (hx : 5275 ≤ nx) : mm_SH (8, 0, 0) = (1, 7) ∧ mm_lv (8, 0, 0) nx = true := by
  refine ⟨rfl, ?_⟩
  show decide (mm_off (8, 0, 0) < nx) = true
  rw [show mm_off (8, 0, 0) = 7 from by decide]
  exact decide_eq_true (by omega)
theorem mm_o8 {nx : Int} (hx : 5275 ≤ nx) : mm_ok (8, 0, 0) nx 1 7 = true := by
  have q := mm_q8 hx
  simp [mm_ok, q.1, q.2]
theorem mm_q9 {nx : Int} (hx : 5275 ≤ nx) : mm_SH (9, 0, 0) = (3, 8000) ∧ mm_lv (9, 0, 0) nx = true := by
  refine ⟨rfl, ?_⟩
  show decide (mm_off (9, 0, 0) < nx) = true
  rw [show mm_off (9, 0, 0) = 8 from by decide]
  exact decide_eq_true (by omega)
theorem mm_q10 {nx : Int} (hx : 5275 ≤ nx) : mm_SH (10, 0, 0) = (3, 33600) ∧ mm_lv (10, 0, 0) nx = true := by
  refine ⟨rfl, ?_⟩
  show decide (mm_off (10, 0, 0) < nx) = true
  rw [show mm_off (10, 0, 0) = 9 from by decide]
  exact decide_eq_true (by omega)
theorem mm_q11 {nx : Int} (hx : 5275 ≤ nx) : mm_SH (11, 0, 0) = (5, 1600) ∧ mm_lv (11, 0, 0) nx = true := by
  refine ⟨rfl, ?_⟩
  show decide (mm_off (11, 0, 0) < nx) = true
  rw [show mm_off (11, 0, 0) = 10 from by decide]
  exact decide_eq_true (by omega)
theorem mm_q12 {nx : Int} (hx : 5275 ≤ nx) : mm_SH (12, 0, 0) = (5, 5) ∧ mm_lv (12, 0, 0) nx = true := by
  refine ⟨rfl, ?_⟩
  show decide (mm_off (12, 0, 0) < nx) = true
  rw [show mm_off (12, 0, 0) = 11 from by decide]
  exact decide_eq_true (by omega)
theorem mm_q13 {nx : Int} (hx : 5275 ≤ nx) : mm_SH (13, 0, 0) = (3, 20) ∧ mm_lv (13, 0, 0) nx = true := by
  refine ⟨rfl, ?_⟩
  show decide (mm_off (13, 0, 0) < nx) = true
  rw [show mm_off (13, 0, 0) = 12 from by decide]
  exact decide_eq_true (by omega)
theorem mm_q14 {nx : Int} (hx : 5275 ≤ nx) : mm_SH (14, 0, 0) = (1, 2) ∧ mm_lv (14, 0, 0) nx = true := by
  refine ⟨rfl, ?_⟩
  show decide (mm_off (14, 0, 0) < nx) = true
  rw [show mm_off (14, 0, 0) = 13 from by decide]
  exact decide_eq_true (by omega)
theorem mm_o14 {nx : Int} (hx : 5275 ≤ nx) : mm_ok (14, 0, 0) nx 1 2 = true := by
  have q := mm_q14 hx
  simp [mm_ok, q.1, q.2]
theorem mm_q15 {nx : Int} (hx : 5275 ≤ nx) : mm_SH (15, 0, 0) = (1, 6) ∧ mm_lv (15, 0, 0) nx = true := by
  refine ⟨rfl, ?_⟩
  show decide (mm_off (15, 0, 0) < nx) = true
  rw [show mm_off (15, 0, 0) = 14 from by decide]
  exact decide_eq_true (by omega)
theorem mm_o15 {nx : Int} (hx : 5275 ≤ nx) : mm_ok (15, 0, 0) nx 1 6 = true := by
  have q := mm_q15 hx
  simp [mm_ok, q.1, q.2]
theorem mm_q16 {nx : Int} (hx : 5275 ≤ nx) : mm_SH (16, 0, 0) = (3, 102060) ∧ mm_lv (16, 0, 0) nx = true := by
  refine ⟨rfl, ?_⟩
  show decide (mm_off (16, 0, 0) < nx) = true
  rw [show mm_off (16, 0, 0) = 15 from by decide]
  exact decide_eq_true (by omega)
theorem mm_q17 {nx : Int} (hx : 5275 ≤ nx) : mm_SH (17, 0, 0) = (2, 1701) ∧ mm_lv (17, 0, 0) nx = true := by
  refine ⟨rfl, ?_⟩
  show decide (mm_off (17, 0, 0) < nx) = true
  rw [show mm_off (17, 0, 0) = 16 from by decide]
  exact decide_eq_true (by omega)
theorem mm_q18 {nx : Int} (hx : 5275 ≤ nx) : mm_SH (18, 0, 0) = (2, 1701) ∧ mm_lv (18, 0, 0) nx = true := by
  refine ⟨rfl, ?_⟩
  show decide (mm_off (18, 0, 0) < nx) = true
  rw [show mm_off (18, 0, 0) = 17 from by decide]
  exact decide_eq_true (by omega)
theorem mm_q19 {nx : Int} (hx : 5275 ≤ nx) : mm_SH (19, 0, 0) = (4, 1701) ∧ mm_lv (19, 0, 0) nx = true := by
  refine ⟨rfl, ?_⟩
  show decide (mm_off (19, 0, 0) < nx) = true
  rw [show mm_off (19, 0, 0) = 18 from by decide]
  exact decide_eq_true (by omega)
theorem mm_q20 {nx : Int} (hx : 5275 ≤ nx) : mm_SH (20, 0, 0) = (2, 1701) ∧ mm_lv (20, 0, 0) nx = true := by
  refine ⟨rfl, ?_⟩
  show decide (mm_off (20, 0, 0) < nx) = true
  rw [show mm_off (20, 0, 0) = 19 from by decide]
  exact decide_eq_true (by omega)
theorem mm_q21 {nx : Int} (hx : 5275 ≤ nx) : mm_SH (21, 0, 0) = (2, 1701) ∧ mm_lv (21, 0, 0) nx = true := by
  refine ⟨rfl, ?_⟩
  show decide (mm_off (21, 0, 0) < nx) = true
  rw [show mm_off (21, 0, 0) = 20 from by decide]
  exact decide_eq_true (by omega)
theorem mm_q22 {t : Int} (ht : mm_isT t) {nx : Int} (hx : 5275 ≤ nx) : mm_SH (22, t, 0) = (1, 9) ∧ mm_lv (22, t, 0) nx = true := by
  have h2 := mm_tb2 t ht; have h3 : (0 ≤ t ∧ t < 18 ∨ t = 26 ∨ t = 27) := ht
  refine ⟨by simp [mm_SH, mm_fl, mm_SHo, mm_ot, h3], ?_⟩
  show decide (mm_tb t < nx) = true
  exact decide_eq_true (by omega)
theorem mm_o22 {t : Int} (ht : mm_isT t) {nx : Int} (hx : 5275 ≤ nx) : mm_ok (22, t, 0) nx 1 9 = true := by
  have q := mm_q22 ht hx
  simp [mm_ok, q.1, q.2]
theorem mm_q23 {t : Int} (ht : mm_isT t) {nx : Int} (hx : 5275 ≤ nx) : mm_SH (23, t, 0) = (9, 37) ∧ mm_lv (23, t, 0) nx = true := by
  have h2 := mm_tb2 t ht; have h3 : (0 ≤ t ∧ t < 18 ∨ t = 26 ∨ t = 27) := ht
  refine ⟨by simp [mm_SH, mm_fl, mm_SHo, mm_ot, h3], ?_⟩
  show decide (mm_tb t + 1 < nx) = true
  exact decide_eq_true (by omega)
theorem mm_q24 {t n : Int} (ht : mm_isT t) (hn : mm_isN n) {nx : Int} (hx : 5275 ≤ nx) : mm_SH (24, t, n) = (1, 4) ∧ mm_lv (24, t, n) nx = true := by
  have h2 := mm_tb2 t ht; have h3 : (0 ≤ t ∧ t < 18 ∨ t = 26 ∨ t = 27) := ht; have h4 : 0 ≤ n ∧ n < 37 := hn; have h5 : 0 ≤ n ∧ n ≤ 36 := by omega
  have h6 : ¬ 100 ≤ n := by omega
  refine ⟨by simp [mm_SH, mm_fl, mm_SHo, mm_ox, h3, h5, h6], ?_⟩
  unfold mm_lv
  rw [mm_off_lo (by dsimp only; omega) (by dsimp only; omega)]
  show decide (mm_tb t + 2 + 7 * n + 0 < nx) = true
  exact decide_eq_true (by omega)
theorem mm_o24 {t n : Int} (ht : mm_isT t) (hn : mm_isN n) {nx : Int} (hx : 5275 ≤ nx) : mm_ok (24, t, n) nx 1 4 = true := by
  have q := mm_q24 ht hn hx
  simp [mm_ok, q.1, q.2]
theorem mm_q25 {t n : Int} (ht : mm_isT t) (hn : mm_isN n) {nx : Int} (hx : 5275 ≤ nx) : mm_SH (25, t, n) = (2, 24) ∧ mm_lv (25, t, n) nx = true := by
  have h2 := mm_tb2 t ht; have h3 : (0 ≤ t ∧ t < 18 ∨ t = 26 ∨ t = 27) := ht; have h4 : 0 ≤ n ∧ n < 37 := hn; have h5 : 0 ≤ n ∧ n ≤ 36 := by omega
  have h6 : ¬ 100 ≤ n := by omega
  refine ⟨by simp [mm_SH, mm_fl, mm_SHo, mm_ox, h3, h5, h6], ?_⟩
  unfold mm_lv
  rw [mm_off_lo (by dsimp only; omega) (by dsimp only; omega)]
  show decide (mm_tb t + 2 + 7 * n + 1 < nx) = true
  exact decide_eq_true (by omega)
theorem mm_q26 {t n : Int} (ht : mm_isT t) (hn : mm_isN n) {nx : Int} (hx : 5275 ≤ nx) : mm_SH (26, t, n) = (2, 24) ∧ mm_lv (26, t, n) nx = true := by
  have h2 := mm_tb2 t ht; have h3 : (0 ≤ t ∧ t < 18 ∨ t = 26 ∨ t = 27) := ht; have h4 : 0 ≤ n ∧ n < 37 := hn; have h5 : 0 ≤ n ∧ n ≤ 36 := by omega
  have h6 : ¬ 100 ≤ n := by omega
  refine ⟨by simp [mm_SH, mm_fl, mm_SHo, mm_ox, h3, h5, h6], ?_⟩
  unfold mm_lv
  rw [mm_off_lo (by dsimp only; omega) (by dsimp only; omega)]
  show decide (mm_tb t + 2 + 7 * n + 2 < nx) = true
  exact decide_eq_true (by omega)
theorem mm_q27 {t n : Int} (ht : mm_isT t) (hn : mm_isN n) {nx : Int} (hx : 5275 ≤ nx) : mm_SH (27, t, n) = (2, 36) ∧ mm_lv (27, t, n) nx = true := by
  have h2 := mm_tb2 t ht; have h3 : (0 ≤ t ∧ t < 18 ∨ t = 26 ∨ t = 27) := ht; have h4 : 0 ≤ n ∧ n < 37 := hn; have h5 : 0 ≤ n ∧ n ≤ 36 := by omega
  have h6 : ¬ 100 ≤ n := by omega
  refine ⟨by simp [mm_SH, mm_fl, mm_SHo, mm_ox, h3, h5, h6], ?_⟩
  unfold mm_lv
  rw [mm_off_lo (by dsimp only; omega) (by dsimp only; omega)]
  show decide (mm_tb t + 2 + 7 * n + 3 < nx) = true
  exact decide_eq_true (by omega)
theorem mm_q28 {t n : Int} (ht : mm_isT t) (hn : mm_isN n) {nx : Int} (hx : 5275 ≤ nx) : mm_SH (28, t, n) = (2, 4) ∧ mm_lv (28, t, n) nx = true := by
  have h2 := mm_tb2 t ht; have h3 : (0 ≤ t ∧ t < 18 ∨ t = 26 ∨ t = 27) := ht; have h4 : 0 ≤ n ∧ n < 37 := hn; have h5 : 0 ≤ n ∧ n ≤ 36 := by omega
  have h6 : ¬ 100 ≤ n := by omega
  refine ⟨by simp [mm_SH, mm_fl, mm_SHo, mm_ox, h3, h5, h6], ?_⟩
  unfold mm_lv
  rw [mm_off_lo (by dsimp only; omega) (by dsimp only; omega)]
  show decide (mm_tb t + 2 + 7 * n + 4 < nx) = true
  exact decide_eq_true (by omega)
theorem mm_q29 {t n : Int} (ht : mm_isT t) (hn : mm_isN n) {nx : Int} (hx : 5275 ≤ nx) : mm_SH (29, t, n) = (5, 4) ∧ mm_lv (29, t, n) nx = true := by
  have h2 := mm_tb2 t ht; have h3 : (0 ≤ t ∧ t < 18 ∨ t = 26 ∨ t = 27) := ht; have h4 : 0 ≤ n ∧ n < 37 := hn; have h5 : 0 ≤ n ∧ n ≤ 36 := by omega
  have h6 : ¬ 100 ≤ n := by omega
  refine ⟨by simp [mm_SH, mm_fl, mm_SHo, mm_ox, h3, h5, h6], ?_⟩
  unfold mm_lv
  rw [mm_off_lo (by dsimp only; omega) (by dsimp only; omega)]
  show decide (mm_tb t + 2 + 7 * n + 5 < nx) = true
  exact decide_eq_true (by omega)
theorem mm_q30 {t n : Int} (ht : mm_isT t) (hn : mm_isN n) {nx : Int} (hx : 5275 ≤ nx) : mm_SH (30, t, n) = (2, 8) ∧ mm_lv (30, t, n) nx = true := by
  have h2 := mm_tb2 t ht; have h3 : (0 ≤ t ∧ t < 18 ∨ t = 26 ∨ t = 27) := ht; have h4 : 0 ≤ n ∧ n < 37 := hn; have h5 : 0 ≤ n ∧ n ≤ 36 := by omega
  have h6 : ¬ 100 ≤ n := by omega
  refine ⟨by simp [mm_SH, mm_fl, mm_SHo, mm_ox, h3, h5, h6], ?_⟩
  unfold mm_lv
  rw [mm_off_lo (by dsimp only; omega) (by dsimp only; omega)]
  show decide (mm_tb t + 2 + 7 * n + 6 < nx) = true
  exact decide_eq_true (by omega)
theorem mm_q31 {t : Int} (ht : mm_isD t) {nx : Int} (hx : 5275 ≤ nx) : mm_SH (31, t, 0) = (1, 1) ∧ mm_lv (31, t, 0) nx = true := by
  have h3 : 0 ≤ t ∧ t < 5 := ht
  refine ⟨by simp [mm_SH, mm_fl, mm_SHo, mm_oi, h3], ?_⟩
  show decide (543 + 524 * t < nx) = true
  exact decide_eq_true (by omega)
theorem mm_o31 {t : Int} (ht : mm_isD t) {nx : Int} (hx : 5275 ≤ nx) : mm_ok (31, t, 0) nx 1 1 = true := by
  have q := mm_q31 ht hx
  simp [mm_ok, q.1, q.2]
theorem mm_q32 {t : Int} (ht : mm_isD t) {nx : Int} (hx : 5275 ≤ nx) : mm_SH (32, t, 0) = (2, 8) ∧ mm_lv (32, t, 0) nx = true := by
  have h3 : 0 ≤ t ∧ t < 5 := ht
  refine ⟨by simp [mm_SH, mm_fl, mm_SHo, mm_oi, h3], ?_⟩
  show decide (544 + 524 * t < nx) = true
  exact decide_eq_true (by omega)
theorem mm_q33 {t : Int} (ht : mm_isS t) {nx : Int} (hx : 5275 ≤ nx) : mm_SH (33, t, 0) = (1, 8) ∧ mm_lv (33, t, 0) nx = true := by
  have h3 : 0 ≤ t ∧ t < 8 := ht
  refine ⟨by simp [mm_SH, mm_fl, mm_SHo, mm_oi, h3], ?_⟩
  show decide (3163 + 262 * t < nx) = true
  exact decide_eq_true (by omega)
theorem mm_o33 {t : Int} (ht : mm_isS t) {nx : Int} (hx : 5275 ≤ nx) : mm_ok (33, t, 0) nx 1 8 = true := by
  have q := mm_q33 ht hx
  simp [mm_ok, q.1, q.2]
theorem mm_q34 {t : Int} (ht : mm_isS t) {nx : Int} (hx : 5275 ≤ nx) : mm_SH (34, t, 0) = (1, 3) ∧ mm_lv (34, t, 0) nx = true := by
  have h3 : 0 ≤ t ∧ t < 8 := ht
  refine ⟨by simp [mm_SH, mm_fl, mm_SHo, mm_oi, h3], ?_⟩
  show decide (5259 + 2 * t < nx) = true
  exact decide_eq_true (by omega)
theorem mm_o34 {t : Int} (ht : mm_isS t) {nx : Int} (hx : 5275 ≤ nx) : mm_ok (34, t, 0) nx 1 3 = true := by
  have q := mm_q34 ht hx
  simp [mm_ok, q.1, q.2]
theorem mm_q35 {t : Int} (ht : mm_isS t) {nx : Int} (hx : 5275 ≤ nx) : mm_SH (35, t, 0) = (3, 2160) ∧ mm_lv (35, t, 0) nx = true := by
  have h3 : 0 ≤ t ∧ t < 8 := ht
  refine ⟨by simp [mm_SH, mm_fl, mm_SHo, mm_oi, h3], ?_⟩
  show decide (5260 + 2 * t < nx) = true
  exact decide_eq_true (by omega)
theorem mm_q40 {nx : Int} (hx : 10581 ≤ nx) : mm_SH (40, 0, 0) = (1, 10) ∧ mm_lv (40, 0, 0) nx = true := by
  refine ⟨rfl, ?_⟩
  show decide (mm_off (40, 0, 0) < nx) = true
  rw [show mm_off (40, 0, 0) = 10550 from by decide]
  exact decide_eq_true (by omega)
theorem mm_o40 {nx : Int} (hx : 10581 ≤ nx) : mm_ok (40, 0, 0) nx 1 10 = true := by
  have q := mm_q40 hx
  simp [mm_ok, q.1, q.2]
theorem mm_q41 {nx : Int} (hx : 10581 ≤ nx) : mm_SH (41, 0, 0) = (2, 1044) ∧ mm_lv (41, 0, 0) nx = true := by
  refine ⟨rfl, ?_⟩
  show decide (mm_off (41, 0, 0) < nx) = true
  rw [show mm_off (41, 0, 0) = 10551 from by decide]
  exact decide_eq_true (by omega)
theorem mm_q42 {nx : Int} (hx : 10581 ≤ nx) : mm_SH (42, 0, 0) = (2, 1044) ∧ mm_lv (42, 0, 0) nx = true := by
  refine ⟨rfl, ?_⟩
  show decide (mm_off (42, 0, 0) < nx) = true
  rw [show mm_off (42, 0, 0) = 10552 from by decide]
  exact decide_eq_true (by omega)
theorem mm_q43 {nx : Int} (hx : 10581 ≤ nx) : mm_SH (43, 0, 0) = (2, 37584) ∧ mm_lv (43, 0, 0) nx = true := by
  refine ⟨rfl, ?_⟩
  show decide (mm_off (43, 0, 0) < nx) = true
  rw [show mm_off (43, 0, 0) = 10553 from by decide]
  exact decide_eq_true (by omega)
theorem mm_q44 {nx : Int} (hx : 10581 ≤ nx) : mm_SH (44, 0, 0) = (2, 1044) ∧ mm_lv (44, 0, 0) nx = true := by
  refine ⟨rfl, ?_⟩
  show decide (mm_off (44, 0, 0) < nx) = true
  rw [show mm_off (44, 0, 0) = 10554 from by decide]
  exact decide_eq_true (by omega)
theorem mm_q45 {nx : Int} (hx : 10581 ≤ nx) : mm_SH (45, 0, 0) = (2, 25056) ∧ mm_lv (45, 0, 0) nx = true := by
  refine ⟨rfl, ?_⟩
  show decide (mm_off (45, 0, 0) < nx) = true
  rw [show mm_off (45, 0, 0) = 10555 from by decide]
  exact decide_eq_true (by omega)
theorem mm_q46 {nx : Int} (hx : 10581 ≤ nx) : mm_SH (46, 0, 0) = (2, 25056) ∧ mm_lv (46, 0, 0) nx = true := by
  refine ⟨rfl, ?_⟩
  show decide (mm_off (46, 0, 0) < nx) = true
  rw [show mm_off (46, 0, 0) = 10556 from by decide]
  exact decide_eq_true (by omega)
theorem mm_q47 {nx : Int} (hx : 10581 ≤ nx) : mm_SH (47, 0, 0) = (2, 1044) ∧ mm_lv (47, 0, 0) nx = true := by
  refine ⟨rfl, ?_⟩
  show decide (mm_off (47, 0, 0) < nx) = true
  rw [show mm_off (47, 0, 0) = 10557 from by decide]
  exact decide_eq_true (by omega)
theorem mm_q48 {nx : Int} (hx : 10581 ≤ nx) : mm_SH (48, 0, 0) = (2, 1044) ∧ mm_lv (48, 0, 0) nx = true := by
  refine ⟨rfl, ?_⟩
  show decide (mm_off (48, 0, 0) < nx) = true
  rw [show mm_off (48, 0, 0) = 10558 from by decide]
  exact decide_eq_true (by omega)
theorem mm_q49 {nx : Int} (hx : 10581 ≤ nx) : mm_SH (49, 0, 0) = (2, 1044) ∧ mm_lv (49, 0, 0) nx = true := by
  refine ⟨rfl, ?_⟩
  show decide (mm_off (49, 0, 0) < nx) = true
  rw [show mm_off (49, 0, 0) = 10559 from by decide]
  exact decide_eq_true (by omega)
theorem mm_q50 {nx : Int} (hx : 10581 ≤ nx) : mm_SH (50, 0, 0) = (2, 4176) ∧ mm_lv (50, 0, 0) nx = true := by
  refine ⟨rfl, ?_⟩
  show decide (mm_off (50, 0, 0) < nx) = true
  rw [show mm_off (50, 0, 0) = 10560 from by decide]
  exact decide_eq_true (by omega)
theorem mm_q51 {nx : Int} (hx : 10581 ≤ nx) : mm_SH (51, 0, 0) = (5, 4176) ∧ mm_lv (51, 0, 0) nx = true := by
  refine ⟨rfl, ?_⟩
  show decide (mm_off (51, 0, 0) < nx) = true
  rw [show mm_off (51, 0, 0) = 10561 from by decide]
  exact decide_eq_true (by omega)
theorem mm_q52 {nx : Int} (hx : 10581 ≤ nx) : mm_SH (52, 0, 0) = (2, 8352) ∧ mm_lv (52, 0, 0) nx = true := by
  refine ⟨rfl, ?_⟩
  show decide (mm_off (52, 0, 0) < nx) = true
  rw [show mm_off (52, 0, 0) = 10562 from by decide]
  exact decide_eq_true (by omega)
theorem mm_q53 {nx : Int} (hx : 10581 ≤ nx) : mm_SH (53, 0, 0) = (4, 1044) ∧ mm_lv (53, 0, 0) nx = true := by
  refine ⟨rfl, ?_⟩
  show decide (mm_off (53, 0, 0) < nx) = true
  rw [show mm_off (53, 0, 0) = 10563 from by decide]
  exact decide_eq_true (by omega)
theorem mm_q54 {nx : Int} (hx : 10581 ≤ nx) : mm_SH (54, 0, 0) = (3, 180060) ∧ mm_lv (54, 0, 0) nx = true := by
  refine ⟨rfl, ?_⟩
  show decide (mm_off (54, 0, 0) < nx) = true
  rw [show mm_off (54, 0, 0) = 10564 from by decide]
  exact decide_eq_true (by omega)
theorem mm_q55 {nx : Int} (hx : 10581 ≤ nx) : mm_SH (55, 0, 0) = (4, 3001) ∧ mm_lv (55, 0, 0) nx = true := by
  refine ⟨rfl, ?_⟩
  show decide (mm_off (55, 0, 0) < nx) = true
  rw [show mm_off (55, 0, 0) = 10565 from by decide]
  exact decide_eq_true (by omega)
theorem mm_q56 {nx : Int} (hx : 10581 ≤ nx) : mm_SH (56, 0, 0) = (4, 3001) ∧ mm_lv (56, 0, 0) nx = true := by
  refine ⟨rfl, ?_⟩
  show decide (mm_off (56, 0, 0) < nx) = true
  rw [show mm_off (56, 0, 0) = 10566 from by decide]
  exact decide_eq_true (by omega)
theorem mm_q57 {nx : Int} (hx : 10581 ≤ nx) : mm_SH (57, 0, 0) = (2, 26) ∧ mm_lv (57, 0, 0) nx = true := by
  refine ⟨rfl, ?_⟩
  show decide (mm_off (57, 0, 0) < nx) = true
  rw [show mm_off (57, 0, 0) = 10567 from by decide]
  exact decide_eq_true (by omega)
theorem mm_q58 {nx : Int} (hx : 10581 ≤ nx) : mm_SH (58, 0, 0) = (2, 26) ∧ mm_lv (58, 0, 0) nx = true := by
  refine ⟨rfl, ?_⟩
  show decide (mm_off (58, 0, 0) < nx) = true
  rw [show mm_off (58, 0, 0) = 10568 from by decide]
  exact decide_eq_true (by omega)
theorem mm_q59 {nx : Int} (hx : 10581 ≤ nx) : mm_SH (59, 0, 0) = (2, 26) ∧ mm_lv (59, 0, 0) nx = true := by
  refine ⟨rfl, ?_⟩
  show decide (mm_off (59, 0, 0) < nx) = true
  rw [show mm_off (59, 0, 0) = 10569 from by decide]
  exact decide_eq_true (by omega)
theorem mm_q60 {nx : Int} (hx : 10581 ≤ nx) : mm_SH (60, 0, 0) = (4, 26) ∧ mm_lv (60, 0, 0) nx = true := by
  refine ⟨rfl, ?_⟩
  show decide (mm_off (60, 0, 0) < nx) = true
  rw [show mm_off (60, 0, 0) = 10570 from by decide]
  exact decide_eq_true (by omega)
theorem mm_q61 {nx : Int} (hx : 10581 ≤ nx) : mm_SH (61, 0, 0) = (2, 208) ∧ mm_lv (61, 0, 0) nx = true := by
  refine ⟨rfl, ?_⟩
  show decide (mm_off (61, 0, 0) < nx) = true
  rw [show mm_off (61, 0, 0) = 10571 from by decide]
  exact decide_eq_true (by omega)
theorem mm_q62 {nx : Int} (hx : 10581 ≤ nx) : mm_SH (62, 0, 0) = (2, 9) ∧ mm_lv (62, 0, 0) nx = true := by
  refine ⟨rfl, ?_⟩
  show decide (mm_off (62, 0, 0) < nx) = true
  rw [show mm_off (62, 0, 0) = 10572 from by decide]
  exact decide_eq_true (by omega)
theorem mm_q63 {nx : Int} (hx : 10581 ≤ nx) : mm_SH (63, 0, 0) = (2, 9) ∧ mm_lv (63, 0, 0) nx = true := by
  refine ⟨rfl, ?_⟩
  show decide (mm_off (63, 0, 0) < nx) = true
  rw [show mm_off (63, 0, 0) = 10573 from by decide]
  exact decide_eq_true (by omega)
theorem mm_q64 {nx : Int} (hx : 10581 ≤ nx) : mm_SH (64, 0, 0) = (3, 19440) ∧ mm_lv (64, 0, 0) nx = true := by
  refine ⟨rfl, ?_⟩
  show decide (mm_off (64, 0, 0) < nx) = true
  rw [show mm_off (64, 0, 0) = 10574 from by decide]
  exact decide_eq_true (by omega)
theorem mm_q65 {nx : Int} (hx : 10581 ≤ nx) : mm_SH (65, 0, 0) = (2, 8) ∧ mm_lv (65, 0, 0) nx = true := by
  refine ⟨rfl, ?_⟩
  show decide (mm_off (65, 0, 0) < nx) = true
  rw [show mm_off (65, 0, 0) = 10575 from by decide]
  exact decide_eq_true (by omega)
theorem mm_q66 {nx : Int} (hx : 10581 ≤ nx) : mm_SH (66, 0, 0) = (2, 80) ∧ mm_lv (66, 0, 0) nx = true := by
  refine ⟨rfl, ?_⟩
  show decide (mm_off (66, 0, 0) < nx) = true
  rw [show mm_off (66, 0, 0) = 10576 from by decide]
  exact decide_eq_true (by omega)
theorem mm_q67 {nx : Int} (hx : 10581 ≤ nx) : mm_SH (67, 0, 0) = (3, 8000) ∧ mm_lv (67, 0, 0) nx = true := by
  refine ⟨rfl, ?_⟩
  show decide (mm_off (67, 0, 0) < nx) = true
  rw [show mm_off (67, 0, 0) = 10577 from by decide]
  exact decide_eq_true (by omega)
theorem mm_q68 {nx : Int} (hx : 10581 ≤ nx) : mm_SH (68, 0, 0) = (3, 34000) ∧ mm_lv (68, 0, 0) nx = true := by
  refine ⟨rfl, ?_⟩
  show decide (mm_off (68, 0, 0) < nx) = true
  rw [show mm_off (68, 0, 0) = 10578 from by decide]
  exact decide_eq_true (by omega)
theorem mm_q69 {nx : Int} (hx : 10581 ≤ nx) : mm_SH (69, 0, 0) = (5, 4000) ∧ mm_lv (69, 0, 0) nx = true := by
  refine ⟨rfl, ?_⟩
  show decide (mm_off (69, 0, 0) < nx) = true
  rw [show mm_off (69, 0, 0) = 10579 from by decide]
  exact decide_eq_true (by omega)
theorem mm_q70 {nx : Int} (hx : 10581 ≤ nx) : mm_SH (70, 0, 0) = (5, 5) ∧ mm_lv (70, 0, 0) nx = true := by
  refine ⟨rfl, ?_⟩
  show decide (mm_off (70, 0, 0) < nx) = true
  rw [show mm_off (70, 0, 0) = 10580 from by decide]
  exact decide_eq_true (by omega)
theorem mm_r1_0 {dh : Int → Int} {nx : Int} : mm_mkR dh nx (1, 0, 0) (0 : Nat) = (15, 0, 0) := rfl
theorem mm_r1_1 {dh : Int → Int} {nx : Int} : mm_mkR dh nx (1, 0, 0) (1 : Nat) = (2, 0, 0) := rfl
theorem mm_r1_2 {dh : Int → Int} {nx : Int} : mm_mkR dh nx (1, 0, 0) (2 : Nat) = (3, 0, 0) := rfl
theorem mm_r1_3 {dh : Int → Int} {nx : Int} : mm_mkR dh nx (1, 0, 0) (3 : Nat) = (4, 0, 0) := rfl
theorem mm_r1_4 {dh : Int → Int} {nx : Int} : mm_mkR dh nx (1, 0, 0) (4 : Nat) = (22, 26, 0) := rfl
theorem mm_r1_5 {dh : Int → Int} {nx : Int} : mm_mkR dh nx (1, 0, 0) (5 : Nat) = (22, 27, 0) := rfl
theorem mm_r1_6 {dh : Int → Int} {nx : Int} : mm_mkR dh nx (1, 0, 0) (6 : Nat) = (5, 0, 0) := rfl
theorem mm_r1_7 {dh : Int → Int} {nx : Int} : mm_mkR dh nx (1, 0, 0) (7 : Nat) = (14, 0, 0) := rfl
theorem mm_r1_8 {dh : Int → Int} {nx : Int} : mm_mkR dh nx (1, 0, 0) (8 : Nat) = (8, 0, 0) := rfl
theorem mm_r5_0 {dh : Int → Int} {nx : Int} : mm_mkR dh nx (5, 0, 0) (0 : Nat) = (6, 0, 0) := rfl
theorem mm_r5_1 {dh : Int → Int} {nx : Int} : mm_mkR dh nx (5, 0, 0) (1 : Nat) = (7, 0, 0) := rfl
theorem mm_r8_0 {dh : Int → Int} {nx : Int} : mm_mkR dh nx (8, 0, 0) (0 : Nat) = (9, 0, 0) := rfl
theorem mm_r8_2 {dh : Int → Int} {nx : Int} : mm_mkR dh nx (8, 0, 0) (2 : Nat) = (10, 0, 0) := rfl
theorem mm_r8_4 {dh : Int → Int} {nx : Int} : mm_mkR dh nx (8, 0, 0) (4 : Nat) = (11, 0, 0) := rfl
theorem mm_r8_6 {dh : Int → Int} {nx : Int} : mm_mkR dh nx (8, 0, 0) (6 : Nat) = (12, 0, 0) := rfl
theorem mm_r8_7 {dh : Int → Int} {nx : Int} : mm_mkR dh nx (8, 0, 0) (7 : Nat) = (13, 0, 0) := rfl
theorem mm_r15_0 {dh : Int → Int} {nx : Int} : mm_mkR dh nx (15, 0, 0) (0 : Nat) = (16, 0, 0) := rfl
theorem mm_r15_1 {dh : Int → Int} {nx : Int} : mm_mkR dh nx (15, 0, 0) (1 : Nat) = (17, 0, 0) := rfl
theorem mm_r15_2 {dh : Int → Int} {nx : Int} : mm_mkR dh nx (15, 0, 0) (2 : Nat) = (18, 0, 0) := rfl
theorem mm_r15_3 {dh : Int → Int} {nx : Int} : mm_mkR dh nx (15, 0, 0) (3 : Nat) = (19, 0, 0) := rfl
theorem mm_r15_4 {dh : Int → Int} {nx : Int} : mm_mkR dh nx (15, 0, 0) (4 : Nat) = (20, 0, 0) := rfl
theorem mm_r15_5 {dh : Int → Int} {nx : Int} : mm_mkR dh nx (15, 0, 0) (5 : Nat) = (21, 0, 0) := rfl
theorem mm_r24_7 {t n : Int} (ht : mm_isT t) (hn : mm_isN n) {dh : Int → Int} {nx : Int} : mm_mkR dh nx (24, t, n) (7 : Nat) = (25, t, n) := by
  unfold mm_isT at ht
  unfold mm_isN at hn
  simp [mm_mkR, ht, hn]
theorem mm_r24_8 {t n : Int} (ht : mm_isT t) (hn : mm_isN n) {dh : Int → Int} {nx : Int} : mm_mkR dh nx (24, t, n) (8 : Nat) = (26, t, n) := by
  unfold mm_isT at ht
  unfold mm_isN at hn
  simp [mm_mkR, ht, hn]
theorem mm_r24_10 {t n : Int} (ht : mm_isT t) (hn : mm_isN n) {dh : Int → Int} {nx : Int} : mm_mkR dh nx (24, t, n) (10 : Nat) = (27, t, n) := by
  unfold mm_isT at ht
  unfold mm_isN at hn
  simp [mm_mkR, ht, hn]
theorem mm_r24_12 {t n : Int} (ht : mm_isT t) (hn : mm_isN n) {dh : Int → Int} {nx : Int} : mm_mkR dh nx (24, t, n) (12 : Nat) = (28, t, n) := by
  unfold mm_isT at ht
  unfold mm_isN at hn
  simp [mm_mkR, ht, hn]
theorem mm_r24_13 {t n : Int} (ht : mm_isT t) (hn : mm_isN n) {dh : Int → Int} {nx : Int} : mm_mkR dh nx (24, t, n) (13 : Nat) = (29, t, n) := by
  unfold mm_isT at ht
  unfold mm_isN at hn
  simp [mm_mkR, ht, hn]
theorem mm_r24_15 {t n : Int} (ht : mm_isT t) (hn : mm_isN n) {dh : Int → Int} {nx : Int} : mm_mkR dh nx (24, t, n) (15 : Nat) = (30, t, n) := by
  unfold mm_isT at ht
  unfold mm_isN at hn
  simp [mm_mkR, ht, hn]
theorem mm_r22_0 {t : Int} (ht : mm_isT t) {dh : Int → Int} {nx : Int} : mm_mkR dh nx (22, t, 0) (0 : Nat) = (23, t, 0) := by
  unfold mm_isT at ht
  simp [mm_mkR, ht]
theorem mm_r22_1 {t : Int} (ht : mm_isT t) {dh : Int → Int} {nx : Int} : mm_mkR dh nx (22, t, 0) (1 : Nat) = (15, 0, 0) := by
  unfold mm_isT at ht
  simp [mm_mkR, ht]
theorem mm_r31_0 {t : Int} (ht : mm_isD t) {dh : Int → Int} {nx : Int} : mm_mkR dh nx (31, t, 0) (0 : Nat) = (22, t, 0) := by
  unfold mm_isD at ht
  simp [mm_mkR, ht]
theorem mm_r31_1 {t : Int} (ht : mm_isD t) {dh : Int → Int} {nx : Int} : mm_mkR dh nx (31, t, 0) (1 : Nat) = (22, 13 + t, 0) := by
  unfold mm_isD at ht
  simp [mm_mkR, ht]
theorem mm_r31_2 {t : Int} (ht : mm_isD t) {dh : Int → Int} {nx : Int} : mm_mkR dh nx (31, t, 0) (2 : Nat) = (32, t, 0) := by
  unfold mm_isD at ht
  simp [mm_mkR, ht]
theorem mm_r33_0 {t : Int} (ht : mm_isS t) {dh : Int → Int} {nx : Int} : mm_mkR dh nx (33, t, 0) (0 : Nat) = (22, 5 + t, 0) := by
  unfold mm_isS at ht
  simp [mm_mkR, ht]
theorem mm_r34_0 {t : Int} (ht : mm_isS t) {dh : Int → Int} {nx : Int} : mm_mkR dh nx (34, t, 0) (0 : Nat) = (35, t, 0) := by
  unfold mm_isS at ht
  simp [mm_mkR, ht]
theorem mm_r40_2 {dh : Int → Int} {nx : Int} (hx : 10581 ≤ nx) : mm_mkR dh nx (40, 0, 0) (2 : Nat) = (41, 0, 0) := by
  simp [mm_mkR, hx, mm_mR]
theorem mm_r40_3 {dh : Int → Int} {nx : Int} (hx : 10581 ≤ nx) : mm_mkR dh nx (40, 0, 0) (3 : Nat) = (42, 0, 0) := by
  simp [mm_mkR, hx, mm_mR]
theorem mm_r40_4 {dh : Int → Int} {nx : Int} (hx : 10581 ≤ nx) : mm_mkR dh nx (40, 0, 0) (4 : Nat) = (43, 0, 0) := by
  simp [mm_mkR, hx, mm_mR]
theorem mm_r40_5 {dh : Int → Int} {nx : Int} (hx : 10581 ≤ nx) : mm_mkR dh nx (40, 0, 0) (5 : Nat) = (44, 0, 0) := by
  simp [mm_mkR, hx, mm_mR]
theorem mm_r40_6 {dh : Int → Int} {nx : Int} (hx : 10581 ≤ nx) : mm_mkR dh nx (40, 0, 0) (6 : Nat) = (45, 0, 0) := by
  simp [mm_mkR, hx, mm_mR]
theorem mm_r40_7 {dh : Int → Int} {nx : Int} (hx : 10581 ≤ nx) : mm_mkR dh nx (40, 0, 0) (7 : Nat) = (46, 0, 0) := by
  simp [mm_mkR, hx, mm_mR]
theorem mm_r40_8 {dh : Int → Int} {nx : Int} (hx : 10581 ≤ nx) : mm_mkR dh nx (40, 0, 0) (8 : Nat) = (47, 0, 0) := by
  simp [mm_mkR, hx, mm_mR]
theorem mm_r40_9 {dh : Int → Int} {nx : Int} (hx : 10581 ≤ nx) : mm_mkR dh nx (40, 0, 0) (9 : Nat) = (48, 0, 0) := by
  simp [mm_mkR, hx, mm_mR]
theorem mm_r40_10 {dh : Int → Int} {nx : Int} (hx : 10581 ≤ nx) : mm_mkR dh nx (40, 0, 0) (10 : Nat) = (49, 0, 0) := by
  simp [mm_mkR, hx, mm_mR]
theorem mm_r40_11 {dh : Int → Int} {nx : Int} (hx : 10581 ≤ nx) : mm_mkR dh nx (40, 0, 0) (11 : Nat) = (50, 0, 0) := by
  simp [mm_mkR, hx, mm_mR]
theorem mm_r40_12 {dh : Int → Int} {nx : Int} (hx : 10581 ≤ nx) : mm_mkR dh nx (40, 0, 0) (12 : Nat) = (51, 0, 0) := by
  simp [mm_mkR, hx, mm_mR]
theorem mm_r40_13 {dh : Int → Int} {nx : Int} (hx : 10581 ≤ nx) : mm_mkR dh nx (40, 0, 0) (13 : Nat) = (52, 0, 0) := by
  simp [mm_mkR, hx, mm_mR]
theorem mm_r40_14 {dh : Int → Int} {nx : Int} (hx : 10581 ≤ nx) : mm_mkR dh nx (40, 0, 0) (14 : Nat) = (53, 0, 0) := by
  simp [mm_mkR, hx, mm_mR]
theorem mm_r40_15 {dh : Int → Int} {nx : Int} (hx : 10581 ≤ nx) : mm_mkR dh nx (40, 0, 0) (15 : Nat) = (54, 0, 0) := by
  simp [mm_mkR, hx, mm_mR]
theorem mm_r40_16 {dh : Int → Int} {nx : Int} (hx : 10581 ≤ nx) : mm_mkR dh nx (40, 0, 0) (16 : Nat) = (55, 0, 0) := by
  simp [mm_mkR, hx, mm_mR]
theorem mm_r40_17 {dh : Int → Int} {nx : Int} (hx : 10581 ≤ nx) : mm_mkR dh nx (40, 0, 0) (17 : Nat) = (56, 0, 0) := by
  simp [mm_mkR, hx, mm_mR]
theorem mm_r40_19 {dh : Int → Int} {nx : Int} (hx : 10581 ≤ nx) : mm_mkR dh nx (40, 0, 0) (19 : Nat) = (57, 0, 0) := by
  simp [mm_mkR, hx, mm_mR]
theorem mm_r40_20 {dh : Int → Int} {nx : Int} (hx : 10581 ≤ nx) : mm_mkR dh nx (40, 0, 0) (20 : Nat) = (58, 0, 0) := by
  simp [mm_mkR, hx, mm_mR]
theorem mm_r40_21 {dh : Int → Int} {nx : Int} (hx : 10581 ≤ nx) : mm_mkR dh nx (40, 0, 0) (21 : Nat) = (59, 0, 0) := by
  simp [mm_mkR, hx, mm_mR]
theorem mm_r40_22 {dh : Int → Int} {nx : Int} (hx : 10581 ≤ nx) : mm_mkR dh nx (40, 0, 0) (22 : Nat) = (60, 0, 0) := by
  simp [mm_mkR, hx, mm_mR]
theorem mm_r40_23 {dh : Int → Int} {nx : Int} (hx : 10581 ≤ nx) : mm_mkR dh nx (40, 0, 0) (23 : Nat) = (61, 0, 0) := by
  simp [mm_mkR, hx, mm_mR]
theorem mm_r40_26 {dh : Int → Int} {nx : Int} (hx : 10581 ≤ nx) : mm_mkR dh nx (40, 0, 0) (26 : Nat) = (62, 0, 0) := by
  simp [mm_mkR, hx, mm_mR]
theorem mm_r40_27 {dh : Int → Int} {nx : Int} (hx : 10581 ≤ nx) : mm_mkR dh nx (40, 0, 0) (27 : Nat) = (63, 0, 0) := by
  simp [mm_mkR, hx, mm_mR]
theorem mm_r40_28 {dh : Int → Int} {nx : Int} (hx : 10581 ≤ nx) : mm_mkR dh nx (40, 0, 0) (28 : Nat) = (64, 0, 0) := by
  simp [mm_mkR, hx, mm_mR]
theorem mm_r40_31 {dh : Int → Int} {nx : Int} (hx : 10581 ≤ nx) : mm_mkR dh nx (40, 0, 0) (31 : Nat) = (65, 0, 0) := by
  simp [mm_mkR, hx, mm_mR]
theorem mm_r40_32 {dh : Int → Int} {nx : Int} (hx : 10581 ≤ nx) : mm_mkR dh nx (40, 0, 0) (32 : Nat) = (66, 0, 0) := by
  simp [mm_mkR, hx, mm_mR]
theorem mm_r40_38 {dh : Int → Int} {nx : Int} (hx : 10581 ≤ nx) : mm_mkR dh nx (40, 0, 0) (38 : Nat) = (67, 0, 0) := by
  simp [mm_mkR, hx, mm_mR]
theorem mm_r40_40 {dh : Int → Int} {nx : Int} (hx : 10581 ≤ nx) : mm_mkR dh nx (40, 0, 0) (40 : Nat) = (68, 0, 0) := by
  simp [mm_mkR, hx, mm_mR]
theorem mm_r40_41 {dh : Int → Int} {nx : Int} (hx : 10581 ≤ nx) : mm_mkR dh nx (40, 0, 0) (41 : Nat) = (69, 0, 0) := by
  simp [mm_mkR, hx, mm_mR]
theorem mm_r40_47 {dh : Int → Int} {nx : Int} (hx : 10581 ≤ nx) : mm_mkR dh nx (40, 0, 0) (47 : Nat) = (70, 0, 0) := by
  simp [mm_mkR, hx, mm_mR]
theorem mm_a2 {j : Int} {dh : Int → Int} {nx : Int} (h : 0 ≤ j ∧ j < 5) : mm_mkR dh nx (2, 0, 0) j = (31, j, 0) := by simp [mm_mkR, h]
theorem mm_a3 {j : Int} {dh : Int → Int} {nx : Int} (h : 0 ≤ j ∧ j < 8) : mm_mkR dh nx (3, 0, 0) j = (33, j, 0) := by simp [mm_mkR, h]
theorem mm_a4 {j : Int} {dh : Int → Int} {nx : Int} (h : 0 ≤ j ∧ j < 8) : mm_mkR dh nx (4, 0, 0) j = (34, j, 0) := by simp [mm_mkR, h]
theorem mm_a23 {t j : Int} (ht : mm_isT t) {dh : Int → Int} {nx : Int} (h : 0 ≤ j ∧ j < 37) : mm_mkR dh nx (23, t, 0) j = (24, t, j) := by
  unfold mm_isT at ht
  simp [mm_mkR, h, ht]
theorem mm_n_0 : mm_n 0 = 2 := by decide +kernel
theorem mm_m_0 : mm_mL 0 = 4 := by decide +kernel
theorem mm_n_1 : mm_n 1 = 5 := by decide +kernel
theorem mm_m_1 : mm_mL 1 = 8 := by decide +kernel
theorem mm_n_2 : mm_n 2 = 2 := by decide +kernel
theorem mm_m_2 : mm_mL 2 = 2 := by decide +kernel
theorem mm_n_3 : mm_n 3 = 5 := by decide +kernel
theorem mm_m_3 : mm_mL 3 = 9 := by decide +kernel
theorem mm_n_4 : mm_n 4 = 4 := by decide +kernel
theorem mm_m_4 : mm_mL 4 = 6 := by decide +kernel
theorem mm_n_5 : mm_n 5 = 4 := by decide +kernel
theorem mm_m_5 : mm_mL 5 = 5 := by decide +kernel
theorem mm_n_6 : mm_n 6 = 4 := by decide +kernel
theorem mm_m_6 : mm_mL 6 = 6 := by decide +kernel
theorem mm_n_7 : mm_n 7 = 6 := by decide +kernel
theorem mm_m_7 : mm_mL 7 = 14 := by decide +kernel
theorem mm_n_8 : mm_n 8 = 4 := by decide +kernel
theorem mm_m_8 : mm_mL 8 = 5 := by decide +kernel
theorem mm_n_9 : mm_n 9 = 4 := by decide +kernel
theorem mm_m_9 : mm_mL 9 = 11 := by decide +kernel
theorem mm_n_10 : mm_n 10 = 5 := by decide +kernel
theorem mm_m_10 : mm_mL 10 = 9 := by decide +kernel
theorem mm_n_11 : mm_n 11 = 4 := by decide +kernel
theorem mm_m_11 : mm_mL 11 = 9 := by decide +kernel
theorem mm_n_12 : mm_n 12 = 6 := by decide +kernel
theorem mm_m_12 : mm_mL 12 = 12 := by decide +kernel
theorem mm_n_13 : mm_n 13 = 4 := by decide +kernel
theorem mm_m_13 : mm_mL 13 = 5 := by decide +kernel
theorem mm_n_14 : mm_n 14 = 4 := by decide +kernel
theorem mm_m_14 : mm_mL 14 = 5 := by decide +kernel
theorem mm_n_15 : mm_n 15 = 4 := by decide +kernel
theorem mm_m_15 : mm_mL 15 = 8 := by decide +kernel
theorem mm_n_16 : mm_n 16 = 4 := by decide +kernel
theorem mm_m_16 : mm_mL 16 = 7 := by decide +kernel
theorem mm_n_17 : mm_n 17 = 6 := by decide +kernel
theorem mm_m_17 : mm_mL 17 = 10 := by decide +kernel
theorem mm_n_18 : mm_n 18 = 4 := by decide +kernel
theorem mm_m_18 : mm_mL 18 = 5 := by decide +kernel
theorem mm_n_19 : mm_n 19 = 4 := by decide +kernel
theorem mm_m_19 : mm_mL 19 = 5 := by decide +kernel
theorem mm_n_20 : mm_n 20 = 2 := by decide +kernel
theorem mm_m_20 : mm_mL 20 = 3 := by decide +kernel
theorem mm_n_21 : mm_n 21 = 3 := by decide +kernel
theorem mm_m_21 : mm_mL 21 = 4 := by decide +kernel
theorem mm_n_22 : mm_n 22 = 4 := by decide +kernel
theorem mm_m_22 : mm_mL 22 = 6 := by decide +kernel
theorem mm_n_23 : mm_n 23 = 5 := by decide +kernel
theorem mm_m_23 : mm_mL 23 = 8 := by decide +kernel
theorem mm_n_24 : mm_n 24 = 3 := by decide +kernel
theorem mm_m_24 : mm_mL 24 = 4 := by decide +kernel
theorem mm_n_25 : mm_n 25 = 3 := by decide +kernel
theorem mm_m_25 : mm_mL 25 = 6 := by decide +kernel
theorem mm_n_26 : mm_n 26 = 2 := by decide +kernel
theorem mm_m_26 : mm_mL 26 = 5 := by decide +kernel
theorem mm_n_27 : mm_n 27 = 3 := by decide +kernel
theorem mm_m_27 : mm_mL 27 = 4 := by decide +kernel
theorem mm_n_28 : mm_n 28 = 2 := by decide +kernel
theorem mm_m_28 : mm_mL 28 = 4 := by decide +kernel
theorem mm_n_29 : mm_n 29 = 2 := by decide +kernel
theorem mm_m_29 : mm_mL 29 = 4 := by decide +kernel
theorem mm_n_30 : mm_n 30 = 3 := by decide +kernel
theorem mm_m_30 : mm_mL 30 = 5 := by decide +kernel
theorem mm_n_31 : mm_n 31 = 2 := by decide +kernel
theorem mm_m_31 : mm_mL 31 = 5 := by decide +kernel
theorem mm_n_32 : mm_n 32 = 3 := by decide +kernel
theorem mm_m_32 : mm_mL 32 = 5 := by decide +kernel
theorem mm_n_33 : mm_n 33 = 3 := by decide +kernel
theorem mm_m_33 : mm_mL 33 = 5 := by decide +kernel
theorem mm_n_34 : mm_n 34 = 3 := by decide +kernel
theorem mm_m_34 : mm_mL 34 = 4 := by decide +kernel
theorem mm_n_35 : mm_n 35 = 3 := by decide +kernel
theorem mm_m_35 : mm_mL 35 = 6 := by decide +kernel
theorem mm_n_36 : mm_n 36 = 4 := by decide +kernel
theorem mm_m_36 : mm_mL 36 = 8 := by decide +kernel
theorem mm_n_37 : mm_n 37 = 3 := by decide +kernel
theorem mm_m_37 : mm_mL 37 = 5 := by decide +kernel
theorem mm_n_38 : mm_n 38 = 2 := by decide +kernel
theorem mm_m_38 : mm_mL 38 = 5 := by decide +kernel
theorem mm_n_39 : mm_n 39 = 1 := by decide +kernel
theorem mm_m_39 : mm_mL 39 = 1 := by decide +kernel
theorem mm_n_40 : mm_n 40 = 1 := by decide +kernel
theorem mm_m_40 : mm_mL 40 = 1 := by decide +kernel
theorem mm_n_41 : mm_n 41 = 2 := by decide +kernel
theorem mm_m_41 : mm_mL 41 = 5 := by decide +kernel
theorem mm_n_42 : mm_n 42 = 4 := by decide +kernel
theorem mm_m_42 : mm_mL 42 = 4 := by decide +kernel
theorem mm_n_43 : mm_n 43 = 2 := by decide +kernel
theorem mm_m_43 : mm_mL 43 = 2 := by decide +kernel
theorem mm_n_44 : mm_n 44 = 3 := by decide +kernel
theorem mm_m_44 : mm_mL 44 = 3 := by decide +kernel
theorem mm_n_45 : mm_n 45 = 2 := by decide +kernel
theorem mm_m_45 : mm_mL 45 = 2 := by decide +kernel
theorem mm_n_46 : mm_n 46 = 2 := by decide +kernel
theorem mm_m_46 : mm_mL 46 = 2 := by decide +kernel
theorem mm_n_47 : mm_n 47 = 6 := by decide +kernel
theorem mm_m_47 : mm_mL 47 = 6 := by decide +kernel
theorem mm_n_48 : mm_n 48 = 2 := by decide +kernel
theorem mm_m_48 : mm_mL 48 = 3 := by decide +kernel
theorem mm_n_49 : mm_n 49 = 1 := by decide +kernel
theorem mm_m_49 : mm_mL 49 = 5 := by decide +kernel
theorem mm_n_50 : mm_n 50 = 2 := by decide +kernel
theorem mm_m_50 : mm_mL 50 = 2 := by decide +kernel
theorem mm_n_51 : mm_n 51 = 1 := by decide +kernel
theorem mm_m_51 : mm_mL 51 = 1 := by decide +kernel
theorem mm_n_52 : mm_n 52 = 1 := by decide +kernel
theorem mm_m_52 : mm_mL 52 = 2 := by decide +kernel
theorem mm_n_53 : mm_n 53 = 2 := by decide +kernel
theorem mm_m_53 : mm_mL 53 = 3 := by decide +kernel
theorem mm_n_54 : mm_n 54 = 2 := by decide +kernel
theorem mm_m_54 : mm_mL 54 = 3 := by decide +kernel
theorem mm_n_55 : mm_n 55 = 2 := by decide +kernel
theorem mm_m_55 : mm_mL 55 = 4 := by decide +kernel
theorem mm_n_56 : mm_n 56 = 3 := by decide +kernel
theorem mm_m_56 : mm_mL 56 = 3 := by decide +kernel
theorem mm_n_57 : mm_n 57 = 2 := by decide +kernel
theorem mm_m_57 : mm_mL 57 = 2 := by decide +kernel
theorem mm_n_58 : mm_n 58 = 2 := by decide +kernel
theorem mm_m_58 : mm_mL 58 = 2 := by decide +kernel
theorem mm_n_59 : mm_n 59 = 2 := by decide +kernel
theorem mm_m_59 : mm_mL 59 = 2 := by decide +kernel
theorem mm_n_60 : mm_n 60 = 3 := by decide +kernel
theorem mm_m_60 : mm_mL 60 = 4 := by decide +kernel
theorem mm_n_61 : mm_n 61 = 2 := by decide +kernel
theorem mm_m_61 : mm_mL 61 = 2 := by decide +kernel
theorem mm_n_62 : mm_n 62 = 2 := by decide +kernel
theorem mm_m_62 : mm_mL 62 = 2 := by decide +kernel
theorem mm_n_63 : mm_n 63 = 2 := by decide +kernel
theorem mm_m_63 : mm_mL 63 = 2 := by decide +kernel
theorem mm_n_64 : mm_n 64 = 1 := by decide +kernel
theorem mm_m_64 : mm_mL 64 = 2 := by decide +kernel
theorem mm_n_65 : mm_n 65 = 2 := by decide +kernel
theorem mm_m_65 : mm_mL 65 = 2 := by decide +kernel
theorem mm_n_66 : mm_n 66 = 2 := by decide +kernel
theorem mm_m_66 : mm_mL 66 = 3 := by decide +kernel
theorem mm_n_67 : mm_n 67 = 5 := by decide +kernel
theorem mm_m_67 : mm_mL 67 = 8 := by decide +kernel
theorem mm_n_68 : mm_n 68 = 4 := by decide +kernel
theorem mm_m_68 : mm_mL 68 = 11 := by decide +kernel
theorem mm_n_69 : mm_n 69 = 6 := by decide +kernel
theorem mm_m_69 : mm_mL 69 = 10 := by decide +kernel
theorem mm_n_70 : mm_n 70 = 6 := by decide +kernel
theorem mm_m_70 : mm_mL 70 = 11 := by decide +kernel
theorem mm_n_71 : mm_n 71 = 3 := by decide +kernel
theorem mm_m_71 : mm_mL 71 = 5 := by decide +kernel
theorem mm_n_72 : mm_n 72 = 1 := by decide +kernel
theorem mm_m_72 : mm_mL 72 = 3 := by decide +kernel
theorem mm_n_73 : mm_n 73 = 2 := by decide +kernel
theorem mm_m_73 : mm_mL 73 = 4 := by decide +kernel
theorem mm_n_74 : mm_n 74 = 2 := by decide +kernel
theorem mm_m_74 : mm_mL 74 = 4 := by decide +kernel
theorem mm_n_75 : mm_n 75 = 2 := by decide +kernel
theorem mm_m_75 : mm_mL 75 = 3 := by decide +kernel
theorem mm_n_76 : mm_n 76 = 2 := by decide +kernel
theorem mm_m_76 : mm_mL 76 = 5 := by decide +kernel
theorem mm_n_77 : mm_n 77 = 2 := by decide +kernel
theorem mm_m_77 : mm_mL 77 = 7 := by decide +kernel
theorem mm_n_78 : mm_n 78 = 3 := by decide +kernel
theorem mm_m_78 : mm_mL 78 = 8 := by decide +kernel
theorem mm_n_79 : mm_n 79 = 2 := by decide +kernel
theorem mm_m_79 : mm_mL 79 = 2 := by decide +kernel
theorem mm_n_80 : mm_n 80 = 3 := by decide +kernel
theorem mm_m_80 : mm_mL 80 = 4 := by decide +kernel
theorem mm_n_81 : mm_n 81 = 1 := by decide +kernel
theorem mm_m_81 : mm_mL 81 = 1 := by decide +kernel
theorem mm_n_82 : mm_n 82 = 3 := by decide +kernel
theorem mm_m_82 : mm_mL 82 = 4 := by decide +kernel
theorem mm_n_83 : mm_n 83 = 2 := by decide +kernel
theorem mm_m_83 : mm_mL 83 = 2 := by decide +kernel
theorem mm_n_84 : mm_n 84 = 2 := by decide +kernel
theorem mm_m_84 : mm_mL 84 = 2 := by decide +kernel
theorem mm_n_85 : mm_n 85 = 3 := by decide +kernel
theorem mm_m_85 : mm_mL 85 = 3 := by decide +kernel
theorem mm_n_86 : mm_n 86 = 2 := by decide +kernel
theorem mm_m_86 : mm_mL 86 = 3 := by decide +kernel
theorem mm_n_87 : mm_n 87 = 1 := by decide +kernel
theorem mm_m_87 : mm_mL 87 = 2 := by decide +kernel
theorem mm_n_88 : mm_n 88 = 2 := by decide +kernel
theorem mm_m_88 : mm_mL 88 = 2 := by decide +kernel
theorem mm_n_89 : mm_n 89 = 1 := by decide +kernel
theorem mm_m_89 : mm_mL 89 = 1 := by decide +kernel
theorem mm_n_90 : mm_n 90 = 3 := by decide +kernel
theorem mm_m_90 : mm_mL 90 = 3 := by decide +kernel
theorem mm_n_91 : mm_n 91 = 3 := by decide +kernel
theorem mm_m_91 : mm_mL 91 = 3 := by decide +kernel
theorem mm_n_92 : mm_n 92 = 4 := by decide +kernel
theorem mm_m_92 : mm_mL 92 = 5 := by decide +kernel
theorem mm_n_93 : mm_n 93 = 4 := by decide +kernel
theorem mm_m_93 : mm_mL 93 = 5 := by decide +kernel
theorem mm_n_94 : mm_n 94 = 1 := by decide +kernel
theorem mm_m_94 : mm_mL 94 = 1 := by decide +kernel
theorem mm_n_95 : mm_n 95 = 3 := by decide +kernel
theorem mm_m_95 : mm_mL 95 = 3 := by decide +kernel
theorem mm_n_96 : mm_n 96 = 1 := by decide +kernel
theorem mm_m_96 : mm_mL 96 = 1 := by decide +kernel
theorem mm_n_97 : mm_n 97 = 3 := by decide +kernel
theorem mm_m_97 : mm_mL 97 = 3 := by decide +kernel
theorem mm_n_98 : mm_n 98 = 2 := by decide +kernel
theorem mm_m_98 : mm_mL 98 = 3 := by decide +kernel
theorem mm_n_99 : mm_n 99 = 2 := by decide +kernel
theorem mm_m_99 : mm_mL 99 = 3 := by decide +kernel
theorem mm_n_100 : mm_n 100 = 3 := by decide +kernel
theorem mm_m_100 : mm_mL 100 = 5 := by decide +kernel
theorem mm_n_101 : mm_n 101 = 2 := by decide +kernel
theorem mm_m_101 : mm_mL 101 = 4 := by decide +kernel
theorem mm_n_102 : mm_n 102 = 2 := by decide +kernel
theorem mm_m_102 : mm_mL 102 = 3 := by decide +kernel
theorem mm_n_103 : mm_n 103 = 2 := by decide +kernel
theorem mm_m_103 : mm_mL 103 = 3 := by decide +kernel
theorem mm_n_104 : mm_n 104 = 2 := by decide +kernel
theorem mm_m_104 : mm_mL 104 = 2 := by decide +kernel
theorem mm_n_105 : mm_n 105 = 3 := by decide +kernel
theorem mm_m_105 : mm_mL 105 = 6 := by decide +kernel
theorem mm_n_106 : mm_n 106 = 2 := by decide +kernel
theorem mm_m_106 : mm_mL 106 = 3 := by decide +kernel
theorem mm_n_107 : mm_n 107 = 3 := by decide +kernel
theorem mm_m_107 : mm_mL 107 = 4 := by decide +kernel
theorem mm_n_108 : mm_n 108 = 4 := by decide +kernel
theorem mm_m_108 : mm_mL 108 = 4 := by decide +kernel
theorem mm_n_109 : mm_n 109 = 4 := by decide +kernel
theorem mm_m_109 : mm_mL 109 = 5 := by decide +kernel
theorem mm_n_110 : mm_n 110 = 3 := by decide +kernel
theorem mm_m_110 : mm_mL 110 = 3 := by decide +kernel
theorem mm_n_111 : mm_n 111 = 4 := by decide +kernel
theorem mm_m_111 : mm_mL 111 = 7 := by decide +kernel
theorem mm_n_112 : mm_n 112 = 2 := by decide +kernel
theorem mm_m_112 : mm_mL 112 = 3 := by decide +kernel
theorem mm_n_113 : mm_n 113 = 4 := by decide +kernel
theorem mm_m_113 : mm_mL 113 = 5 := by decide +kernel
theorem mm_n_114 : mm_n 114 = 3 := by decide +kernel
theorem mm_m_114 : mm_mL 114 = 4 := by decide +kernel
theorem mm_n_115 : mm_n 115 = 2 := by decide +kernel
theorem mm_m_115 : mm_mL 115 = 4 := by decide +kernel
theorem mm_n_116 : mm_n 116 = 2 := by decide +kernel
theorem mm_m_116 : mm_mL 116 = 4 := by decide +kernel
theorem mm_n_117 : mm_n 117 = 2 := by decide +kernel
theorem mm_m_117 : mm_mL 117 = 4 := by decide +kernel
theorem mm_n_118 : mm_n 118 = 1 := by decide +kernel
theorem mm_m_118 : mm_mL 118 = 1 := by decide +kernel
theorem mm_n_119 : mm_n 119 = 1 := by decide +kernel
theorem mm_m_119 : mm_mL 119 = 1 := by decide +kernel
theorem mm_n_120 : mm_n 120 = 2 := by decide +kernel
theorem mm_m_120 : mm_mL 120 = 2 := by decide +kernel
theorem mm_n_121 : mm_n 121 = 1 := by decide +kernel
theorem mm_m_121 : mm_mL 121 = 1 := by decide +kernel
theorem mm_n_122 : mm_n 122 = 2 := by decide +kernel
theorem mm_m_122 : mm_mL 122 = 2 := by decide +kernel
theorem mm_n_123 : mm_n 123 = 1 := by decide +kernel
theorem mm_m_123 : mm_mL 123 = 1 := by decide +kernel
theorem mm_n_124 : mm_n 124 = 3 := by decide +kernel
theorem mm_m_124 : mm_mL 124 = 4 := by decide +kernel
theorem mm_n_125 : mm_n 125 = 1 := by decide +kernel
theorem mm_m_125 : mm_mL 125 = 1 := by decide +kernel
theorem mm_n_126 : mm_n 126 = 2 := by decide +kernel
theorem mm_m_126 : mm_mL 126 = 2 := by decide +kernel
theorem mm_n_127 : mm_n 127 = 2 := by decide +kernel
theorem mm_m_127 : mm_mL 127 = 3 := by decide +kernel
theorem mm_n_128 : mm_n 128 = 3 := by decide +kernel
theorem mm_m_128 : mm_mL 128 = 3 := by decide +kernel
theorem mm_n_129 : mm_n 129 = 3 := by decide +kernel
theorem mm_m_129 : mm_mL 129 = 3 := by decide +kernel
theorem mm_n_130 : mm_n 130 = 3 := by decide +kernel
theorem mm_m_130 : mm_mL 130 = 3 := by decide +kernel
theorem mm_n_131 : mm_n 131 = 4 := by decide +kernel
theorem mm_m_131 : mm_mL 131 = 4 := by decide +kernel
theorem mm_n_132 : mm_n 132 = 3 := by decide +kernel
theorem mm_m_132 : mm_mL 132 = 4 := by decide +kernel
theorem mm_n_133 : mm_n 133 = 3 := by decide +kernel
theorem mm_m_133 : mm_mL 133 = 4 := by decide +kernel
theorem mm_n_134 : mm_n 134 = 1 := by decide +kernel
theorem mm_m_134 : mm_mL 134 = 2 := by decide +kernel
theorem mm_n_135 : mm_n 135 = 3 := by decide +kernel
theorem mm_m_135 : mm_mL 135 = 3 := by decide +kernel
theorem mm_n_136 : mm_n 136 = 1 := by decide +kernel
theorem mm_m_136 : mm_mL 136 = 4 := by decide +kernel
theorem mm_n_137 : mm_n 137 = 1 := by decide +kernel
theorem mm_m_137 : mm_mL 137 = 1 := by decide +kernel
theorem mm_n_138 : mm_n 138 = 1 := by decide +kernel
theorem mm_m_138 : mm_mL 138 = 1 := by decide +kernel
theorem mm_n_139 : mm_n 139 = 2 := by decide +kernel
theorem mm_m_139 : mm_mL 139 = 3 := by decide +kernel
theorem mm_n_140 : mm_n 140 = 1 := by decide +kernel
theorem mm_m_140 : mm_mL 140 = 1 := by decide +kernel
theorem mm_n_141 : mm_n 141 = 1 := by decide +kernel
theorem mm_m_141 : mm_mL 141 = 1 := by decide +kernel
theorem mm_n_142 : mm_n 142 = 1 := by decide +kernel
theorem mm_m_142 : mm_mL 142 = 1 := by decide +kernel
theorem mm_n_143 : mm_n 143 = 1 := by decide +kernel
theorem mm_m_143 : mm_mL 143 = 2 := by decide +kernel
theorem mm_n_144 : mm_n 144 = 2 := by decide +kernel
theorem mm_m_144 : mm_mL 144 = 4 := by decide +kernel
theorem mm_n_145 : mm_n 145 = 4 := by decide +kernel
theorem mm_m_145 : mm_mL 145 = 7 := by decide +kernel
theorem mm_n_146 : mm_n 146 = 1 := by decide +kernel
theorem mm_m_146 : mm_mL 146 = 5 := by decide +kernel
theorem mm_n_147 : mm_n 147 = 1 := by decide +kernel
theorem mm_m_147 : mm_mL 147 = 1 := by decide +kernel
theorem mm_n_148 : mm_n 148 = 1 := by decide +kernel
theorem mm_m_148 : mm_mL 148 = 1 := by decide +kernel
theorem mm_n_149 : mm_n 149 = 1 := by decide +kernel
theorem mm_m_149 : mm_mL 149 = 2 := by decide +kernel
theorem mm_n_150 : mm_n 150 = 3 := by decide +kernel
theorem mm_m_150 : mm_mL 150 = 5 := by decide +kernel
theorem mm_n_151 : mm_n 151 = 2 := by decide +kernel
theorem mm_m_151 : mm_mL 151 = 7 := by decide +kernel
theorem mm_n_152 : mm_n 152 = 2 := by decide +kernel
theorem mm_m_152 : mm_mL 152 = 2 := by decide +kernel
theorem mm_n_153 : mm_n 153 = 2 := by decide +kernel
theorem mm_m_153 : mm_mL 153 = 2 := by decide +kernel
theorem mm_n_154 : mm_n 154 = 3 := by decide +kernel
theorem mm_m_154 : mm_mL 154 = 3 := by decide +kernel
theorem mm_n_155 : mm_n 155 = 1 := by decide +kernel
theorem mm_m_155 : mm_mL 155 = 1 := by decide +kernel
theorem mm_n_156 : mm_n 156 = 3 := by decide +kernel
theorem mm_m_156 : mm_mL 156 = 4 := by decide +kernel
theorem mm_n_157 : mm_n 157 = 2 := by decide +kernel
theorem mm_m_157 : mm_mL 157 = 2 := by decide +kernel
theorem mm_n_158 : mm_n 158 = 1 := by decide +kernel
theorem mm_m_158 : mm_mL 158 = 2 := by decide +kernel
theorem mm_n_159 : mm_n 159 = 1 := by decide +kernel
theorem mm_m_159 : mm_mL 159 = 3 := by decide +kernel
theorem mm_n_160 : mm_n 160 = 1 := by decide +kernel
theorem mm_m_160 : mm_mL 160 = 3 := by decide +kernel
theorem mm_n_161 : mm_n 161 = 1 := by decide +kernel
theorem mm_m_161 : mm_mL 161 = 3 := by decide +kernel
theorem mm_n_162 : mm_n 162 = 2 := by decide +kernel
theorem mm_m_162 : mm_mL 162 = 4 := by decide +kernel
theorem mm_n_163 : mm_n 163 = 1 := by decide +kernel
theorem mm_m_163 : mm_mL 163 = 4 := by decide +kernel
theorem mm_n_164 : mm_n 164 = 3 := by decide +kernel
theorem mm_m_164 : mm_mL 164 = 6 := by decide +kernel
theorem mm_n_165 : mm_n 165 = 2 := by decide +kernel
theorem mm_m_165 : mm_mL 165 = 3 := by decide +kernel
theorem mm_n_166 : mm_n 166 = 1 := by decide +kernel
theorem mm_m_166 : mm_mL 166 = 2 := by decide +kernel
theorem mm_n_167 : mm_n 167 = 1 := by decide +kernel
theorem mm_m_167 : mm_mL 167 = 2 := by decide +kernel
theorem mm_n_168 : mm_n 168 = 2 := by decide +kernel
theorem mm_m_168 : mm_mL 168 = 5 := by decide +kernel
theorem mm_n_169 : mm_n 169 = 2 := by decide +kernel
theorem mm_m_169 : mm_mL 169 = 6 := by decide +kernel
theorem mm_n_170 : mm_n 170 = 2 := by decide +kernel
theorem mm_m_170 : mm_mL 170 = 6 := by decide +kernel
theorem mm_n_171 : mm_n 171 = 2 := by decide +kernel
theorem mm_m_171 : mm_mL 171 = 7 := by decide +kernel
theorem mm_n_172 : mm_n 172 = 1 := by decide +kernel
theorem mm_m_172 : mm_mL 172 = 4 := by decide +kernel
theorem mm_n_173 : mm_n 173 = 2 := by decide +kernel
theorem mm_m_173 : mm_mL 173 = 2 := by decide +kernel
theorem mm_n_174 : mm_n 174 = 3 := by decide +kernel
theorem mm_m_174 : mm_mL 174 = 6 := by decide +kernel
theorem mm_n_175 : mm_n 175 = 2 := by decide +kernel
theorem mm_m_175 : mm_mL 175 = 2 := by decide +kernel
theorem mm_n_176 : mm_n 176 = 3 := by decide +kernel
theorem mm_m_176 : mm_mL 176 = 3 := by decide +kernel
theorem mm_n_177 : mm_n 177 = 3 := by decide +kernel
theorem mm_m_177 : mm_mL 177 = 3 := by decide +kernel
theorem mm_n_178 : mm_n 178 = 3 := by decide +kernel
theorem mm_m_178 : mm_mL 178 = 4 := by decide +kernel
theorem mm_n_179 : mm_n 179 = 3 := by decide +kernel
theorem mm_m_179 : mm_mL 179 = 4 := by decide +kernel
theorem mm_n_180 : mm_n 180 = 2 := by decide +kernel
theorem mm_m_180 : mm_mL 180 = 3 := by decide +kernel
theorem mm_n_181 : mm_n 181 = 2 := by decide +kernel
theorem mm_m_181 : mm_mL 181 = 3 := by decide +kernel
theorem mm_n_182 : mm_n 182 = 2 := by decide +kernel
theorem mm_m_182 : mm_mL 182 = 2 := by decide +kernel
theorem mm_n_183 : mm_n 183 = 2 := by decide +kernel
theorem mm_m_183 : mm_mL 183 = 2 := by decide +kernel
theorem mm_n_184 : mm_n 184 = 4 := by decide +kernel
theorem mm_m_184 : mm_mL 184 = 6 := by decide +kernel
theorem mm_n_185 : mm_n 185 = 4 := by decide +kernel
theorem mm_m_185 : mm_mL 185 = 4 := by decide +kernel
theorem mm_n_186 : mm_n 186 = 5 := by decide +kernel
theorem mm_m_186 : mm_mL 186 = 7 := by decide +kernel
theorem mm_n_187 : mm_n 187 = 4 := by decide +kernel
theorem mm_m_187 : mm_mL 187 = 6 := by decide +kernel
theorem mm_n_188 : mm_n 188 = 3 := by decide +kernel
theorem mm_m_188 : mm_mL 188 = 6 := by decide +kernel
theorem mm_n_189 : mm_n 189 = 3 := by decide +kernel
theorem mm_m_189 : mm_mL 189 = 5 := by decide +kernel
theorem mm_n_190 : mm_n 190 = 3 := by decide +kernel
theorem mm_m_190 : mm_mL 190 = 5 := by decide +kernel
theorem mm_n_191 : mm_n 191 = 2 := by decide +kernel
theorem mm_m_191 : mm_mL 191 = 3 := by decide +kernel
theorem mm_n_192 : mm_n 192 = 2 := by decide +kernel
theorem mm_m_192 : mm_mL 192 = 3 := by decide +kernel
theorem mm_n_193 : mm_n 193 = 2 := by decide +kernel
theorem mm_m_193 : mm_mL 193 = 3 := by decide +kernel
theorem mm_n_194 : mm_n 194 = 2 := by decide +kernel
theorem mm_m_194 : mm_mL 194 = 2 := by decide +kernel
theorem mm_n_195 : mm_n 195 = 1 := by decide +kernel
theorem mm_m_195 : mm_mL 195 = 4 := by decide +kernel
theorem mm_n_196 : mm_n 196 = 1 := by decide +kernel
theorem mm_m_196 : mm_mL 196 = 3 := by decide +kernel
theorem mm_n_197 : mm_n 197 = 2 := by decide +kernel
theorem mm_m_197 : mm_mL 197 = 6 := by decide +kernel
theorem mm_n_198 : mm_n 198 = 1 := by decide +kernel
theorem mm_m_198 : mm_mL 198 = 2 := by decide +kernel
theorem mm_n_199 : mm_n 199 = 2 := by decide +kernel
theorem mm_m_199 : mm_mL 199 = 4 := by decide +kernel
theorem mm_n_200 : mm_n 200 = 2 := by decide +kernel
theorem mm_m_200 : mm_mL 200 = 2 := by decide +kernel
theorem mm_n_201 : mm_n 201 = 2 := by decide +kernel
theorem mm_m_201 : mm_mL 201 = 2 := by decide +kernel
theorem mm_n_202 : mm_n 202 = 2 := by decide +kernel
theorem mm_m_202 : mm_mL 202 = 3 := by decide +kernel
theorem mm_n_203 : mm_n 203 = 4 := by decide +kernel
theorem mm_m_203 : mm_mL 203 = 5 := by decide +kernel
theorem mm_n_204 : mm_n 204 = 3 := by decide +kernel
theorem mm_m_204 : mm_mL 204 = 3 := by decide +kernel
theorem mm_n_205 : mm_n 205 = 3 := by decide +kernel
theorem mm_m_205 : mm_mL 205 = 6 := by decide +kernel
theorem mm_n_206 : mm_n 206 = 3 := by decide +kernel
theorem mm_m_206 : mm_mL 206 = 3 := by decide +kernel
theorem mm_n_207 : mm_n 207 = 4 := by decide +kernel
theorem mm_m_207 : mm_mL 207 = 5 := by decide +kernel
theorem mm_n_208 : mm_n 208 = 1 := by decide +kernel
theorem mm_m_208 : mm_mL 208 = 3 := by decide +kernel
theorem mm_n_209 : mm_n 209 = 1 := by decide +kernel
theorem mm_m_209 : mm_mL 209 = 1 := by decide +kernel
theorem mm_n_210 : mm_n 210 = 3 := by decide +kernel
theorem mm_m_210 : mm_mL 210 = 3 := by decide +kernel
theorem mm_n_211 : mm_n 211 = 3 := by decide +kernel
theorem mm_m_211 : mm_mL 211 = 3 := by decide +kernel
theorem mm_n_212 : mm_n 212 = 5 := by decide +kernel
theorem mm_m_212 : mm_mL 212 = 6 := by decide +kernel
theorem mm_n_213 : mm_n 213 = 6 := by decide +kernel
theorem mm_m_213 : mm_mL 213 = 9 := by decide +kernel
theorem mm_n_214 : mm_n 214 = 2 := by decide +kernel
theorem mm_m_214 : mm_mL 214 = 2 := by decide +kernel
theorem mm_n_215 : mm_n 215 = 5 := by decide +kernel
theorem mm_m_215 : mm_mL 215 = 7 := by decide +kernel
theorem mm_n_216 : mm_n 216 = 4 := by decide +kernel
theorem mm_m_216 : mm_mL 216 = 13 := by decide +kernel
theorem mm_n_217 : mm_n 217 = 4 := by decide +kernel
theorem mm_m_217 : mm_mL 217 = 6 := by decide +kernel
theorem mm_n_218 : mm_n 218 = 4 := by decide +kernel
theorem mm_m_218 : mm_mL 218 = 6 := by decide +kernel
theorem mm_n_219 : mm_n 219 = 5 := by decide +kernel
theorem mm_m_219 : mm_mL 219 = 9 := by decide +kernel
theorem mm_n_220 : mm_n 220 = 6 := by decide +kernel
theorem mm_m_220 : mm_mL 220 = 12 := by decide +kernel
theorem mm_n_221 : mm_n 221 = 4 := by decide +kernel
theorem mm_m_221 : mm_mL 221 = 5 := by decide +kernel
theorem mm_n_222 : mm_n 222 = 4 := by decide +kernel
theorem mm_m_222 : mm_mL 222 = 8 := by decide +kernel
theorem mm_n_223 : mm_n 223 = 5 := by decide +kernel
theorem mm_m_223 : mm_mL 223 = 7 := by decide +kernel
theorem mm_n_224 : mm_n 224 = 4 := by decide +kernel
theorem mm_m_224 : mm_mL 224 = 5 := by decide +kernel
theorem mm_n_225 : mm_n 225 = 4 := by decide +kernel
theorem mm_m_225 : mm_mL 225 = 7 := by decide +kernel
theorem mm_n_226 : mm_n 226 = 4 := by decide +kernel
theorem mm_m_226 : mm_mL 226 = 5 := by decide +kernel
theorem mm_n_227 : mm_n 227 = 6 := by decide +kernel
theorem mm_m_227 : mm_mL 227 = 13 := by decide +kernel
theorem mm_n_228 : mm_n 228 = 4 := by decide +kernel
theorem mm_m_228 : mm_mL 228 = 8 := by decide +kernel
theorem mm_n_229 : mm_n 229 = 4 := by decide +kernel
theorem mm_m_229 : mm_mL 229 = 5 := by decide +kernel
theorem mm_n_230 : mm_n 230 = 4 := by decide +kernel
theorem mm_m_230 : mm_mL 230 = 8 := by decide +kernel
theorem mm_n_231 : mm_n 231 = 2 := by decide +kernel
theorem mm_m_231 : mm_mL 231 = 2 := by decide +kernel
theorem mm_n_232 : mm_n 232 = 4 := by decide +kernel
theorem mm_m_232 : mm_mL 232 = 7 := by decide +kernel
theorem mm_n_233 : mm_n 233 = 3 := by decide +kernel
theorem mm_m_233 : mm_mL 233 = 4 := by decide +kernel
theorem mm_n_234 : mm_n 234 = 3 := by decide +kernel
theorem mm_m_234 : mm_mL 234 = 4 := by decide +kernel
theorem mm_n_235 : mm_n 235 = 6 := by decide +kernel
theorem mm_m_235 : mm_mL 235 = 12 := by decide +kernel
theorem mm_n_236 : mm_n 236 = 4 := by decide +kernel
theorem mm_m_236 : mm_mL 236 = 5 := by decide +kernel
theorem mm_n_237 : mm_n 237 = 4 := by decide +kernel
theorem mm_m_237 : mm_mL 237 = 5 := by decide +kernel
theorem mm_n_238 : mm_n 238 = 2 := by decide +kernel
theorem mm_m_238 : mm_mL 238 = 3 := by decide +kernel
theorem mm_n_239 : mm_n 239 = 3 := by decide +kernel
theorem mm_m_239 : mm_mL 239 = 4 := by decide +kernel
theorem mm_n_240 : mm_n 240 = 4 := by decide +kernel
theorem mm_m_240 : mm_mL 240 = 6 := by decide +kernel
theorem mm_n_241 : mm_n 241 = 3 := by decide +kernel
theorem mm_m_241 : mm_mL 241 = 5 := by decide +kernel
theorem mm_n_242 : mm_n 242 = 2 := by decide +kernel
theorem mm_m_242 : mm_mL 242 = 2 := by decide +kernel
theorem mm_n_243 : mm_n 243 = 2 := by decide +kernel
theorem mm_m_243 : mm_mL 243 = 3 := by decide +kernel
theorem mm_n_244 : mm_n 244 = 3 := by decide +kernel
theorem mm_m_244 : mm_mL 244 = 3 := by decide +kernel
theorem mm_n_245 : mm_n 245 = 5 := by decide +kernel
theorem mm_m_245 : mm_mL 245 = 7 := by decide +kernel
theorem mm_n_246 : mm_n 246 = 5 := by decide +kernel
theorem mm_m_246 : mm_mL 246 = 6 := by decide +kernel
theorem mm_n_247 : mm_n 247 = 3 := by decide +kernel
theorem mm_m_247 : mm_mL 247 = 3 := by decide +kernel
theorem mm_n_248 : mm_n 248 = 3 := by decide +kernel
theorem mm_m_248 : mm_mL 248 = 4 := by decide +kernel
theorem mm_n_249 : mm_n 249 = 2 := by decide +kernel
theorem mm_m_249 : mm_mL 249 = 3 := by decide +kernel
theorem mm_n_250 : mm_n 250 = 2 := by decide +kernel
theorem mm_m_250 : mm_mL 250 = 4 := by decide +kernel
theorem mm_n_251 : mm_n 251 = 2 := by decide +kernel
theorem mm_m_251 : mm_mL 251 = 4 := by decide +kernel
theorem mm_n_252 : mm_n 252 = 3 := by decide +kernel
theorem mm_m_252 : mm_mL 252 = 7 := by decide +kernel
theorem mm_n_253 : mm_n 253 = 2 := by decide +kernel
theorem mm_m_253 : mm_mL 253 = 7 := by decide +kernel
theorem mm_n_254 : mm_n 254 = 3 := by decide +kernel
theorem mm_m_254 : mm_mL 254 = 5 := by decide +kernel
theorem mm_n_255 : mm_n 255 = 3 := by decide +kernel
theorem mm_m_255 : mm_mL 255 = 5 := by decide +kernel
theorem mm_n_256 : mm_n 256 = 3 := by decide +kernel
theorem mm_m_256 : mm_mL 256 = 5 := by decide +kernel
theorem mm_n_257 : mm_n 257 = 3 := by decide +kernel
theorem mm_m_257 : mm_mL 257 = 6 := by decide +kernel
theorem mm_n_258 : mm_n 258 = 4 := by decide +kernel
theorem mm_m_258 : mm_mL 258 = 8 := by decide +kernel
theorem mm_n_259 : mm_n 259 = 4 := by decide +kernel
theorem mm_m_259 : mm_mL 259 = 8 := by decide +kernel
theorem mm_n_260 : mm_n 260 = 3 := by decide +kernel
theorem mm_m_260 : mm_mL 260 = 5 := by decide +kernel
theorem mm_n_261 : mm_n 261 = 3 := by decide +kernel
theorem mm_m_261 : mm_mL 261 = 3 := by decide +kernel
theorem mm_n_262 : mm_n 262 = 2 := by decide +kernel
theorem mm_m_262 : mm_mL 262 = 5 := by decide +kernel
theorem mm_n_263 : mm_n 263 = 3 := by decide +kernel
theorem mm_m_263 : mm_mL 263 = 5 := by decide +kernel
theorem mm_n_264 : mm_n 264 = 2 := by decide +kernel
theorem mm_m_264 : mm_mL 264 = 12 := by decide +kernel
theorem mm_n_265 : mm_n 265 = 1 := by decide +kernel
theorem mm_m_265 : mm_mL 265 = 2 := by decide +kernel
theorem mm_n_266 : mm_n 266 = 1 := by decide +kernel
theorem mm_m_266 : mm_mL 266 = 2 := by decide +kernel
theorem mm_n_267 : mm_n 267 = 2 := by decide +kernel
theorem mm_m_267 : mm_mL 267 = 5 := by decide +kernel
theorem mm_n_268 : mm_n 268 = 2 := by decide +kernel
theorem mm_m_268 : mm_mL 268 = 2 := by decide +kernel
theorem mm_n_269 : mm_n 269 = 2 := by decide +kernel
theorem mm_m_269 : mm_mL 269 = 2 := by decide +kernel
theorem mm_n_270 : mm_n 270 = 4 := by decide +kernel
theorem mm_m_270 : mm_mL 270 = 4 := by decide +kernel
theorem mm_n_271 : mm_n 271 = 2 := by decide +kernel
theorem mm_m_271 : mm_mL 271 = 2 := by decide +kernel
theorem mm_n_272 : mm_n 272 = 3 := by decide +kernel
theorem mm_m_272 : mm_mL 272 = 3 := by decide +kernel
theorem mm_n_273 : mm_n 273 = 2 := by decide +kernel
theorem mm_m_273 : mm_mL 273 = 3 := by decide +kernel
theorem mm_n_274 : mm_n 274 = 2 := by decide +kernel
theorem mm_m_274 : mm_mL 274 = 2 := by decide +kernel
theorem mm_n_275 : mm_n 275 = 1 := by decide +kernel
theorem mm_m_275 : mm_mL 275 = 1 := by decide +kernel
theorem mm_n_276 : mm_n 276 = 6 := by decide +kernel
theorem mm_m_276 : mm_mL 276 = 9 := by decide +kernel
theorem mm_n_277 : mm_n 277 = 2 := by decide +kernel
theorem mm_m_277 : mm_mL 277 = 3 := by decide +kernel
theorem mm_n_278 : mm_n 278 = 3 := by decide +kernel
theorem mm_m_278 : mm_mL 278 = 6 := by decide +kernel
theorem mm_n_279 : mm_n 279 = 2 := by decide +kernel
theorem mm_m_279 : mm_mL 279 = 4 := by decide +kernel
theorem mm_n_280 : mm_n 280 = 2 := by decide +kernel
theorem mm_m_280 : mm_mL 280 = 4 := by decide +kernel
theorem mm_n_281 : mm_n 281 = 2 := by decide +kernel
theorem mm_m_281 : mm_mL 281 = 4 := by decide +kernel
theorem mm_n_282 : mm_n 282 = 1 := by decide +kernel
theorem mm_m_282 : mm_mL 282 = 8 := by decide +kernel
theorem mm_n_283 : mm_n 283 = 1 := by decide +kernel
theorem mm_m_283 : mm_mL 283 = 1 := by decide +kernel
theorem mm_n_284 : mm_n 284 = 2 := by decide +kernel
theorem mm_m_284 : mm_mL 284 = 2 := by decide +kernel
theorem mm_n_285 : mm_n 285 = 2 := by decide +kernel
theorem mm_m_285 : mm_mL 285 = 2 := by decide +kernel
theorem mm_n_286 : mm_n 286 = 2 := by decide +kernel
theorem mm_m_286 : mm_mL 286 = 2 := by decide +kernel
theorem mm_n_287 : mm_n 287 = 3 := by decide +kernel
theorem mm_m_287 : mm_mL 287 = 3 := by decide +kernel
theorem mm_n_288 : mm_n 288 = 4 := by decide +kernel
theorem mm_m_288 : mm_mL 288 = 8 := by decide +kernel
theorem mm_n_289 : mm_n 289 = 2 := by decide +kernel
theorem mm_m_289 : mm_mL 289 = 7 := by decide +kernel
theorem mm_n_290 : mm_n 290 = 3 := by decide +kernel
theorem mm_m_290 : mm_mL 290 = 5 := by decide +kernel
theorem mm_n_291 : mm_n 291 = 2 := by decide +kernel
theorem mm_m_291 : mm_mL 291 = 7 := by decide +kernel
theorem mm_n_292 : mm_n 292 = 3 := by decide +kernel
theorem mm_m_292 : mm_mL 292 = 8 := by decide +kernel
theorem mm_n_293 : mm_n 293 = 1 := by decide +kernel
theorem mm_m_293 : mm_mL 293 = 6 := by decide +kernel
theorem mm_n_294 : mm_n 294 = 2 := by decide +kernel
theorem mm_m_294 : mm_mL 294 = 2 := by decide +kernel
theorem mm_n_295 : mm_n 295 = 1 := by decide +kernel
theorem mm_m_295 : mm_mL 295 = 1 := by decide +kernel
theorem mm_n_296 : mm_n 296 = 2 := by decide +kernel
theorem mm_m_296 : mm_mL 296 = 2 := by decide +kernel
theorem mm_n_298 : mm_n 298 = 2 := by decide +kernel
theorem mm_m_298 : mm_mL 298 = 2 := by decide +kernel
theorem mm_n_299 : mm_n 299 = 2 := by decide +kernel
theorem mm_m_299 : mm_mL 299 = 2 := by decide +kernel
theorem mm_n_300 : mm_n 300 = 1 := by decide +kernel
theorem mm_m_300 : mm_mL 300 = 1 := by decide +kernel
theorem mm_n_301 : mm_n 301 = 1 := by decide +kernel
theorem mm_m_301 : mm_mL 301 = 1 := by decide +kernel
theorem mm_n_302 : mm_n 302 = 1 := by decide +kernel
theorem mm_m_302 : mm_mL 302 = 1 := by decide +kernel
theorem mm_n_303 : mm_n 303 = 2 := by decide +kernel
theorem mm_m_303 : mm_mL 303 = 2 := by decide +kernel
theorem mm_n_304 : mm_n 304 = 2 := by decide +kernel
theorem mm_m_304 : mm_mL 304 = 2 := by decide +kernel
theorem mm_n_305 : mm_n 305 = 2 := by decide +kernel
theorem mm_m_305 : mm_mL 305 = 2 := by decide +kernel
theorem mm_n_306 : mm_n 306 = 3 := by decide +kernel
theorem mm_m_306 : mm_mL 306 = 3 := by decide +kernel

