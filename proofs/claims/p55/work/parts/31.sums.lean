/-! sums, and how often a row stands in the trees -/
def mm_sm (f : Int → Int) (k : Nat) : Int := match k with
  | 0 => 0
  | k + 1 => mm_sm f k + f (k : Int)
theorem sm_congr {f g : Int → Int} (k : Nat) (h : ∀ i, 0 ≤ i → i < k → f i = g i) : mm_sm f k = mm_sm g k := by
  induction k with
  | zero => rfl
  | succ k ih =>
    show mm_sm f k + f k = mm_sm g k + g k
    rw [ih (fun i a b => h i a (by omega)), h k (by omega) (by omega)]
theorem sm_one {f g : Int → Int} (k : Nat) (j : Int) (h0 : 0 ≤ j) (hj : j < k) (h : ∀ i, 0 ≤ i → i < k → i ≠ j → g i = f i) : mm_sm g k = mm_sm f k + (g j - f j) := by
  induction k with
  | zero => omega
  | succ k ih =>
    show mm_sm g k + g k = mm_sm f k + f k + (g j - f j)
    by_cases e : j = k
    · subst e
      rw [sm_congr (f := g) (g := f) k (fun i a b => h i a (by omega) (by omega))]
      omega
    · rw [ih (by omega) (fun i a b => h i a (by omega)), h k (by omega) (by omega) (by omega)]
      omega
theorem sm_nn {f : Int → Int} (k : Nat) (h : ∀ i, 0 ≤ i → i < k → 0 ≤ f i) : 0 ≤ mm_sm f k := by
  induction k with
  | zero => exact Int.le_refl 0
  | succ k ih =>
    show 0 ≤ mm_sm f k + f k
    have := ih (fun i a b => h i a (by omega))
    have := h k (by omega) (by omega)
    omega
theorem sm_le {f g : Int → Int} (k : Nat) (h : ∀ i, 0 ≤ i → i < k → f i ≤ g i) : mm_sm f k ≤ mm_sm g k := by
  induction k with
  | zero => exact Int.le_refl 0
  | succ k ih =>
    show mm_sm f k + f k ≤ mm_sm g k + g k
    have := ih (fun i a b => h i a (by omega))
    have := h k (by omega) (by omega)
    omega
theorem sm_mul (c : Int) (k : Nat) : mm_sm (fun _ => c) k = c * k := by
  induction k with
  | zero => simp [mm_sm]
  | succ k ih =>
    show mm_sm (fun _ => c) k + c = _
    rw [ih, Int.natCast_succ, Int.mul_add, Int.mul_one]
theorem sm_ub {f : Int → Int} (c : Int) (k : Nat) (h : ∀ i, 0 ≤ i → i < k → f i ≤ c) : mm_sm f k ≤ c * k := by
  rw [← sm_mul]
  exact sm_le k h
theorem sm_add (f g : Int → Int) (k : Nat) : mm_sm (fun i => f i + g i) k = mm_sm f k + mm_sm g k := by
  induction k with
  | zero => rfl
  | succ k ih =>
    show mm_sm (fun i => f i + g i) k + (f k + g k) = (mm_sm f k + f k) + (mm_sm g k + g k)
    rw [ih]
    omega
/-- one summand is at most the whole -/
theorem sm_ge {f : Int → Int} (k : Nat) (h : ∀ i, 0 ≤ i → i < k → 0 ≤ f i) {j : Int} (h0 : 0 ≤ j) (hj : j < k) : f j ≤ mm_sm f k := by
  induction k with
  | zero => omega
  | succ k ih =>
    show f j ≤ mm_sm f k + f k
    have h1 := sm_nn k (fun i a b => h i a (by omega))
    have h2 := h k (by omega) (by omega)
    by_cases e : j = k
    · subst e; omega
    · have := ih (fun i a b => h i a (by omega)) (by omega)
      omega
theorem sm_pos {f : Int → Int} (k : Nat) (h : 0 < mm_sm f k) : ∃ j, 0 ≤ j ∧ j < k ∧ 0 < f j := by
  induction k with
  | zero => simp [mm_sm] at h
  | succ k ih =>
    have h : 0 < mm_sm f k + f k := h
    by_cases e : 0 < f k
    · exact ⟨k, by omega, by omega, e⟩
    · obtain ⟨j, a, b, c⟩ := ih (by omega)
      exact ⟨j, a, by omega, c⟩
theorem sm_two {f : Int → Int} (k : Nat) (h : ∀ i, 0 ≤ i → i < k → 0 ≤ f i) {i j : Int} (h0 : 0 ≤ i) (hij : i < j) (hj : j < k) : f i + f j ≤ mm_sm f k := by
  induction k with
  | zero => omega
  | succ k ih =>
    show f i + f j ≤ mm_sm f k + f k
    have h2 := h k (by omega) (by omega)
    by_cases e : j = k
    · subst e
      have := sm_ge k (fun i a b => h i a (by omega)) h0 hij
      omega
    · have := ih (fun i a b => h i a (by omega)) (by omega)
      omega
theorem sm_swap (f : Int → Int → Int) (k m : Nat) : mm_sm (fun i => mm_sm (fun j => f i j) m) k = mm_sm (fun j => mm_sm (fun i => f i j) k) m := by
  induction k with
  | zero =>
    show 0 = mm_sm (fun _ => 0) m
    rw [sm_mul]; simp
  | succ k ih =>
    show mm_sm (fun i => mm_sm (fun j => f i j) m) k + mm_sm (fun j => f k j) m = mm_sm (fun j => mm_sm (fun i => f i j) k + f k j) m
    rw [sm_add, ih]
theorem sm_zero {f : Int → Int} (k : Nat) (h : ∀ i, 0 ≤ i → i < k → f i = 0) : mm_sm f k = 0 := by
  rw [sm_congr (g := fun _ => 0) k h, sm_mul]; simp
/-- how often a row stands in a node, in a tree, in the live trees, in those aside -/
def kc_P (f : Int → Int) (r : Int) : Int := mm_sm (fun p => if f p = r then 1 else 0) 36
def kc_N (hi : mm_Id → Int → Int) (t r : Int) : Int := mm_sm (fun n => kc_P (hi (27, t, n)) r) 37
def kc_A (hi : mm_Id → Int → Int) (r : Int) : Int := mm_sm (fun t => kc_N hi t r) 13
def kc_K (hi : mm_Id → Int → Int) (r : Int) : Int := mm_sm (fun t => kc_N hi (13 + t) r) 5 + kc_N hi 26 r + kc_N hi 27 r
theorem kc_Pnn (f : Int → Int) (r : Int) : 0 ≤ kc_P f r := sm_nn _ (fun i _ _ => by split <;> omega)
theorem kc_Pub (f : Int → Int) (r : Int) : kc_P f r ≤ 36 := by
  have := sm_ub (f := fun p => if f p = r then 1 else 0) 1 36 (fun i _ _ => by split <;> omega)
  exact this
theorem kc_Nnn (hi : mm_Id → Int → Int) (t r : Int) : 0 ≤ kc_N hi t r := sm_nn _ (fun i _ _ => kc_Pnn _ _)
theorem kc_Nub (hi : mm_Id → Int → Int) (t r : Int) : kc_N hi t r ≤ 1332 := by
  have := sm_ub (f := fun n => kc_P (hi (27, t, n)) r) 36 37 (fun i _ _ => kc_Pub _ _)
  exact this
theorem kc_Ann (hi : mm_Id → Int → Int) (r : Int) : 0 ≤ kc_A hi r := sm_nn _ (fun i _ _ => kc_Nnn _ _ _)
theorem kc_Aub (hi : mm_Id → Int → Int) (r : Int) : kc_A hi r ≤ 17316 := by
  have := sm_ub (f := fun t => kc_N hi t r) 1332 13 (fun i _ _ => kc_Nub _ _ _)
  exact this
theorem kc_Knn (hi : mm_Id → Int → Int) (r : Int) : 0 ≤ kc_K hi r := by
  have h1 : 0 ≤ mm_sm (fun t => kc_N hi (13 + t) r) 5 := sm_nn _ (fun i _ _ => kc_Nnn _ _ _)
  have h2 := kc_Nnn hi 26 r
  have h3 := kc_Nnn hi 27 r
  unfold kc_K
  omega
theorem kc_Kub (hi : mm_Id → Int → Int) (r : Int) : kc_K hi r ≤ 9324 := by
  have h1 : mm_sm (fun t => kc_N hi (13 + t) r) 5 ≤ 6660 := sm_ub (f := fun t => kc_N hi (13 + t) r) 1332 5 (fun i _ _ => kc_Nub _ _ _)
  have h2 := kc_Nub hi 26 r
  have h3 := kc_Nub hi 27 r
  unfold kc_K
  omega
/-- two heaps that differ in one piece alone -/
def kc_d1 (hi h2 : mm_Id → Int → Int) (t n p : Int) : Prop := ∀ t2 n2 p2, ¬ (t2 = t ∧ n2 = n ∧ p2 = p) → h2 (27, t2, n2) p2 = hi (27, t2, n2) p2
theorem kc_P1 {hi h2 : mm_Id → Int → Int} {t n p : Int} (hd : kc_d1 hi h2 t n p) (hp : 0 ≤ p ∧ p < 36) (r : Int) : kc_P (h2 (27, t, n)) r = kc_P (hi (27, t, n)) r + ((if h2 (27, t, n) p = r then 1 else 0) - (if hi (27, t, n) p = r then 1 else 0)) := by
  unfold kc_P
  exact sm_one 36 p hp.1 hp.2 (fun i _ _ e => by rw [hd t n i (fun q => e q.2.2)])
theorem kc_Po {hi h2 : mm_Id → Int → Int} {t n p : Int} (hd : kc_d1 hi h2 t n p) {t2 n2 : Int} (h : ¬ (t2 = t ∧ n2 = n)) (r : Int) : kc_P (h2 (27, t2, n2)) r = kc_P (hi (27, t2, n2)) r :=
  sm_congr _ (fun i _ _ => by rw [hd t2 n2 i (fun q => h ⟨q.1, q.2.1⟩)])
theorem kc_N1 {hi h2 : mm_Id → Int → Int} {t n p : Int} (hd : kc_d1 hi h2 t n p) (hn : mm_isN n) (hp : 0 ≤ p ∧ p < 36) (r : Int) : kc_N h2 t r = kc_N hi t r + ((if h2 (27, t, n) p = r then 1 else 0) - (if hi (27, t, n) p = r then 1 else 0)) := by
  have h1 : kc_N h2 t r = kc_N hi t r + (kc_P (h2 (27, t, n)) r - kc_P (hi (27, t, n)) r) :=
    sm_one (f := fun n => kc_P (hi (27, t, n)) r) (g := fun n => kc_P (h2 (27, t, n)) r) 37 n hn.1 hn.2 (fun i _ _ e => kc_Po hd (fun q => e q.2) r)
  rw [h1, kc_P1 hd hp]
  omega
theorem kc_No {hi h2 : mm_Id → Int → Int} {t n p : Int} (hd : kc_d1 hi h2 t n p) {t2 : Int} (h : ¬ t2 = t) (r : Int) : kc_N h2 t2 r = kc_N hi t2 r :=
  sm_congr _ (fun i _ _ => kc_Po hd (fun q => h q.1) r)
theorem kc_A1 {hi h2 : mm_Id → Int → Int} {t n p : Int} (hd : kc_d1 hi h2 t n p) (ht : 0 ≤ t ∧ t < 13) (hn : mm_isN n) (hp : 0 ≤ p ∧ p < 36) (r : Int) : kc_A h2 r = kc_A hi r + ((if h2 (27, t, n) p = r then 1 else 0) - (if hi (27, t, n) p = r then 1 else 0)) := by
  have h1 : kc_A h2 r = kc_A hi r + (kc_N h2 t r - kc_N hi t r) :=
    sm_one (f := fun t => kc_N hi t r) (g := fun t => kc_N h2 t r) 13 t ht.1 ht.2 (fun i _ _ e => kc_No hd e r)
  rw [h1, kc_N1 hd hn hp]
  omega
theorem kc_Ao {hi h2 : mm_Id → Int → Int} {t n p : Int} (hd : kc_d1 hi h2 t n p) (ht : ¬ (0 ≤ t ∧ t < 13)) (r : Int) : kc_A h2 r = kc_A hi r :=
  sm_congr _ (fun i a b => kc_No hd (fun q => ht (by omega)) r)
theorem kc_K1 {hi h2 : mm_Id → Int → Int} {t n p : Int} (hd : kc_d1 hi h2 t n p) (ht : mm_isT t) (ht2 : ¬ (0 ≤ t ∧ t < 13)) (hn : mm_isN n) (hp : 0 ≤ p ∧ p < 36) (r : Int) : kc_K h2 r = kc_K hi r + ((if h2 (27, t, n) p = r then 1 else 0) - (if hi (27, t, n) p = r then 1 else 0)) := by
  unfold mm_isT at ht
  have e := kc_N1 hd hn hp r
  unfold kc_K
  by_cases c1 : t = 26
  · rw [sm_congr (f := fun t => kc_N h2 (13 + t) r) (g := fun t => kc_N hi (13 + t) r) 5 (fun i a b => kc_No hd (by omega) r), kc_No hd (t2 := 27) (by omega)]
    subst c1
    omega
  · by_cases c2 : t = 27
    · rw [sm_congr (f := fun t => kc_N h2 (13 + t) r) (g := fun t => kc_N hi (13 + t) r) 5 (fun i a b => kc_No hd (by omega) r), kc_No hd (t2 := 26) (by omega)]
      subst c2
      omega
    · have h1 : mm_sm (fun t => kc_N h2 (13 + t) r) 5 = mm_sm (fun t => kc_N hi (13 + t) r) 5 + (kc_N h2 (13 + (t - 13)) r - kc_N hi (13 + (t - 13)) r) :=
        sm_one (f := fun t => kc_N hi (13 + t) r) (g := fun t => kc_N h2 (13 + t) r) 5 (t - 13) (by omega) (by omega) (fun i _ _ e => kc_No hd (by omega) r)
      rw [h1, kc_No hd (t2 := 26) (by omega), kc_No hd (t2 := 27) (by omega), show 13 + (t - 13) = t by omega]
      omega
theorem kc_Ko {hi h2 : mm_Id → Int → Int} {t n p : Int} (hd : kc_d1 hi h2 t n p) (ht : 0 ≤ t ∧ t < 13) (r : Int) : kc_K h2 r = kc_K hi r := by
  unfold kc_K
  rw [sm_congr (f := fun t => kc_N h2 (13 + t) r) (g := fun t => kc_N hi (13 + t) r) 5 (fun i a b => kc_No hd (by omega) r), kc_No hd (t2 := 26) (by omega), kc_No hd (t2 := 27) (by omega)]
/-- a row that stands at a place is counted -/
theorem kc_Nge {hi : mm_Id → Int → Int} {t n p : Int} (hn : mm_isN n) (hp : 0 ≤ p ∧ p < 36) : 1 ≤ kc_N hi t (hi (27, t, n) p) := by
  have h1 : kc_P (hi (27, t, n)) (hi (27, t, n) p) ≤ kc_N hi t (hi (27, t, n) p) := sm_ge (f := fun m => kc_P (hi (27, t, m)) (hi (27, t, n) p)) 37 (fun i _ _ => kc_Pnn _ _) hn.1 hn.2
  have h2 : (if hi (27, t, n) p = hi (27, t, n) p then 1 else 0) ≤ kc_P (hi (27, t, n)) (hi (27, t, n) p) := sm_ge (f := fun q => if hi (27, t, n) q = hi (27, t, n) p then 1 else 0) 36 (fun i _ _ => by split <;> omega) hp.1 hp.2
  rw [if_pos rfl] at h2
  omega
theorem kc_Age {hi : mm_Id → Int → Int} {t n p : Int} (ht : 0 ≤ t ∧ t < 13) (hn : mm_isN n) (hp : 0 ≤ p ∧ p < 36) : 1 ≤ kc_A hi (hi (27, t, n) p) := by
  have h1 : kc_N hi t (hi (27, t, n) p) ≤ kc_A hi (hi (27, t, n) p) := sm_ge (f := fun m => kc_N hi m (hi (27, t, n) p)) 13 (fun i _ _ => kc_Nnn _ _ _) ht.1 ht.2
  have h2 := kc_Nge (hi := hi) (t := t) hn hp
  omega
theorem kc_Kge {hi : mm_Id → Int → Int} {t n p : Int} (ht : mm_isT t) (ht2 : ¬ (0 ≤ t ∧ t < 13)) (hn : mm_isN n) (hp : 0 ≤ p ∧ p < 36) : 1 ≤ kc_K hi (hi (27, t, n) p) := by
  have h2 := kc_Nge (hi := hi) (t := t) hn hp
  have h3 := kc_Nnn hi 26 (hi (27, t, n) p)
  have h4 := kc_Nnn hi 27 (hi (27, t, n) p)
  have h5 : 0 ≤ mm_sm (fun t2 => kc_N hi (13 + t2) (hi (27, t, n) p)) 5 := sm_nn _ (fun i _ _ => kc_Nnn _ _ _)
  unfold mm_isT at ht
  unfold kc_K
  by_cases c1 : t = 26
  · subst c1; omega
  · by_cases c2 : t = 27
    · subst c2; omega
    · have h1 : kc_N hi (13 + (t - 13)) (hi (27, t, n) p) ≤ mm_sm (fun t2 => kc_N hi (13 + t2) (hi (27, t, n) p)) 5 := sm_ge (f := fun m => kc_N hi (13 + m) (hi (27, t, n) p)) 5 (fun i _ _ => kc_Nnn _ _ _) (by omega) (by omega)
      rw [show 13 + (t - 13) = t by omega] at h1
      omega

