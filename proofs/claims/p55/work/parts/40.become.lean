/-! a tree becomes as a stream's -/
/-- what a piece is after it: kept, or gone, or new -/
def kk_pa (g h : mm_Id → Int → Int) (t t1 n p : Int) : Prop :=
  (kk_kp g t n t1 n p → h (27, t, n) p = g (27, t, n) p ∧ ∀ e, 0 ≤ e → e < 60 → h (16, 0, 0) (60 * g (27, t, n) p + e) = g (16, 0, 0) (60 * g (27, t, n) p + e)) ∧
  (¬ kk_kp g t n t1 n p → g (27, t1, n) p = 0 → h (27, t, n) p = 0) ∧
  (¬ kk_kp g t n t1 n p → g (27, t1, n) p ≠ 0 → h (27, t, n) p ≠ 0 ∧ (∀ e, 0 ≤ e → e < 60 → h (16, 0, 0) (60 * h (27, t, n) p + e) = g (16, 0, 0) (60 * g (27, t1, n) p + e)) ∧
    ∀ t2 n2 p2, mm_isT t2 → mm_isN n2 → 0 ≤ p2 → p2 < 36 → ¬ (t2 = t ∧ n2 = n ∧ p2 = p) → h (27, t2, n2) p2 ≠ h (27, t, n) p)
/-- a piece stays as it was, and its bytes -/
def kk_ps (g h : mm_Id → Int → Int) (t n p : Int) : Prop := h (27, t, n) p = g (27, t, n) p ∧ ∀ e, 0 ≤ e → e < 60 → h (16, 0, 0) (60 * g (27, t, n) p + e) = g (16, 0, 0) (60 * g (27, t, n) p + e)
/-- whether a piece's turn has come -/
def kk_dn (i j n p : Int) : Prop := 1 ≤ n ∧ (n < i ∨ n = i ∧ p < j)
theorem kk_moveu {h : mm_Id → Int → Int} {t n p v o' : Int} (hR : kk_R h) (ht : 0 ≤ t ∧ t < 13) (hn : mm_isN n) (hp : 0 ≤ p ∧ p < 36) (hv : 1 ≤ v ∧ v < 1701) : kk_us (mm_up (kk_ltg (kk_tak h o' v) (h (27, t, n) p) 0) (27, t, n) p v) ≤ kk_us h + 1 := by
  have hpc : ∀ t2 n2 p2, kk_ltg (kk_tak h o' v) (h (27, t, n) p) 0 (27, t2, n2) p2 = h (27, t2, n2) p2 := fun t2 n2 p2 => by
    rw [kk_ltgf (by unfold kk_ct; simp), kk_tf (by unfold kk_ct; simp) (by simp) (by simp)]
  have hd : kc_d1 h (mm_up (kk_ltg (kk_tak h o' v) (h (27, t, n) p) 0) (27, t, n) p v) t n p := by
    intro t2 n2 p2 q
    rw [kk_upne q, hpc]
  refine kk_us1 hv (fun r hr => ?_) (fun r hr => ?_)
  · rw [kc_A1 hd ht hn hp, mm_ups, if_neg (Ne.symm hr)]; split <;> omega
  · rw [kc_Ko hd ht]; exact Int.le_refl _
theorem kk_us0 {h : mm_Id → Int → Int} {t n p : Int} (hR : kk_R h) (ht : 0 ≤ t ∧ t < 13) (hn : mm_isN n) (hp : 0 ≤ p ∧ p < 36) : kk_us (mm_up (kk_ltg h (h (27, t, n) p) 0) (27, t, n) p 0) ≤ kk_us h := by
  have hpc : ∀ t2 n2 p2, kk_ltg h (h (27, t, n) p) 0 (27, t2, n2) p2 = h (27, t2, n2) p2 := fun t2 n2 p2 => by
    rw [kk_ltgf (by unfold kk_ct; simp)]
  have hd : kc_d1 h (mm_up (kk_ltg h (h (27, t, n) p) 0) (27, t, n) p 0) t n p := by
    intro t2 n2 p2 q
    rw [kk_upne q, hpc]
  have hA : ∀ r, 1 ≤ r → kc_A (mm_up (kk_ltg h (h (27, t, n) p) 0) (27, t, n) p 0) r ≤ kc_A h r := fun r hr => by
    rw [kc_A1 hd ht hn hp, mm_ups, if_neg (by omega)]; split <;> omega
  have hK : ∀ r, kc_K (mm_up (kk_ltg h (h (27, t, n) p) 0) (27, t, n) p 0) r = kc_K h r := fun r => kc_Ko hd ht r
  refine sm_le _ (fun r a b => ?_)
  have k := hK r
  by_cases c : 1 ≤ (r : Int)
  · have := hA r c
    split
    · rw [if_pos (by omega)]; exact Int.le_refl 1
    · split <;> omega
  · rw [if_neg (fun q => c q.1), if_neg (fun q => c q.1)]; exact Int.le_refl 0
theorem kk_smle {f : Int → Int} (h : ∀ i, 0 ≤ f i) {a b : Nat} (hab : a ≤ b) : mm_sm f a ≤ mm_sm f b := by
  induction b with
  | zero =>
    have : a = 0 := by omega
    subst this
    exact Int.le_refl _
  | succ b ih =>
    by_cases e : a = b + 1
    · subst e; exact Int.le_refl _
    · have := ih (by omega)
      have := h b
      show _ ≤ mm_sm f b + f b
      omega
theorem kk_uscong {h h2 : mm_Id → Int → Int} (hp : ∀ t n p, h2 (27, t, n) p = h (27, t, n) p) : kk_us h2 = kk_us h := by
  have cN : kc_N h2 = kc_N h := by
    funext t r
    exact sm_congr _ (fun i _ _ => sm_congr _ (fun j _ _ => by rw [hp]))
  have cA : kc_A h2 = kc_A h := by
    funext r
    unfold kc_A
    rw [cN]
  have cK : kc_K h2 = kc_K h := by
    funext r
    unfold kc_K
    rw [cN]
  unfold kk_us
  rw [cA, cK]

/-- the nodes whose turn has not come are as they were, pieces aside -/
def kk_nu (g h : mm_Id → Int → Int) (t i : Int) : Prop := ∀ f n k, 24 ≤ f → f ≤ 30 → f ≠ 27 → i ≤ n → h (f, t, n) k = g (f, t, n) k
section
variable {g : mm_Id → Int → Int} {dh : Int → Int} {nx ns : Int} {Q : mm_V → mm_H → Prop} {t t1 : Int}
end

