/-! the counters of the rows, kept beside what stands in the trees -/
def kk_sha (hi : mm_Id → Int → Int) (v a : Int) : mm_Id → Int → Int :=
  if v < 1 ∨ 1701 ≤ v then hi else if a = 0 then mm_up (mm_up hi (15, 0, 0) 7 (hi (15, 0, 0) 7 + (if hi (17, 0, 0) v = 0 then 1 else 0))) (17, 0, 0) v (hi (17, 0, 0) v + 1) else mm_up hi (18, 0, 0) v (hi (18, 0, 0) v + 1)
def kk_ltg (hi : mm_Id → Int → Int) (o a : Int) : mm_Id → Int → Int :=
  if o < 1 ∨ 1701 ≤ o then hi else if a = 0 then mm_up (mm_up (mm_up hi (17, 0, 0) o (hi (17, 0, 0) o - 1)) (15, 0, 0) 7 (hi (15, 0, 0) 7 - (if hi (17, 0, 0) o - 1 = 0 then 1 else 0))) (19, 0, 0) o (if 0 < hi (17, 0, 0) o - 1 ∨ 0 < hi (18, 0, 0) o then 1 else 0)
  else mm_up (mm_up hi (18, 0, 0) o (hi (18, 0, 0) o - 1)) (19, 0, 0) o (if 0 < hi (17, 0, 0) o ∨ 0 < hi (18, 0, 0) o - 1 then 1 else 0)
def kk_tak (hi : mm_Id → Int → Int) (o r : Int) : mm_Id → Int → Int :=
  mm_cp (mm_up (mm_up (mm_up (mm_up hi (15, 0, 0) 8 r) (19, 0, 0) r 1) (17, 0, 0) r 1) (15, 0, 0) 7 (hi (15, 0, 0) 7 + 1)) (16, 0, 0) (60 * o) (16, 0, 0) (60 * r) 60
/-- what the counters touch -/
def kk_ct (x : mm_Id) (j : Int) : Prop := x = (15, 0, 0) ∧ j = 7 ∨ x = (17, 0, 0) ∨ x = (18, 0, 0) ∨ x = (19, 0, 0)
theorem kk_shaf {hi : mm_Id → Int → Int} {v a : Int} {x : mm_Id} {j : Int} (h : ¬ kk_ct x j) : kk_sha hi v a x j = hi x j := by
  unfold kk_ct at h
  unfold kk_sha mm_up
  grind
theorem kk_ltgf {hi : mm_Id → Int → Int} {v a : Int} {x : mm_Id} {j : Int} (h : ¬ kk_ct x j) : kk_ltg hi v a x j = hi x j := by
  unfold kk_ct at h
  unfold kk_ltg mm_up
  grind
section
variable {hi : mm_Id → Int → Int} {v r : Int}
theorem kk_s17 (hv : 0 ≤ v ∧ v < 1701) : kk_sha hi v 0 (17, 0, 0) r = hi (17, 0, 0) r + (if 1 ≤ v ∧ r = v then 1 else 0) := by
  unfold kk_sha
  by_cases c : v < 1
  · rw [if_pos (by omega), if_neg (by omega)]; omega
  · rw [if_neg (by omega), if_pos rfl]
    by_cases e : r = v
    · subst e; rw [mm_ups, if_pos (by omega)]
    · rw [mm_upj e, mm_upf (by decide), if_neg (by omega)]; omega
theorem kk_s18 : kk_sha hi v 0 (18, 0, 0) r = hi (18, 0, 0) r := by
  unfold kk_sha
  split
  · rfl
  · rw [if_pos rfl, mm_upf (by decide), mm_upf (by decide)]
theorem kk_s19 {a : Int} : kk_sha hi v a (19, 0, 0) r = hi (19, 0, 0) r := by
  unfold kk_sha
  split
  · rfl
  · split
    · rw [mm_upf (by decide), mm_upf (by decide)]
    · rw [mm_upf (by decide)]
theorem kk_s15 (hv : 0 ≤ v ∧ v < 1701) : kk_sha hi v 0 (15, 0, 0) 7 = hi (15, 0, 0) 7 + (if 1 ≤ v ∧ hi (17, 0, 0) v = 0 then 1 else 0) := by
  unfold kk_sha
  by_cases c : v < 1
  · rw [if_pos (by omega), if_neg (by omega)]; omega
  · rw [if_neg (by omega), if_pos rfl, mm_upf (by decide), mm_ups]
    simp [show 1 ≤ v by omega]
theorem kk_s17a : kk_sha hi v 1 (17, 0, 0) r = hi (17, 0, 0) r := by
  unfold kk_sha
  split
  · rfl
  · rw [if_neg (by decide), mm_upf (by decide)]
theorem kk_s15a : kk_sha hi v 1 (15, 0, 0) r = hi (15, 0, 0) r := by
  unfold kk_sha
  split
  · rfl
  · rw [if_neg (by decide), mm_upf (by decide)]
theorem kk_s18a (hv : 0 ≤ v ∧ v < 1701) : kk_sha hi v 1 (18, 0, 0) r = hi (18, 0, 0) r + (if 1 ≤ v ∧ r = v then 1 else 0) := by
  unfold kk_sha
  by_cases c : v < 1
  · rw [if_pos (by omega), if_neg (by omega)]; omega
  · rw [if_neg (by omega), if_neg (by decide)]
    by_cases e : r = v
    · subst e; rw [mm_ups, if_pos (by omega)]
    · rw [mm_upj e, if_neg (by omega)]; omega
theorem kk_l17 (hv : 0 ≤ v ∧ v < 1701) : kk_ltg hi v 0 (17, 0, 0) r = hi (17, 0, 0) r - (if 1 ≤ v ∧ r = v then 1 else 0) := by
  unfold kk_ltg
  by_cases c : v < 1
  · rw [if_pos (by omega), if_neg (by omega)]; omega
  · rw [if_neg (by omega), if_pos rfl, mm_upf (by decide), mm_upf (by decide)]
    by_cases e : r = v
    · subst e; rw [mm_ups, if_pos (by omega)]
    · rw [mm_upj e, if_neg (by omega)]; omega
theorem kk_l18 : kk_ltg hi v 0 (18, 0, 0) r = hi (18, 0, 0) r := by
  unfold kk_ltg
  split
  · rfl
  · rw [if_pos rfl, mm_upf (by decide), mm_upf (by decide), mm_upf (by decide)]
theorem kk_l19 (hv : 0 ≤ v ∧ v < 1701) : kk_ltg hi v 0 (19, 0, 0) r = if 1 ≤ v ∧ r = v then (if 0 < hi (17, 0, 0) v - 1 ∨ 0 < hi (18, 0, 0) v then 1 else 0) else hi (19, 0, 0) r := by
  unfold kk_ltg
  by_cases c : v < 1
  · rw [if_pos (by omega), if_neg (by omega)]
  · rw [if_neg (by omega), if_pos rfl]
    by_cases e : r = v
    · subst e; rw [mm_ups, if_pos (c := 1 ≤ r ∧ r = r) ⟨by omega, rfl⟩]
    · rw [mm_upj e, mm_upf (by decide), mm_upf (by decide), if_neg (by omega)]
theorem kk_l15 (hv : 0 ≤ v ∧ v < 1701) : kk_ltg hi v 0 (15, 0, 0) 7 = hi (15, 0, 0) 7 - (if 1 ≤ v ∧ hi (17, 0, 0) v - 1 = 0 then 1 else 0) := by
  unfold kk_ltg
  by_cases c : v < 1
  · rw [if_pos (by omega), if_neg (by omega)]; omega
  · rw [if_neg (by omega), if_pos rfl, mm_upf (by decide), mm_ups]
    simp [show 1 ≤ v by omega]
theorem kk_l17a : kk_ltg hi v 1 (17, 0, 0) r = hi (17, 0, 0) r := by
  unfold kk_ltg
  split
  · rfl
  · rw [if_neg (by decide), mm_upf (by decide), mm_upf (by decide)]
theorem kk_l15a : kk_ltg hi v 1 (15, 0, 0) r = hi (15, 0, 0) r := by
  unfold kk_ltg
  split
  · rfl
  · rw [if_neg (by decide), mm_upf (by decide), mm_upf (by decide)]
theorem kk_l18a (hv : 0 ≤ v ∧ v < 1701) : kk_ltg hi v 1 (18, 0, 0) r = hi (18, 0, 0) r - (if 1 ≤ v ∧ r = v then 1 else 0) := by
  unfold kk_ltg
  by_cases c : v < 1
  · rw [if_pos (by omega), if_neg (by omega)]; omega
  · rw [if_neg (by omega), if_neg (by decide), mm_upf (by decide)]
    by_cases e : r = v
    · subst e; rw [mm_ups, if_pos (by omega)]
    · rw [mm_upj e, if_neg (by omega)]; omega
theorem kk_l19a (hv : 0 ≤ v ∧ v < 1701) : kk_ltg hi v 1 (19, 0, 0) r = if 1 ≤ v ∧ r = v then (if 0 < hi (17, 0, 0) v ∨ 0 < hi (18, 0, 0) v - 1 then 1 else 0) else hi (19, 0, 0) r := by
  unfold kk_ltg
  by_cases c : v < 1
  · rw [if_pos (by omega), if_neg (by omega)]
  · rw [if_neg (by omega), if_neg (by decide)]
    by_cases e : r = v
    · subst e; rw [mm_ups, if_pos (c := 1 ≤ r ∧ r = r) ⟨by omega, rfl⟩]
    · rw [mm_upj e, mm_upf (by decide), if_neg (by omega)]
end
/-- the counters are right -/
def kk_R1 (hi : mm_Id → Int → Int) : Prop := ∀ t n p, mm_isT t → mm_isN n → 0 ≤ p → p < 36 → 0 ≤ hi (27, t, n) p ∧ hi (27, t, n) p < 1701
def kk_R2 (hi : mm_Id → Int → Int) : Prop := ∀ r, 1 ≤ r → r < 1701 → hi (17, 0, 0) r = kc_A hi r ∧ hi (18, 0, 0) r = kc_K hi r ∧ hi (19, 0, 0) r = if 0 < kc_A hi r ∨ 0 < kc_K hi r then 1 else 0
def kk_hd (hi : mm_Id → Int → Int) : Int := mm_sm (fun r => if 1 ≤ r ∧ 0 < kc_A hi r then 1 else 0) 1701
def kk_R (hi : mm_Id → Int → Int) : Prop := kk_R1 hi ∧ kk_R2 hi ∧ hi (15, 0, 0) 7 = kk_hd hi ∧ 0 ≤ hi (15, 0, 0) 8 ∧ hi (15, 0, 0) 8 < 1701 ∧ hi (17, 0, 0) 0 = 0 ∧ hi (18, 0, 0) 0 = 0 ∧ hi (19, 0, 0) 0 = 0
theorem kk_hdub (hi : mm_Id → Int → Int) : kk_hd hi ≤ 1701 := by
  have := sm_ub (f := fun r => if 1 ≤ r ∧ 0 < kc_A hi r then 1 else 0) 1 1701 (fun i _ _ => by split <;> omega)
  exact this
theorem kk_hdnn (hi : mm_Id → Int → Int) : 0 ≤ kk_hd hi := sm_nn _ (fun i _ _ => by split <;> omega)
/-- how held moves when the live count of two rows moves -/
theorem kk_hd1 {hi h2 : mm_Id → Int → Int} {j : Int} (hj : 1 ≤ j ∧ j < 1701) (h : ∀ r, 1 ≤ r → r < 1701 → r ≠ j → kc_A h2 r = kc_A hi r) : kk_hd h2 = kk_hd hi + ((if 0 < kc_A h2 j then 1 else 0) - (if 0 < kc_A hi j then 1 else 0)) := by
  have e := sm_one (f := fun r => if 1 ≤ r ∧ 0 < kc_A hi r then 1 else 0) (g := fun r => if 1 ≤ r ∧ 0 < kc_A h2 r then 1 else 0) 1701 j (by omega) (by omega) (fun i a b c => by
    by_cases hi1 : 1 ≤ i
    · rw [h i (by omega) (by omega) c]
    · rw [if_neg (by omega), if_neg (by omega)])
  unfold kk_hd
  rw [e]
  simp only [hj.1, true_and]
theorem kk_hd0 {hi h2 : mm_Id → Int → Int} (h : ∀ r, 1 ≤ r → r < 1701 → kc_A h2 r = kc_A hi r) : kk_hd h2 = kk_hd hi :=
  sm_congr _ (fun i a b => by
    by_cases hi1 : 1 ≤ i
    · rw [h i (by omega) (by omega)]
    · rw [if_neg (by omega), if_neg (by omega)])
theorem kk_hd2 {hi h2 : mm_Id → Int → Int} {i j : Int} (hi1 : 1 ≤ i ∧ i < 1701) (hj : 1 ≤ j ∧ j < 1701) (hij : i ≠ j) (h : ∀ r, 1 ≤ r → r < 1701 → r ≠ i → r ≠ j → kc_A h2 r = kc_A hi r) : kk_hd h2 = kk_hd hi + ((if 0 < kc_A h2 i then 1 else 0) - (if 0 < kc_A hi i then 1 else 0)) + ((if 0 < kc_A h2 j then 1 else 0) - (if 0 < kc_A hi j then 1 else 0)) := by
  have e := sm_one (f := fun r => if r = i then (if 1 ≤ r ∧ 0 < kc_A h2 r then 1 else 0) else (if 1 ≤ r ∧ 0 < kc_A hi r then 1 else 0)) (g := fun r => if 1 ≤ r ∧ 0 < kc_A h2 r then 1 else 0) 1701 j (by omega) (by omega) (fun k a b c => by
    by_cases e2 : k = i
    · simp [e2]
    · by_cases hi1 : 1 ≤ k
      · rw [if_neg e2, h k (by omega) (by omega) e2 c]
      · rw [if_neg e2, if_neg (by omega), if_neg (by omega)])
  have e2 := sm_one (f := fun r => if 1 ≤ r ∧ 0 < kc_A hi r then 1 else 0) (g := fun r => if r = i then (if 1 ≤ r ∧ 0 < kc_A h2 r then 1 else 0) else (if 1 ≤ r ∧ 0 < kc_A hi r then 1 else 0)) 1701 i (by omega) (by omega) (fun k a b c => by simp [c])
  unfold kk_hd
  rw [e, e2]
  simp only [hi1.1, hj.1, true_and, if_true, if_neg (Ne.symm hij)]
/-- a piece moves from a row to another that is counted, or to none -/
theorem kk_move {hi : mm_Id → Int → Int} {t n p v a : Int} (hR : kk_R hi) (ht : mm_isT t) (hn : mm_isN n) (hp : 0 ≤ p ∧ p < 36) (hv : 0 ≤ v ∧ v < 1701) (ha : a = if 0 ≤ t ∧ t < 13 then 0 else 1)
    (hvt : v = 0 ∨ 0 < kc_A hi v ∨ 0 < kc_K hi v) (hne : v ≠ hi (27, t, n) p) : kk_R (mm_up (kk_ltg (kk_sha hi v a) (hi (27, t, n) p) a) (27, t, n) p v) := by
  obtain ⟨R1, R2, R3, R4, R5, R6, R7, R8⟩ := hR
  generalize ho : hi (27, t, n) p = o at *
  have ho2 := R1 t n p ht hn hp.1 hp.2
  rw [ho] at ho2
  have hpc : ∀ t2 n2 p2, kk_ltg (kk_sha hi v a) o a (27, t2, n2) p2 = hi (27, t2, n2) p2 := fun t2 n2 p2 => by
    rw [kk_ltgf (by unfold kk_ct; simp), kk_shaf (by unfold kk_ct; simp)]
  have hd : kc_d1 hi (mm_up (kk_ltg (kk_sha hi v a) o a) (27, t, n) p v) t n p := by
    intro t2 n2 p2 h
    unfold mm_up
    rw [if_neg (by intro q; apply h; obtain ⟨q1, q2⟩ := q; injection q1 with _ q1; injection q1 with q1 q3; exact ⟨q1, q3, q2⟩), hpc]
  generalize hh : mm_up (kk_ltg (kk_sha hi v a) o a) (27, t, n) p v = h2 at *
  have hv2 : h2 (27, t, n) p = v := by rw [← hh, mm_ups]
  have hcA : ∀ r, kc_A h2 r = kc_A hi r + if 0 ≤ t ∧ t < 13 then ((if v = r then 1 else 0) - (if o = r then 1 else 0)) else 0 := by
    intro r
    by_cases c : 0 ≤ t ∧ t < 13
    · rw [kc_A1 hd c hn hp, hv2, ho, if_pos c]
    · rw [kc_Ao hd c, if_neg c]; omega
  have hcK : ∀ r, kc_K h2 r = kc_K hi r + if 0 ≤ t ∧ t < 13 then 0 else ((if v = r then 1 else 0) - (if o = r then 1 else 0)) := by
    intro r
    by_cases c : 0 ≤ t ∧ t < 13
    · rw [kc_Ko hd c, if_pos c]; omega
    · rw [kc_K1 hd ht c hn hp, hv2, ho, if_neg c]
  have hA1 : 0 ≤ t ∧ t < 13 → 1 ≤ kc_A hi o := fun c => by rw [← ho]; exact kc_Age c hn hp
  have hK1 : ¬ (0 ≤ t ∧ t < 13) → 1 ≤ kc_K hi o := fun c => by rw [← ho]; exact kc_Kge ht c hn hp
  have hAn := kc_Ann hi
  have hKn := kc_Knn hi
  have hg : ∀ x j, ¬ x.1 = 27 → h2 x j = kk_ltg (kk_sha hi v a) o a x j := fun x j hx => by
    rw [← hh, mm_upx (by intro q; exact hx (by rw [q]))]
  refine ⟨?_, ?_, ?_, ?_, ?_, ?_, ?_, ?_⟩
  · intro t2 n2 p2 a1 a2 a3 a4
    by_cases c : t2 = t ∧ n2 = n ∧ p2 = p
    · obtain ⟨rfl, rfl, rfl⟩ := c
      rw [hv2]; exact hv
    · rw [hd t2 n2 p2 c]; exact R1 t2 n2 p2 a1 a2 a3 a4
  · intro r r1 r2
    obtain ⟨q1, q2, q3⟩ := R2 r r1 r2
    have z1 := hAn r
    have z2 := hKn r
    have z3 := hAn v
    have z4 := hKn v
    rw [hg _ _ (by simp), hg _ _ (by simp), hg _ _ (by simp), hcA, hcK]
    have q4 : 1 ≤ v → hi (17, 0, 0) v = kc_A hi v ∧ hi (18, 0, 0) v = kc_K hi v := fun v1 => ⟨(R2 v v1 hv.2).1, (R2 v v1 hv.2).2.1⟩
    have q5 : 1 ≤ o → hi (17, 0, 0) o = kc_A hi o ∧ hi (18, 0, 0) o = kc_K hi o := fun v1 => ⟨(R2 o v1 ho2.2).1, (R2 o v1 ho2.2).2.1⟩
    by_cases c : 0 ≤ t ∧ t < 13
    · have w1 := hA1 c
      rw [if_pos c] at ha
      simp only [if_pos c, if_true]
      subst ha
      rw [kk_l17 ho2, kk_l18, kk_l19 ho2, kk_s17 hv, kk_s17 hv, kk_s18, kk_s18, kk_s19, q1, q2, q3]
      clear hg hcA hcK hd hpc hh R1 R2 R3 hA1 hK1 hAn hKn q1 q2 q3 ho
      by_cases e1 : r = o
      · subst e1
        have q5 := q5 r1
        by_cases e2 : r = v
        · omega
        · simp [e2, Ne.symm e2, r1, q5]
          grind
      · by_cases e2 : r = v
        · subst e2
          simp [e1, Ne.symm e1, r1]
          grind
        · simp [e1, e2, Ne.symm e1, Ne.symm e2]
    · have w1 := hK1 c
      rw [if_neg c] at ha
      simp only [if_neg c]
      subst ha
      rw [kk_l17a, kk_l18a ho2, kk_l19a ho2, kk_s17a, kk_s17a, kk_s18a hv, kk_s18a hv, kk_s19, q1, q2, q3]
      clear hg hcA hcK hd hpc hh R1 R2 R3 hA1 hK1 hAn hKn q1 q2 q3 ho
      by_cases e1 : r = o
      · subst e1
        have q5 := q5 r1
        by_cases e2 : r = v
        · omega
        · simp [e2, Ne.symm e2, r1, q5]
          grind
      · by_cases e2 : r = v
        · subst e2
          simp [e1, Ne.symm e1, r1]
          grind
        · simp [e1, e2, Ne.symm e1, Ne.symm e2]
  · rw [hg _ _ (by simp)]
    by_cases c : 0 ≤ t ∧ t < 13
    · have w1 := hA1 c
      rw [if_pos c] at ha
      subst ha
      have hcA2 : ∀ r, kc_A h2 r = kc_A hi r + ((if v = r then 1 else 0) - (if o = r then 1 else 0)) := fun r => by rw [hcA, if_pos c]
      by_cases v0 : v = 0
      · subst v0
        have o1 : 1 ≤ o := by omega
        have e := kk_hd1 (hi := hi) (h2 := h2) (j := o) ⟨o1, ho2.2⟩ (fun r a1 a2 a3 => by rw [hcA2, if_neg (by omega), if_neg (by omega)]; omega)
        rw [e, hcA2, ← R3]
        have q := R2 o o1 ho2.2
        rw [kk_l15 ho2, kk_s15 hv, kk_s17 hv, q.1]
        clear hg hcA hcA2 hcK hd hpc hh R1 R2 R3 hA1 hK1 hAn hKn ho e q
        simp [o1, show ¬ o = 0 by omega, show ¬ (0 = o) by omega]
        grind
      · have v1 : 1 ≤ v := by omega
        by_cases o0 : o = 0
        · have e := kk_hd1 (hi := hi) (h2 := h2) (j := v) ⟨v1, hv.2⟩ (fun r a1 a2 a3 => by rw [hcA2, if_neg (by omega), if_neg (by omega)]; omega)
          rw [e, hcA2, ← R3]
          have q := R2 v v1 hv.2
          have z := hAn v
          subst o0
          rw [kk_l15 ho2, kk_s15 hv, q.1]
          clear hg hcA hcA2 hcK hd hpc hh R1 R2 R3 hA1 hK1 hAn hKn ho e q
          simp [v1, show ¬ v = 0 by omega, show ¬ (0 = v) by omega]
          grind
        · have o1 : 1 ≤ o := by omega
          have e := kk_hd2 (hi := hi) (h2 := h2) (i := v) (j := o) ⟨v1, hv.2⟩ ⟨o1, ho2.2⟩ hne (fun r a1 a2 a3 a4 => by rw [hcA2, if_neg (by omega), if_neg (by omega)]; omega)
          rw [e, hcA2, hcA2, ← R3]
          have q := R2 v v1 hv.2
          have q' := R2 o o1 ho2.2
          have z := hAn v
          rw [kk_l15 ho2, kk_s15 hv, kk_s17 hv, q.1, q'.1]
          clear hg hcA hcA2 hcK hd hpc hh R1 R2 R3 hA1 hK1 hAn hKn ho e q q'
          simp [v1, o1, hne, Ne.symm hne]
          grind
    · rw [if_neg c] at ha
      subst ha
      rw [kk_hd0 (hi := hi) (h2 := h2) (fun r _ _ => by rw [hcA, if_neg c]; omega), ← R3, kk_l15a, kk_s15a]
  · rw [hg _ _ (by simp), kk_ltgf (by unfold kk_ct; simp), kk_shaf (by unfold kk_ct; simp)]; exact R4
  · rw [hg _ _ (by simp), kk_ltgf (by unfold kk_ct; simp), kk_shaf (by unfold kk_ct; simp)]; exact R5
  · rw [hg _ _ (by simp)]
    by_cases c : 0 ≤ t ∧ t < 13
    · rw [if_pos c] at ha; subst ha; rw [kk_l17 ho2, kk_s17 hv, R6, if_neg (by omega), if_neg (by omega)]; rfl
    · rw [if_neg c] at ha; subst ha; rw [kk_l17a, kk_s17a, R6]
  · rw [hg _ _ (by simp)]
    by_cases c : 0 ≤ t ∧ t < 13
    · rw [if_pos c] at ha; subst ha; rw [kk_l18, kk_s18, R7]
    · rw [if_neg c] at ha; subst ha; rw [kk_l18a ho2, kk_s18a hv, R7, if_neg (by omega), if_neg (by omega)]; rfl
  · rw [hg _ _ (by simp)]
    by_cases c : 0 ≤ t ∧ t < 13
    · rw [if_pos c] at ha; subst ha; rw [kk_l19 ho2, kk_s19, R8, if_neg (by omega)]
    · rw [if_neg c] at ha; subst ha; rw [kk_l19a ho2, kk_s19, R8, if_neg (by omega)]

