/-! scripts: a number is read and given -/
section
variable {h : mm_Id → Int → Int} {dh : Int → Int} {nx ns : Int} {Q : mm_V → mm_H → Prop}
/-- where the digits begin; what the number is -/
def kk_nbs (t w : Int) : Int := if t = 45 ∨ t = 64 then w + 1 else w
def kk_nbo (T : Int → Int) (t n w f : Int) : Prop := kk_dig T (kk_nbs t w) f 18 ∧ (t = 64 → kk_dv T (kk_nbs t w) (f - kk_nbs t w).toNat < n)
def kk_nbv (T U : Int → Int) (t w f : Int) : Int := if t = 64 then U (kk_dv T (kk_nbs t w) (f - kk_nbs t w).toNat) else if t = 45 then -kk_dv T (kk_nbs t w) (f - kk_nbs t w).toNat else kk_dv T (kk_nbs t w) (f - kk_nbs t w).toNat
theorem kk_nbB {T : Int → Int} {s f : Int} (q : kk_dig T s f 18) : 0 ≤ kk_dv T s (f - s).toNat ∧ kk_dv T s (f - s).toNat < 1000000000000000000 := by
  obtain ⟨q1, q2, q3⟩ := q
  exact kk_dvB (fun i i0 i1 => q3 i i0 (by omega)) (by omega)
theorem kk_nbr {T U : Int → Int} {t n w f : Int} (q : kk_nbo T t n w f) (hU : ∀ i, 0 ≤ i → i < n → -9223372036854775808 ≤ U i ∧ U i < 9223372036854775808) : -9223372036854775808 ≤ kk_nbv T U t w f ∧ kk_nbv T U t w f < 9223372036854775808 := by
  have z := kk_nbB q.1
  unfold kk_nbv
  by_cases c : t = 64
  · rw [if_pos c]; exact hU _ z.1 (q.2 c)
  · rw [if_neg c]
    by_cases c2 : t = 45
    · rw [if_pos c2]; omega
    · rw [if_neg c2]; omega
theorem s146 (hx : 5275 ≤ nx) {w f t n : Int} (a12 : h (8, 0, 0) 12 = w) (a13 : h (8, 0, 0) 13 = f) (ht : h (9, 0, 0) w = t) (a5 : h (8, 0, 0) 5 = n) (h0 : 0 ≤ w ∧ w < f ∧ f ≤ 8000) (hn : 0 ≤ n ∧ n ≤ 1600)
    (K1 : kk_nbo (h (9, 0, 0)) t n w f → Q (zI 1) (mm_z (mm_up h (8, 0, 0) 8 (kk_nbv (h (9, 0, 0)) (h (11, 0, 0)) t w f)) dh nx ns)) (K0 : ¬ kk_nbo (h (9, 0, 0)) t n w f → Q (zI 0) (mm_z h dh nx ns)) :
    mm_Cl 146 [zR (8, 0, 0)] (mm_z h dh nx ns) Q := by
  have F : ∀ (x1 x2 : Int), x1 = (if t = 45 then 1 else 0) → x2 = (if t = 64 then 1 else 0) → mm_Wp 146 (mm_blk 146 7) [zR (8, 0, 0), zI x1, zI x2, zU, zU] [zI (kk_nbs t w), zR (8, 0, 0)] (mm_z h dh nx ns) Q := by
    intro x1 x2 e1 e2
    have sb : w ≤ kk_nbs t w ∧ kk_nbs t w ≤ w + 1 := by unfold kk_nbs; split <;> omega
    rw [r_146_7 (hx := hx), a13]
    refine s145 hx ⟨by omega, by omega, by omega, by omega, by omega⟩ (fun dg => ?_) (fun nd => ?_)
    · have z := kk_nbB dg
      obtain ⟨v, hv⟩ : ∃ v, v = kk_dv (h (9, 0, 0)) (kk_nbs t w) (f - kk_nbs t w).toNat := ⟨_, rfl⟩
      rw [← hv] at z ⊢
      rw [mm_pL, r_146_7_4 (hx := hx), if_neg (by rw [mm_cmpl]; omega)]
      by_cases c : t = 64
      · rw [if_neg (by rw [e2, if_pos c]; omega), a5]
        by_cases c2 : v < n
        · have g := K1 ⟨dg, fun _ => by rw [← hv]; exact c2⟩
          unfold kk_nbv at g
          rw [if_pos c, ← hv] at g
          rw [if_pos (by rw [mm_cmpl]; exact c2), r_146_9 (hx := hx), if_neg (by rw [e2, if_pos c]; omega), mm_wi (by omega) (by omega), r_146_12 (hx := hx)]
          exact ⟨by omega, g⟩
        · rw [if_neg (by rw [mm_cmpl]; exact c2), r_146_8 (hx := hx)]
          exact K0 (fun q => c2 (by have := q.2 c; rw [← hv] at this; exact this))
      · have g := K1 ⟨dg, fun k => absurd k c⟩
        unfold kk_nbv at g
        rw [if_neg c, ← hv] at g
        rw [if_pos (by rw [e2, if_neg c]), r_146_9 (hx := hx), if_pos (by rw [e2, if_neg c])]
        by_cases c2 : t = 45
        · rw [if_pos c2] at g
          rw [if_neg (by rw [e1, if_pos c2]; omega), r_146_12 (hx := hx), mm_Wi (by omega) (by omega)]
          exact g
        · rw [if_neg c2] at g
          rw [if_pos (by rw [e1, if_neg c2]), r_146_12 (hx := hx)]
          exact g
    · rw [mm_pL, r_146_7_4 (hx := hx), if_pos (by rw [mm_cmpl]; omega), r_146_8 (hx := hx)]
      exact K0 (fun q => nd q.1)
  rw [r_146_e (hx := hx), a12, ht]
  refine ⟨by omega, ?_⟩
  by_cases c : t = 45
  · have g := F 1 0 (by rw [if_pos c]) (by rw [if_neg (by omega)])
    unfold kk_nbs at g
    rw [if_pos (Or.inl c)] at g
    rw [if_pos c, r_146_2 (hx := hx), a12, ht, if_neg (by omega), r_146_4 (hx := hx), if_neg (by omega), r_146_5 (hx := hx), a12, mm_wi (by omega) (by omega)]
    exact ⟨by omega, g⟩
  · rw [if_neg c, r_146_2 (hx := hx), a12, ht]
    refine ⟨by omega, ?_⟩
    by_cases c2 : t = 64
    · have g := F 0 1 (by rw [if_neg c]) (by rw [if_pos c2])
      unfold kk_nbs at g
      rw [if_pos (Or.inr c2)] at g
      rw [if_pos c2, r_146_4 (hx := hx), if_pos rfl, if_neg (by omega), r_146_5 (hx := hx), a12, mm_wi (by omega) (by omega)]
      exact g
    · have g := F 0 0 (by rw [if_neg c]) (by rw [if_neg c2])
      unfold kk_nbs at g
      rw [if_neg (by omega)] at g
      rw [if_neg c2, r_146_4 (hx := hx), if_pos rfl, if_pos rfl, a12]
      exact g
theorem m288n (hy : 5306 ≤ nx) {a b m : Int} (h0 : 0 ≤ a ∧ a ≤ 8001 ∧ 0 ≤ b ∧ b ≤ 8000 ∧ m ≤ 18) (nd : ¬ kk_dig (h (67, 0, 0)) a b m) : ∃ v, ∀ Q : mm_V → mm_H → Prop, Q (zI 0) (mm_z (mm_up h (40, 0, 0) 46 v) dh nx ns) → mm_Cl 288 [zR (40, 0, 0), zI a, zI b, zI m] (mm_z h dh nx ns) Q := by
  obtain ⟨f, r, h1, e, e1, v, e2⟩ := m288 (Q := fun r h1 => r = zI 0 ∧ ∃ v, h1 = mm_z (mm_up h (40, 0, 0) 46 v) dh nx ns) (dh := dh) (ns := ns) hy h0 (fun d => absurd d nd) (fun _ v => ⟨rfl, v, rfl⟩)
  exact ⟨v, fun Q q => ⟨f, r, h1, e, by rw [e1, e2]; exact q⟩⟩
theorem m290 (hy : 5306 ≤ nx) {w f t n kd i : Int} (b44 : h (40, 0, 0) 44 = w) (b45 : h (40, 0, 0) 45 = f) (ht : h (67, 0, 0) w = t) (b42 : h (40, 0, 0) 42 = n) (h0 : 0 ≤ w ∧ w < f ∧ f ≤ 8000) (hn : 0 ≤ n ∧ n ≤ 1600) (hw : ¬ (t = 47 ∧ 0 < i))
    (ok : kk_nbo (h (67, 0, 0)) t n w f) (K : ∀ g, g (40, 0, 0) 46 = kk_nbv (h (67, 0, 0)) (h (69, 0, 0)) t w f → (∀ x j, ¬ (x = (40, 0, 0) ∧ j = 46) → g x j = h x j) → mm_Wp 290 (mm_blk 290 12) [zR (40, 0, 0), zI kd, zI i, zI t, zI 1] [] (mm_z g dh nx ns) Q) :
    mm_Cl 290 [zR (40, 0, 0), zI kd, zI i] (mm_z h dh nx ns) Q := by
  have U : ∀ v x j, ¬ (x = (40, 0, 0) ∧ j = 46) → mm_up h (40, 0, 0) 46 v x j = h x j := fun v x j q => mm_upne' q
  have U2 : ∀ u v x j, ¬ (x = (40, 0, 0) ∧ j = 46) → mm_up (mm_up h (40, 0, 0) 46 u) (40, 0, 0) 46 v x j = h x j := fun u v x j q => by rw [mm_upne' q, mm_upne' q]
  have dg := ok.1
  have z := kk_nbB dg
  rw [r_290_e (hy := hy), b44, b45, ht]
  refine ⟨by omega, ?_⟩
  by_cases c0 : t = 47
  · unfold kk_nbs at dg
    rw [if_neg (by omega)] at dg
    have := dg.2.2 w (by omega) h0.2.1
    omega
  · rw [if_neg c0]
    by_cases c : t = 64
    · have sb : kk_nbs t w = w + 1 := by unfold kk_nbs; rw [if_pos (Or.inr c)]
      have c2 := ok.2 c
      rw [sb] at dg z c2
      rw [if_pos c, mm_wi (by omega) (by omega)]
      refine m288 hy ⟨by omega, by omega, by omega, by omega, by omega⟩ (fun _ => ?_) (fun nd => absurd dg nd)
      rw [mm_pI, r_290_5_12 (hy := hy), if_neg (by omega), mm_ups, mm_upj (by decide), b42]
      unfold kk_nbv at K
      rw [if_pos c, sb] at K
      rw [if_pos (by rw [mm_cmpl]; exact c2), r_290_7 (hvx3 := rfl) (hy := hy), if_neg (by omega), mm_ups, mm_wi (by omega) (by omega), r_290_9 (hy := hy), mm_upf (by decide)]
      exact ⟨by omega, K _ (by rw [mm_ups]) (U2 _ _)⟩
    · rw [if_neg c]
      by_cases c2 : t = 45
      · have sb : kk_nbs t w = w + 1 := by unfold kk_nbs; rw [if_pos (Or.inl c2)]
        rw [sb] at dg z
        rw [if_pos c2, mm_wi (by omega) (by omega)]
        refine m288 hy ⟨by omega, by omega, by omega, by omega, by omega⟩ (fun _ => ?_) (fun nd => absurd dg nd)
        unfold kk_nbv at K
        rw [if_neg c, if_pos c2, sb] at K
        rw [mm_pI, r_290_10_12 (hvx3 := rfl) (hy := hy), mm_ups, mm_Wi (by omega) (by omega)]
        exact K _ (by rw [mm_ups]) (U2 _ _)
      · have sb : kk_nbs t w = w := by unfold kk_nbs; rw [if_neg (by omega)]
        rw [sb] at dg z
        rw [if_neg c2]
        refine m288 hy ⟨by omega, by omega, by omega, by omega, by omega⟩ (fun _ => ?_) (fun nd => absurd dg nd)
        unfold kk_nbv at K
        rw [if_neg c, if_neg c2, sb] at K
        rw [mm_pI, r_290_11_7 (hvx3 := rfl) (hy := hy)]
        exact K _ (by rw [mm_ups]) (U _)
theorem m290n (hy : 5306 ≤ nx) {w f t n kd i : Int} (b44 : h (40, 0, 0) 44 = w) (b45 : h (40, 0, 0) 45 = f) (ht : h (67, 0, 0) w = t) (b42 : h (40, 0, 0) 42 = n) (h0 : 0 ≤ w ∧ w < f ∧ f ≤ 8000) (hn : 0 ≤ n ∧ n ≤ 1600) (hw : ¬ (t = 47 ∧ 0 < i))
    (nk : ¬ kk_nbo (h (67, 0, 0)) t n w f) : ∃ g, (∀ x j, ¬ (x = (40, 0, 0) ∧ j = 46) → g x j = h x j) ∧ ∀ Q : mm_V → mm_H → Prop, mm_Wp 290 (mm_blk 290 12) [zR (40, 0, 0), zI kd, zI i, zI t, zI 0] [] (mm_z g dh nx ns) Q → mm_Cl 290 [zR (40, 0, 0), zI kd, zI i] (mm_z h dh nx ns) Q := by
  have U : ∀ v x j, ¬ (x = (40, 0, 0) ∧ j = 46) → mm_up h (40, 0, 0) 46 v x j = h x j := fun v x j q => mm_upne' q
  have U2 : ∀ u v x j, ¬ (x = (40, 0, 0) ∧ j = 46) → mm_up (mm_up h (40, 0, 0) 46 u) (40, 0, 0) 46 v x j = h x j := fun u v x j q => by rw [mm_upne' q, mm_upne' q]
  by_cases c0 : t = 47
  · refine ⟨h, fun _ _ _ => rfl, fun Q q => ?_⟩
    rw [r_290_e (hy := hy), b44, b45, ht]
    refine ⟨by omega, ?_⟩
    rw [if_pos c0, if_neg (by omega), r_290_3 (hy := hy), r_290_4 (hvx3 := rfl) (hy := hy)]
    exact q
  · by_cases c : t = 64
    · have sb : kk_nbs t w = w + 1 := by unfold kk_nbs; rw [if_pos (Or.inr c)]
      refine ⟨mm_up h (40, 0, 0) 46 0, U 0, fun Q q => ?_⟩
      have bad : ∀ v, mm_Wp 290 (mm_blk 290 6) [zR (40, 0, 0), zI kd, zI i, zI t, zU] [] (mm_z (mm_up h (40, 0, 0) 46 v) dh nx ns) Q := fun v => by
        rw [r_290_6 (hy := hy), r_290_7 (hvx3 := rfl) (hy := hy), if_pos rfl, r_290_9 (hy := hy), mm_upup]
        exact q
      rw [r_290_e (hy := hy), b44, b45, ht]
      refine ⟨by omega, ?_⟩
      rw [if_neg c0, if_pos c, mm_wi (by omega) (by omega)]
      refine m288 hy ⟨by omega, by omega, by omega, by omega, by omega⟩ (fun dg => ?_) (fun nd v => ?_)
      · rw [mm_pI, r_290_5_12 (hy := hy), if_neg (by omega), mm_ups, mm_upj (by decide), b42]
        by_cases c2 : kk_dv (h (67, 0, 0)) (w + 1) (f - (w + 1)).toNat < n
        · exact absurd ⟨by rw [sb]; exact dg, fun _ => by rw [sb]; exact c2⟩ nk
        · rw [if_neg (by rw [mm_cmpl]; exact c2)]
          exact bad _
      · rw [mm_pI, r_290_5_12 (hy := hy), if_pos rfl]
        exact bad _
    · by_cases c2 : t = 45
      · have sb : kk_nbs t w = w + 1 := by unfold kk_nbs; rw [if_pos (Or.inl c2)]
        obtain ⟨v, hv⟩ := m288n (h := h) (dh := dh) (ns := ns) (a := w + 1) (b := f) (m := 18) hy ⟨by omega, by omega, by omega, by omega, by omega⟩ (fun dg => nk ⟨by rw [sb]; exact dg, fun k => absurd k c⟩)
        refine ⟨mm_up (mm_up h (40, 0, 0) 46 v) (40, 0, 0) 46 (mm_W (-v)), U2 _ _, fun Q q => ?_⟩
        rw [r_290_e (hy := hy), b44, b45, ht]
        refine ⟨by omega, ?_⟩
        rw [if_neg c0, if_neg c, if_pos c2, mm_wi (by omega) (by omega)]
        refine hv _ ?_
        rw [mm_pI, r_290_10_12 (hvx3 := rfl) (hy := hy), mm_ups]
        exact q
      · have sb : kk_nbs t w = w := by unfold kk_nbs; rw [if_neg (by omega)]
        obtain ⟨v, hv⟩ := m288n (h := h) (dh := dh) (ns := ns) (a := w) (b := f) (m := 18) hy ⟨by omega, by omega, by omega, by omega, by omega⟩ (fun dg => nk ⟨by rw [sb]; exact dg, fun k => absurd k c⟩)
        refine ⟨mm_up h (40, 0, 0) 46 v, U _, fun Q q => ?_⟩
        rw [r_290_e (hy := hy), b44, b45, ht]
        refine ⟨by omega, ?_⟩
        rw [if_neg c0, if_neg c, if_neg c2]
        refine hv _ ?_
        rw [mm_pI, r_290_11_7 (hvx3 := rfl) (hy := hy)]
        exact q
theorem s150 (hx : 5275 ≤ nx) {i ch v : Int} (a8 : h (8, 0, 0) 8 = v) (i0 : 0 ≤ i ∧ i < 5)
    (K1 : (ch = 105 → -2147483648 ≤ v ∧ v < 2147483648) → (ch = 116 → v = 0 ∨ v = 1) → Q (zI 1) (mm_z (mm_up h (12, 0, 0) i v) dh nx ns)) (K0 : ¬ ((ch = 105 → -2147483648 ≤ v ∧ v < 2147483648) ∧ (ch = 116 → v = 0 ∨ v = 1)) → Q (zI 0) (mm_z h dh nx ns)) :
    mm_Cl 150 [zR (8, 0, 0), zI i, zI ch] (mm_z h dh nx ns) Q := by
  have F : ∀ y x : Int, y = (if -2147483648 ≤ v ∧ v < 2147483648 then 1 else 0) → x = (if v = 0 ∨ v = 1 then 1 else 0) → mm_Wp 150 (mm_blk 150 5) [zR (8, 0, 0), zI i, zI ch, zI y, zU] [zI x] (mm_z h dh nx ns) Q := by
    intro y x ey ex
    have T : ∀ x3, ((ch = 105 → -2147483648 ≤ v ∧ v < 2147483648)) → mm_Wp 150 (mm_blk 150 6) [zR (8, 0, 0), zI i, zI ch, x3, zI x] [] (mm_z h dh nx ns) Q := fun x3 q => by
      rw [r_150_6 (hx := hx)]
      by_cases c : ch = 116
      · rw [if_pos c]
        by_cases c2 : v = 0 ∨ v = 1
        · rw [if_neg (by rw [ex, if_pos c2]; omega), r_150_8 (hx := hx), a8]
          exact ⟨i0, K1 q (fun _ => c2)⟩
        · rw [if_pos (by rw [ex, if_neg c2]), r_150_7 (hx := hx)]
          exact K0 (fun k => c2 (k.2 c))
      · rw [if_neg c, r_150_8 (hx := hx), a8]
        exact ⟨i0, K1 q (fun k => absurd k c)⟩
    rw [r_150_5 (hx := hx), if_neg (by omega), if_pos i0.2]
    by_cases c : ch = 105
    · rw [if_pos c]
      by_cases c2 : -2147483648 ≤ v ∧ v < 2147483648
      · rw [if_neg (by rw [ey, if_pos c2]; omega)]
        exact T _ (fun _ => c2)
      · rw [if_pos (by rw [ey, if_neg c2]), r_150_7 (hx := hx)]
        exact K0 (fun k => c2 (k.1 c))
    · rw [if_neg c]
      exact T _ (fun k => absurd k c)
  have E : ∀ y : Int, y = (if -2147483648 ≤ v ∧ v < 2147483648 then 1 else 0) → mm_Wp 150 (mm_blk 150 2) [zR (8, 0, 0), zI i, zI ch, zU, zU] [zI y] (mm_z h dh nx ns) Q := by
    intro y ey
    rw [r_150_2 (hx := hx), a8]
    by_cases c : v = 0
    · rw [if_pos (by rw [mm_cmp0]; exact c), r_150_3 (hx := hx)]
      exact F y 1 ey (by rw [if_pos (Or.inl c)])
    · rw [if_neg (by rw [mm_cmp0]; exact c)]
      by_cases c2 : v = 1
      · rw [if_pos (by rw [mm_cmp0]; exact c2), r_150_3 (hx := hx)]
        exact F y 1 ey (by rw [if_pos (Or.inr c2)])
      · rw [if_neg (by rw [mm_cmp0]; exact c2)]
        exact F y 0 ey (by rw [if_neg (by omega)])
  rw [r_150_e (hx := hx), a8]
  have W : v = mm_w v ↔ (-2147483648 ≤ v ∧ v < 2147483648) := by unfold mm_w; omega
  by_cases c : v = mm_w v
  · rw [if_pos (by rw [mm_cmp0]; exact c)]
    exact E 1 (by rw [if_pos (W.1 c)])
  · rw [if_neg (by rw [mm_cmp0]; exact c)]
    exact E 0 (by rw [if_neg (fun k => c (W.2 k))])
end
section
variable {A B A2 B2 : mm_Id → Int → Int} {d d2 dm : Int → Int} {nx ns b b2 z n : Int} {G : mm_V → (mm_Id → Int → Int) → (Int → Int) → (mm_Id → Int → Int) → Prop} {KC KM : mm_V → mm_H → (mm_V → mm_H → Prop) → Prop}
/-- which letter goes with which kind -/
def kk_lk2 (ch kd : Int) : Prop := ch = 105 ∧ kd = 1 ∨ ch = 108 ∧ kd = 2 ∨ ch = 116 ∧ kd = 3
def kk_lko (ch v : Int) : Prop := (ch = 105 → -2147483648 ≤ v ∧ v < 2147483648) ∧ (ch = 116 → v = 0 ∨ v = 1)
theorem kk_giveJ (hy : 5306 ≤ nx) {c m i kd v e t x6 : Int} {v4 v1 u4 u7 : mm_V} (hc : 0 ≤ c ∧ c < 47) (a8 : A (8, 0, 0) 8 = v) (b46 : B (40, 0, 0) 46 = v) (i0 : 0 ≤ i ∧ i < 5) (im : i < mm_sl (2 * c + 1)) (hl : kk_lk2 (mm_sc (2 * c + 1) i) kd)
    (K1 : kk_lko (mm_sc (2 * c + 1) i) v → kk_J nx ns dm G (fun Q => mm_Wp 76 (mm_blk 76 1) [zR (1, 0, 0), zR (92, c, 0), zI m, zI (i + 1), zI 1] [] (mm_z (mm_up A (12, 0, 0) i v) d nx ns) (fun r h => KC r h Q)) (fun Q => mm_Wp 292 (mm_blk 292 3) [zR (40, 0, 0), v1, zI e, zI c, u4, zI (i + 1), zI (mm_shr x6 2), u7] [] (mm_z (mm_up B (70, 0, 0) i v) dm nx ns) (fun r h => KM r h Q)))
    (K0 : kk_J nx ns dm G (fun Q => KC (zI (i + 1)) (mm_z A d nx ns) Q) (fun Q => KM (zI (i + 1)) (mm_z B dm nx ns) Q)) :
    kk_J nx ns dm G (fun Q => mm_Wp 76 (mm_blk 76 4) [zR (1, 0, 0), zR (92, c, 0), zI m, zI i, v4] [zI 1] (mm_z A d nx ns) (fun r h => KC r h Q)) (fun Q => mm_Wp 290 (mm_blk 290 12) [zR (40, 0, 0), zI kd, zI i, zI t, zI 1] [] (mm_z B dm nx ns) (fun r h3 => mm_Wp 292 (bk_292_3.drop 14) [zR (40, 0, 0), v1, zI e, zI c, u4, zI i, zI x6, u7] (mm_push r []) h3 (fun r h => KM r h Q))) := by
  have hx : 5275 ≤ nx := by omega
  have g2 : mm_isG (2 * c + 1) := ⟨by omega, by omega⟩
  obtain ⟨ch, hch⟩ : ∃ ch, ch = mm_sc (2 * c + 1) i := ⟨_, rfl⟩
  rw [← hch] at hl K1
  by_cases ok : kk_lko ch v
  · refine kk_J2 (fun Q q => ?_) (fun Q q => ?_) (K1 ok)
    · rw [r_76_4 (htx1 := hc) (hx := hx), if_neg (by omega)]
      refine s303 hx g2 i0.1 im ?_
      show mm_Wp 76 (bk_76_4.drop 10) [zR (1, 0, 0), zR (92, c, 0), zI m, zI i, zI 1] [zI (mm_sc (2 * c + 1) i), zI i, zR (8, 0, 0)] _ _
      rw [r_76_4_10 (htx1 := hc) (hx := hx), ← hch]
      refine s150 hx a8 i0 (fun _ _ => ?_) (fun k => absurd ok k)
      rw [mm_pI, r_76_4_11 (htx1 := hc) (hx := hx), if_neg (by omega), mm_wi (by omega) (by omega)]
      exact q
    · have E : mm_Wp 290 (mm_blk 290 14) [zR (40, 0, 0), zI kd, zI i, zI t, zI 1] [] (mm_z B dm nx ns) (fun r h3 => mm_Wp 292 (bk_292_3.drop 14) [zR (40, 0, 0), v1, zI e, zI c, u4, zI i, zI x6, u7] (mm_push r []) h3 (fun r h => KM r h Q)) := by
        rw [r_290_14 (hy := hy), r_290_16 (hy := hy)]
        refine ⟨Or.inr rfl, ?_⟩
        rw [mm_pI, r_292_3_14 (hy := hy), if_neg (by omega), mm_wi (by omega) (by omega), b46]
        exact ⟨i0, q⟩
      rw [r_290_12 (hy := hy), if_neg (by omega)]
      rcases hl with ⟨l1, l2⟩ | ⟨l1, l2⟩ | ⟨l1, l2⟩
      · rw [if_neg (by omega), if_pos l2, b46]
        refine m174y hy (by have := ok.1 l1; omega) ?_
        rw [mm_pI, r_290_12_13 (hy := hy), if_neg (by omega)]
        exact E
      · rw [if_pos l2]
        exact E
      · rw [if_neg (by omega), if_neg (by omega), b46]
        refine m174y hy (by have := ok.2 l1; omega) ?_
        rw [mm_pI, r_290_13_5 (hy := hy), if_neg (by omega)]
        exact E
  · refine kk_J2 (fun Q q => ?_) (fun Q q => ?_) K0
    · rw [r_76_4 (htx1 := hc) (hx := hx), if_neg (by omega)]
      refine s303 hx g2 i0.1 im ?_
      show mm_Wp 76 (bk_76_4.drop 10) [zR (1, 0, 0), zR (92, c, 0), zI m, zI i, zI 1] [zI (mm_sc (2 * c + 1) i), zI i, zR (8, 0, 0)] _ _
      rw [r_76_4_10 (htx1 := hc) (hx := hx), ← hch]
      refine s150 hx a8 i0 (fun k1 k2 => absurd ⟨k1, k2⟩ ok) (fun k => ?_)
      rw [mm_pI, r_76_4_11 (htx1 := hc) (hx := hx), if_pos rfl, r_76_5 (hx := hx), mm_wi (by omega) (by omega)]
      exact q
    · have E : mm_Wp 290 (mm_blk 290 15) [zR (40, 0, 0), zI kd, zI i, zI t, zI 1] [] (mm_z B dm nx ns) (fun r h3 => mm_Wp 292 (bk_292_3.drop 14) [zR (40, 0, 0), v1, zI e, zI c, u4, zI i, zI x6, u7] (mm_push r []) h3 (fun r h => KM r h Q)) := by
        rw [r_290_15 (hy := hy), r_290_16 (hy := hy)]
        refine ⟨Or.inl rfl, ?_⟩
        rw [mm_pI, r_292_3_14 (hy := hy), if_pos rfl, r_292_4 (hy := hy), mm_wi (by omega) (by omega)]
        exact q
      rw [r_290_12 (hy := hy), if_neg (by omega)]
      rcases hl with ⟨l1, l2⟩ | ⟨l1, l2⟩ | ⟨l1, l2⟩
      · rw [if_neg (by omega), if_pos l2, b46]
        refine m174n hy (fun k => ok ⟨fun _ => by omega, fun k2 => by omega⟩) ?_
        rw [mm_pI, r_290_12_13 (hy := hy), if_pos rfl]
        exact E
      · exact absurd ⟨fun k => by omega, fun k => by omega⟩ ok
      · rw [if_neg (by omega), if_neg (by omega), b46]
        refine m174n hy (fun k => ok ⟨fun _ => by omega, fun k2 => by omega⟩) ?_
        rw [mm_pI, r_290_13_5 (hy := hy), if_pos rfl]
        exact E
/-- the same where no number is -/
theorem kk_badJ (hy : 5306 ≤ nx) {c m i kd e t x6 : Int} {v4 v1 u4 u7 : mm_V} (hc : 0 ≤ c ∧ c < 47) (i0 : 0 ≤ i ∧ i < 5)
    (K0 : kk_J nx ns dm G (fun Q => KC (zI (i + 1)) (mm_z A d nx ns) Q) (fun Q => KM (zI (i + 1)) (mm_z B dm nx ns) Q)) :
    kk_J nx ns dm G (fun Q => mm_Wp 76 (mm_blk 76 4) [zR (1, 0, 0), zR (92, c, 0), zI m, zI i, v4] [zI 0] (mm_z A d nx ns) (fun r h => KC r h Q)) (fun Q => mm_Wp 290 (mm_blk 290 12) [zR (40, 0, 0), zI kd, zI i, zI t, zI 0] [] (mm_z B dm nx ns) (fun r h3 => mm_Wp 292 (bk_292_3.drop 14) [zR (40, 0, 0), v1, zI e, zI c, u4, zI i, zI x6, u7] (mm_push r []) h3 (fun r h => KM r h Q))) := by
  have hx : 5275 ≤ nx := by omega
  refine kk_J2 (fun Q q => ?_) (fun Q q => ?_) K0
  · rw [r_76_4 (htx1 := hc) (hx := hx), if_pos rfl, r_76_5 (hx := hx), mm_wi (by omega) (by omega)]
    exact q
  · rw [r_290_12 (hy := hy), if_pos rfl, r_290_15 (hy := hy), r_290_16 (hy := hy)]
    refine ⟨Or.inl rfl, ?_⟩
    rw [mm_pI, r_292_3_14 (hy := hy), if_pos rfl, r_292_4 (hy := hy), mm_wi (by omega) (by omega)]
    exact q
end
