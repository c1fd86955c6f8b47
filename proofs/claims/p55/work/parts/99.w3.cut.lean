/-! the calls of both: cut -/
section
variable {h : mm_Id → Int → Int} {dh : Int → Int} {nx ns : Int} {Q : mm_V → mm_H → Prop}
/-- rows let go: no more are used -/
theorem kk_usd {t m : Int} {c g : mm_Id → Int → Int} (o : ∀ t2 n2 p2, ¬ (t2 = t ∧ n2 = m) → g (27, t2, n2) p2 = c (27, t2, n2) p2) (s : ∀ p, 0 ≤ p → p < 36 → g (27, t, m) p = c (27, t, m) p ∨ g (27, t, m) p = 0) : kk_us g ≤ kk_us c := by
  have N : ∀ u r, 1 ≤ r → kc_N g u r ≤ kc_N c u r := fun u r r1 => sm_le 37 (fun v _ _ => sm_le 36 (fun p p0 p1 => by
    by_cases q : u = t ∧ v = m
    · rw [q.1, q.2]
      rcases s p (by omega) (by omega) with e | e
      · rw [e]; exact Int.le_refl _
      · rw [e, if_neg (by omega)]; split <;> omega
    · rw [o u v p q]; exact Int.le_refl _))
  refine sm_le 1701 (fun r _ _ => ?_)
  by_cases r1 : 1 ≤ (r : Int)
  · have a : kc_A g r ≤ kc_A c r := sm_le 13 (fun u _ _ => N u r r1)
    have k : kc_K g r ≤ kc_K c r := by
      have k1 : mm_sm (fun t => kc_N g (13 + t) r) 5 ≤ mm_sm (fun t => kc_N c (13 + t) r) 5 := sm_le 5 (fun u _ _ => N (13 + u) r r1)
      have k2 := N 26 r r1
      have k3 := N 27 r r1
      unfold kc_K
      omega
    split <;> split <;> omega
  · rw [if_neg (fun q => r1 q.1), if_neg (fun q => r1 q.1)]; exact Int.le_refl _
/-- pieces of what is cut off are counted -/
theorem s9c (hx : 5275 ≤ nx) {t m w x3 x6 x8 N : Int} {vx1 vx2 : mm_V} (ht : mm_isD t) (hm : mm_isN m) (hw : 0 ≤ w) (hw2 : w ≤ 36) (hN : -100 ≤ N ∧ N ≤ 100) :
    ∀ (k : Nat) (j : Int), 36 - j = k → w ≤ j → mm_Wp 9 (mm_blk 9 11) [zR (1, 0, 0), vx1, vx2, zI x3, zR (24, t, m), zR (31, t, 0), zI x6, zI w, zI x8, zI (N - kk_sf (fun p => 1 - kk_na h t m p) w 36), zI 36] [] (mm_z h dh nx ns) Q →
      mm_Wp 9 (mm_blk 9 11) [zR (1, 0, 0), vx1, vx2, zI x3, zR (24, t, m), zR (31, t, 0), zI x6, zI w, zI x8, zI (N - kk_sf (fun p => 1 - kk_na h t m p) w j), zI j] [] (mm_z h dh nx ns) Q := by
  have hT : mm_isT t := mm_T13 ⟨ht.1, by have := ht.2; omega⟩
  intro k
  induction k with
  | zero =>
    intro j e1 e2 K
    rw [show j = 36 by omega]; exact K
  | succ k ih =>
    intro j e1 e2 K
    have b1 := kk_sfb (f := fun p => 1 - kk_na h t m p) (lo := w) (j - w).toNat (fun p _ _ => by have := kk_nab h t m p; omega)
    rw [show w + ((j - w).toNat : Int) = j by omega] at b1
    have n1 := kk_nab h t m j
    rw [r_9_11 (htx4 := hT) (hnx4 := hm) (htx5 := ht) (hx := hx), if_pos (by omega)]
    refine ⟨by omega, s126 hx (fun q hq => ?_)⟩
    have q1 : q = 1 - kk_na h t m j := by rw [hq]; unfold kk_na; split <;> rfl
    rw [mm_pI, r_9_11_11 (htx4 := hT) (hnx4 := hm) (htx5 := ht) (hx := hx)]
    have fin : ∀ v, v = 1 - kk_na h t m j → mm_Wp 9 (mm_blk 9 13) [zR (1, 0, 0), vx1, vx2, zI x3, zR (24, t, m), zR (31, t, 0), zI x6, zI w, zI x8, zI (N - kk_sf (fun p => 1 - kk_na h t m p) w j), zI j] [zI v, zI (N - kk_sf (fun p => 1 - kk_na h t m p) w j)] (mm_z h dh nx ns) Q := fun v hv => by
      have e3 := kk_sf1 (fun p => 1 - kk_na h t m p) e2
      rw [r_9_13 (htx4 := hT) (hnx4 := hm) (htx5 := ht) (hx := hx), hv, mm_wi (z := N - kk_sf (fun p => 1 - kk_na h t m p) w j - (1 - kk_na h t m j)) (by omega) (by omega), mm_wi (z := j + 1) (by omega) (by omega), show N - kk_sf (fun p => 1 - kk_na h t m p) w j - (1 - kk_na h t m j) = N - kk_sf (fun p => 1 - kk_na h t m p) w (j + 1) by omega]
      exact ih (j + 1) (by omega) (by omega) K
    split
    · exact fin 0 (by omega)
    · exact fin 1 (by omega)
end
theorem c_9 {b : Int} {h : mm_Id → Int → Int} {dh : Int → Int} {nx ns : Int} (hy : 10581 ≤ nx) (hc : kk_core b h dh) (hb : b + 1 ≤ 1000000) {t n k : Int} (ht : -2147483648 ≤ t ∧ t < 2147483648) (hn : -2147483648 ≤ n ∧ n < 2147483648) (hk : -2147483648 ≤ k ∧ k < 2147483648) : kk_call 9 222 [zI t, zI n, zI k] b h dh nx ns kk_SI := by
  unfold kk_call
  have hx : 5275 ≤ nx := by omega
  have hc0 : kk_core b (mm_up h (40, 0, 0) 0 0) dh := kk_core0 hc
  have fin : ∀ v, kk_SI (zI v) → mm_Cl 222 [zR (40, 0, 0), zI t, zI n, zI k] (mm_z h dh nx ns) (fun (r2 : mm_V) (h2 : mm_H) => r2 = zI v ∧ ∃ g2, h2 = mm_z g2 dh nx ns ∧ kk_core (b + 1) g2 dh ∧ ∀ x j, kk_scr x j → g2 x j = h x j) →
      (fun (r : mm_V) (h1 : mm_H) => kk_SI r ∧ ∃ g dh1, h1 = mm_z g dh1 nx ns ∧ mm_Cl 222 [zR (40, 0, 0), zI t, zI n, zI k] (mm_z g dh1 nx ns) (fun r2 h2 => r2 = r ∧ ∃ g2, h2 = mm_z g2 dh1 nx ns ∧ kk_core (b + 1) g2 dh1 ∧ ∀ x j, kk_scr x j → g2 x j = h x j)) (zI v) (mm_z h dh nx ns) :=
    fun v h1 h2 => ⟨h1, h, dh, rfl, h2⟩
  have mfin : ∀ v w : Int, w = v → (fun (r2 : mm_V) (h2 : mm_H) => r2 = zI v ∧ ∃ g2, h2 = mm_z g2 dh nx ns ∧ kk_core (b + 1) g2 dh ∧ ∀ x j, kk_scr x j → g2 x j = h x j) (zI w) (mm_z (mm_up h (40, 0, 0) 0 0) dh nx ns) :=
    fun v w e => ⟨by rw [e], _, rfl, kk_coreS hb hc0, fun x j hs => kk_scr0 hs⟩
  rw [r_9_e (hx := hx)]
  refine s55 hx (kk_nmC hc) ht.1 ht.2 (fun s hs => ?_) (fun hs => ?_)
  · have hsT := mm_T13 hs.1
    have hs13 := hs.1
    rw [mm_pR, r_9_0_4a (hty0 := hsT) (hx := hx)]
    refine s56 hsT hx (fun h1n h2n => ?_) (fun hn0 => ?_)
    · have hnN : mm_isN n := ⟨by omega, h1n.2⟩
      have NWn := kk_NWC hc hsT h1n
      have h3n : 0 < h (24, s, n) 0 := by
        have := NWn.1.1
        omega
      rw [mm_pR, r_9_0_6a (hty0 := hsT) (hny0 := hnN) (hx := hx)]
      have bad : ¬ (0 ≤ k ∧ k ≤ 2160) → mm_Wp 9 (mm_blk 9 2) [zR (1, 0, 0), zI t, zI n, zI k, zR (24, s, n), zU, zU, zU, zU, zU, zU] [] (mm_z h dh nx ns) (fun (r : mm_V) (h1 : mm_H) => kk_SI r ∧ ∃ g dh1, h1 = mm_z g dh1 nx ns ∧ mm_Cl 222 [zR (40, 0, 0), zI t, zI n, zI k] (mm_z g dh1 nx ns) (fun r2 h2 => r2 = r ∧ ∃ g2, h2 = mm_z g2 dh1 nx ns ∧ kk_core (b + 1) g2 dh1 ∧ ∀ x j, kk_scr x j → g2 x j = h x j)) := fun w => by
        rw [r_9_2 (hx := hx)]
        refine fin (-2) ⟨_, rfl, by omega, by omega⟩ ?_
        have ek : ∀ (x : mm_Id) (j : Int), 40 ≤ x.1 → h x j = h x j := fun _ _ _ => rfl
        have lk := kk_lkr h
        have f29 : mm_up h (40, 0, 0) 0 0 (40, 0, 0) 29 = h (1, 0, 0) 12 := (mm_upj (by decide)).trans ((ek _ _ (by simp)).trans (kk_cal hc).1.symm)
        have f41n : mm_up h (40, 0, 0) 0 0 (41, 0, 0) (36 * s + n - 1) = h (24, s, n) 0 := by rw [mm_upf (by decide)]; exact (ek _ _ (by simp)).trans (kk_nf hc (by omega) h1n).1
        have f44n : mm_up h (40, 0, 0) 0 0 (44, 0, 0) (36 * s + n - 1) = h (24, s, n) 6 := by rw [mm_upf (by decide)]; exact (ek _ _ (by simp)).trans (kk_nf hc (by omega) h1n).2.1
        have f49n : mm_up h (40, 0, 0) 0 0 (49, 0, 0) (36 * s + n - 1) = h (24, s, n) 11 := by rw [mm_upf (by decide)]; exact (ek _ _ (by simp)).trans (kk_nf hc (by omega) h1n).2.2.1
        have f42n : mm_up h (40, 0, 0) 0 0 (42, 0, 0) (36 * s + n - 1) = h (24, s, n) 1 := by rw [mm_upf (by decide)]; exact (ek _ _ (by simp)).trans ((kk_nf hc (by omega) h1n).2.2.2 h2n).1
        have f47n : mm_up h (40, 0, 0) 0 0 (47, 0, 0) (36 * s + n - 1) = h (24, s, n) 2 := by rw [mm_upf (by decide)]; exact (ek _ _ (by simp)).trans ((kk_nf hc (by omega) h1n).2.2.2 h2n).2.1
        have f48n : mm_up h (40, 0, 0) 0 0 (48, 0, 0) (36 * s + n - 1) = h (24, s, n) 3 := by rw [mm_upf (by decide)]; exact (ek _ _ (by simp)).trans ((kk_nf hc (by omega) h1n).2.2.2 h2n).2.2
        rw [r_222_e (hy := hy)]
        refine m181y hy hc (kk_lku (by decide) lk) ht hs ?_
        rw [mm_pI, r_222_0_6 (hy := hy)]
        refine m210y hy (by omega) h1n (by rw [f41n]; exact h3n) ?_
        rw [mm_pI, r_222_0_11 (hy := hy), if_neg (by decide)]
        refine m174n hy (by omega) ?_
        rw [mm_pI, r_222_1_5 (hy := hy), if_pos rfl]
        exact mfin _ _ rfl
      by_cases w3 : k < 0
      · rw [if_pos w3]; exact bad (by omega)
      rw [if_neg w3]
      by_cases w4 : 2160 < k
      · rw [if_pos w4]; exact bad (by omega)
      rw [if_neg w4]
      refine s53t hx (kk_nmC hc) (fun s5 s50 s51 hs5 => ?_) (fun hs5 => ?_)
      · have e5 := (kk_tp1 hs5 hs).symm
        subst e5
        have hD : mm_isD s := ⟨s50, s51⟩
        have hno := kk_tpp hs
        rw [mm_pR, r_9_3_3a (htx4 := hsT) (hnx4 := hnN) (hty0 := hD) (hx := hx)]
        by_cases hk1 : h (24, s, n) 0 = 1
        · rw [if_pos hk1]
          refine s60 hsT hnN hx (fun wp => ?_) (fun wp => ?_)
          · obtain ⟨lo, hlo⟩ : ∃ q, q = k / 60 := ⟨_, rfl⟩
            obtain ⟨w, hw⟩ : ∃ q, q = (k + 59) / 60 := ⟨_, rfl⟩
            obtain ⟨hi, hU⟩ : ∃ q, kk_cu h s n k lo q := by
              by_cases q : k < h (24, s, n) 1 ∧ 0 < k % 60 ∧ h (27, s, n) lo ≠ 0
              · exact ⟨lo + 1, Or.inl ⟨rfl, q⟩⟩
              · exact ⟨lo, Or.inr ⟨rfl, q⟩⟩
            have hk0 : 0 ≤ k ∧ k ≤ 2160 := ⟨by omega, by omega⟩
            have w1s := NWn.2.2.2.2.2.2.2.2.2.2.1.1 hk1
            have hU2 : hi = lo + 1 ∧ lo < w ∧ h (27, s, n) lo ≠ 0 ∨ hi = lo ∧ (h (24, s, n) 1 ≤ k ∨ k % 60 = 0 ∨ h (27, s, n) lo = 0) := by
              rcases hU with q | q
              · exact Or.inl ⟨q.1, by omega, q.2.2.2⟩
              · refine Or.inr ⟨q.1, ?_⟩
                by_cases q1 : h (24, s, n) 1 ≤ k
                · exact Or.inl q1
                · by_cases q2 : k % 60 = 0
                  · exact Or.inr (Or.inl q2)
                  · exact Or.inr (Or.inr (Classical.byContradiction (fun q3 => q.2 ⟨by omega, by omega, q3⟩)))
            have hil : lo ≤ hi ∧ hi ≤ lo + 1 ∧ hi ≤ w ∧ hi ≤ 36 ∧ 0 ≤ lo ∧ w ≤ 36 := by rcases hU2 with q | q <;> omega
            have nope : ¬ (kk_cnt (kk_lb h (-1)) + kk_sf (kk_na h s n) lo hi - kk_sf (fun p => 1 - kk_na h s n p) w 36 ≤ 400) → (fun (r : mm_V) (h1 : mm_H) => kk_SI r ∧ ∃ g dh1, h1 = mm_z g dh1 nx ns ∧ mm_Cl 222 [zR (40, 0, 0), zI t, zI n, zI k] (mm_z g dh1 nx ns) (fun r2 h2 => r2 = r ∧ ∃ g2, h2 = mm_z g2 dh1 nx ns ∧ kk_core (b + 1) g2 dh1 ∧ ∀ x j, kk_scr x j → g2 x j = h x j)) (zI (-4)) (mm_z h dh nx ns) := fun nr => by
              refine fin (-4) ⟨_, rfl, by omega, by omega⟩ ?_
              have ek : ∀ (x : mm_Id) (j : Int), 40 ≤ x.1 → h x j = h x j := fun _ _ _ => rfl
              have lk := kk_lkr h
              have f29 : mm_up h (40, 0, 0) 0 0 (40, 0, 0) 29 = h (1, 0, 0) 12 := (mm_upj (by decide)).trans ((ek _ _ (by simp)).trans (kk_cal hc).1.symm)
              have f41n : mm_up h (40, 0, 0) 0 0 (41, 0, 0) (36 * s + n - 1) = h (24, s, n) 0 := by rw [mm_upf (by decide)]; exact (ek _ _ (by simp)).trans (kk_nf hc (by omega) h1n).1
              have f44n : mm_up h (40, 0, 0) 0 0 (44, 0, 0) (36 * s + n - 1) = h (24, s, n) 6 := by rw [mm_upf (by decide)]; exact (ek _ _ (by simp)).trans (kk_nf hc (by omega) h1n).2.1
              have f49n : mm_up h (40, 0, 0) 0 0 (49, 0, 0) (36 * s + n - 1) = h (24, s, n) 11 := by rw [mm_upf (by decide)]; exact (ek _ _ (by simp)).trans (kk_nf hc (by omega) h1n).2.2.1
              have f42n : mm_up h (40, 0, 0) 0 0 (42, 0, 0) (36 * s + n - 1) = h (24, s, n) 1 := by rw [mm_upf (by decide)]; exact (ek _ _ (by simp)).trans ((kk_nf hc (by omega) h1n).2.2.2 h2n).1
              have f47n : mm_up h (40, 0, 0) 0 0 (47, 0, 0) (36 * s + n - 1) = h (24, s, n) 2 := by rw [mm_upf (by decide)]; exact (ek _ _ (by simp)).trans ((kk_nf hc (by omega) h1n).2.2.2 h2n).2.1
              have f48n : mm_up h (40, 0, 0) 0 0 (48, 0, 0) (36 * s + n - 1) = h (24, s, n) 3 := by rw [mm_upf (by decide)]; exact (ek _ _ (by simp)).trans ((kk_nf hc (by omega) h1n).2.2.2 h2n).2.2
              rw [r_222_e (hy := hy)]
              refine m181y hy hc (kk_lku (by decide) lk) ht hs ?_
              rw [mm_pI, r_222_0_6 (hy := hy)]
              refine m210y hy (by omega) h1n (by rw [f41n]; exact h3n) ?_
              rw [mm_pI, r_222_0_11 (hy := hy), if_neg (by decide)]
              refine m174y hy (by omega) ?_
              rw [mm_pI, r_222_1_5 (hy := hy), if_neg (by decide)]
              rw [if_pos s51]
              refine m177y hy (by omega) h1n f41n hk1 ?_
              rw [mm_pI, r_222_2_7 (hy := hy), if_neg (by decide)]
              refine m203y hy (by omega) h1n f29 f47n f48n wp ?_
              rw [mm_pI]
              refine m222r hy hc ⟨s50, s51⟩ hno h1n hk1 hk0 hlo hw hU (fun x j q q2 => by rw [mm_upne' q2]) (fun G c2 v7 IG eG I => ?_)
              have eX : ∀ (f : Nat) j, f = 41 ∨ f = 43 ∨ f = 47 ∨ f = 57 → mm_up c2 (42, 0, 0) (36 * s + n - 1) k (f, 0, 0) j = c2 (f, 0, 0) j := fun f j hf => by rw [mm_upf (by omega)]
              have e59 : ∀ j, mm_up c2 (42, 0, 0) (36 * s + n - 1) k (59, 0, 0) j = h (59, 0, 0) j := fun j => by
                rw [mm_upf (by decide)]
                exact (I.2.2.2.2.2.2.1 _ _ (by simp) (by simp) (by simp) (by simp)).trans ((kk_Djn (by simp)).trans (IG.1 _ _ (by decide) (kk_sx6 (by omega)) (by decide) (by simp)))
              refine m222d hy hc ⟨s50, s51⟩ hno h1n hk1 hk0 hlo hw hU IG I eX e59 (fun gm eg y => absurd y nr) (fun gm eg y => ?_)
              have n43 : ∀ (x : mm_Id) j u v, ¬ kk_sx s x j → 0 ≤ u → v ≤ 36 → ¬ (x = (43, 0, 0) ∧ 36 * (36 * s + n - 1) + u ≤ j ∧ j < 36 * (36 * s + n - 1) + v) := fun x j u v q1 u0 v0 y => q1 ⟨n, h1n.1, h1n.2, Or.inr (Or.inl ⟨by rw [y.1], by have := y.2; omega⟩)⟩
              have frX : ∀ (x : mm_Id) j, ¬ kk_sx s x j → x.1 ≠ 54 → x.1 ≠ 55 → x.1 ≠ 56 → ¬ (x = (40, 0, 0) ∧ (j = 0 ∨ j = 18)) → gm x j = G x j := fun x j q1 q2 q3 q4 q5 => by
                rw [eg x j q4, mm_upne' (fun v => q1 ⟨n, h1n.1, h1n.2, Or.inl ⟨by rw [v.1]; simp [kk_mf], v.2⟩⟩)]
                exact (I.2.2.2.2.2.2.1 x j (fun v => q3 (by rw [v])) (fun v => q5 ⟨v.1, Or.inr v.2⟩) (fun v => q2 (by rw [v])) (n43 x j lo hi q1 (by omega) (by omega))).trans (kk_Djn (n43 x j w 36 q1 (by omega) (by omega)))
              have frS : ∀ (x : mm_Id) j, x.1 < 40 ∨ kk_scr x j → gm x j = (mm_up h (40, 0, 0) 0 0) x j := fun x j q => by
                have n0 : ¬ (41 ≤ x.1 ∧ x.1 ≤ 56) := by
                  rcases q with q | q
                  · omega
                  · unfold kk_scr at q
                    rcases q with q | q | ⟨q, _⟩ | q
                    · omega
                    · omega
                    · rw [q]; simp
                    · omega
                have n1 : ¬ (x = (40, 0, 0) ∧ (j = 0 ∨ j = 18)) := by
                  rintro ⟨v, v2⟩
                  rcases q with q | q
                  · rw [v] at q; simp at q
                  · unfold kk_scr at q
                    rw [v] at q
                    simp at q
                    omega
                have n2 : ∀ a, ¬ kk_sx a x j := fun a v => by have r := kk_sxr v; omega
                rw [frX x j (n2 s) (by omega) (by omega) (by omega) n1]
                exact eG x j (n2 28)
              have w28 : ∀ v, 1 ≤ v → v < 37 → kk_mw G (36 * 28 + v - 1) := fun v v0 v1 => (kk_MWcp (IG.2 v v0 v1) (kk_MWC hc (s := s) (n := v) (by omega) ⟨v0, v1⟩)).1
              refine m179 hy (by omega) (by omega) (by omega) (fun v v0 v1 => ?_) (fun g3 mS mF => ?_)
              · unfold kk_mw
                have f : ∀ f : Nat, kk_mf f → f ≠ 42 → gm (f, 0, 0) (36 * 28 + v - 1) = G (f, 0, 0) (36 * 28 + v - 1) := fun f hf q => by
                  have hf2 := hf
                  unfold kk_mf at hf2
                  exact frX _ _ (kk_sxd (s := 28) (by omega) ⟨v, v0, v1, Or.inl ⟨hf, rfl⟩⟩) (by show f ≠ 54; omega) (by show f ≠ 55; omega) (by show f ≠ 56; omega) (by rintro ⟨y, _⟩; simp at y; omega)
                rw [f 53 (by simp [kk_mf]) (by decide), f 44 kk_f44 (by decide), f 49 kk_f49 (by decide)]
                exact w28 v v0 v1
              rw [mm_pU, r_222_8_13 (hy := hy)]
              have I1 := I.1
              refine ⟨rfl, g3, rfl, kk_coreS hb (kk_rsN hc ⟨s50, s51⟩ hno IG (fun x j q => ?_) frX (fun c k2 q c0 c1 k0 k1 => ?_) (fun c c0 c1 q => ?_) ?_ mS mF), fun x j q => ?_⟩
              · rw [eG x j (fun v => by have r := kk_sxr v; omega)]; exact mm_upne' (by rintro ⟨v, _⟩; rw [v] at q; simp at q)
              · rw [eg _ _ (by decide), mm_upf (by decide), I.2.2.2.2.2.1 c k2 k0 k1 (fun p p0 p2 => kk_RDn (p := p) ⟨s50, by omega⟩ h1n (by omega) (by omega) IG I p0 p2 q)]
                exact kk_Djn (by simp)
              · rw [eg _ _ (by decide), mm_upf (by decide)]
                exact I1.1 c c0 c1 (kk_RDa ⟨s50, by omega⟩ h1n (by omega) (by omega) (by omega) (by omega) IG I q)
              · rw [eg _ _ (by decide), mm_upf (by decide)]; exact I1.2
              · have n2 : ¬ kk_sx s x j := fun v => by
                  have r := kk_sxr v
                  unfold kk_scr at q
                  rcases q with q | q | ⟨q, _⟩ | q
                  · omega
                  · omega
                  · rw [q] at r; simp at r
                  · omega
                rw [mF x j n2, frS x j (Or.inr q)]; exact kk_scr0 q
            have yes : kk_cnt (kk_lb h (-1)) + kk_sf (kk_na h s n) lo hi - kk_sf (fun p => 1 - kk_na h s n p) w 36 ≤ 400 → ∀ (c0 c g : mm_Id → Int → Int) (v8 v9 v10 : mm_V), (∀ p, 0 ≤ p → p < 36 → c0 (27, s, n) p = if p < w then h (27, s, n) p else 0) → (∀ x j, ¬ kk_ct x j → ¬ kk_bk s n x j → c0 x j = h x j) → kk_RN s n (fun p => lo ≤ p ∧ p < hi) c0 c → (∀ x q, x ≠ (16, 0, 0) → g x q = c x q) → (∀ p k2, (lo ≤ p ∧ p < hi) → 0 ≤ k2 → k2 < 60 → g (16, 0, 0) (60 * c (27, s, n) p + k2) = if 60 * p + k2 < k then c (16, 0, 0) (60 * c (27, s, n) p + k2) else 0) → (∀ r k2, 0 ≤ k2 → k2 < 60 → (∀ p, (lo ≤ p ∧ p < hi) → r ≠ c (27, s, n) p) → g (16, 0, 0) (60 * r + k2) = c (16, 0, 0) (60 * r + k2)) →
                mm_Wp 9 (mm_blk 9 16) [zR (1, 0, 0), zI t, zI n, zI k, zR (24, s, n), zR (31, s, 0), zI (h (24, s, n) 1), zI w, v8, v9, v10] [] (mm_z g dh nx ns) (fun (r : mm_V) (h1 : mm_H) => kk_SI r ∧ ∃ g dh1, h1 = mm_z g dh1 nx ns ∧ mm_Cl 222 [zR (40, 0, 0), zI t, zI n, zI k] (mm_z g dh1 nx ns) (fun r2 h2 => r2 = r ∧ ∃ g2, h2 = mm_z g2 dh1 nx ns ∧ kk_core (b + 1) g2 dh1 ∧ ∀ x j, kk_scr x j → g2 x j = h x j)) := fun yr c0 c g v8 v9 v10 cp cf Ic P1 P2 P3 => by
              rw [r_9_16 (htx4 := hsT) (hnx4 := hnN) (htx5 := hD) (hx := hx)]
              obtain ⟨hz, ehz⟩ : ∃ q, q = mm_up g (24, s, n) 1 k := ⟨_, rfl⟩
              rw [← ehz]
              have C : ∀ (f : Nat) a c' j, ¬ (15 ≤ f ∧ f ≤ 19) → ¬ (f = 27 ∧ a = s ∧ c' = n) → ¬ (f = 24 ∧ a = s ∧ c' = n ∧ (j = 1 ∨ j = 9)) → hz (f, a, c') j = h (f, a, c') j := fun f a c' j q1 q2 q3 => by
                rw [ehz, mm_upne' (by rintro ⟨v, v2⟩; simp at v; omega), P1 _ _ (by rintro v; simp at v; omega), Ic.2.2.2.2.2.2.2.2.1 _ _ (by unfold kk_ct; rintro (⟨v, _⟩ | v | v | v) <;> simp at v <;> omega) (by rintro ⟨v, _⟩; simp at v; omega) (by rintro v; simp at v; omega) (by rintro v; simp at v; omega) (by rintro ⟨v, v2⟩; simp at v; omega)]
                exact cf _ _ (by unfold kk_ct; rintro (⟨v, _⟩ | v | v | v) <;> simp at v <;> omega) (by unfold kk_bk; rintro (⟨v, _⟩ | ⟨v, v2⟩) <;> simp at v <;> omega)
              have z27 : ∀ p, hz (27, s, n) p = c (27, s, n) p := fun p => by rw [ehz, mm_upf (by decide)]; exact P1 _ _ (by simp)
              have Rz : kk_R hz := by
                rw [ehz]
                exact kk_Rcong (fun u n p => by rw [mm_upf (by decide)]; exact P1 _ _ (by simp)) (by rw [mm_upf (by decide)]; exact P1 _ _ (by simp)) (by rw [mm_upf (by decide)]; exact P1 _ _ (by simp)) (fun _ => by rw [mm_upf (by decide)]; exact P1 _ _ (by simp)) (fun _ => by rw [mm_upf (by decide)]; exact P1 _ _ (by simp)) (fun _ => by rw [mm_upf (by decide)]; exact P1 _ _ (by simp)) Ic.1
              have nwz : ∀ a v, 0 ≤ a → a < 18 → 1 ≤ v → v < 37 → kk_nw hz a v := fun a v a0 a1 v0 v1 => by
                by_cases q : a = s ∧ v = n
                · rw [q.1, q.2]
                  have w0 := kk_nwC hc hsT h1n
                  refine ⟨by rw [C 24 s n 14 (by omega) (by omega) (by omega)]; exact w0.1, by rw [C 24 s n 11 (by omega) (by omega) (by omega)]; exact w0.2.1, ?_⟩
                  rw [kk_nzc (fun p _ _ => z27 p), ← Ic.2.1, ehz, mm_upj (by decide)]; exact P1 _ _ (by simp)
                · exact kk_nwcp (kk_cpdr (fun f j f0 f1 => C f a v j (by omega) (by omega) (by omega))) (kk_nwC hc (mm_T18 ⟨a0, a1⟩) ⟨v0, v1⟩)
              refine s63 hx hD Rz nwz (fun a a0 a1 => ?_) ?_ (fun gf k1 k2 k3 => ?_)
              · rw [C 22 a 0 2 (by omega) (by omega) (by omega), hc.1.1.2.2.2.2.2.2.2.2.2.1 a (mm_T18 ⟨by omega, a1⟩)]
                exact if_neg (by omega)
              · rw [C 1 0 0 13 (by omega) (by omega) (by omega)]; exact (kk_ac hc).2
              rw [mm_pU, r_9_16_6 (hx := hx)]
              refine ⟨⟨_, rfl, by omega, by omega⟩, gf, dh, rfl, ?_⟩
              have ek : ∀ (x : mm_Id) (j : Int), 40 ≤ x.1 → gf x j = h x j := fun x j q => by
                obtain ⟨f, a, c'⟩ := x
                rw [k2 _ j q]; exact C f a c' j (by simp at q; omega) (by simp at q; omega) (by simp at q; omega)
              have lk : kk_lk h gf := ⟨fun a _ _ => by
                rw [kk_acno k1]
                unfold kk_no
                rw [C 31 a 0 3 (by omega) (by omega) (by omega), C 33 _ 0 1 (by omega) (by omega) (by omega)], fun a _ _ => ek _ _ (by simp)⟩
              have f29 : mm_up gf (40, 0, 0) 0 0 (40, 0, 0) 29 = h (1, 0, 0) 12 := (mm_upj (by decide)).trans ((ek _ _ (by simp)).trans (kk_cal hc).1.symm)
              have f41n : mm_up gf (40, 0, 0) 0 0 (41, 0, 0) (36 * s + n - 1) = h (24, s, n) 0 := by rw [mm_upf (by decide)]; exact (ek _ _ (by simp)).trans (kk_nf hc (by omega) h1n).1
              have f44n : mm_up gf (40, 0, 0) 0 0 (44, 0, 0) (36 * s + n - 1) = h (24, s, n) 6 := by rw [mm_upf (by decide)]; exact (ek _ _ (by simp)).trans (kk_nf hc (by omega) h1n).2.1
              have f49n : mm_up gf (40, 0, 0) 0 0 (49, 0, 0) (36 * s + n - 1) = h (24, s, n) 11 := by rw [mm_upf (by decide)]; exact (ek _ _ (by simp)).trans (kk_nf hc (by omega) h1n).2.2.1
              have f42n : mm_up gf (40, 0, 0) 0 0 (42, 0, 0) (36 * s + n - 1) = h (24, s, n) 1 := by rw [mm_upf (by decide)]; exact (ek _ _ (by simp)).trans ((kk_nf hc (by omega) h1n).2.2.2 h2n).1
              have f47n : mm_up gf (40, 0, 0) 0 0 (47, 0, 0) (36 * s + n - 1) = h (24, s, n) 2 := by rw [mm_upf (by decide)]; exact (ek _ _ (by simp)).trans ((kk_nf hc (by omega) h1n).2.2.2 h2n).2.1
              have f48n : mm_up gf (40, 0, 0) 0 0 (48, 0, 0) (36 * s + n - 1) = h (24, s, n) 3 := by rw [mm_upf (by decide)]; exact (ek _ _ (by simp)).trans ((kk_nf hc (by omega) h1n).2.2.2 h2n).2.2
              rw [r_222_e (hy := hy)]
              refine m181y hy hc (kk_lku (by decide) lk) ht hs ?_
              rw [mm_pI, r_222_0_6 (hy := hy)]
              refine m210y hy (by omega) h1n (by rw [f41n]; exact h3n) ?_
              rw [mm_pI, r_222_0_11 (hy := hy), if_neg (by decide)]
              refine m174y hy (by omega) ?_
              rw [mm_pI, r_222_1_5 (hy := hy), if_neg (by decide)]
              rw [if_pos s51]
              refine m177y hy (by omega) h1n f41n hk1 ?_
              rw [mm_pI, r_222_2_7 (hy := hy), if_neg (by decide)]
              refine m203y hy (by omega) h1n f29 f47n f48n wp ?_
              rw [mm_pI]
              refine m222r hy hc ⟨s50, s51⟩ hno h1n hk1 hk0 hlo hw hU (fun x j q q2 => by rw [mm_upne' q2]; exact ek x j q) (fun G c2 v7 IG eG I => ?_)
              have eX : ∀ (f : Nat) j, f = 41 ∨ f = 43 ∨ f = 47 ∨ f = 57 → mm_up c2 (42, 0, 0) (36 * s + n - 1) k (f, 0, 0) j = c2 (f, 0, 0) j := fun f j hf => by rw [mm_upf (by omega)]
              have e59 : ∀ j, mm_up c2 (42, 0, 0) (36 * s + n - 1) k (59, 0, 0) j = h (59, 0, 0) j := fun j => by
                rw [mm_upf (by decide)]
                exact (I.2.2.2.2.2.2.1 _ _ (by simp) (by simp) (by simp) (by simp)).trans ((kk_Djn (by simp)).trans (IG.1 _ _ (by decide) (kk_sx6 (by omega)) (by decide) (by simp)))
              refine m222d hy hc ⟨s50, s51⟩ hno h1n hk1 hk0 hlo hw hU IG I eX e59 (fun gm eg y => ?_) (fun gm eg y => absurd yr y)
              have n43 : ∀ (x : mm_Id) j u v, ¬ kk_sx s x j → 0 ≤ u → v ≤ 36 → ¬ (x = (43, 0, 0) ∧ 36 * (36 * s + n - 1) + u ≤ j ∧ j < 36 * (36 * s + n - 1) + v) := fun x j u v q1 u0 v0 y => q1 ⟨n, h1n.1, h1n.2, Or.inr (Or.inl ⟨by rw [y.1], by have := y.2; omega⟩)⟩
              have frX : ∀ (x : mm_Id) j, ¬ kk_sx s x j → x.1 ≠ 54 → x.1 ≠ 55 → x.1 ≠ 56 → ¬ (x = (40, 0, 0) ∧ (j = 0 ∨ j = 18)) → gm x j = G x j := fun x j q1 q2 q3 q4 q5 => by
                rw [eg x j q4, mm_upne' (fun v => q1 ⟨n, h1n.1, h1n.2, Or.inl ⟨by rw [v.1]; simp [kk_mf], v.2⟩⟩)]
                exact (I.2.2.2.2.2.2.1 x j (fun v => q3 (by rw [v])) (fun v => q5 ⟨v.1, Or.inr v.2⟩) (fun v => q2 (by rw [v])) (n43 x j lo hi q1 (by omega) (by omega))).trans (kk_Djn (n43 x j w 36 q1 (by omega) (by omega)))
              have frS : ∀ (x : mm_Id) j, x.1 < 40 ∨ kk_scr x j → gm x j = (mm_up gf (40, 0, 0) 0 0) x j := fun x j q => by
                have n0 : ¬ (41 ≤ x.1 ∧ x.1 ≤ 56) := by
                  rcases q with q | q
                  · omega
                  · unfold kk_scr at q
                    rcases q with q | q | ⟨q, _⟩ | q
                    · omega
                    · omega
                    · rw [q]; simp
                    · omega
                have n1 : ¬ (x = (40, 0, 0) ∧ (j = 0 ∨ j = 18)) := by
                  rintro ⟨v, v2⟩
                  rcases q with q | q
                  · rw [v] at q; simp at q
                  · unfold kk_scr at q
                    rw [v] at q
                    simp at q
                    omega
                have n2 : ∀ a, ¬ kk_sx a x j := fun a v => by have r := kk_sxr v; omega
                rw [frX x j (n2 s) (by omega) (by omega) (by omega) n1]
                exact eG x j (n2 28)
              have RC := kk_RId hc ⟨s50, s51⟩ hno h1n hk1 hk0 hlo hw hU IG I
              have E4 := kk_e4 (X := gm) (c := c2) (fun f j hf => by rw [eg _ _ (by show f ≠ 56; omega)]; exact eX f j hf)
              have b3 : kk_cnt (kk_lb gm (-1)) ≤ 400 := by
                rw [kk_cntc (P := kk_lb gm (-1)) (fun v _ _ => E4.2.1 (-1) v), RC.1]; exact yr
              have b7 : kk_cnt (kk_bs gm s) ≤ h (59, 0, 0) s := by
                rw [kk_cntc (P := kk_bs gm s) (fun v _ _ => E4.1 s v)]; exact Int.le_trans RC.2 ((hc.1.2.1.2.2.2.2.2.2 s s50 s51).1 hno)
              have WM := kk_ctW (p1 := 0) (Z := mm_up (kk_mix hz gm) (31, s, 0) 6 1) hc ⟨s50, s51⟩ hno h1n hk1 hk0 hlo hw hU2 cp cf Ic P1 P2 P3 IG I rfl ehz (fun x j _ q => eg x j q) rfl b3 b7
              refine m209W hy rfl WM.1 WM.2 (fun g3 m1 m2 m3 => ?_)
              rw [mm_pU, r_222_9_2 (hy := hy)]
              refine ⟨rfl, g3, rfl, kk_actend (gx := gm) hb rfl WM.1 WM.2 k1 m1 (fun x j q => ?_) m3 (fun _ _ _ => rfl) (fun x j q => ?_)⟩
              · rw [m2 x j q, frS x j (Or.inl q)]; exact kk_clU q (by simp)
              · rw [frS x j (Or.inr q), kk_scr0 q]
                rcases kk_scrC q with q5 | q5
                · exact ek x j q5
                · obtain ⟨f, a, c'⟩ := x
                  rw [k3 _ j q5.1 q5.2]; exact C f a c' j (by simp at q5; omega) (by simp at q5; omega) (by simp at q5; omega)
            have nb := kk_sfb (f := kk_na h s n) (lo := lo) (hi - lo).toNat (fun p _ _ => kk_nab h s n p)
            have fb := kk_sfb (f := fun p => 1 - kk_na h s n p) (lo := w) (36 - w).toNat (fun p _ _ => by have := kk_nab h s n p; omega)
            rw [show lo + ((hi - lo).toNat : Int) = hi by omega] at nb
            rw [show w + ((36 - w).toNat : Int) = 36 by omega] at fb
            have cl := hc.1.2.1.2.2.1
            have cl0 : 0 ≤ kk_cnt (kk_lb h (-1)) := by rw [kk_cntm]; exact kk_cmnn _ _
            have go : ∀ u : Int, u = hi - lo → mm_Wp 9 (mm_blk 9 11) [zR (1, 0, 0), zI t, zI n, zI k, zR (24, s, n), zR (31, s, 0), zI (h (24, s, n) 1), zI w, zI u, zI (kk_sf (kk_na h s n) lo hi), zI w] [] (mm_z h dh nx ns) (fun (r : mm_V) (h1 : mm_H) => kk_SI r ∧ ∃ g dh1, h1 = mm_z g dh1 nx ns ∧ mm_Cl 222 [zR (40, 0, 0), zI t, zI n, zI k] (mm_z g dh1 nx ns) (fun r2 h2 => r2 = r ∧ ∃ g2, h2 = mm_z g2 dh1 nx ns ∧ kk_core (b + 1) g2 dh1 ∧ ∀ x j, kk_scr x j → g2 x j = h x j)) := fun u hu => by
              have e := s9c (h := h) (vx1 := zI t) (vx2 := zI n) (x3 := k) (x6 := h (24, s, n) 1) (x8 := u) (Q := (fun (r : mm_V) (h1 : mm_H) => kk_SI r ∧ ∃ g dh1, h1 = mm_z g dh1 nx ns ∧ mm_Cl 222 [zR (40, 0, 0), zI t, zI n, zI k] (mm_z g dh1 nx ns) (fun r2 h2 => r2 = r ∧ ∃ g2, h2 = mm_z g2 dh1 nx ns ∧ kk_core (b + 1) g2 dh1 ∧ ∀ x j, kk_scr x j → g2 x j = h x j))) (dh := dh) (ns := ns) hx hD hnN (show 0 ≤ w by omega) (show w ≤ 36 by omega) (show -100 ≤ kk_sf (kk_na h s n) lo hi ∧ kk_sf (kk_na h s n) lo hi ≤ 100 by omega) (36 - w).toNat w (by omega) (Int.le_refl _)
              rw [kk_sf0, Int.sub_zero] at e
              refine e ?_
              rw [r_9_11 (htx4 := hsT) (hnx4 := hnN) (htx5 := hD) (hx := hx), if_neg (by omega), kk_lbh hc.1, mm_wi (z := kk_cnt (kk_lb h (-1)) + (kk_sf (kk_na h s n) lo hi - kk_sf (fun p => 1 - kk_na h s n p) w 36)) (by omega) (by omega)]
              generalize kk_cnt (kk_lb h (-1)) = CL at nope yes cl cl0 ⊢
              by_cases c4 : 400 < CL + (kk_sf (kk_na h s n) lo hi - kk_sf (fun p => 1 - kk_na h s n p) w 36)
              · rw [if_pos c4]
                exact nope (fun q => by omega)
              rw [if_neg c4]
              have yr : CL + kk_sf (kk_na h s n) lo hi - kk_sf (fun p => 1 - kk_na h s n p) w 36 ≤ 400 := by omega
              have as0 : kk_as s = 0 := if_pos (by omega)
              have l109 := s109 (hi := h) (dh := dh) (nx := nx) (ns := ns) (w := w) (Q := fun (r : mm_V) (h3 : mm_H) => mm_Wp 9 (bk_9_15.drop 6) [zR (1, 0, 0), zI t, zI n, zI k, zR (24, s, n), zR (31, s, 0), zI (h (24, s, n) 1), zI w, zI u, zI (kk_sf (kk_na h s n) lo hi - kk_sf (fun p => 1 - kk_na h s n p) w 36), zI 36] (mm_push r []) h3 (fun (r : mm_V) (h1 : mm_H) => kk_SI r ∧ ∃ g dh1, h1 = mm_z g dh1 nx ns ∧ mm_Cl 222 [zR (40, 0, 0), zI t, zI n, zI k] (mm_z g dh1 nx ns) (fun r2 h2 => r2 = r ∧ ∃ g2, h2 = mm_z g2 dh1 nx ns ∧ kk_core (b + 1) g2 dh1 ∧ ∀ x j, kk_scr x j → g2 x j = h x j))) hsT hnN hx (by omega) hc.1.1.2.2.2.2.2.2.2.1 NWn.2.2.2.2.2.2.1
              rw [as0] at l109
              refine l109 (fun c0 cR cp cn cf => ?_)
              have e16 : ∀ j, c0 (16, 0, 0) j = h (16, 0, 0) j := fun j => cf _ _ (by unfold kk_ct; simp) (by unfold kk_bk; simp)
              have r16 : ∀ j, 0 ≤ j → j < 102060 → -128 ≤ c0 (16, 0, 0) j ∧ c0 (16, 0, 0) j < 128 := fun j j0 j1 => by rw [e16]; exact hc.1.1.2.2.2.2.2.2.2.2.1.2 j j0 j1
              rw [mm_pU, r_9_15_6 (htx4 := hsT) (hnx4 := hnN) (htx5 := hD) (hx := hx)]
              by_cases u0 : u = 0
              · rw [if_pos u0]
                refine yes yr c0 c0 c0 _ _ _ cp cf (kk_RN0 (fun p => by omega) cR cn r16) (fun _ _ _ => rfl) (fun p k2 sp => by omega) (fun _ _ _ _ _ => rfl)
              rw [if_neg u0, Int.tdiv_eq_ediv_of_nonneg hk0.1, mm_wi (z := k / 60) (by omega) (by omega), ← hlo]
              have uu : hi = lo + 1 ∧ lo < w ∧ lo < 36 ∧ 0 < k % 60 := by rcases hU with q | q <;> omega
              have RN := kk_RN0 (S := fun p => lo ≤ p ∧ p < lo) (fun p => by omega) cR cn r16
              have us1 : kk_us c0 ≤ kk_us h := kk_usd (t := s) (m := n) (fun t2 n2 p2 q => cf _ _ (by unfold kk_ct; simp) (by unfold kk_bk; rintro (⟨v, v2⟩ | ⟨v, _⟩) <;> simp at v; exact q v)) (fun p p0 p2 => by rw [cp p p0 p2]; split <;> simp)
              have us2 := kk_usle hc
              refine s107 ⟨s50, by omega⟩ hnN hx (by omega) cR cn (kk_free cR (by omega)) (fun c r r1 r2 r0 gR gq gn gb gf2 => ?_)
              have Ic : kk_RN s n (fun p => lo ≤ p ∧ p < hi) c0 c := kk_RN1 RN ⟨s50, by omega⟩ h1n (q := lo) (by omega) (by omega) (fun p => by omega) (fun p p0 p1 => cR.1 s n p hsT hnN p0 p1) r1 r2 r0 gR gq gn gb gf2
              rw [mm_pU, r_9_15_15 (htx4 := hsT) (hnx4 := hnN) (htx5 := hD) (hx := hx), Int.tdiv_eq_ediv_of_nonneg hk0.1, mm_wi (z := k / 60) (by omega) (by omega), ← hlo, gq, Int.tmod_eq_emod_of_nonneg hk0.1]
              refine ⟨by omega, s132 hx ⟨r1, r2⟩ (by omega) ?_⟩
              rw [mm_pU, r_9_15_27 (htx4 := hsT) (hnx4 := hnN) (htx5 := hD) (hx := hx)]
              refine yes yr c0 c _ _ _ _ cp cf Ic (fun x q nx16 => if_neg (fun v => nx16 v.1)) (fun p k2 sp k0 k1 => ?_) (fun r' k2 k0 k1 q => ?_)
              · have pl : p = lo := by omega
                rw [pl, gq]
                by_cases y : 60 * lo + k2 < k
                · rw [if_pos y]
                  exact if_neg (by rintro ⟨_, v⟩; omega)
                · rw [if_neg y]
                  exact if_pos ⟨rfl, by omega, by omega⟩
              · have nr := q lo (by omega)
                rw [gq] at nr
                exact if_neg (by rintro ⟨_, v⟩; omega)
            rw [mm_pI, r_9_5_4 (htx4 := hsT) (hnx4 := hnN) (htx5 := hD) (hx := hx), if_neg (by decide), mm_wi (z := k + 60) (by omega) (by omega), mm_wi (z := k + 60 - 1) (by omega) (by omega), show k + 60 - 1 = k + 59 by omega, Int.tdiv_eq_ediv_of_nonneg (show 0 ≤ k + 59 by omega), mm_wi (z := (k + 59) / 60) (by omega) (by omega), ← hw, Int.tdiv_eq_ediv_of_nonneg hk0.1, Int.tmod_eq_emod_of_nonneg hk0.1, mm_wi (z := k / 60) (by omega) (by omega), ← hlo]
            have no : hi = lo → mm_Wp 9 (mm_blk 9 7) [zR (1, 0, 0), zI t, zI n, zI k, zR (24, s, n), zR (31, s, 0), zI (h (24, s, n) 1), zI w, zU, zU, zU] [] (mm_z h dh nx ns) (fun (r : mm_V) (h1 : mm_H) => kk_SI r ∧ ∃ g dh1, h1 = mm_z g dh1 nx ns ∧ mm_Cl 222 [zR (40, 0, 0), zI t, zI n, zI k] (mm_z g dh1 nx ns) (fun r2 h2 => r2 = r ∧ ∃ g2, h2 = mm_z g2 dh1 nx ns ∧ kk_core (b + 1) g2 dh1 ∧ ∀ x j, kk_scr x j → g2 x j = h x j)) := fun e => by
              rw [r_9_7 (htx4 := hsT) (hnx4 := hnN) (htx5 := hD) (hx := hx), r_9_8 (htx4 := hsT) (hnx4 := hnN) (htx5 := hD) (hx := hx), if_pos rfl, r_9_9 (htx4 := hsT) (hnx4 := hnN) (htx5 := hD) (hx := hx), r_9_10 (htx4 := hsT) (hnx4 := hnN) (htx5 := hD) (hx := hx)]
              have z := go 0 (by omega)
              rw [e, kk_sf0] at z
              exact z
            by_cases q1 : k < h (24, s, n) 1
            · rw [if_pos q1]
              by_cases q2 : k % 60 = 0
              · rw [if_pos q2]
                exact no (by rcases hU with q | q <;> omega)
              · rw [if_neg q2]
                refine ⟨by omega, ?_⟩
                by_cases q3 : h (27, s, n) lo = 0
                · rw [if_pos q3]
                  exact no (by rcases hU with q | q <;> omega)
                · have ehi : hi = lo + 1 := by rcases hU with q | q <;> omega
                  have s1 : kk_sf (kk_na h s n) lo hi = kk_na h s n lo := by rw [ehi, kk_sf1 _ (Int.le_refl _), kk_sf0, Int.zero_add]
                  have z := go 1 (by omega)
                  rw [s1] at z
                  rw [if_neg q3, r_9_8 (htx4 := hsT) (hnx4 := hnN) (htx5 := hD) (hx := hx), if_neg (by decide), Int.tdiv_eq_ediv_of_nonneg hk0.1, mm_wi (z := k / 60) (by omega) (by omega), ← hlo]
                  refine ⟨by omega, s126 hx (fun v hv => ?_)⟩
                  rw [mm_pI, r_9_8_12 (htx4 := hsT) (hnx4 := hnN) (htx5 := hD) (hx := hx)]
                  have v1 : v = 1 - kk_na h s n lo := by rw [hv]; unfold kk_na; split <;> rfl
                  have nl := kk_nab h s n lo
                  by_cases v0 : v = 0
                  · rw [if_pos v0, r_9_10 (htx4 := hsT) (hnx4 := hnN) (htx5 := hD) (hx := hx)]
                    rw [show (kk_na h s n lo : Int) = 1 by omega] at z
                    exact z
                  · rw [if_neg v0, r_9_9 (htx4 := hsT) (hnx4 := hnN) (htx5 := hD) (hx := hx), r_9_10 (htx4 := hsT) (hnx4 := hnN) (htx5 := hD) (hx := hx)]
                    rw [show (kk_na h s n lo : Int) = 0 by omega] at z
                    exact z
            · rw [if_neg q1]
              exact no (by rcases hU with q | q <;> omega)
          · rw [mm_pI, r_9_5_4 (htx4 := hsT) (hnx4 := hnN) (htx5 := hD) (hx := hx), if_pos rfl]
            refine fin (-5) ⟨_, rfl, by omega, by omega⟩ ?_
            have ek : ∀ (x : mm_Id) (j : Int), 40 ≤ x.1 → h x j = h x j := fun _ _ _ => rfl
            have lk := kk_lkr h
            have f29 : mm_up h (40, 0, 0) 0 0 (40, 0, 0) 29 = h (1, 0, 0) 12 := (mm_upj (by decide)).trans ((ek _ _ (by simp)).trans (kk_cal hc).1.symm)
            have f41n : mm_up h (40, 0, 0) 0 0 (41, 0, 0) (36 * s + n - 1) = h (24, s, n) 0 := by rw [mm_upf (by decide)]; exact (ek _ _ (by simp)).trans (kk_nf hc (by omega) h1n).1
            have f44n : mm_up h (40, 0, 0) 0 0 (44, 0, 0) (36 * s + n - 1) = h (24, s, n) 6 := by rw [mm_upf (by decide)]; exact (ek _ _ (by simp)).trans (kk_nf hc (by omega) h1n).2.1
            have f49n : mm_up h (40, 0, 0) 0 0 (49, 0, 0) (36 * s + n - 1) = h (24, s, n) 11 := by rw [mm_upf (by decide)]; exact (ek _ _ (by simp)).trans (kk_nf hc (by omega) h1n).2.2.1
            have f42n : mm_up h (40, 0, 0) 0 0 (42, 0, 0) (36 * s + n - 1) = h (24, s, n) 1 := by rw [mm_upf (by decide)]; exact (ek _ _ (by simp)).trans ((kk_nf hc (by omega) h1n).2.2.2 h2n).1
            have f47n : mm_up h (40, 0, 0) 0 0 (47, 0, 0) (36 * s + n - 1) = h (24, s, n) 2 := by rw [mm_upf (by decide)]; exact (ek _ _ (by simp)).trans ((kk_nf hc (by omega) h1n).2.2.2 h2n).2.1
            have f48n : mm_up h (40, 0, 0) 0 0 (48, 0, 0) (36 * s + n - 1) = h (24, s, n) 3 := by rw [mm_upf (by decide)]; exact (ek _ _ (by simp)).trans ((kk_nf hc (by omega) h1n).2.2.2 h2n).2.2
            rw [r_222_e (hy := hy)]
            refine m181y hy hc (kk_lku (by decide) lk) ht hs ?_
            rw [mm_pI, r_222_0_6 (hy := hy)]
            refine m210y hy (by omega) h1n (by rw [f41n]; exact h3n) ?_
            rw [mm_pI, r_222_0_11 (hy := hy), if_neg (by decide)]
            refine m174y hy (by omega) ?_
            rw [mm_pI, r_222_1_5 (hy := hy), if_neg (by decide)]
            rw [if_pos s51]
            refine m177y hy (by omega) h1n f41n hk1 ?_
            rw [mm_pI, r_222_2_7 (hy := hy), if_neg (by decide)]
            refine m203n hy (by omega) h1n f29 f47n f48n wp ?_
            rw [mm_pI, r_222_4_5 (hy := hy), if_pos rfl]
            exact mfin _ _ rfl
        · rw [if_neg hk1, r_9_4 (hx := hx)]
          refine fin (-3) ⟨_, rfl, by omega, by omega⟩ ?_
          have ek : ∀ (x : mm_Id) (j : Int), 40 ≤ x.1 → h x j = h x j := fun _ _ _ => rfl
          have lk := kk_lkr h
          have f29 : mm_up h (40, 0, 0) 0 0 (40, 0, 0) 29 = h (1, 0, 0) 12 := (mm_upj (by decide)).trans ((ek _ _ (by simp)).trans (kk_cal hc).1.symm)
          have f41n : mm_up h (40, 0, 0) 0 0 (41, 0, 0) (36 * s + n - 1) = h (24, s, n) 0 := by rw [mm_upf (by decide)]; exact (ek _ _ (by simp)).trans (kk_nf hc (by omega) h1n).1
          have f44n : mm_up h (40, 0, 0) 0 0 (44, 0, 0) (36 * s + n - 1) = h (24, s, n) 6 := by rw [mm_upf (by decide)]; exact (ek _ _ (by simp)).trans (kk_nf hc (by omega) h1n).2.1
          have f49n : mm_up h (40, 0, 0) 0 0 (49, 0, 0) (36 * s + n - 1) = h (24, s, n) 11 := by rw [mm_upf (by decide)]; exact (ek _ _ (by simp)).trans (kk_nf hc (by omega) h1n).2.2.1
          have f42n : mm_up h (40, 0, 0) 0 0 (42, 0, 0) (36 * s + n - 1) = h (24, s, n) 1 := by rw [mm_upf (by decide)]; exact (ek _ _ (by simp)).trans ((kk_nf hc (by omega) h1n).2.2.2 h2n).1
          have f47n : mm_up h (40, 0, 0) 0 0 (47, 0, 0) (36 * s + n - 1) = h (24, s, n) 2 := by rw [mm_upf (by decide)]; exact (ek _ _ (by simp)).trans ((kk_nf hc (by omega) h1n).2.2.2 h2n).2.1
          have f48n : mm_up h (40, 0, 0) 0 0 (48, 0, 0) (36 * s + n - 1) = h (24, s, n) 3 := by rw [mm_upf (by decide)]; exact (ek _ _ (by simp)).trans ((kk_nf hc (by omega) h1n).2.2.2 h2n).2.2
          rw [r_222_e (hy := hy)]
          refine m181y hy hc (kk_lku (by decide) lk) ht hs ?_
          rw [mm_pI, r_222_0_6 (hy := hy)]
          refine m210y hy (by omega) h1n (by rw [f41n]; exact h3n) ?_
          rw [mm_pI, r_222_0_11 (hy := hy), if_neg (by decide)]
          refine m174y hy (by omega) ?_
          rw [mm_pI, r_222_1_5 (hy := hy), if_neg (by decide)]
          rw [if_pos s51]
          refine m177n hy (by omega) h1n f41n hk1 ?_
          rw [mm_pI, r_222_2_7 (hy := hy), if_pos rfl, r_222_3 (hy := hy)]
          exact mfin _ _ rfl
      · have s5 : 5 ≤ s := by
          by_cases z : s < 5
          · exact absurd hs (hs5 s z)
          · omega
        rw [mm_pR, r_9_3_3 (htx4 := hsT) (hnx4 := hnN) (hx := hx), r_9_4 (hx := hx)]
        refine fin (-3) ⟨_, rfl, by omega, by omega⟩ ?_
        have ek : ∀ (x : mm_Id) (j : Int), 40 ≤ x.1 → h x j = h x j := fun _ _ _ => rfl
        have lk := kk_lkr h
        have f29 : mm_up h (40, 0, 0) 0 0 (40, 0, 0) 29 = h (1, 0, 0) 12 := (mm_upj (by decide)).trans ((ek _ _ (by simp)).trans (kk_cal hc).1.symm)
        have f41n : mm_up h (40, 0, 0) 0 0 (41, 0, 0) (36 * s + n - 1) = h (24, s, n) 0 := by rw [mm_upf (by decide)]; exact (ek _ _ (by simp)).trans (kk_nf hc (by omega) h1n).1
        have f44n : mm_up h (40, 0, 0) 0 0 (44, 0, 0) (36 * s + n - 1) = h (24, s, n) 6 := by rw [mm_upf (by decide)]; exact (ek _ _ (by simp)).trans (kk_nf hc (by omega) h1n).2.1
        have f49n : mm_up h (40, 0, 0) 0 0 (49, 0, 0) (36 * s + n - 1) = h (24, s, n) 11 := by rw [mm_upf (by decide)]; exact (ek _ _ (by simp)).trans (kk_nf hc (by omega) h1n).2.2.1
        have f42n : mm_up h (40, 0, 0) 0 0 (42, 0, 0) (36 * s + n - 1) = h (24, s, n) 1 := by rw [mm_upf (by decide)]; exact (ek _ _ (by simp)).trans ((kk_nf hc (by omega) h1n).2.2.2 h2n).1
        have f47n : mm_up h (40, 0, 0) 0 0 (47, 0, 0) (36 * s + n - 1) = h (24, s, n) 2 := by rw [mm_upf (by decide)]; exact (ek _ _ (by simp)).trans ((kk_nf hc (by omega) h1n).2.2.2 h2n).2.1
        have f48n : mm_up h (40, 0, 0) 0 0 (48, 0, 0) (36 * s + n - 1) = h (24, s, n) 3 := by rw [mm_upf (by decide)]; exact (ek _ _ (by simp)).trans ((kk_nf hc (by omega) h1n).2.2.2 h2n).2.2
        rw [r_222_e (hy := hy)]
        refine m181y hy hc (kk_lku (by decide) lk) ht hs ?_
        rw [mm_pI, r_222_0_6 (hy := hy)]
        refine m210y hy (by omega) h1n (by rw [f41n]; exact h3n) ?_
        rw [mm_pI, r_222_0_11 (hy := hy), if_neg (by decide)]
        refine m174y hy (by omega) ?_
        rw [mm_pI, r_222_1_5 (hy := hy), if_neg (by decide)]
        rw [if_neg (by omega), r_222_3 (hy := hy)]
        exact mfin _ _ rfl
    · rw [mm_pR, r_9_0_6 (hx := hx)]
      refine fin (-1) ⟨_, rfl, by omega, by omega⟩ ?_
      have ek : ∀ (x : mm_Id) (j : Int), 40 ≤ x.1 → h x j = h x j := fun _ _ _ => rfl
      have lk := kk_lkr h
      rw [r_222_e (hy := hy)]
      refine m181y hy hc (kk_lku (by decide) lk) ht hs ?_
      rw [mm_pI, r_222_0_6 (hy := hy)]
      refine m210z hy (by omega) (fun w => hn0 ((kk_isn hc (by omega)).2 ⟨w.1, by rw [mm_upf (by decide)] at w; exact w.2⟩)) ?_
      rw [mm_pI, r_222_0_11 (hy := hy), if_pos rfl]
      exact mfin _ _ rfl
  · rw [mm_pR, r_9_0_4 (hx := hx)]
    refine s56n hx ?_
    rw [mm_pR, r_9_0_6 (hx := hx)]
    refine fin (-1) ⟨_, rfl, by omega, by omega⟩ ?_
    have ek : ∀ (x : mm_Id) (j : Int), 40 ≤ x.1 → h x j = h x j := fun _ _ _ => rfl
    have lk := kk_lkr h
    rw [r_222_e (hy := hy)]
    refine m181n hy hc (kk_lku (by decide) lk) ht hs ?_
    rw [mm_pI, r_222_0_6 (hy := hy)]
    refine m210n hy ?_
    rw [mm_pI, r_222_0_11 (hy := hy), if_pos rfl]
    exact mfin _ _ rfl


