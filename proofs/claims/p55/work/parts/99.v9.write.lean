/-! the calls of both: write -/
section
variable {h G c2 : mm_Id → Int → Int} {dh0 : Int → Int} {b s n lo hi lim : Int}
theorem kk_RIn {p c : Int} (hc : kk_core b h dh0) (hs : 0 ≤ s ∧ s < 13) (hn : 1 ≤ n ∧ n < 37) (IG : kk_G28 s h G) (I : kk_RI s n lo hi lim G c2) (p0 : lo ≤ p) (p1 : p < hi) (q : kk_any G c) : c ≠ c2 (43, 0, 0) (36 * (36 * s + n - 1) + p) := fun e => by
  obtain ⟨a, ha, n2, p2, hn2, hp2, _, e2⟩ := q
  have z := I.2.2.1 p a n2 p2 p0 p1 ha.1 ha.2 hn2.1 hn2.2 hp2.1 hp2.2 (by rw [e2]; exact e)
  have e3 := (IG.2 n hn.1 hn.2).2.1 p2 hp2.1 hp2.2
  rw [← kk_G43 IG (by omega) hn.2 hp2.2] at e3
  rw [z.1, z.2.1] at e2
  have z2 := I.2.2.1 p 28 n p2 p0 p1 (by omega) (by omega) hn.1 hn.2 hp2.1 hp2.2 (by rw [e3, e2]; exact e)
  omega
theorem kk_RIa {c : Int} (hc : kk_core b h dh0) (hs : 0 ≤ s ∧ s < 13) (hn : 1 ≤ n ∧ n < 37) (IG : kk_G28 s h G) (I : kk_RI s n lo hi lim G c2) (h0 : 0 ≤ lo) (h36 : hi ≤ 36) (q : kk_any G c) : kk_any c2 c := by
  obtain ⟨a, ha, n2, p2, hn2, hp2, k, e2⟩ := q
  have F := I.2.2.2.2.2.2.1
  by_cases z : a = s ∧ n2 = n
  · rw [z.1, z.2] at e2 k
    have e3 := (IG.2 n hn.1 hn.2).2.1 p2 hp2.1 hp2.2
    rw [← kk_G43 IG (by omega) hn.2 hp2.2, e2] at e3
    have e4 := (IG.2 n hn.1 hn.2).1 41 kk_f41
    rw [← kk_G41 IG kk_f41 (by decide) (by decide) (by omega) hn.2, k] at e4
    refine ⟨28, by omega, n, p2, hn, hp2, ?_, ?_⟩
    · rw [F _ _ (by simp) (by simp) (by simp) (by simp)]; exact e4
    · by_cases y : 36 * (36 * s + n - 1) + lo ≤ 36 * (36 * 28 + n - 1) + p2 ∧ 36 * (36 * 28 + n - 1) + p2 < 36 * (36 * s + n - 1) + hi
      · omega
      · rw [F _ _ (by simp) (by simp) (by simp) (fun v => y v.2)]; exact e3
  · refine ⟨a, ha, n2, p2, hn2, hp2, ?_, ?_⟩
    · rw [F _ _ (by simp) (by simp) (by simp) (by simp)]; exact k
    · rw [F _ _ (by simp) (by simp) (by simp) (fun v => by have := v.2; omega)]; exact e2
end
theorem c_7 {b : Int} {h : mm_Id → Int → Int} {dh : Int → Int} {nx ns : Int} (hy : 10581 ≤ nx) (hc : kk_core b h dh) (hb : b + 1 ≤ 1000000) {t n k l m : Int} (ht : -2147483648 ≤ t ∧ t < 2147483648) (hn : -2147483648 ≤ n ∧ n < 2147483648) (hk : -2147483648 ≤ k ∧ k < 2147483648) (hl : -9223372036854775808 ≤ l ∧ l < 9223372036854775808) (hm : -2147483648 ≤ m ∧ m < 2147483648) : kk_call 7 220 [zI t, zI n, zI k, zL l, zI m] b h dh nx ns kk_SI := by
  unfold kk_call
  have hx : 5275 ≤ nx := by omega
  have hc0 : kk_core b (mm_up h (40, 0, 0) 0 0) dh := kk_core0 hc
  have fin : ∀ v, kk_SI (zI v) → mm_Cl 220 [zR (40, 0, 0), zI t, zI n, zI k, zL l, zI m] (mm_z h dh nx ns) (fun (r2 : mm_V) (h2 : mm_H) => r2 = zI v ∧ ∃ g2, h2 = mm_z g2 dh nx ns ∧ kk_core (b + 1) g2 dh ∧ ∀ x j, kk_scr x j → g2 x j = h x j) →
      (fun (r : mm_V) (h1 : mm_H) => kk_SI r ∧ ∃ g dh1, h1 = mm_z g dh1 nx ns ∧ mm_Cl 220 [zR (40, 0, 0), zI t, zI n, zI k, zL l, zI m] (mm_z g dh1 nx ns) (fun r2 h2 => r2 = r ∧ ∃ g2, h2 = mm_z g2 dh1 nx ns ∧ kk_core (b + 1) g2 dh1 ∧ ∀ x j, kk_scr x j → g2 x j = h x j)) (zI v) (mm_z h dh nx ns) :=
    fun v h1 h2 => ⟨h1, h, dh, rfl, h2⟩
  have mfin : ∀ v w : Int, w = v → (fun (r2 : mm_V) (h2 : mm_H) => r2 = zI v ∧ ∃ g2, h2 = mm_z g2 dh nx ns ∧ kk_core (b + 1) g2 dh ∧ ∀ x j, kk_scr x j → g2 x j = h x j) (zI w) (mm_z (mm_up h (40, 0, 0) 0 0) dh nx ns) :=
    fun v w e => ⟨by rw [e], _, rfl, kk_coreS hb hc0, fun x j hs => kk_scr0 hs⟩
  rw [r_7_e (hx := hx)]
  refine s55 hx (kk_nmC hc) ht.1 ht.2 (fun s hs => ?_) (fun hs => ?_)
  · have hsT := mm_T13 hs.1
    have hs13 := hs.1
    rw [mm_pR, r_7_0_4a (hty0 := hsT) (hx := hx)]
    refine s56 hsT hx (fun h1n h2n => ?_) (fun hn0 => ?_)
    · have hnN : mm_isN n := ⟨by omega, h1n.2⟩
      have NWn := kk_NWC hc hsT h1n
      have h3n : 0 < h (24, s, n) 0 := by
        have := NWn.1.1
        omega
      rw [mm_pR, r_7_0_6a (hty0 := hsT) (hny0 := hnN) (hx := hx)]
      have bad : ¬ ((1 ≤ m ∧ m ≤ 8) ∧ 0 ≤ k ∧ k + m ≤ 2160) → mm_Wp 7 (mm_blk 7 2) [zR (1, 0, 0), zI t, zI n, zI k, zL l, zU, zI m, zR (24, s, n), zU, zU, zU, zU, zU, zU] [] (mm_z h dh nx ns) (fun (r : mm_V) (h1 : mm_H) => kk_SI r ∧ ∃ g dh1, h1 = mm_z g dh1 nx ns ∧ mm_Cl 220 [zR (40, 0, 0), zI t, zI n, zI k, zL l, zI m] (mm_z g dh1 nx ns) (fun r2 h2 => r2 = r ∧ ∃ g2, h2 = mm_z g2 dh1 nx ns ∧ kk_core (b + 1) g2 dh1 ∧ ∀ x j, kk_scr x j → g2 x j = h x j)) := fun w => by
        rw [r_7_2 (hx := hx)]
        refine fin (-2) ⟨_, rfl, by omega, by omega⟩ ?_
        have ek : ∀ (x : mm_Id) (j : Int), 40 ≤ x.1 → h x j = h x j := fun _ _ _ => rfl
        have lk := kk_lkr h
        have f29 : mm_up h (40, 0, 0) 0 0 (40, 0, 0) 29 = h (1, 0, 0) 12 := (mm_upj (by decide)).trans ((ek _ _ (by simp)).trans (kk_cal hc).1.symm)
        have f41n : mm_up h (40, 0, 0) 0 0 (41, 0, 0) (36 * s + n - 1) = h (24, s, n) 0 := by rw [mm_upf (by decide)]; exact (ek _ _ (by simp)).trans (kk_nf hc (by omega) h1n).1
        have f44n : mm_up h (40, 0, 0) 0 0 (44, 0, 0) (36 * s + n - 1) = h (24, s, n) 6 := by rw [mm_upf (by decide)]; exact (ek _ _ (by simp)).trans (kk_nf hc (by omega) h1n).2.1
        have f49n : mm_up h (40, 0, 0) 0 0 (49, 0, 0) (36 * s + n - 1) = h (24, s, n) 11 := by rw [mm_upf (by decide)]; exact (ek _ _ (by simp)).trans (kk_nf hc (by omega) h1n).2.2.1
        have f42n : mm_up h (40, 0, 0) 0 0 (42, 0, 0) (36 * s + n - 1) = h (24, s, n) 1 := by rw [mm_upf (by decide)]; exact (ek _ _ (by simp)).trans ((kk_nf hc (by omega) h1n).2.2.2 h2n).1
        have f47n : mm_up h (40, 0, 0) 0 0 (47, 0, 0) (36 * s + n - 1) = h (24, s, n) 2 := by rw [mm_upf (by decide)]; exact (ek _ _ (by simp)).trans ((kk_nf hc (by omega) h1n).2.2.2 h2n).2.1
        have f48n : mm_up h (40, 0, 0) 0 0 (48, 0, 0) (36 * s + n - 1) = h (24, s, n) 3 := by rw [mm_upf (by decide)]; exact (ek _ _ (by simp)).trans ((kk_nf hc (by omega) h1n).2.2.2 h2n).2.2
        rw [r_220_e (hy := hy)]
        refine m181y hy hc (kk_lku (by decide) lk) ht hs ?_
        rw [mm_pI, r_220_0_6 (hy := hy)]
        refine m210y hy (by omega) h1n (by rw [f41n]; exact h3n) ?_
        rw [mm_pI, r_220_0_11 (hy := hy), if_neg (by decide)]
        by_cases w1 : 1 ≤ m ∧ m ≤ 8
        · refine m174y hy w1 ?_
          rw [mm_pI, r_220_1_5 (hy := hy), if_neg (by decide)]
          by_cases w2 : k < 0
          · rw [if_pos w2, r_220_2 (hy := hy)]
            exact mfin _ _ rfl
          · rw [if_neg w2]
            have eW : mm_W (k + m) = k + m := by unfold mm_W; omega
            rw [eW]
            refine m174n hy (by omega) ?_
            rw [mm_pI, r_220_1_16 (hy := hy), if_pos rfl, r_220_2 (hy := hy)]
            exact mfin _ _ rfl
        · refine m174n hy w1 ?_
          rw [mm_pI, r_220_1_5 (hy := hy), if_pos rfl, r_220_2 (hy := hy)]
          exact mfin _ _ rfl
      by_cases w1 : m < 1
      · rw [if_pos w1]; exact bad (by omega)
      rw [if_neg w1]
      by_cases w2 : 8 < m
      · rw [if_pos w2]; exact bad (by omega)
      rw [if_neg w2]
      by_cases w3 : k < 0
      · rw [if_pos w3]; exact bad (by omega)
      rw [if_neg w3, mm_wi (z := 2160 - m) (by omega) (by omega)]
      by_cases w4 : 2160 - m < k
      · rw [if_pos w4]; exact bad (by omega)
      rw [if_neg w4]
      refine s53t hx (kk_nmC hc) (fun s5 s50 s51 hs5 => ?_) (fun hs5 => ?_)
      · have e5 := (kk_tp1 hs5 hs).symm
        subst e5
        have hD : mm_isD s := ⟨s50, s51⟩
        have hno := kk_tpp hs
        rw [mm_pR, r_7_3_3a (htx7 := hsT) (hnx7 := hnN) (hty0 := hD) (hx := hx)]
        by_cases hk1 : h (24, s, n) 0 = 1
        · rw [if_pos hk1]
          refine s60 hsT hnN hx (fun w => ?_) (fun w => ?_)
          · obtain ⟨lo, hlo⟩ : ∃ q, q = k / 60 := ⟨_, rfl⟩
            obtain ⟨p1, hp1⟩ : ∃ q, q = (k + m - 1) / 60 := ⟨_, rfl⟩
            obtain ⟨sz, hsz⟩ : ∃ q, q = if h (24, s, n) 1 < k + m then k + m else h (24, s, n) 1 := ⟨_, rfl⟩
            have w1s := NWn.2.2.2.2.2.2.2.2.2.2.1.1 hk1
            have szr : 0 ≤ sz ∧ sz ≤ 2160 := by rw [hsz]; split <;> omega
            have eW : mm_W (k + m) = k + m := by unfold mm_W; omega
            have hu := NWn.2.2.2.2.2.2.2.2.1
            have hu2 : h (47, 0, 0) (36 * s + n - 1) = h (24, s, n) 2 := ((kk_nf hc (s := s) (n := n) (by omega) h1n).2.2.2 h2n).2.1
            have nope : ¬ kk_room h s (h (24, s, n) 2) (kk_sf (kk_na h s n) lo (p1 + 1)) (kk_sf (kk_fr h s n) lo (p1 + 1)) → (fun (r : mm_V) (h1 : mm_H) => kk_SI r ∧ ∃ g dh1, h1 = mm_z g dh1 nx ns ∧ mm_Cl 220 [zR (40, 0, 0), zI t, zI n, zI k, zL l, zI m] (mm_z g dh1 nx ns) (fun r2 h2 => r2 = r ∧ ∃ g2, h2 = mm_z g2 dh1 nx ns ∧ kk_core (b + 1) g2 dh1 ∧ ∀ x j, kk_scr x j → g2 x j = h x j)) (zI (-4)) (mm_z h dh nx ns) := fun nr => by
              refine fin (-4) ⟨_, rfl, by omega, by omega⟩ ?_
              have ek : ∀ (x : mm_Id) (j : Int), 40 ≤ x.1 → h x j = h x j := fun _ _ _ => rfl
              have lk := kk_lkr h
              have f29 : mm_up h (40, 0, 0) 0 0 (40, 0, 0) 29 = h (1, 0, 0) 12 := (mm_upj (by decide)).trans ((ek _ _ (by simp)).trans (kk_cal hc).1.symm)
              have f41n : mm_up h (40, 0, 0) 0 0 (41, 0, 0) (36 * s + n - 1) = h (24, s, n) 0 := by rw [mm_upf (by decide)]; exact (ek _ _ (by simp)).trans (kk_nf hc (by omega) h1n).1
              have f44n : mm_up h (40, 0, 0) 0 0 (44, 0, 0) (36 * s + n - 1) = h (24, s, n) 6 := by rw [mm_upf (by decide)]; exact (ek _ _ (by simp)).trans (kk_nf hc (by omega) h1n).2.1
              have f49n : mm_up h (40, 0, 0) 0 0 (49, 0, 0) (36 * s + n - 1) = h (24, s, n) 11 := by rw [mm_upf (by decide)]; exact (ek _ _ (by simp)).trans (kk_nf hc (by omega) h1n).2.2.1
              have f42n : mm_up h (40, 0, 0) 0 0 (42, 0, 0) (36 * s + n - 1) = h (24, s, n) 1 := by rw [mm_upf (by decide)]; exact (ek _ _ (by simp)).trans ((kk_nf hc (by omega) h1n).2.2.2 h2n).1
              have f47n : mm_up h (40, 0, 0) 0 0 (47, 0, 0) (36 * s + n - 1) = h (24, s, n) 2 := by rw [mm_upf (by decide)]; exact (ek _ _ (by simp)).trans ((kk_nf hc (by omega) h1n).2.2.2 h2n).2.1
              have f48n : mm_up h (40, 0, 0) 0 0 (48, 0, 0) (36 * s + n - 1) = h (24, s, n) 3 := by rw [mm_upf (by decide)]; exact (ek _ _ (by simp)).trans ((kk_nf hc (by omega) h1n).2.2.2 h2n).2.2
              rw [r_220_e (hy := hy)]
              refine m181y hy hc (kk_lku (by decide) lk) ht hs ?_
              rw [mm_pI, r_220_0_6 (hy := hy)]
              refine m210y hy (by omega) h1n (by rw [f41n]; exact h3n) ?_
              rw [mm_pI, r_220_0_11 (hy := hy), if_neg (by decide)]
              refine m174y hy (by omega) ?_
              rw [mm_pI, r_220_1_5 (hy := hy), if_neg (by decide), if_neg (by omega), eW]
              refine m174y hy (by omega) ?_
              rw [mm_pI, r_220_1_16 (hy := hy), if_neg (by decide)]
              rw [if_pos s51]
              refine m177y hy (by omega) h1n f41n hk1 ?_
              rw [mm_pI, r_220_3_7 (hy := hy), if_neg (by decide)]
              refine m203y hy (by omega) h1n f29 f47n f48n w ?_
              rw [mm_pI]
              refine m220r hy hc ⟨s50, s51⟩ hno h1n hk1 (by omega) (by omega) hlo hp1 (fun x j q q2 => by rw [mm_upne' q2]) hsz (fun G c2 g2 v11 IG eG I J => ?_)
              have eX : ∀ (f : Nat) j, f = 41 ∨ f = 43 ∨ f = 47 ∨ f = 57 → mm_up g2 (42, 0, 0) (36 * s + n - 1) sz (f, 0, 0) j = c2 (f, 0, 0) j := fun f j hf => by rw [mm_upf (by omega)]; exact J.1 _ _ (by rintro v; simp at v; omega)
              have e59 : ∀ (f : Nat) j, f = 59 ∨ f = 61 → mm_up g2 (42, 0, 0) (36 * s + n - 1) sz (f, 0, 0) j = h (f, 0, 0) j := fun f j hf => by
                rw [mm_upf (by omega)]
                exact (J.1 _ _ (by rintro v; simp at v; omega)).trans ((I.2.2.2.2.2.2.1 _ _ (by rintro v; simp at v; omega) (by rintro ⟨v, _⟩; simp at v; omega) (by rintro v; simp at v; omega) (by rintro ⟨v, _⟩; simp at v; omega)).trans (IG.1 _ _ (by show 40 ≤ f; omega) (kk_sx6 (by omega)) (by show f ≠ 56; omega) (by rintro ⟨v, _⟩; simp at v; omega)))
              refine m220d hy hc ⟨s50, s51⟩ h1n hu hu2 (by omega) (by omega) (by omega) IG I eX e59 (fun gm eg y => absurd y nr) (fun gm eg y => ?_)
              have frX : ∀ (x : mm_Id) j, ¬ kk_sx s x j → x.1 ≠ 54 → x.1 ≠ 55 → x.1 ≠ 56 → ¬ (x = (40, 0, 0) ∧ (j = 0 ∨ j = 18)) → gm x j = G x j := fun x j q1 q2 q3 q4 q5 => by
                rw [eg x j q4, mm_upne' (fun v => q1 ⟨n, h1n.1, h1n.2, Or.inl ⟨by rw [v.1]; simp [kk_mf], v.2⟩⟩), J.1 x j (fun v => q2 (by rw [v]))]
                exact I.2.2.2.2.2.2.1 x j (fun v => q3 (by rw [v])) (fun v => q5 ⟨v.1, Or.inr v.2⟩) (fun v => q2 (by rw [v])) (fun v => q1 ⟨n, h1n.1, h1n.2, Or.inr (Or.inl ⟨by rw [v.1], by have := v.2; omega⟩)⟩)
              have frS : ∀ (x : mm_Id) j, x.1 < 40 ∨ kk_scr x j → gm x j = (mm_up h (40, 0, 0) 0 0) x j := fun x j q => by
                have n0 : ¬ (41 ≤ x.1 ∧ x.1 ≤ 56) := by
                  rcases q with q | q
                  · omega
                  · unfold kk_scr at q
                    rcases q with q | q | ⟨q, _⟩ | q
                    · omega
                    · omega
                    · rw [q]; simp
                    · omega
                have n1 : ¬ (x = (40, 0, 0) ∧ (j = 0 ∨ j = 18)) := by
                  rintro ⟨v, v2⟩
                  rcases q with q | q
                  · rw [v] at q; simp at q
                  · unfold kk_scr at q
                    rw [v] at q
                    simp at q
                    omega
                have n2 : ∀ a, ¬ kk_sx a x j := fun a v => by have r := kk_sxr v; omega
                rw [frX x j (n2 s) (by omega) (by omega) (by omega) n1]
                exact eG x j (n2 28)
              have w28 : ∀ v, 1 ≤ v → v < 37 → kk_mw G (36 * 28 + v - 1) := fun v v0 v1 => (kk_MWcp (IG.2 v v0 v1) (kk_MWC hc (s := s) (n := v) (by omega) ⟨v0, v1⟩)).1
              rw [r_220_13 (hy := hy)]
              refine m179 hy (by omega) (by omega) (by omega) (fun v v0 v1 => ?_) (fun g3 mS mF => ?_)
              · unfold kk_mw
                have f : ∀ f : Nat, kk_mf f → f ≠ 42 → gm (f, 0, 0) (36 * 28 + v - 1) = G (f, 0, 0) (36 * 28 + v - 1) := fun f hf q => by
                  have hf2 := hf
                  unfold kk_mf at hf2
                  exact frX _ _ (kk_sxd (s := 28) (by omega) ⟨v, v0, v1, Or.inl ⟨hf, rfl⟩⟩) (by show f ≠ 54; omega) (by show f ≠ 55; omega) (by show f ≠ 56; omega) (by rintro ⟨y, _⟩; simp at y; omega)
                rw [f 53 (by simp [kk_mf]) (by decide), f 44 kk_f44 (by decide), f 49 kk_f49 (by decide)]
                exact w28 v v0 v1
              rw [mm_pU, r_220_13_4 (hy := hy)]
              have I1 := I.1
              refine ⟨rfl, g3, rfl, kk_coreS hb (kk_rsN hc ⟨s50, s51⟩ hno IG (fun x j q => ?_) frX (fun c k2 q c0 c1 k0 k1 => ?_) (fun c c0 c1 q => ?_) ?_ mS mF), fun x j q => ?_⟩
              · rw [eG x j (fun v => by have r := kk_sxr v; omega)]; exact mm_upne' (by rintro ⟨v, _⟩; rw [v] at q; simp at q)
              · have nr2 := fun p p0 p2 => kk_RIn (p := p) hc ⟨s50, by omega⟩ h1n IG I p0 p2 q
                rw [eg _ _ (by decide), mm_upf (by decide), J.2.2 c k2 k0 k1 (fun p sp => nr2 p sp.1 sp.2)]
                exact I.2.2.2.2.2.1 c k2 k0 k1 (fun p p0 p2 => nr2 p p0 p2)
              · rw [eg _ _ (by decide), mm_upf (by decide), J.1 _ _ (by simp)]
                exact I1.1 c c0 c1 (kk_RIa hc ⟨s50, by omega⟩ h1n IG I (by omega) (by omega) q)
              · rw [eg _ _ (by decide), mm_upf (by decide), J.1 _ _ (by simp)]; exact I1.2
              · have n2 : ¬ kk_sx s x j := fun v => by
                  have r := kk_sxr v
                  unfold kk_scr at q
                  rcases q with q | q | ⟨q, _⟩ | q
                  · omega
                  · omega
                  · rw [q] at r; simp at r
                  · omega
                rw [mF x j n2, frS x j (Or.inr q)]; exact kk_scr0 q
            have yes : kk_room h s (h (24, s, n) 2) (kk_sf (kk_na h s n) lo (p1 + 1)) (kk_sf (kk_fr h s n) lo (p1 + 1)) → mm_Wp 7 (mm_blk 7 14) [zR (1, 0, 0), zI t, zI n, zI k, zL l, zU, zI m, zR (24, s, n), zR (31, s, 0), zI lo, zI p1, zI (kk_sf (kk_na h s n) lo (p1 + 1)), zI (kk_sf (kk_fr h s n) lo (p1 + 1)), zI (p1 + 1)] [] (mm_z h dh nx ns) (fun (r : mm_V) (h1 : mm_H) => kk_SI r ∧ ∃ g dh1, h1 = mm_z g dh1 nx ns ∧ mm_Cl 220 [zR (40, 0, 0), zI t, zI n, zI k, zL l, zI m] (mm_z g dh1 nx ns) (fun r2 h2 => r2 = r ∧ ∃ g2, h2 = mm_z g2 dh1 nx ns ∧ kk_core (b + 1) g2 dh1 ∧ ∀ x j, kk_scr x j → g2 x j = h x j)) := fun yr => by
              rw [r_7_14 (htx7 := hsT) (hnx7 := hnN) (htx8 := hD) (hvx12 := rfl) (hx := hx)]
              refine s7r (lo := lo) hx hc hD h1n (by omega) (by omega) rfl (fun c Ic => ?_) (p1 + 1 - lo).toNat lo h (by omega) (by omega) (kk_RN0 (fun p => by omega) hc.1.1.2.2.2.2.2.2.2.1 NWn.2.2.2.2.2.2.1 hc.1.1.2.2.2.2.2.2.2.2.1.2) (by have := kk_usle hc; omega)
              refine s7p hx hc hD h1n (by omega) (by omega) hlo hp1 Ic (fun g Pc => ?_) m.toNat 0 c (by omega) (by omega) kk_PW0
              rw [← hsz]
              obtain ⟨hz, ehz⟩ : ∃ q, q = mm_up g (24, s, n) 1 sz := ⟨_, rfl⟩
              rw [← ehz]
              have C : ∀ (f : Nat) a c' j, ¬ (15 ≤ f ∧ f ≤ 19) → ¬ (f = 27 ∧ a = s ∧ c' = n) → ¬ (f = 24 ∧ a = s ∧ c' = n ∧ (j = 1 ∨ j = 9)) → hz (f, a, c') j = h (f, a, c') j := fun f a c' j q1 q2 q3 => by
                rw [ehz, mm_upne' (by rintro ⟨v, v2⟩; simp at v; omega), Pc.1 _ _ (by rintro v; simp at v; omega)]
                exact Ic.2.2.2.2.2.2.2.2.1 _ _ (by unfold kk_ct; rintro (⟨v, _⟩ | v | v | v) <;> simp at v <;> omega) (by rintro ⟨v, _⟩; simp at v; omega) (by rintro v; simp at v; omega) (by rintro v; simp at v; omega) (by rintro ⟨v, v2⟩; simp at v; omega)
              have z27 : ∀ p, hz (27, s, n) p = c (27, s, n) p := fun p => by rw [ehz, mm_upf (by decide)]; exact Pc.1 _ _ (by simp)
              have Rz : kk_R hz := by
                rw [ehz]
                exact kk_Rcong (fun u n p => by rw [mm_upf (by decide)]; exact Pc.1 _ _ (by simp)) (by rw [mm_upf (by decide)]; exact Pc.1 _ _ (by simp)) (by rw [mm_upf (by decide)]; exact Pc.1 _ _ (by simp)) (fun _ => by rw [mm_upf (by decide)]; exact Pc.1 _ _ (by simp)) (fun _ => by rw [mm_upf (by decide)]; exact Pc.1 _ _ (by simp)) (fun _ => by rw [mm_upf (by decide)]; exact Pc.1 _ _ (by simp)) Ic.1
              have nwz : ∀ a v, 0 ≤ a → a < 18 → 1 ≤ v → v < 37 → kk_nw hz a v := fun a v a0 a1 v0 v1 => by
                by_cases q : a = s ∧ v = n
                · rw [q.1, q.2]
                  have w0 := kk_nwC hc hsT h1n
                  refine ⟨by rw [C 24 s n 14 (by omega) (by omega) (by omega)]; exact w0.1, by rw [C 24 s n 11 (by omega) (by omega) (by omega)]; exact w0.2.1, ?_⟩
                  rw [kk_nzc (fun p _ _ => z27 p), ← Ic.2.1, ehz, mm_upj (by decide)]; exact Pc.1 _ _ (by simp)
                · exact kk_nwcp (kk_cpdr (fun f j f0 f1 => C f a v j (by omega) (by omega) (by omega))) (kk_nwC hc (mm_T18 ⟨a0, a1⟩) ⟨v0, v1⟩)
              refine s63 hx hD Rz nwz (fun a a0 a1 => ?_) ?_ (fun gf k1 k2 k3 => ?_)
              · rw [C 22 a 0 2 (by omega) (by omega) (by omega), hc.1.1.2.2.2.2.2.2.2.2.2.1 a (mm_T18 ⟨by omega, a1⟩)]
                exact if_neg (by omega)
              · rw [C 1 0 0 13 (by omega) (by omega) (by omega)]; exact (kk_ac hc).2
              have gsz : gf (24, s, n) 1 = sz := by
                have z : hz (24, s, n) 1 = sz := by rw [ehz, mm_ups]
                rcases k1 with ⟨_, e⟩ | ⟨_, e⟩
                · rw [e, mm_upf (by decide), mm_upf (by decide)]; exact z
                · rw [e.2.2.2.2 (24, s, n) 1 (by simp) (by unfold kk_ct; simp) (by rintro ⟨i, i0, _, q⟩; unfold kk_tr at q; simp at q; omega) (by rintro ⟨i, _, q, _⟩; simp at q) (by simp), mm_upf (by decide), mm_upf (by decide)]; exact z
              rw [mm_pU, r_7_18_11 (htx7 := hsT) (hnx7 := hnN) (hx := hx), gsz]
              refine ⟨⟨_, rfl, by omega, by omega⟩, gf, dh, rfl, ?_⟩
              have ek : ∀ (x : mm_Id) (j : Int), 40 ≤ x.1 → gf x j = h x j := fun x j q => by
                obtain ⟨f, a, c'⟩ := x
                rw [k2 _ j q]; exact C f a c' j (by simp at q; omega) (by simp at q; omega) (by simp at q; omega)
              have lk : kk_lk h gf := ⟨fun a _ _ => by
                rw [kk_acno k1]
                unfold kk_no
                rw [C 31 a 0 3 (by omega) (by omega) (by omega), C 33 _ 0 1 (by omega) (by omega) (by omega)], fun a _ _ => ek _ _ (by simp)⟩
              have f29 : mm_up gf (40, 0, 0) 0 0 (40, 0, 0) 29 = h (1, 0, 0) 12 := (mm_upj (by decide)).trans ((ek _ _ (by simp)).trans (kk_cal hc).1.symm)
              have f41n : mm_up gf (40, 0, 0) 0 0 (41, 0, 0) (36 * s + n - 1) = h (24, s, n) 0 := by rw [mm_upf (by decide)]; exact (ek _ _ (by simp)).trans (kk_nf hc (by omega) h1n).1
              have f44n : mm_up gf (40, 0, 0) 0 0 (44, 0, 0) (36 * s + n - 1) = h (24, s, n) 6 := by rw [mm_upf (by decide)]; exact (ek _ _ (by simp)).trans (kk_nf hc (by omega) h1n).2.1
              have f49n : mm_up gf (40, 0, 0) 0 0 (49, 0, 0) (36 * s + n - 1) = h (24, s, n) 11 := by rw [mm_upf (by decide)]; exact (ek _ _ (by simp)).trans (kk_nf hc (by omega) h1n).2.2.1
              have f42n : mm_up gf (40, 0, 0) 0 0 (42, 0, 0) (36 * s + n - 1) = h (24, s, n) 1 := by rw [mm_upf (by decide)]; exact (ek _ _ (by simp)).trans ((kk_nf hc (by omega) h1n).2.2.2 h2n).1
              have f47n : mm_up gf (40, 0, 0) 0 0 (47, 0, 0) (36 * s + n - 1) = h (24, s, n) 2 := by rw [mm_upf (by decide)]; exact (ek _ _ (by simp)).trans ((kk_nf hc (by omega) h1n).2.2.2 h2n).2.1
              have f48n : mm_up gf (40, 0, 0) 0 0 (48, 0, 0) (36 * s + n - 1) = h (24, s, n) 3 := by rw [mm_upf (by decide)]; exact (ek _ _ (by simp)).trans ((kk_nf hc (by omega) h1n).2.2.2 h2n).2.2
              rw [r_220_e (hy := hy)]
              refine m181y hy hc (kk_lku (by decide) lk) ht hs ?_
              rw [mm_pI, r_220_0_6 (hy := hy)]
              refine m210y hy (by omega) h1n (by rw [f41n]; exact h3n) ?_
              rw [mm_pI, r_220_0_11 (hy := hy), if_neg (by decide)]
              refine m174y hy (by omega) ?_
              rw [mm_pI, r_220_1_5 (hy := hy), if_neg (by decide), if_neg (by omega), eW]
              refine m174y hy (by omega) ?_
              rw [mm_pI, r_220_1_16 (hy := hy), if_neg (by decide)]
              rw [if_pos s51]
              refine m177y hy (by omega) h1n f41n hk1 ?_
              rw [mm_pI, r_220_3_7 (hy := hy), if_neg (by decide)]
              refine m203y hy (by omega) h1n f29 f47n f48n w ?_
              rw [mm_pI]
              refine m220r hy hc ⟨s50, s51⟩ hno h1n hk1 (by omega) (by omega) hlo hp1 (fun x j q q2 => by rw [mm_upne' q2]; exact ek x j q) hsz (fun G c2 g2 v11 IG eG I J => ?_)
              have eX : ∀ (f : Nat) j, f = 41 ∨ f = 43 ∨ f = 47 ∨ f = 57 → mm_up g2 (42, 0, 0) (36 * s + n - 1) sz (f, 0, 0) j = c2 (f, 0, 0) j := fun f j hf => by rw [mm_upf (by omega)]; exact J.1 _ _ (by rintro v; simp at v; omega)
              have e59 : ∀ (f : Nat) j, f = 59 ∨ f = 61 → mm_up g2 (42, 0, 0) (36 * s + n - 1) sz (f, 0, 0) j = h (f, 0, 0) j := fun f j hf => by
                rw [mm_upf (by omega)]
                exact (J.1 _ _ (by rintro v; simp at v; omega)).trans ((I.2.2.2.2.2.2.1 _ _ (by rintro v; simp at v; omega) (by rintro ⟨v, _⟩; simp at v; omega) (by rintro v; simp at v; omega) (by rintro ⟨v, _⟩; simp at v; omega)).trans (IG.1 _ _ (by show 40 ≤ f; omega) (kk_sx6 (by omega)) (by show f ≠ 56; omega) (by rintro ⟨v, _⟩; simp at v; omega)))
              refine m220d hy hc ⟨s50, s51⟩ h1n hu hu2 (by omega) (by omega) (by omega) IG I eX e59 (fun gm eg y => ?_) (fun gm eg y => absurd yr y)
              have frX : ∀ (x : mm_Id) j, ¬ kk_sx s x j → x.1 ≠ 54 → x.1 ≠ 55 → x.1 ≠ 56 → ¬ (x = (40, 0, 0) ∧ (j = 0 ∨ j = 18)) → gm x j = G x j := fun x j q1 q2 q3 q4 q5 => by
                rw [eg x j q4, mm_upne' (fun v => q1 ⟨n, h1n.1, h1n.2, Or.inl ⟨by rw [v.1]; simp [kk_mf], v.2⟩⟩), J.1 x j (fun v => q2 (by rw [v]))]
                exact I.2.2.2.2.2.2.1 x j (fun v => q3 (by rw [v])) (fun v => q5 ⟨v.1, Or.inr v.2⟩) (fun v => q2 (by rw [v])) (fun v => q1 ⟨n, h1n.1, h1n.2, Or.inr (Or.inl ⟨by rw [v.1], by have := v.2; omega⟩)⟩)
              have frS : ∀ (x : mm_Id) j, x.1 < 40 ∨ kk_scr x j → gm x j = (mm_up gf (40, 0, 0) 0 0) x j := fun x j q => by
                have n0 : ¬ (41 ≤ x.1 ∧ x.1 ≤ 56) := by
                  rcases q with q | q
                  · omega
                  · unfold kk_scr at q
                    rcases q with q | q | ⟨q, _⟩ | q
                    · omega
                    · omega
                    · rw [q]; simp
                    · omega
                have n1 : ¬ (x = (40, 0, 0) ∧ (j = 0 ∨ j = 18)) := by
                  rintro ⟨v, v2⟩
                  rcases q with q | q
                  · rw [v] at q; simp at q
                  · unfold kk_scr at q
                    rw [v] at q
                    simp at q
                    omega
                have n2 : ∀ a, ¬ kk_sx a x j := fun a v => by have r := kk_sxr v; omega
                rw [frX x j (n2 s) (by omega) (by omega) (by omega) n1]
                exact eG x j (n2 28)
              have RC := kk_RIc hc ⟨s50, s51⟩ h1n (by omega) (by omega) (by omega) IG I
              have E4 := kk_e4 (X := gm) (c := c2) (fun f j hf => by rw [eg _ _ (by show f ≠ 56; omega)]; exact eX f j hf)
              have b3 : kk_cnt (kk_lb gm (-1)) ≤ 400 := by
                rw [kk_cntc (P := kk_lb gm (-1)) (fun v _ _ => E4.2.1 (-1) v), RC.1]; exact yr.1
              have b7 : kk_cnt (kk_bs gm s) ≤ h (59, 0, 0) s := by
                rw [kk_cntc (P := kk_bs gm s) (fun v _ _ => E4.1 s v), RC.2.1]; exact yr.2.1
              have hB : ∀ i, -128 ≤ mm_b (mm_w (mm_lushr l (8 * (m - 1 - i)))) ∧ mm_b (mm_w (mm_lushr l (8 * (m - 1 - i)))) < 128 := fun i => by unfold mm_b; omega
              have WM := kk_wrW (Z := mm_up (kk_mix hz gm) (31, s, 0) 6 1) hc ⟨s50, s51⟩ hno h1n hk1 (by omega) (by omega) hlo hp1 rfl Ic Pc IG I J hB hsz ehz (fun x j _ q => eg x j q) rfl b3 b7
              rw [r_220_14 (hy := hy)]
              refine ⟨by omega, m209W hy rfl WM.1 WM.2 (fun g3 m1 m2 m3 => ?_)⟩
              rw [mm_pU, r_220_14_7 (hy := hy)]
              refine ⟨by rw [eg _ _ (by decide), mm_ups], g3, rfl, kk_actend (gx := gm) hb rfl WM.1 WM.2 k1 m1 (fun x j q => ?_) m3 (fun _ _ _ => rfl) (fun x j q => ?_)⟩
              · rw [m2 x j q, frS x j (Or.inl q)]; exact kk_clU q (by simp)
              · rw [frS x j (Or.inr q), kk_scr0 q]
                rcases kk_scrC q with q5 | q5
                · exact ek x j q5
                · obtain ⟨f, a, c'⟩ := x
                  rw [k3 _ j q5.1 q5.2]; exact C f a c' j (by simp at q5; omega) (by simp at q5; omega) (by simp at q5; omega)
            suffices go : mm_Wp 7 (mm_blk 7 7) [zR (1, 0, 0), zI t, zI n, zI k, zL l, zU, zI m, zR (24, s, n), zR (31, s, 0), zI lo, zI p1, zI (kk_sf (kk_na h s n) lo (p1 + 1)), zI (kk_sf (kk_fr h s n) lo (p1 + 1)), zI (p1 + 1)] [] (mm_z h dh nx ns) (fun (r : mm_V) (h1 : mm_H) => kk_SI r ∧ ∃ g dh1, h1 = mm_z g dh1 nx ns ∧ mm_Cl 220 [zR (40, 0, 0), zI t, zI n, zI k, zL l, zI m] (mm_z g dh1 nx ns) (fun r2 h2 => r2 = r ∧ ∃ g2, h2 = mm_z g2 dh1 nx ns ∧ kk_core (b + 1) g2 dh1 ∧ ∀ x j, kk_scr x j → g2 x j = h x j)) by
              have e := s7c hx hD hnN (show 0 ≤ lo by omega) (show p1 < 36 by omega) (fun p p0 p2 => (hc.1.1.2.2.2.2.2.2.2.1.1 s n p hsT hnN p0 p2).1) (p1 + 1 - lo).toNat lo (by omega) (by omega) go
              rw [kk_sf0, kk_sf0] at e
              rw [mm_pI, r_7_5_4 (htx7 := hsT) (hnx7 := hnN) (htx8 := hD) (hx := hx), if_neg (by decide), mm_wi (z := k + m) (by omega) (by omega), mm_wi (z := k + m - 1) (by omega) (by omega), Int.tdiv_eq_ediv_of_nonneg (show 0 ≤ k + m - 1 by omega), Int.tdiv_eq_ediv_of_nonneg (show 0 ≤ k by omega), mm_wi (z := (k + m - 1) / 60) (by omega) (by omega), mm_wi (z := k / 60) (by omega) (by omega), ← hlo, ← hp1]
              exact e
            have nb := kk_sfb (f := kk_na h s n) (lo := lo) (p1 + 1 - lo).toNat (fun p _ _ => kk_nab h s n p)
            have fb := kk_sfb (f := kk_fr h s n) (lo := lo) (p1 + 1 - lo).toNat (fun p _ _ => kk_frb h s n p)
            rw [show lo + ((p1 + 1 - lo).toNat : Int) = p1 + 1 by omega] at nb fb
            have B := hc.1.2.1
            have D7 := hc.1.2.2.1.2.2.2.2.2.2.1 s s50 s51 hno
            have b7 := (B.2.2.2.2.2.2 s s50 s51).1 hno
            have cl := B.2.2.1
            have cl0 : 0 ≤ kk_cnt (kk_lb h (-1)) := by rw [kk_cntm]; exact kk_cmnn _ _
            have d32 := (D7.2.2 _ hu.1 hu.2).1
            rw [r_7_7 (htx7 := hsT) (hnx7 := hnN) (htx8 := hD) (hx := hx), if_pos (by omega), kk_lbh hc.1, mm_wi (z := kk_cnt (kk_lb h (-1)) + kk_sf (kk_na h s n) lo (p1 + 1)) (by omega) (by omega)]
            unfold kk_room at nope yes
            rw [← D7.2.1.1] at b7 nope yes
            rw [← d32] at nope yes
            have eN := kk_tbl hc.1 (t := s) ⟨s50, by omega⟩
            generalize kk_cnt (kk_lb h (-1)) = CL at nope yes cl cl0 ⊢
            by_cases c4 : 400 < CL + kk_sf (kk_na h s n) lo (p1 + 1)
            · rw [if_pos c4, r_7_13 (hx := hx)]
              exact nope (fun q => by omega)
            · rw [if_neg c4]
              by_cases c5 : 0 < kk_sf (kk_fr h s n) lo (p1 + 1)
              · rw [if_pos c5]
                refine s82 hx hc ⟨s50, s51⟩ hu (by omega) (fun y1 y2 => ?_) (fun y => ?_)
                · rw [mm_pI, r_7_12_14 (htx7 := hsT) (hnx7 := hnN) (htx8 := hD) (hx := hx), if_neg (by decide)]
                  exact yes ⟨by omega, y2, Or.inr y1⟩
                · rw [mm_pI, r_7_12_14 (htx7 := hsT) (hnx7 := hnN) (htx8 := hD) (hx := hx), if_pos rfl, r_7_13 (hx := hx)]
                  refine nope (fun q => y ⟨?_, q.2.1⟩)
                  rcases q.2.2 with q2 | q2
                  · omega
                  · exact q2
              · rw [if_neg c5]
                exact yes ⟨by omega, by omega, Or.inl (by omega)⟩
          · rw [mm_pI, r_7_5_4 (htx7 := hsT) (hnx7 := hnN) (htx8 := hD) (hx := hx), if_pos rfl]
            have eW : mm_W (k + m) = k + m := by unfold mm_W; omega
            refine fin (-5) ⟨_, rfl, by omega, by omega⟩ ?_
            have ek : ∀ (x : mm_Id) (j : Int), 40 ≤ x.1 → h x j = h x j := fun _ _ _ => rfl
            have lk := kk_lkr h
            have f29 : mm_up h (40, 0, 0) 0 0 (40, 0, 0) 29 = h (1, 0, 0) 12 := (mm_upj (by decide)).trans ((ek _ _ (by simp)).trans (kk_cal hc).1.symm)
            have f41n : mm_up h (40, 0, 0) 0 0 (41, 0, 0) (36 * s + n - 1) = h (24, s, n) 0 := by rw [mm_upf (by decide)]; exact (ek _ _ (by simp)).trans (kk_nf hc (by omega) h1n).1
            have f44n : mm_up h (40, 0, 0) 0 0 (44, 0, 0) (36 * s + n - 1) = h (24, s, n) 6 := by rw [mm_upf (by decide)]; exact (ek _ _ (by simp)).trans (kk_nf hc (by omega) h1n).2.1
            have f49n : mm_up h (40, 0, 0) 0 0 (49, 0, 0) (36 * s + n - 1) = h (24, s, n) 11 := by rw [mm_upf (by decide)]; exact (ek _ _ (by simp)).trans (kk_nf hc (by omega) h1n).2.2.1
            have f42n : mm_up h (40, 0, 0) 0 0 (42, 0, 0) (36 * s + n - 1) = h (24, s, n) 1 := by rw [mm_upf (by decide)]; exact (ek _ _ (by simp)).trans ((kk_nf hc (by omega) h1n).2.2.2 h2n).1
            have f47n : mm_up h (40, 0, 0) 0 0 (47, 0, 0) (36 * s + n - 1) = h (24, s, n) 2 := by rw [mm_upf (by decide)]; exact (ek _ _ (by simp)).trans ((kk_nf hc (by omega) h1n).2.2.2 h2n).2.1
            have f48n : mm_up h (40, 0, 0) 0 0 (48, 0, 0) (36 * s + n - 1) = h (24, s, n) 3 := by rw [mm_upf (by decide)]; exact (ek _ _ (by simp)).trans ((kk_nf hc (by omega) h1n).2.2.2 h2n).2.2
            rw [r_220_e (hy := hy)]
            refine m181y hy hc (kk_lku (by decide) lk) ht hs ?_
            rw [mm_pI, r_220_0_6 (hy := hy)]
            refine m210y hy (by omega) h1n (by rw [f41n]; exact h3n) ?_
            rw [mm_pI, r_220_0_11 (hy := hy), if_neg (by decide)]
            refine m174y hy (by omega) ?_
            rw [mm_pI, r_220_1_5 (hy := hy), if_neg (by decide), if_neg (by omega), eW]
            refine m174y hy (by omega) ?_
            rw [mm_pI, r_220_1_16 (hy := hy), if_neg (by decide)]
            rw [if_pos s51]
            refine m177y hy (by omega) h1n f41n hk1 ?_
            rw [mm_pI, r_220_3_7 (hy := hy), if_neg (by decide)]
            refine m203n hy (by omega) h1n f29 f47n f48n w ?_
            rw [mm_pI, r_220_5_5 (hy := hy), if_pos rfl]
            exact mfin _ _ rfl
        · rw [if_neg hk1, r_7_4 (hx := hx)]
          have eW : mm_W (k + m) = k + m := by unfold mm_W; omega
          refine fin (-3) ⟨_, rfl, by omega, by omega⟩ ?_
          have ek : ∀ (x : mm_Id) (j : Int), 40 ≤ x.1 → h x j = h x j := fun _ _ _ => rfl
          have lk := kk_lkr h
          have f29 : mm_up h (40, 0, 0) 0 0 (40, 0, 0) 29 = h (1, 0, 0) 12 := (mm_upj (by decide)).trans ((ek _ _ (by simp)).trans (kk_cal hc).1.symm)
          have f41n : mm_up h (40, 0, 0) 0 0 (41, 0, 0) (36 * s + n - 1) = h (24, s, n) 0 := by rw [mm_upf (by decide)]; exact (ek _ _ (by simp)).trans (kk_nf hc (by omega) h1n).1
          have f44n : mm_up h (40, 0, 0) 0 0 (44, 0, 0) (36 * s + n - 1) = h (24, s, n) 6 := by rw [mm_upf (by decide)]; exact (ek _ _ (by simp)).trans (kk_nf hc (by omega) h1n).2.1
          have f49n : mm_up h (40, 0, 0) 0 0 (49, 0, 0) (36 * s + n - 1) = h (24, s, n) 11 := by rw [mm_upf (by decide)]; exact (ek _ _ (by simp)).trans (kk_nf hc (by omega) h1n).2.2.1
          have f42n : mm_up h (40, 0, 0) 0 0 (42, 0, 0) (36 * s + n - 1) = h (24, s, n) 1 := by rw [mm_upf (by decide)]; exact (ek _ _ (by simp)).trans ((kk_nf hc (by omega) h1n).2.2.2 h2n).1
          have f47n : mm_up h (40, 0, 0) 0 0 (47, 0, 0) (36 * s + n - 1) = h (24, s, n) 2 := by rw [mm_upf (by decide)]; exact (ek _ _ (by simp)).trans ((kk_nf hc (by omega) h1n).2.2.2 h2n).2.1
          have f48n : mm_up h (40, 0, 0) 0 0 (48, 0, 0) (36 * s + n - 1) = h (24, s, n) 3 := by rw [mm_upf (by decide)]; exact (ek _ _ (by simp)).trans ((kk_nf hc (by omega) h1n).2.2.2 h2n).2.2
          rw [r_220_e (hy := hy)]
          refine m181y hy hc (kk_lku (by decide) lk) ht hs ?_
          rw [mm_pI, r_220_0_6 (hy := hy)]
          refine m210y hy (by omega) h1n (by rw [f41n]; exact h3n) ?_
          rw [mm_pI, r_220_0_11 (hy := hy), if_neg (by decide)]
          refine m174y hy (by omega) ?_
          rw [mm_pI, r_220_1_5 (hy := hy), if_neg (by decide), if_neg (by omega), eW]
          refine m174y hy (by omega) ?_
          rw [mm_pI, r_220_1_16 (hy := hy), if_neg (by decide)]
          rw [if_pos s51]
          refine m177n hy (by omega) h1n f41n hk1 ?_
          rw [mm_pI, r_220_3_7 (hy := hy), if_pos rfl, r_220_4 (hy := hy)]
          exact mfin _ _ rfl
      · have s5 : 5 ≤ s := by
          by_cases z : s < 5
          · exact absurd hs (hs5 s z)
          · omega
        rw [mm_pR, r_7_3_3 (htx7 := hsT) (hnx7 := hnN) (hx := hx), r_7_4 (hx := hx)]
        have eW : mm_W (k + m) = k + m := by unfold mm_W; omega
        refine fin (-3) ⟨_, rfl, by omega, by omega⟩ ?_
        have ek : ∀ (x : mm_Id) (j : Int), 40 ≤ x.1 → h x j = h x j := fun _ _ _ => rfl
        have lk := kk_lkr h
        have f29 : mm_up h (40, 0, 0) 0 0 (40, 0, 0) 29 = h (1, 0, 0) 12 := (mm_upj (by decide)).trans ((ek _ _ (by simp)).trans (kk_cal hc).1.symm)
        have f41n : mm_up h (40, 0, 0) 0 0 (41, 0, 0) (36 * s + n - 1) = h (24, s, n) 0 := by rw [mm_upf (by decide)]; exact (ek _ _ (by simp)).trans (kk_nf hc (by omega) h1n).1
        have f44n : mm_up h (40, 0, 0) 0 0 (44, 0, 0) (36 * s + n - 1) = h (24, s, n) 6 := by rw [mm_upf (by decide)]; exact (ek _ _ (by simp)).trans (kk_nf hc (by omega) h1n).2.1
        have f49n : mm_up h (40, 0, 0) 0 0 (49, 0, 0) (36 * s + n - 1) = h (24, s, n) 11 := by rw [mm_upf (by decide)]; exact (ek _ _ (by simp)).trans (kk_nf hc (by omega) h1n).2.2.1
        have f42n : mm_up h (40, 0, 0) 0 0 (42, 0, 0) (36 * s + n - 1) = h (24, s, n) 1 := by rw [mm_upf (by decide)]; exact (ek _ _ (by simp)).trans ((kk_nf hc (by omega) h1n).2.2.2 h2n).1
        have f47n : mm_up h (40, 0, 0) 0 0 (47, 0, 0) (36 * s + n - 1) = h (24, s, n) 2 := by rw [mm_upf (by decide)]; exact (ek _ _ (by simp)).trans ((kk_nf hc (by omega) h1n).2.2.2 h2n).2.1
        have f48n : mm_up h (40, 0, 0) 0 0 (48, 0, 0) (36 * s + n - 1) = h (24, s, n) 3 := by rw [mm_upf (by decide)]; exact (ek _ _ (by simp)).trans ((kk_nf hc (by omega) h1n).2.2.2 h2n).2.2
        rw [r_220_e (hy := hy)]
        refine m181y hy hc (kk_lku (by decide) lk) ht hs ?_
        rw [mm_pI, r_220_0_6 (hy := hy)]
        refine m210y hy (by omega) h1n (by rw [f41n]; exact h3n) ?_
        rw [mm_pI, r_220_0_11 (hy := hy), if_neg (by decide)]
        refine m174y hy (by omega) ?_
        rw [mm_pI, r_220_1_5 (hy := hy), if_neg (by decide), if_neg (by omega), eW]
        refine m174y hy (by omega) ?_
        rw [mm_pI, r_220_1_16 (hy := hy), if_neg (by decide)]
        rw [if_neg (by omega), r_220_4 (hy := hy)]
        exact mfin _ _ rfl
    · rw [mm_pR, r_7_0_6 (hx := hx)]
      refine fin (-1) ⟨_, rfl, by omega, by omega⟩ ?_
      have ek : ∀ (x : mm_Id) (j : Int), 40 ≤ x.1 → h x j = h x j := fun _ _ _ => rfl
      have lk := kk_lkr h
      rw [r_220_e (hy := hy)]
      refine m181y hy hc (kk_lku (by decide) lk) ht hs ?_
      rw [mm_pI, r_220_0_6 (hy := hy)]
      refine m210z hy (by omega) (fun w => hn0 ((kk_isn hc (by omega)).2 ⟨w.1, by rw [mm_upf (by decide)] at w; exact w.2⟩)) ?_
      rw [mm_pI, r_220_0_11 (hy := hy), if_pos rfl]
      exact mfin _ _ rfl
  · rw [mm_pR, r_7_0_4 (hx := hx)]
    refine s56n hx ?_
    rw [mm_pR, r_7_0_6 (hx := hx)]
    refine fin (-1) ⟨_, rfl, by omega, by omega⟩ ?_
    have ek : ∀ (x : mm_Id) (j : Int), 40 ≤ x.1 → h x j = h x j := fun _ _ _ => rfl
    have lk := kk_lkr h
    rw [r_220_e (hy := hy)]
    refine m181n hy hc (kk_lku (by decide) lk) ht hs ?_
    rw [mm_pI, r_220_0_6 (hy := hy)]
    refine m210n hy ?_
    rw [mm_pI, r_220_0_11 (hy := hy), if_pos rfl]
    exact mfin _ _ rfl


