/-! the calls of both: send, the call -/

theorem c_37 {b : Int} {h : mm_Id → Int → Int} {dh : Int → Int} {nx ns : Int} (hy : 10581 ≤ nx) (hc : kk_core b h dh) (hb : b + 1 ≤ 1000000) {t n : Int} (ht : -2147483648 ≤ t ∧ t < 2147483648) (hn : -2147483648 ≤ n ∧ n < 2147483648) : kk_call 37 260 [zI t, zI n] b h dh nx ns kk_SI := by
  unfold kk_call
  have hx : 5275 ≤ nx := by omega
  have hc0 : kk_core b (mm_up h (40, 0, 0) 0 0) dh := kk_core0 hc
  have fin : ∀ v, kk_SI (zI v) → mm_Cl 260 [zR (40, 0, 0), zI t, zI n] (mm_z h dh nx ns) (fun (r2 : mm_V) (h2 : mm_H) => r2 = zI v ∧ ∃ g2, h2 = mm_z g2 dh nx ns ∧ kk_core (b + 1) g2 dh ∧ ∀ x j, kk_scr x j → g2 x j = h x j) →
      (fun (r : mm_V) (h1 : mm_H) => kk_SI r ∧ ∃ g dh1, h1 = mm_z g dh1 nx ns ∧ mm_Cl 260 [zR (40, 0, 0), zI t, zI n] (mm_z g dh1 nx ns) (fun r2 h2 => r2 = r ∧ ∃ g2, h2 = mm_z g2 dh1 nx ns ∧ kk_core (b + 1) g2 dh1 ∧ ∀ x j, kk_scr x j → g2 x j = h x j)) (zI v) (mm_z h dh nx ns) :=
    fun v h1 h2 => ⟨h1, h, dh, rfl, h2⟩
  have mfin : ∀ v w : Int, w = v → (fun (r2 : mm_V) (h2 : mm_H) => r2 = zI v ∧ ∃ g2, h2 = mm_z g2 dh nx ns ∧ kk_core (b + 1) g2 dh ∧ ∀ x j, kk_scr x j → g2 x j = h x j) (zI w) (mm_z (mm_up h (40, 0, 0) 0 0) dh nx ns) :=
    fun v w e => ⟨by rw [e], _, rfl, kk_coreS hb hc0, fun x j hs => kk_scr0 hs⟩
  have ca := kk_cal hc
  have nm := kk_nmC hc
  have h22 : ∀ a, mm_isT a → h (22, a, 0) 2 = kk_as a := hc.1.1.2.2.2.2.2.2.2.2.2.1
  rw [r_37_e (hx := hx)]
  refine s54t hx nm (fun s s0 s1 hs => ?_) (fun hs => ?_)
  · have hS : mm_isS (s - 5) := ⟨by omega, by omega⟩
    rw [mm_pR, r_37_0_3a (hty0 := hS) (hx := hx)]
    refine s54t hx nm (fun u u0 u1 hu => ?_) (fun hu => ?_)
    · have hU : mm_isS (u - 5) := ⟨by omega, by omega⟩
      have sno := kk_tpp hs
      have uno := kk_tpp hu
      have e9 := (kk_snC hc (j := s - 5) (by omega) (by omega)).1
      rw [show 5 + (s - 5) = s by omega] at e9
      have e9 := (e9 sno).1
      have f9 := (kk_snC hc (j := u - 5) (by omega) (by omega)).1
      rw [show 5 + (u - 5) = u by omega] at f9
      have f9 := (f9 uno).1
      rw [mm_pR, r_37_0_7c (htx3 := hS) (hty0 := hU) (hx := hx)]
      -- the reference's start
      have pre : ∀ (G : mm_Id → Int → Int) (Q2 : mm_V → mm_H → Prop), (∀ (x : mm_Id) k, 40 ≤ x.1 → G x k = h x k) → (if h (33, s - 5, 0) 2 = h (33, u - 5, 0) 2 then (if h (1, 0, 0) 12 = 0 then mm_Cl 179 [zR (40, 0, 0), zI s, zI 26] (mm_z (mm_up G (40, 0, 0) 0 0) dh nx ns) (fun r h3 => mm_Wp 260 (bk_260_4.drop 4) [zR (40, 0, 0), zI t, zI n, zI s, zI u] (mm_push r []) h3 Q2) else Q2 (zI (-5)) (mm_z (mm_up G (40, 0, 0) 0 0) dh nx ns)) else Q2 (zI (-3)) (mm_z (mm_up G (40, 0, 0) 0 0) dh nx ns)) → mm_Cl 260 [zR (40, 0, 0), zI t, zI n] (mm_z G dh nx ns) Q2 := fun G Q2 eG k => by
        have e57 : ∀ k, 0 ≤ k → k < 13 → mm_up G (40, 0, 0) 0 0 (57, 0, 0) k = h (57, 0, 0) k := fun k _ _ => by rw [mm_upf (by decide)]; exact eG _ _ (by decide)
        rw [r_260_e (hy := hy)]
        refine m183h hy hc e57 ht hs s0 ?_
        rw [mm_pI, r_260_0_6 (hy := hy)]
        refine m183h hy hc e57 hn hu u0 ?_
        rw [mm_pI, r_260_0_10 (hy := hy), if_neg (by omega), if_neg (by omega), mm_upf (by decide), mm_upf (by decide), mm_upj (by decide), eG _ _ (by decide), eG _ _ (by decide), eG _ _ (by decide), ← e9, ← f9, ← ca.1]
        exact ⟨⟨by omega, by omega⟩, ⟨by omega, by omega⟩, k⟩
      by_cases z : h (33, s - 5, 0) 2 = h (33, u - 5, 0) 2
      · rw [if_pos z]
        by_cases c0 : h (1, 0, 0) 12 = 0
        · rw [if_pos c0, show 5 + (s - 5) = s by omega]
          refine kk_s37 hx hc mm_t26 ⟨by omega, s1⟩ (by omega) hc.1.1.2.2.2.2.2.2.2.1 (fun _ _ _ _ _ => rfl) (fun n n0 n1 => kk_nwC hc mm_t26 ⟨n0, n1⟩) (h22 _ mm_t26) (fun h3 => mm_Wp 37 (bk_37_4.drop 8) [zR (1, 0, 0), zI t, zI n, zR (33, s - 5, 0), zR (33, u - 5, 0)] [] h3 (fun (r : mm_V) (h1 : mm_H) => kk_SI r ∧ ∃ g dh1, h1 = mm_z g dh1 nx ns ∧ mm_Cl 260 [zR (40, 0, 0), zI t, zI n] (mm_z g dh1 nx ns) (fun r2 h2 => r2 = r ∧ ∃ g2, h2 = mm_z g2 dh1 nx ns ∧ kk_core (b + 1) g2 dh1 ∧ ∀ x j, kk_scr x j → g2 x j = h x j))) (fun B w => ?_) (fun C cR cl6 cp6 cF => ?_)
          · rw [mm_pU, r_37_4_5 (htx4 := hU) (hx := hx)]
            refine mm_Clm (fun r h3 q => ?_) w
            rw [q.1, mm_pU]
            exact q.2
          rw [r_37_4_8 (htx4 := hU) (hx := hx), show 5 + (u - 5) = u by omega]
          have cn : ∀ a n, a ≠ 26 → kk_cpd C a n h a n := fun a n q => kk_cpdr (fun f k f0 f1 => cF f a n k (by omega) (by omega) (by omega) (by omega) (by omega))
          refine kk_s37 hx hc mm_t27 ⟨by omega, u1⟩ (by omega) cR (fun f n k f0 f1 => cF f u n k (by omega) (by omega) (by omega) (by omega) (by omega)) (fun n n0 n1 => kk_nwcp (cn 27 n (by decide)) (kk_nwC hc mm_t27 ⟨n0, n1⟩)) (by rw [cF 22 27 0 2 (by omega) (by decide) (by decide) (by decide) (by omega)]; exact h22 _ mm_t27) (fun h3 => mm_Wp 37 (bk_37_4.drop 16) [zR (1, 0, 0), zI t, zI n, zR (33, s - 5, 0), zR (33, u - 5, 0)] [] h3 (fun (r : mm_V) (h1 : mm_H) => kk_SI r ∧ ∃ g dh1, h1 = mm_z g dh1 nx ns ∧ mm_Cl 260 [zR (40, 0, 0), zI t, zI n] (mm_z g dh1 nx ns) (fun r2 h2 => r2 = r ∧ ∃ g2, h2 = mm_z g2 dh1 nx ns ∧ kk_core (b + 1) g2 dh1 ∧ ∀ x j, kk_scr x j → g2 x j = h x j))) (fun B w => ?_) (fun D dR cl7 cp7 dF => ?_)
          · rw [mm_pU, r_37_4_13 (hx := hx)]
            refine mm_Clm (fun r h3 q => ?_) w
            rw [q.1, mm_pU]
            exact q.2
          rw [r_37_4_16 (hx := hx)]
          obtain ⟨g, hg⟩ : ∃ g, g = mm_up D (1, 0, 0) 9 1 := ⟨_, rfl⟩
          rw [← hg]
          have gF : ∀ (f : Nat) a c k, ¬ (f = 15 ∧ k = 7) → f ≠ 17 → f ≠ 18 → f ≠ 19 → ¬ (24 ≤ f ∧ f ≤ 30 ∧ (a = 26 ∨ a = 27) ∧ 1 ≤ c) → ¬ (f = 1 ∧ k = 9) → g (f, a, c) k = h (f, a, c) k := fun f a c k q1 q2 q3 q4 q5 q6 => by
            rw [hg, mm_upne' (by rintro ⟨v, v2⟩; simp at v; omega), dF f a c k q1 q2 q3 q4 (by omega), cF f a c k q1 q2 q3 q4 (by omega)]
          have ek : ∀ (x : mm_Id) k, 40 ≤ x.1 → g x k = h x k := fun x k q => by
            obtain ⟨f, a, c⟩ := x
            simp at q
            exact gF f a c k (by omega) (by omega) (by omega) (by omega) (by omega) (by omega)
          have g6 : ∀ (f : Nat) n k, 24 ≤ f → f ≤ 30 → g (f, 26, n) k = C (f, 26, n) k := fun f n k f0 f1 => by
            rw [hg, mm_upne' (by rintro ⟨v, v2⟩; simp at v), dF f 26 n k (by omega) (by omega) (by omega) (by omega) (by omega)]
          have g7 : ∀ (f : Nat) n k, 24 ≤ f → f ≤ 30 → g (f, 27, n) k = D (f, 27, n) k := fun f n k f0 f1 => by
            rw [hg, mm_upne' (by rintro ⟨v, v2⟩; simp at v)]
          refine ⟨⟨_, rfl, by omega, by omega⟩, g, dh, rfl, ?_⟩
          refine pre g _ ek ?_
          rw [if_pos z, if_pos c0]
          obtain ⟨G, hG⟩ : ∃ G, G = mm_up g (40, 0, 0) 0 0 := ⟨_, rfl⟩
          rw [← hG]
          have GF : ∀ (x : mm_Id) k, 40 ≤ x.1 → ¬ (x = (40, 0, 0) ∧ k = 0) → G x k = h x k := fun x k q q2 => by rw [hG, mm_upne' q2]; exact ek x k q
          have gsx : ∀ (x : mm_Id) k, 41 ≤ x.1 → x.1 ≤ 53 → G x k = h x k := fun x k q q2 => GF x k (by omega) (by rintro ⟨v, _⟩; rw [v] at q; simp at q)
          have msG := kk_msa hc gsx
          refine m179 hy (by omega) (by omega) (by omega) (fun n n0 n1 => kk_mwm (msG s n (by omega) (by omega) n0 n1) (kk_mwC hc (by omega) ⟨n0, n1⟩)) (fun g1 a1 a2 => ?_)
          have ms1 : ∀ n, 1 ≤ n → n < 37 → kk_ms g1 (36 * u + n - 1) h (36 * u + n - 1) := fun n n0 n1 => by
            have w := kk_mwC hc (s := u) (n := n) (by omega) ⟨n0, n1⟩
            exact kk_msr w.2.1.2 w.2.2.2 (fun x k hx2 => by rw [a2 x k (kk_sxd (s := u) (by omega) ⟨n, n0, n1, hx2⟩)]; have r := kk_mxr hx2; exact gsx x k r.1 r.2)
          rw [mm_pU, r_260_4_4 (hy := hy)]
          refine m179 hy (by omega) (by omega) (by omega) (fun n n0 n1 => kk_mwm (ms1 n n0 n1) (kk_mwC hc (by omega) ⟨n0, n1⟩)) (fun gm b1 b2 => ?_)
          rw [mm_pU, r_260_4_8 (hy := hy)]
          obtain ⟨F, hF⟩ : ∃ F, F = mm_up gm (40, 0, 0) 34 1 := ⟨_, rfl⟩
          rw [← hF]
          have Fg : ∀ (x : mm_Id) k, ¬ (x = (40, 0, 0) ∧ k = 34) → F x k = gm x k := fun x k q => by rw [hF, mm_upne' q]
          have FG : ∀ (x : mm_Id) k, ¬ kk_sx 26 x k → ¬ kk_sx 27 x k → ¬ (x = (40, 0, 0) ∧ k = 34) → F x k = G x k := fun x k q q2 q3 => by rw [Fg x k q3, b2 x k q2, a2 x k q]
          have FC : ∀ (f : Nat) a c k, f < 40 → F (f, a, c) k = g (f, a, c) k := fun f a c k f0 => by
            rw [FG _ _ (kk_sx6 (by omega)) (kk_sx6 (by omega)) (by rintro ⟨v, _⟩; simp at v; omega), hG, kk_clU f0 (by simp)]
          have Fm : ∀ a, ∀ n, 1 ≤ n → n < 37 → ∀ k1, kk_ms gm (36 * a + n - 1) h k1 → kk_ms F (36 * a + n - 1) h k1 := fun a n n0 n1 k1 m => by
            obtain ⟨m1, m2, m3, m4, m5⟩ := m
            refine ⟨fun f hf => ?_, fun p p0 p1 => ?_, fun i i0 i1 => ?_, fun i i0 i1 => ?_, fun i i0 i1 => ?_⟩
            · rw [Fg _ _ (by unfold kk_mf at hf; rintro ⟨v, _⟩; simp at v; omega)]; exact m1 f hf
            · rw [Fg _ _ (by simp)]; exact m2 p p0 p1
            · rw [Fg _ _ (by simp), Fg _ _ (by simp)]; exact m3 i i0 i1
            · rw [Fg _ _ (by simp), Fg _ _ (by simp)]; exact m4 i i0 i1
            · rw [Fg _ _ (by simp)]; exact m5 i i0 i1
          have m26 : ∀ n, 1 ≤ n → n < 37 → kk_ms gm (36 * 26 + n - 1) h (36 * s + n - 1) := fun n n0 n1 => by
            have w := kk_mwC hc (s := s) (n := n) (by omega) ⟨n0, n1⟩
            have m := kk_mst (a1 n n0 n1) (msG s n (by omega) (by omega) n0 n1)
            refine kk_mst (kk_msr ?_ ?_ (fun x k hx2 => b2 x k (kk_sxd (s := 26) (by omega) ⟨n, n0, n1, hx2⟩))) m
            · rw [m.1 44 kk_f44]; exact w.2.1.2
            · rw [m.1 49 kk_f49]; exact w.2.2.2
          refine ⟨rfl, F, rfl, kk_coreS hb (kk_sdC hc ⟨by omega, s1⟩ ⟨by omega, u1⟩ sno uno ?_ (fun n n0 n1 => Fm 26 n n0 n1 _ (m26 n n0 n1)) (fun n n0 n1 => Fm 27 n n0 n1 _ (kk_mst (b1 n n0 n1) (ms1 n n0 n1))) (fun n n0 n1 q => kk_cle (fun f k w => by rw [FC f 26 n k (by omega), g6 f n k (by omega) (by omega)]) (cl6 n n0 n1 q)) (fun n n0 n1 q => kk_cpdt (kk_cpdr (fun f k f0 f1 => by rw [FC f 26 n k (by omega), g6 f n k f0 f1])) (cp6 n n0 n1 q)) (fun n n0 n1 q => kk_cle (fun f k w => by rw [FC f 27 n k (by omega), g7 f n k (by omega) (by omega)]) (cl7 n n0 n1 q)) (fun n n0 n1 q => kk_cpdt (kk_cpdr (fun f k f0 f1 => by rw [FC f 27 n k (by omega), g7 f n k f0 f1])) (cp7 n n0 n1 q)) (fun f a c k f0 q1 q2 q3 q4 q5 q6 => by rw [FC f a c k f0]; exact gF f a c k q1 q2 q3 q4 q5 q6) (fun x k q q1 q2 q3 => ?_) ⟨?_, ?_⟩), fun x k q => ?_⟩
          · refine kk_Rcong (fun a c k => FC 27 a c k (by decide)) (FC _ _ _ _ (by decide)) (FC _ _ _ _ (by decide)) (fun r => FC _ _ _ _ (by decide)) (fun r => FC _ _ _ _ (by decide)) (fun r => FC _ _ _ _ (by decide)) ?_
            rw [hg]
            exact kk_Rup (by omega) dR
          · rw [FG x k q1 q2 (fun v => q3 ⟨v.1, Or.inr v.2⟩)]
            exact GF x k q (fun v => q3 ⟨v.1, Or.inl v.2⟩)
          · rw [FC 1 0 0 9 (by decide), hg, mm_ups]
          · rw [hF, mm_ups]
          · have q6 := q
            unfold kk_scr at q6
            obtain ⟨f, a, c⟩ := x
            simp at q6
            by_cases w : f < 40
            · rw [FC f a c k w]; exact gF f a c k (by omega) (by omega) (by omega) (by omega) (by omega) (by omega)
            · rw [FG _ k (kk_sx6 (by omega)) (kk_sx6 (by omega)) (by rintro ⟨v, _⟩; simp at v; omega)]
              exact GF _ k (by show 40 ≤ f; omega) (by rintro ⟨v, _⟩; simp at v; omega)
        · rw [if_neg c0]
          refine fin (-5) ⟨_, rfl, by omega, by omega⟩ ?_
          refine pre h _ (fun _ _ _ => rfl) ?_
          rw [if_pos z, if_neg c0]
          exact mfin _ _ rfl
      · rw [if_neg z]
        refine fin (-3) ⟨_, rfl, by omega, by omega⟩ ?_
        refine pre h _ (fun _ _ _ => rfl) ?_
        rw [if_neg z]
        exact mfin _ _ rfl
    · rw [mm_pR, r_37_0_7b (htx3 := hS) (hx := hx)]
      rw [r_37_1 (hx := hx)]
      refine fin (-1) ⟨_, rfl, by omega, by omega⟩ ?_
      rw [r_260_e (hy := hy)]
      refine m183y hy hc (kk_lku (by decide) (kk_lkr h)) ht hs s0 ?_
      rw [mm_pI, r_260_0_6 (hy := hy)]
      refine m183n hy hc (kk_lku (by decide) (kk_lkr h)) hn hu ?_
      rw [mm_pI, r_260_0_10 (hy := hy), if_neg (by omega), if_pos (by decide), r_260_1 (hy := hy)]
      exact mfin _ _ rfl
  · rw [mm_pR, r_37_0_3 (hx := hx)]
    refine s54t hx nm (fun u u0 u1 hu => ?_) (fun hu => ?_)
    · rw [mm_pR, r_37_0_7a (hty0 := ⟨by omega, by omega⟩) (hx := hx)]
      rw [r_37_1 (hx := hx)]
      refine fin (-1) ⟨_, rfl, by omega, by omega⟩ ?_
      rw [r_260_e (hy := hy)]
      refine m183n hy hc (kk_lku (by decide) (kk_lkr h)) ht hs ?_
      rw [mm_pI, r_260_0_6 (hy := hy)]
      refine m183y hy hc (kk_lku (by decide) (kk_lkr h)) hn hu u0 ?_
      rw [mm_pI, r_260_0_10 (hy := hy), if_pos (by decide), r_260_1 (hy := hy)]
      exact mfin _ _ rfl
    · rw [mm_pR, r_37_0_7 (hx := hx)]
      rw [r_37_1 (hx := hx)]
      refine fin (-1) ⟨_, rfl, by omega, by omega⟩ ?_
      rw [r_260_e (hy := hy)]
      refine m183n hy hc (kk_lku (by decide) (kk_lkr h)) ht hs ?_
      rw [mm_pI, r_260_0_6 (hy := hy)]
      refine m183n hy hc (kk_lku (by decide) (kk_lkr h)) hn hu ?_
      rw [mm_pI, r_260_0_10 (hy := hy), if_pos (by decide), r_260_1 (hy := hy)]
      exact mfin _ _ rfl


