/-! the calls of both: close -/
theorem s71 {h : mm_Id → Int → Int} {dh : Int → Int} {nx ns : Int} {Q : mm_V → mm_H → Prop} (hx : 5275 ≤ nx) {d n : Int} (hd : mm_isD d) (hn : 1 ≤ n ∧ n < 37) (kn : h (24, d, n) 0 ≠ 0) (hR : kk_R h) (hb : h (24, d, n) 9 = kk_nz (h (27, d, n)))
    (K1 : (0 < h (24, d, n) 5 ∨ ∃ i, (0 ≤ i ∧ i < 8) ∧ dh i = d ∧ h (34, i, 0) 2 = n) → Q zU (mm_z h dh nx ns))
    (K0 : ¬ 0 < h (24, d, n) 5 → (∀ i, 0 ≤ i → i < 8 → ¬ (dh i = d ∧ h (34, i, 0) 2 = n)) → ∀ h2, kk_R h2 → kk_cl h2 d n → (∀ x j, ¬ kk_ct x j → ¬ (x = (27, d, n) ∧ 0 ≤ j ∧ j < 36) → ¬ (x = (24, d, n) ∧ (kk_F j ∨ j = 9)) → h2 x j = h x j) → Q zU (mm_z h2 dh nx ns)) : mm_Cl 71 [zR (1, 0, 0), zR (31, d, 0), zI n] (mm_z h dh nx ns) Q := by
  have hd2 := hd
  unfold mm_isD at hd2
  have dT : mm_isT d := by unfold mm_isT; omega
  have nN : mm_isN n := ⟨by omega, hn.2⟩
  rw [r_71_e (htx1 := hd) (hx := hx)]
  refine s56 dT hx (fun _ _ => ?_) (fun q => absurd ⟨hn, kn⟩ q)
  rw [mm_pR, r_71_0_5a (htx1 := hd) (hty0 := dT) (hny0 := nN) (hx := hx)]
  by_cases u : 0 < h (24, d, n) 5
  · rw [if_pos u, r_71_1 (hx := hx)]
    exact K1 (Or.inl u)
  · rw [if_neg u]
    have Lp : ∀ (e : Nat) (i : Int), 8 - i = e → 0 ≤ i → (∀ j, 0 ≤ j → j < i → ¬ (dh j = d ∧ h (34, j, 0) 2 = n)) → mm_Wp 71 (mm_blk 71 3) [zR (1, 0, 0), zR (31, d, 0), zI n, zR (24, d, n), zI i] [] (mm_z h dh nx ns) Q := by
      intro e
      induction e with
      | zero =>
        intro i e1 i0 q
        rw [r_71_3 (htx1 := hd) (htx3 := dT) (hnx3 := nN) (hx := hx), if_neg (by omega)]
        have ka : kk_as d = 0 := by unfold kk_as; rw [if_pos (by omega)]
        have S := fun Q => s110 (Q := Q) (dh := dh) (ns := ns) dT nN hx hR hb
        simp only [ka] at S
        refine S _ (fun h2 a1 a2 a3 => ?_)
        rw [mm_pU, r_71_5_5 (hx := hx)]
        exact K0 u (fun j j0 j1 => q j j0 (by omega)) h2 a1 a2 a3
      | succ e ih =>
        intro i e1 i0 q
        have iS : mm_isS i := ⟨i0, by omega⟩
        rw [r_71_3 (htx1 := hd) (htx3 := dT) (hnx3 := nN) (hx := hx), if_pos (by omega)]
        refine ⟨⟨i0, by omega⟩, s91 hx iS hd (fun w1 w2 => ?_) (fun w => ?_)⟩
        · rw [mm_pI, r_71_3_10 (htx1 := hd) (htx3 := dT) (hnx3 := nN) (hx := hx), if_neg (by decide)]
          exact K1 (Or.inr ⟨i, ⟨i0, by omega⟩, w1, w2⟩)
        · rw [mm_pI, r_71_3_10 (htx1 := hd) (htx3 := dT) (hnx3 := nN) (hx := hx), if_pos rfl, mm_wi (by omega) (by omega)]
          exact ih (i + 1) (by omega) (by omega) (fun j j0 j1 => by
            by_cases z : j = i
            · rw [z]; exact w
            · exact q j j0 (by omega))
    exact Lp 8 0 (by omega) (by omega) (fun j a b => by omega)
/-- a tree here with a file dropped, or none -/
theorem kk_drSC {h hcc : mm_Id → Int → Int} {s n : Int} {D : Prop} (NW : ∀ m, 1 ≤ m → m < 37 → kk_NW h s m) (T : kk_TW h s) (hn : 2 ≤ n ∧ n < 37) (kf : h (24, s, n) 0 = 1) (hD : D → h (24, s, n) 5 = 0) (hcl : D → kk_cl hcc s n) (fr : ∀ (f : Nat) m j, 24 ≤ f → f ≤ 30 → ¬ (D ∧ m = n) → hcc (f, s, m) j = h (f, s, m) j) (e16 : ∀ j, hcc (16, 0, 0) j = h (16, 0, 0) j) : (∀ m, 1 ≤ m → m < 37 → kk_NW hcc s m) ∧ kk_TW hcc s := by
  by_cases c : D
  · have e0 : kk_ec h s n = 0 := by
      have := T.1 n (by omega) hn.2 (by omega)
      rw [hD c] at this
      exact this.symm
    obtain ⟨S, _⟩ := kk_clear (g := hcc) (m := n) ⟨NW, kk_TWH T⟩ hn e0 ((NW n (by omega) hn.2).2.2.1 (by omega)) (hcl c) (fun f m j f0 f1 q => fr f m j f0 f1 (fun w => q w.2)) e16
    exact ⟨S.1, kk_THW S.2 (fun _ _ _ _ w => w.1)⟩
  · have cp : ∀ m, kk_cpd hcc s m h s m := fun m => kk_cpdr (fun f j f0 f1 => fr f m j f0 f1 (fun w => c w.1))
    exact ⟨fun m m0 m1 => kk_NWcp (fun m _ _ => cp m) ⟨m0, m1⟩ (fun _ _ _ _ _ _ => e16 _) (NW m m0 m1), kk_TWcp (fun m _ _ => cp m) NW T⟩

theorem c_26 {b : Int} {h : mm_Id → Int → Int} {dh : Int → Int} {nx ns : Int} (hy : 10581 ≤ nx) (hc : kk_core b h dh) (hb : b + 1 ≤ 1000000) {t : Int} (ht : -2147483648 ≤ t ∧ t < 2147483648) : kk_call 26 243 [zI t] b h dh nx ns kk_SI := by
  unfold kk_call
  have hx : 5275 ≤ nx := by omega
  have hc0 : kk_core b (mm_up h (40, 0, 0) 0 0) dh := kk_core0 hc
  have fin : ∀ v, kk_SI (zI v) → mm_Cl 243 [zR (40, 0, 0), zI t] (mm_z h dh nx ns) (fun (r2 : mm_V) (h2 : mm_H) => r2 = zI v ∧ ∃ g2, h2 = mm_z g2 dh nx ns ∧ kk_core (b + 1) g2 dh ∧ ∀ x j, kk_scr x j → g2 x j = h x j) →
      (fun (r : mm_V) (h1 : mm_H) => kk_SI r ∧ ∃ g dh1, h1 = mm_z g dh1 nx ns ∧ mm_Cl 243 [zR (40, 0, 0), zI t] (mm_z g dh1 nx ns) (fun r2 h2 => r2 = r ∧ ∃ g2, h2 = mm_z g2 dh1 nx ns ∧ kk_core (b + 1) g2 dh1 ∧ ∀ x j, kk_scr x j → g2 x j = h x j)) (zI v) (mm_z h dh nx ns) :=
    fun v h1 h2 => ⟨h1, h, dh, rfl, h2⟩
  have mfin : ∀ v w : Int, w = v → (fun (r2 : mm_V) (h2 : mm_H) => r2 = zI v ∧ ∃ g2, h2 = mm_z g2 dh nx ns ∧ kk_core (b + 1) g2 dh ∧ ∀ x j, kk_scr x j → g2 x j = h x j) (zI w) (mm_z (mm_up h (40, 0, 0) 0 0) dh nx ns) :=
    fun v w e => ⟨by rw [e], _, rfl, kk_coreS hb hc0, fun x j hs => kk_scr0 hs⟩
  have H17 := kk_h17 hc
  have H18 := kk_h18 hc
  rw [r_26_e (hx := hx)]
  refine s57 hx (fun k1 k2 => ?_) (fun kn => ?_)
  · have hS : mm_isS (t - 1) := ⟨by omega, by omega⟩
    obtain ⟨y1, y2, y3, y4, y5, y6⟩ := (kk_hnd hc k1).1 k2
    obtain ⟨s, es⟩ : ∃ s, s = dh (t - 1) := ⟨_, rfl⟩
    obtain ⟨n, en⟩ : ∃ n, n = h (34, t - 1, 0) 2 := ⟨_, rfl⟩
    rw [mm_pR, r_26_0_3a (hvx1 := rfl) (hty0 := hS) (hx := hx), if_pos (show 0 ≤ dh (t - 1) ∧ dh (t - 1) < 5 from k2)]
    rw [← es] at k2 y3 y4 y5 ⊢
    rw [← en] at y1 y2 y3 ⊢
    have hD := k2
    unfold mm_isD at k2
    have sT : mm_isT s := mm_T13 ⟨k2.1, by omega⟩
    have NWs : ∀ m, 1 ≤ m → m < 37 → kk_NW h s m := fun m m0 m1 => kk_NWC hc sT ⟨m0, m1⟩
    have rt : h (24, s, 1) 0 = 2 := hc.1.2.2.1.2.2.2.2.2.2.2.2.2.2.2.1 s k2.1 (by omega) y5
    have hn2 : 2 ≤ n := by
      by_cases q : n = 1
      · rw [q] at y3; omega
      · omega
    obtain ⟨dh', hdh⟩ : ∃ dh' : Int → Int, dh' = fun k => if k = t - 1 then -1 else dh k := ⟨_, rfl⟩
    rw [← hdh]
    have dt : dh' (t - 1) = -1 := by rw [hdh]; exact if_pos rfl
    have dn : ∀ i, i ≠ t - 1 → dh' i = dh i := fun i q => by rw [hdh]; exact if_neg q
    have tail : ∀ (hcc : mm_Id → Int → Int) (D : Prop), (D ↔ (h (24, s, n) 5 = 0 ∧ ∀ i, 0 ≤ i → i < 8 → ¬ (dh' i = s ∧ h (34, i, 0) 2 = n))) → kk_R hcc → (D → kk_cl hcc s n) → (∀ y j, ¬ kk_ct y j → ¬ (D ∧ 24 ≤ y.1 ∧ y.1 ≤ 30 ∧ y.2.1 = s ∧ y.2.2 = n) → hcc y j = h y j) → mm_Wp 26 (bk_26_1.drop 13) [zR (1, 0, 0), zI t, zR (34, t - 1, 0), zR (31, s, 0), zI n] [] (mm_z hcc dh' nx ns) (fun (r : mm_V) (h1 : mm_H) => kk_SI r ∧ ∃ g dh1, h1 = mm_z g dh1 nx ns ∧ mm_Cl 243 [zR (40, 0, 0), zI t] (mm_z g dh1 nx ns) (fun r2 h2 => r2 = r ∧ ∃ g2, h2 = mm_z g2 dh1 nx ns ∧ kk_core (b + 1) g2 dh1 ∧ ∀ x j, kk_scr x j → g2 x j = h x j)) := fun hcc D hDD hR hcl fr => by
      have cF : ∀ (f : Nat) t2 m j, f ≠ 15 → f ≠ 17 → f ≠ 18 → f ≠ 19 → ¬ (D ∧ (24 ≤ f ∧ f ≤ 30) ∧ t2 = s ∧ m = n) → hcc (f, t2, m) j = h (f, t2, m) j := fun f t2 m j a1 a2 a3 a4 a5 => fr _ _ (by unfold kk_ct; rintro (⟨q, _⟩ | q | q | q) <;> simp at q <;> omega) (fun q => a5 ⟨q.1, ⟨q.2.1, q.2.2.1⟩, q.2.2.2.1, q.2.2.2.2⟩)
      have SC := kk_drSC (hcc := hcc) NWs (kk_TWC hc sT) ⟨hn2, y2.2⟩ y3 (fun q => (hDD.1 q).1) hcl (fun f m j f0 f1 q => cF f s m j (by omega) (by omega) (by omega) (by omega) (fun w => q ⟨w.1, w.2.2.2⟩)) (fun j => cF 16 0 0 j (by decide) (by decide) (by decide) (by decide) (by omega))
      have fcc : ∀ y j, y.1 < 40 → ¬ kk_ts s y j → hcc y j = h y j := fun y j _ v => fr y j (fun q => v (Or.inr (Or.inr (Or.inr (Or.inl q))))) (fun q => v (Or.inl ⟨q.2.1, q.2.2.1, q.2.2.2.1, by omega, by omega⟩))
      rw [r_26_1_13 (htx3 := hD) (hx := hx)]
      refine s63t hx hc hD fcc hR (fun m m0 m1 => ⟨(SC.1 m m0 m1).2.2.2.2.2.1, (SC.1 m m0 m1).2.2.2.1, (SC.1 m m0 m1).2.2.2.2.2.2.1⟩) (fun g k1' k2' ek3 no => ?_)
      rw [mm_pU, r_26_1_16 (hx := hx)]
      refine ⟨⟨_, rfl, by omega, by omega⟩, g, dh', rfl, ?_⟩
      have ek : ∀ x j, 40 ≤ x.1 → g x j = h x j := fun x j q => by
        rw [k2' x j q]
        exact fr x j (by unfold kk_ct; rintro (⟨q6, _⟩ | q6 | q6 | q6) <;> rw [q6] at q <;> simp at q) (fun q6 => by omega)
      rw [r_243_e (hy := hy)]
      refine m242 hy (fun _ _ => ?_) (fun q => absurd ⟨k1, by rw [mm_upf (by decide), ek _ _ (by simp), y1]; omega⟩ q)
      rw [mm_pI, r_243_0_6 (hy := hy), if_neg (by decide)]
      refine ⟨by omega, m192 hy (by omega) (fun g1 z63 z64 gf => ?_)⟩
      have g1O : ∀ y j, 40 ≤ y.1 → ¬ (y = (40, 0, 0) ∧ j = 0) → ¬ (y = (63, 0, 0) ∧ j = t) → ¬ (y = (64, 0, 0) ∧ 2160 * t ≤ j ∧ j < 2160 * t + 2160) → g1 y j = h y j := fun y j a0 a1 a2 a3 => by
        rw [gf y j a2 a3, mm_upne' a1]; exact ek y j a0
      have g1f : ∀ (f : Nat) j, 41 ≤ f → f ≠ 63 → f ≠ 64 → g1 (f, 0, 0) j = h (f, 0, 0) j := fun f j f0 f1 f2 => g1O _ _ (by show 40 ≤ f; omega) (by rintro ⟨q, _⟩; simp at q; omega) (by rintro ⟨q, _⟩; simp at q; omega) (by rintro ⟨q, _⟩; simp at q; omega)
      have e63 : mm_up g (40, 0, 0) 0 0 (63, 0, 0) t = n := by rw [mm_upf (by decide), ek _ _ (by simp)]; exact y1
      rw [mm_pU, r_243_1_8 (hy := hy), g1f 62 t (by decide) (by decide) (by decide), y4, e63]
      refine ⟨by omega, ?_⟩
      have sw : ∀ m, 1 ≤ m → m < 37 → (kk_sw g1 s m ↔ m = n ∧ D) := fun m m0 m1 => by
        have ef : kk_ef g1 s m = kk_ec h s m := kk_efu hc ⟨k2.1, by omega⟩ (fun f j hf => g1f f j (by omega) (by omega) (by omega))
        have kd : g1 (41, 0, 0) (36 * s + m - 1) = h (24, s, m) 0 := by rw [g1f 41 _ (by decide) (by decide) (by decide)]; exact (kk_nf hc (by omega) ⟨m0, m1⟩).1
        have op : kk_op g1 s m ↔ ∃ j, (0 ≤ j ∧ j < 8) ∧ dh' j = s ∧ h (34, j, 0) 2 = m := by
          unfold kk_op
          constructor
          · rintro ⟨i, i0, i1, q1, q2⟩
            have it : i ≠ t := fun w => by rw [w, z63] at q1; omega
            rw [g1O (63, 0, 0) i (by simp) (by simp) (by rintro ⟨_, w⟩; exact it w) (by simp)] at q1
            rw [g1f 62 _ (by decide) (by decide) (by decide)] at q2
            have Hi := H17 (i - 1) (by omega) (by omega)
            rw [show i - 1 + 1 = i by omega] at Hi
            by_cases w : mm_isD (dh (i - 1))
            · obtain ⟨w1, w2, w3, w4, _⟩ := Hi.1 w
              exact ⟨i - 1, by omega, by rw [dn _ (by omega)]; omega, by omega⟩
            · have := (Hi.2 w).1; omega
          · rintro ⟨j, hj, q1, q2⟩
            have jt : j ≠ t - 1 := fun w => by rw [w, dt] at q1; omega
            rw [dn j jt] at q1
            obtain ⟨w1, w2, w3, w4, _⟩ := (H17 j hj.1 hj.2).1 (by rw [q1]; exact hD)
            exact ⟨j + 1, by omega, by omega, by rw [g1O (63, 0, 0) _ (by simp) (by simp) (by rintro ⟨_, w⟩; omega) (by simp)]; omega, by rw [g1f 62 _ (by decide) (by decide) (by decide)]; omega⟩
        unfold kk_sw
        rw [ef, kd, op]
        constructor
        · rintro ⟨a1, a2, a3⟩
          have u0 : h (24, s, m) 5 = 0 := by rw [(kk_TWC hc sT).1 m m0 m1 (by omega)]; exact a2
          obtain ⟨j, hj, q1, q2⟩ := kk_h19 hc s m k2.1 k2.2 m0 m1 a1 u0
          have jt : j = t - 1 := by
            by_cases w : j = t - 1
            · exact w
            · exact absurd ⟨j, hj, by rw [dn j w]; exact q1, q2⟩ a3
          have mn : m = n := by rw [jt] at q2; omega
          rw [mn] at u0 a3
          exact ⟨mn, hDD.2 ⟨u0, fun i i0 i1 q => a3 ⟨i, ⟨i0, i1⟩, q⟩⟩⟩
        · rintro ⟨rfl, d⟩
          have d2 := hDD.1 d
          refine ⟨y3, ?_, ?_⟩
          · rw [← (kk_TWC hc sT).1 m m0 m1 (by omega)]; exact d2.1
          · rintro ⟨j, hj, q⟩; exact d2.2 j hj.1 hj.2 q
      refine m191 hy (by omega) (fun d d0 d1 => by
        rw [g1f 44 _ (by decide) (by decide) (by decide)]
        exact (kk_MWC hc (s := s) (n := d) (by omega) ⟨d0, d1⟩).1.2.1) (fun d d0 d1 q => by
        rw [g1f 41 _ (by decide) (by decide) (by decide)] at q
        rw [g1f 44 _ (by decide) (by decide) (by decide)]
        exact (kk_MWC hc (s := s) (n := d) (by omega) ⟨d0, d1⟩).2.2.1 (by omega)) (fun gm mz gmf => ?_)
      rw [mm_pU, r_243_1_14 (hy := hy)]
      have gM : ∀ y j, ¬ (D ∧ kk_cx (36 * s + n - 1) y j) → gm y j = g1 y j := fun y j q => gmf y j (by
        rintro ⟨m, m0, m1, q1, q2⟩
        obtain ⟨rfl, d⟩ := (sw m m0 m1).1 q1
        exact q ⟨d, q2⟩)
      have cxm : ∀ y j, kk_cx (36 * s + n - 1) y j → kk_mx (36 * s + n - 1) y j := fun y j q => by
        rcases q with ⟨q, q2⟩ | ⟨q, q2⟩
        · exact Or.inl ⟨by rcases q with q | q | q | q <;> rw [q] <;> simp [kk_mf], q2⟩
        · exact Or.inr (Or.inl ⟨by rw [q], q2⟩)
      obtain ⟨Z, hZ⟩ : ∃ Z, Z = mm_up (kk_mix hcc gm) (31, s, 0) 6 1 := ⟨_, rfl⟩
      have zC : ∀ (f : Nat) t2 m j, f < 40 → f ≠ 31 → Z (f, t2, m) j = hcc (f, t2, m) j := fun f t2 m j f0 f1 => by rw [hZ, mm_upf f1, kk_mixC f0]
      have zM : ∀ (f : Nat) t2 m j, 40 ≤ f → Z (f, t2, m) j = gm (f, t2, m) j := fun f t2 m j f0 => by rw [hZ, mm_upf (by omega), kk_mixM f0]
      have zh : ∀ (f : Nat) j, 62 ≤ f → f ≤ 64 → Z (f, 0, 0) j = g1 (f, 0, 0) j := fun f j f0 f1 => by
        rw [zM f 0 0 j (by omega)]
        exact gM _ _ (fun q => by have := kk_mxr (cxm _ _ q.2); simp at this; omega)
      have zno : ∀ s2, kk_no Z s2 = kk_no h s2 := fun s2 => by
        unfold kk_no
        rw [hZ, mm_upj (by decide), mm_upf (by decide), kk_mixC (by simp), kk_mixC (by simp), cF _ _ _ _ (by decide) (by decide) (by decide) (by decide) (by omega), cF _ _ _ _ (by decide) (by decide) (by decide) (by decide) (by omega)]
      have z34 : ∀ i j, Z (34, i, 0) j = h (34, i, 0) j := fun i j => by rw [zC _ _ _ _ (by decide) (by decide)]; exact cF _ _ _ _ (by decide) (by decide) (by decide) (by decide) (by omega)
      have q17 : kk_d17 Z dh' := fun i i0 i1 => by
        have Hi := H17 i i0 i1
        rw [z34, zno, zh 63 _ (by decide) (by decide), zh 62 _ (by decide) (by decide), g1f 62 _ (by decide) (by decide) (by decide)]
        by_cases w : i = t - 1
        · rw [w, dt, show t - 1 + 1 = t by omega]
          refine ⟨fun q => by unfold mm_isD at q; omega, fun _ => ⟨z63, fun a a0 a1 => ?_⟩⟩
          rw [zh 64 _ (by decide) (by decide)]; exact z64 a a0 a1
        · have e64 : ∀ a, 0 ≤ a → a < 2160 → Z (64, 0, 0) (2160 * (i + 1) + a) = h (64, 0, 0) (2160 * (i + 1) + a) := fun a a0 a1 => by
            rw [zh 64 _ (by decide) (by decide)]; exact g1O _ _ (by simp) (by simp) (by simp) (by rintro ⟨_, q⟩; omega)
          rw [dn i w, g1O (63, 0, 0) (i + 1) (by simp) (by simp) (by rintro ⟨_, q⟩; omega) (by simp)]
          refine ⟨fun q => ?_, fun q => ?_⟩
          · obtain ⟨w1, w2, w3, w4, w5, w6⟩ := Hi.1 q
            refine ⟨w1, w2, ?_, w4, w5, fun a a0 a1 => ?_⟩
            · rw [zC _ _ _ _ (by decide) (by decide), cF _ _ _ _ (by decide) (by decide) (by decide) (by decide) (fun q => by
                have := (hDD.1 q.1).2 i i0 i1
                rw [dn i w] at this
                exact this ⟨q.2.2.1, q.2.2.2⟩)]
              exact w3
            · rw [zC _ _ _ _ (by decide) (by decide), cF _ _ _ _ (by decide) (by decide) (by decide) (by decide) (by omega), e64 a a0 a1]
              exact w6 a a0 a1
          · obtain ⟨w1, w2⟩ := Hi.2 q
            exact ⟨w1, fun a a0 a1 => by rw [e64 a a0 a1]; exact w2 a a0 a1⟩
      have q18 : kk_d18 Z := fun a a0 a1 => by
        rw [zh 64 _ (by decide) (by decide)]
        by_cases w : 2160 * t ≤ a ∧ a < 2160 * t + 2160
        · have := z64 (a - 2160 * t) (by omega) (by omega)
          rw [show 2160 * t + (a - 2160 * t) = a by omega] at this
          omega
        · rw [g1O _ _ (by simp) (by simp) (by simp) (by rintro ⟨_, q⟩; omega)]; exact H18 a a0 a1
      have q19 : kk_d19 Z dh' := fun i m i0 i1 m0 m1 v v5 => by
        rw [zC _ _ _ _ (by decide) (by decide)] at v v5
        by_cases w : D ∧ i = s ∧ m = n
        · have := (hcl w.1).1 0 kk_F0
          rw [w.2.1, w.2.2, this] at v
          simp at v
        · rw [cF _ _ _ _ (by decide) (by decide) (by decide) (by decide) (fun q => w ⟨q.1, q.2.2.1, q.2.2.2⟩)] at v v5
          by_cases u : i = s ∧ m = n
          · rw [u.1, u.2] at v5
            have nD : ¬ D := fun d => w ⟨d, u⟩
            have : ∃ j, (0 ≤ j ∧ j < 8) ∧ dh' j = s ∧ h (34, j, 0) 2 = n := by
              by_cases ex : ∃ j, (0 ≤ j ∧ j < 8) ∧ dh' j = s ∧ h (34, j, 0) 2 = n
              · exact ex
              · exact absurd (hDD.2 ⟨v5, fun j j0 j1 q => ex ⟨j, ⟨j0, j1⟩, q⟩⟩) nD
            obtain ⟨j, hj, q1, q2⟩ := this
            exact ⟨j, hj, by rw [q1, u.1], by rw [z34, q2, u.2]⟩
          · obtain ⟨j, hj, q1, q2⟩ := kk_h19 hc i m i0 i1 m0 m1 v v5
            have jt : j ≠ t - 1 := fun z => u ⟨by rw [z] at q1; omega, by rw [z] at q2; omega⟩
            exact ⟨j, hj, by rw [dn j jt]; exact q1, by rw [z34]; exact q2⟩
      have nN := fun m (m0 : 1 ≤ m) (m1 : m < 37) => kk_NRC hc (t := s) (n := m) (by omega) ⟨m0, m1⟩
      have gO : ∀ m, ¬ (D ∧ m = n) → 1 ≤ m → m < 37 → ∀ y j, kk_mx (36 * s + m - 1) y j → gm y j = h y j := fun m q m0 m1 y j v => by
        have r := kk_mxr v
        rw [gM y j (fun w => by
          by_cases z : m = n
          · exact q ⟨w.1, z⟩
          · exact kk_mxd (a := 36 * s + m - 1) (b := 36 * s + n - 1) (by omega) v (cxm _ _ w.2))]
        exact g1O y j (by omega) (by rintro ⟨z, _⟩; rw [z] at r; simp at r) (by rintro ⟨z, _⟩; rw [z] at r; simp at r) (by rintro ⟨z, _⟩; rw [z] at r; simp at r)
      have WM := kk_stW (C := fun m => D ∧ m = n) hc k2 y5 fcc hR SC.1 SC.2 (fun m q _ _ => by rw [q.2]; exact hcl q.1) (fun m q m0 m1 => ⟨fun j _ _ _ => cF _ _ _ _ (by decide) (by decide) (by decide) (by decide) (fun w => q ⟨w.1, w.2.2.2⟩), fun f j f0 f1 => cF _ _ _ _ (by omega) (by omega) (by omega) (by omega) (fun w => q ⟨w.1, w.2.2.2⟩)⟩)
        (fun y j a0 v => by
          have v2 := kk_tsM a0 v
          rw [gM y j (fun w => v2.1 ⟨n, y2.1, y2.2, cxm _ _ w.2⟩)]
          exact g1O y j a0 v2.2.1 (by rintro ⟨z, _⟩; exact v2.2.2.2.2.1 (by rw [z])) (by rintro ⟨z, _⟩; exact v2.2.2.2.2.2 (by rw [z]))) (fun m q m0 m1 => mz m m0 m1 ((sw m m0 m1).2 ⟨q.2, q.1⟩)) (fun m m0 m1 => by
          rw [gM _ _ (fun w => by rcases w.2 with ⟨z, _⟩ | ⟨z, _⟩ <;> simp at z)]; exact g1f 53 _ (by decide) (by decide) (by decide))
        (fun m q m0 m1 => ⟨fun f hf _ => gO m q m0 m1 _ _ (Or.inl ⟨hf, rfl⟩), fun p p0 p1 => gO m q m0 m1 _ _ (kk_m43 ⟨p0, p1⟩), fun e e0 e1 => ⟨gO m q m0 m1 _ _ (kk_m50 (Or.inl rfl) ⟨e0, e1⟩), gO m q m0 m1 _ _ (kk_m50 (Or.inr rfl) ⟨e0, e1⟩)⟩, fun e e0 e1 => gO m q m0 m1 _ _ (kk_m52 ⟨e0, e1⟩)⟩)
        (fun m q m0 m1 => by
          have Wm := (NWs m m0 m1).2.1
          rw [cF 24 s m 6 (by decide) (by decide) (by decide) (by decide) (fun w => q ⟨w.1, w.2.2.2⟩), gO m q m0 m1 _ _ (Or.inl ⟨kk_f44, rfl⟩)]
          refine ⟨(nN m m0 m1).2.1, fun e e0 e1 => ?_⟩
          rw [cF 25 s m e (by decide) (by decide) (by decide) (by decide) (fun w => q ⟨w.1, w.2.2.2⟩), cF 26 s m e (by decide) (by decide) (by decide) (by decide) (fun w => q ⟨w.1, w.2.2.2⟩), gO m q m0 m1 _ _ (kk_m45 (Or.inl rfl) ⟨e0, by omega⟩), gO m q m0 m1 _ _ (kk_m45 (Or.inr rfl) ⟨e0, by omega⟩)]
          exact (nN m m0 m1).2.2.2.2.1 e e0 e1) (by rw [cF _ _ _ _ (by decide) (by decide) (by decide) (by decide) (by omega)]; exact rt) hZ q17 q18 q19
      refine m209W hy hZ WM.1 WM.2 (fun g2 m1 m2 m3 => ?_)
      have cG : ∀ x j, x.1 < 40 → gm x j = g x j := fun x j v => by
        rw [gM x j (fun w => by have := kk_mxr (cxm _ _ w.2); omega), gf x j (by rintro ⟨z, _⟩; rw [z] at v; simp at v) (by rintro ⟨z, _⟩; rw [z] at v; simp at v)]
        exact kk_clU v (by simp)
      have sG : ∀ x j, kk_scr x j → gm x j = g x j := fun x j v => by
        rw [gM x j (fun w => by have := kk_mxr (cxm _ _ w.2); unfold kk_scr at v; rcases v with v | v | ⟨v, _⟩ | v <;> first | omega | (rw [v] at this; simp at this)), gf x j (by rintro ⟨z, _⟩; rw [z] at v; simp [kk_scr] at v) (by rintro ⟨z, _⟩; rw [z] at v; simp [kk_scr] at v)]
        exact kk_scrU v (Or.inr ⟨rfl, by omega⟩)
      rw [mm_pU, r_243_1_16 (hy := hy)]
      refine ⟨rfl, g2, rfl, kk_actend (gx := g) hb hZ WM.1 WM.2 k1' m1 (fun x j v => by rw [m2 x j v]; exact cG x j v) m3 sG (fun x j v => ?_)⟩
      rcases kk_scrC v with q5 | q5
      · exact ek x j q5
      · exact ek3 x j q5.1 q5.2
    have uE := (kk_TWC hc sT).1 n y2.1 y2.2 (by omega)
    have unn := kk_ecnn h s n
    have nb := (NWs n y2.1 y2.2).2.2.2.2.2.2.1
    refine s71 hx hD y2 (by omega) hc.1.1.2.2.2.2.2.2.2.1 nb (fun w => ?_) (fun w1 w2 h2 a1 a2 a3 => ?_)
    · rw [mm_pU]
      refine tail h False ⟨fun q => absurd q id, fun q => ?_⟩ hc.1.1.2.2.2.2.2.2.2.1 (fun q => absurd q id) (fun _ _ _ _ => rfl)
      rcases w with w | ⟨i, hi, w1, w2⟩
      · omega
      · exact q.2 i hi.1 hi.2 ⟨w1, w2⟩
    · rw [mm_pU]
      refine tail h2 True ⟨fun _ => ⟨by omega, w2⟩, fun _ => trivial⟩ a1 (fun _ => a2) (fun y j q1 q2 => a3 y j q1 (by rintro ⟨q3, _⟩; exact q2 ⟨trivial, by rw [q3]; exact ⟨by simp, by simp, rfl, rfl⟩⟩) (by rintro ⟨q3, _⟩; exact q2 ⟨trivial, by rw [q3]; exact ⟨by simp, by simp, rfl, rfl⟩⟩))
  · rw [mm_pR, r_26_0_3 (hvx1 := rfl) (hx := hx)]
    refine fin (-1) ⟨_, rfl, by omega, by omega⟩ ?_
    rw [r_243_e (hy := hy)]
    refine m242 hy (fun w1 w2 => ?_) (fun w1 => ?_)
    · have := (kk_hnd hc w1).2 (fun q => kn ⟨w1, q⟩)
      rw [mm_upf (by decide)] at w2
      omega
    · rw [mm_pI, r_243_0_6 (hy := hy), if_pos rfl]
      exact mfin _ _ rfl


