/-! the calls of both: receive -/
theorem kk_Sbb (P : Int → Int → Prop) : 0 ≤ kk_S (fun n => mm_sm (fun p => kk_b (P n p)) 36) 36 ∧ kk_S (fun n => mm_sm (fun p => kk_b (P n p)) 36) 36 ≤ 1296 := by
  have i : ∀ n, 0 ≤ mm_sm (fun p => kk_b (P n p)) 36 ∧ mm_sm (fun p => kk_b (P n p)) 36 ≤ 36 := fun n => ⟨sm_nn _ (fun p _ _ => (kk_bb _).1), by
    have := sm_ub (f := fun p => kk_b (P n p)) 1 36 (fun p _ _ => (kk_bb _).2)
    omega⟩
  have a := kk_Snn (f := fun n => mm_sm (fun p => kk_b (P n p)) 36) 36 (fun n _ _ => (i n).1)
  have c := kk_Sub (f := fun n => mm_sm (fun p => kk_b (P n p)) 36) 36 36 (fun n _ _ => (i n).2)
  omega
theorem kk_paz {h Z : mm_Id → Int → Int} {t n p : Int} (pa : kk_pa h Z t 27 n p) : Z (27, t, n) p = 0 ↔ h (27, 27, n) p = 0 := by
  obtain ⟨q1, q2, q3⟩ := pa
  by_cases k : kk_kp h t n 27 n p
  · rw [(q1 k).1]; exact k.2.1
  · by_cases r : h (27, 27, n) p = 0
    · exact ⟨fun _ => r, fun _ => q2 k r⟩
    · exact ⟨fun w => absurd w (q3 k r).1, fun w => absurd w r⟩
theorem m264g {b t : Int} {h gb : mm_Id → Int → Int} {dh dh0 : Int → Int} {nx ns : Int} {Q : mm_V → mm_H → Prop} (hy : 10581 ≤ nx) (hc : kk_core b h dh0) {vx1 v3 v4 v5 v6 v7 v8 v9 v10 v11 : mm_V} (ht : 0 ≤ t ∧ t < 5) (ek : ∀ (x : mm_Id) j, 40 ≤ x.1 → ¬ (x = (40, 0, 0) ∧ j = 0) → gb x j = h x j)
    (K : ∀ (G gm : mm_Id → Int → Int) (v5 v6 v7 v8 v9 v10 v11 : mm_V), kk_G28 t h G → (∀ (x : mm_Id) j, ¬ kk_sx 28 x j → G x j = gb x j) → kk_KA t G gm 37 → mm_Cl 201 [zR (40, 0, 0), zI t] (mm_z gm dh nx ns) (fun r h3 => mm_Wp 264 (bk_264_18.drop 3) [zR (40, 0, 0), vx1, zI t, zI (kk_sf (kk_ns G) 1 37), zI 37, v5, v6, v7, v8, v9, v10, v11] (mm_push r []) h3 Q)) :
    mm_Cl 179 [zR (40, 0, 0), zI t, zI 28] (mm_z gb dh nx ns) (fun r h3 => mm_Wp 264 (bk_264_3.drop 4) [zR (40, 0, 0), vx1, zI t, v3, v4, v5, v6, v7, v8, v9, v10, v11] (mm_push r []) h3 Q) := by
  have t13 : 0 ≤ t ∧ t < 13 := ⟨ht.1, by omega⟩
  have gbm : ∀ n, 1 ≤ n → n < 37 → kk_ms gb (36 * t + n - 1) h (36 * t + n - 1) := fun n n0 n1 => by
    have w := kk_mwC hc (s := t) (n := n) (by omega) ⟨n0, n1⟩
    refine kk_msr w.2.1.2 w.2.2.2 (fun x j hx => ?_)
    have r := kk_mxr hx
    exact ek x j (by omega) (by rintro ⟨v, _⟩; rw [v] at r; simp at r)
  refine m179 hy (by omega) (by omega) (by omega) (fun n n0 n1 => ?_) (fun G mS mF => ?_)
  · unfold kk_mw
    rw [ek _ _ (by decide) (by simp), ek _ _ (by decide) (by simp), ek _ _ (by decide) (by simp)]; exact kk_mwC hc (by omega) ⟨n0, n1⟩
  have IG : kk_G28 t h G := ⟨fun x j q q2 q3 q4 => by rw [mF x j q2]; exact ek x j q q4, fun n n0 n1 => kk_mst (mS n n0 n1) (gbm n n0 n1)⟩
  have GF := kk_GFI hc t13 IG
  have A1 : kk_KA t G G 1 := ⟨⟨⟨GF.2.2.2.2.1, GF.2.2.2.2.2.1⟩, fun _ _ _ _ _ _ _ => rfl, fun _ _ _ _ _ _ => rfl, GF.1, GF.2.1, fun n n0 n1 => (GF.2.2.1 t n ht.1 (by omega) n0 n1).1⟩, fun n n0 n1 => by omega, fun _ _ _ _ _ _ => rfl, by have := GF.2.2.2.1; omega⟩
  rw [mm_pU, r_264_3_4 (hy := hy)]
  have z := m264l (vx1 := vx1) (dh := dh) (nx := nx) (ns := ns) (Q := Q) hy GF t13 (fun gm v5 v6 v7 v8 v9 v10 v11 A => K G gm v5 v6 v7 v8 v9 v10 v11 IG mF A) 36 1 G v5 v6 v7 v8 v9 v10 v11 (by omega) (by omega) A1
  rw [kk_sf0] at z
  exact z
theorem kk_RXg {b t : Int} {h G : mm_Id → Int → Int} {dh : Int → Int} (hc : kk_core b h dh) (ht : 0 ≤ t ∧ t < 13) (IG : kk_G28 t h G) {s n p v : Int} (hs : 0 ≤ s ∧ s < 28) (hn : 1 ≤ n ∧ n < 37) (hp : 0 ≤ p ∧ p < 36) (e : h (43, 0, 0) (36 * (36 * s + n - 1) + p) = v) (z : v ≠ 0) : kk_any G v := by
  refine ⟨s, by omega, n, p, hn, hp, ?_, ?_⟩
  · rw [kk_G41 IG kk_f41 (by decide) (by decide) hs.2 hn.2]
    exact kk_foW hc ⟨hs.1, by omega⟩ n p hn.1 hn.2 hp.1 hp.2 (by omega)
  · rw [kk_G43 IG hs.2 hn.2 hp.2]; exact e
theorem kk_rcZ {b t : Int} {h G gm Z : mm_Id → Int → Int} {dh dh' : Int → Int} (hc : kk_core b h dh) (ht : 0 ≤ t ∧ t < 5) (hno : 0 < kk_no h t) (s9 : h (1, 0, 0) 9 = 1) (IG : kk_G28 t h G) (A : kk_KA t G gm 37) (eZ : ∀ (x : mm_Id) k, 40 ≤ x.1 → x.1 ≠ 56 → x.1 ≠ 63 → x.1 ≠ 64 → Z x k = gm x k) (R : kk_R Z) (sd : ∀ n, 1 ≤ n → n < 37 → kk_sd Z t n h 27 n ∧ Z (24, t, n) 9 = h (24, 27, n) 9)
    (pa : ∀ n p, 1 ≤ n → n < 37 → 0 ≤ p → p < 36 → kk_pa h Z t 27 n p) (ps : ∀ t2 n p, mm_isT t2 → mm_isN n → 0 ≤ p → p < 36 → ¬ (t2 = t ∧ 1 ≤ n) → kk_ps h Z t2 n p) (z16 : ∀ e, 0 ≤ e → e < 60 → Z (16, 0, 0) e = h (16, 0, 0) e) (ba : kk_ba h Z)
    (cF : ∀ (x : mm_Id) k, x.1 < 40 → ¬ kk_ct x k → ¬ (x = (15, 0, 0) ∧ k = 8) → x.1 ≠ 16 → ¬ kk_tr t 1 37 x → ¬ (x = (31, t, 0) ∧ k = 6) → Z x k = h x k) (fl : Z (31, t, 0) 6 = 1) (b3 : kk_cnt (kk_lb gm (-1)) ≤ 400) (b7 : kk_cnt (kk_bs gm t) ≤ h (59, 0, 0) t)
    (dcl : ∀ q, 0 ≤ q → q < 8 → dh q = t → dh' q = -1 ∧ Z (63, 0, 0) (q + 1) = 0 ∧ ∀ a, 0 ≤ a → a < 2160 → Z (64, 0, 0) (2160 * (q + 1) + a) = 0) (dno : ∀ q, 0 ≤ q → q < 8 → ¬ dh q = t → dh' q = dh q ∧ Z (63, 0, 0) (q + 1) = h (63, 0, 0) (q + 1) ∧ ∀ a, 0 ≤ a → a < 2160 → Z (64, 0, 0) (2160 * (q + 1) + a) = h (64, 0, 0) (2160 * (q + 1) + a)) : kk_W b Z dh' := by
  have t13 : 0 ≤ t ∧ t < 13 := ⟨ht.1, by omega⟩
  have X := A.1
  have GF := kk_GFI hc t13 IG
  have f : ∀ (f : Nat) k, 41 ≤ f → f ≤ 55 → Z (f, 0, 0) k = gm (f, 0, 0) k := fun f k f0 f1 => eZ _ _ (by show 40 ≤ f; omega) (by show f ≠ 56; omega) (by show f ≠ 63; omega) (by show f ≠ 64; omega)
  have E4 := kk_e4 (X := Z) (c := gm) (fun f k hf => eZ _ _ (by show 40 ≤ f; omega) (by show f ≠ 56; omega) (by show f ≠ 63; omega) (by show f ≠ 64; omega))
  have m0G : ∀ n, 1 ≤ n → n < 37 → kk_ctn2 h 27 n → kk_m0 gm (36 * t + n - 1) h (36 * 27 + n - 1) := fun n n0 n1 c => by
    obtain ⟨y1, y2, y3, y4⟩ := ((A.2.1 n n0 n1).1 ((kk_ctG hc IG (by omega) ⟨n0, n1⟩).2 c)).1
    have m := kk_Gms hc IG (s := 27) (n := n) (by omega) ⟨n0, n1⟩
    have e44 := m.1 44 kk_f44
    have e49 := m.1 49 kk_f49
    refine ⟨fun f hf => by rw [y1 f hf, m.1 f hf], fun e e0 e1 => ?_, fun e e0 e1 => ?_, fun e e0 e1 => ?_⟩
    · rw [(y2 e e0 (by omega)).1, (y2 e e0 (by omega)).2]; exact m.2.2.1 e e0 e1
    · rw [(y3 e e0 (by omega)).1, (y3 e e0 (by omega)).2]; exact m.2.2.2.1 e e0 e1
    · rw [y4 e e0 e1]; exact m.2.2.2.2 e e0 e1
  refine kk_rcW hc ht hno s9 R sd pa ps z16 ba cF fl (fun n n0 n1 c => ?_) (fun n n0 n1 c => ?_) (fun n n0 n1 => ?_) (fun n p n0 n1 p0 p1 c => ?_) (fun s n p e s0 s1 n0 n1 p0 p1 z e0 e1 => ?_) (fun n n0 n1 => ?_) (fun x k q q1 q2 q3 q4 q5 q6 q7 q8 => ?_) (fun v v0 v1 q => ?_) ?_ ?_ ?_ dcl dno
  · obtain ⟨y1, y2, y3, y4⟩ := m0G n n0 n1 c
    refine ⟨fun g hg => ?_, fun e e0 e1 => ?_, fun e e0 e1 => ?_, fun e e0 e1 => ?_⟩
    · have hg2 := hg
      unfold kk_mf at hg2
      rw [f g _ (by omega) (by omega)]; exact y1 g hg
    · rw [f 45 _ (by omega) (by omega), f 46 _ (by omega) (by omega)]; exact y2 e e0 e1
    · rw [f 50 _ (by omega) (by omega), f 51 _ (by omega) (by omega)]; exact y3 e e0 e1
    · rw [f 52 _ (by omega) (by omega)]; exact y4 e e0 e1
  · obtain ⟨⟨y1, y2, y3, y4⟩, y5⟩ := (A.2.1 n n0 n1).2 (fun w => c ((kk_ctG hc IG (by omega) ⟨n0, n1⟩).1 w))
    exact ⟨⟨by rw [f 41 _ (by omega) (by omega)]; exact y1, by rw [f 42 _ (by omega) (by omega)]; exact y2, by rw [f 44 _ (by omega) (by omega)]; exact y3, by rw [f 49 _ (by omega) (by omega)]; exact y4⟩, fun p p0 p1 => by rw [f 43 _ (by omega) (by omega)]; exact y5 p p0 p1⟩
  · rw [f 53 _ (by omega) (by omega)]; exact X.2.2.2.2.2 n n0 n1
  · have R27 := kk_r27 hc (n := n) (p := p) ⟨n0, n1⟩ ⟨p0, p1⟩
    unfold kk_pm
    simp only [f 43 _ (show 41 ≤ 43 by omega) (show 43 ≤ 55 by omega), f 54 _ (show 41 ≤ 54 by omega) (show 54 ≤ 55 by omega)]
    rcases kk_pcM hc t13 IG A (n := n) (p := p) ⟨n0, n1⟩ ⟨p0, p1⟩ with w | w | w
    · have z : h (43, 0, 0) (36 * (36 * 27 + n - 1) + p) = 0 := Classical.byContradiction (fun y => R27.2 ⟨c, y⟩ w.1)
      exact ⟨fun _ => w.2, fun y => absurd z y, fun y => absurd z y⟩
    · exact ⟨fun y => absurd y (R27.1 w.1).2, fun _ _ => w.2.2.1, fun _ k => absurd w.2.1 k⟩
    · refine ⟨fun y => absurd y (R27.1 w.1).2, fun _ k => absurd k w.2.1, fun _ _ => ⟨w.2.2.1, fun s n2 p2 s0 s1 h1 h2 h3 h4 e => ?_, w.2.2.2.2.1, w.2.2.2.2.2⟩⟩
      refine w.2.2.2.1 (kk_RXg hc t13 IG ⟨s0, s1⟩ ⟨h1, h2⟩ ⟨h3, h4⟩ e ?_)
      have := w.2.2.1
      omega
  · have br := kk_brC hc (s := s) ⟨s0, by omega⟩ n p n0 n1 p0 p1
    rw [f 54 _ (by omega) (by omega), X.2.1 _ e (kk_RXg hc t13 IG ⟨s0, s1⟩ ⟨n0, n1⟩ ⟨p0, p1⟩ rfl z) (by omega) br.2 e0 e1]
    exact IG.1 _ _ (by decide) (kk_sx6 (by omega)) (by decide) (by simp)
  · have w28 := (kk_MWcp (IG.2 n n0 n1) (kk_MWC hc (s := t) (n := n) (by omega) ⟨n0, n1⟩)).1
    refine kk_mst (kk_msr w28.2.1.2 w28.2.2.2 (fun x j hx => ?_)) (IG.2 n n0 n1)
    have r := kk_mxr hx
    rw [eZ x j (by omega) (by omega) (by omega) (by omega)]
    exact X.2.2.1 x j (by rintro v; rw [v] at r; simp at r) (by rintro v; rw [v] at r; simp at r) (by rintro ⟨v, _⟩; rw [v] at r; simp at r) (kk_sxd (s := 28) (by omega) ⟨n, n0, n1, hx⟩)
  · rw [eZ x k q q5 q6 q7, X.2.2.1 x k (fun v => q3 (by rw [v])) (fun v => q4 (by rw [v])) (fun v => q8 ⟨v.1, Or.inr v.2⟩) q1]
    exact IG.1 x k q q2 q5 (fun v => q8 ⟨v.1, Or.inl v.2⟩)
  · rw [f 55 _ (by omega) (by omega)]
    refine X.1.1 v v0 v1 ?_
    obtain ⟨s, hs, q⟩ := q
    exact ⟨s, hs, (E4.1 s v).1 q⟩
  · rw [eZ _ _ (by decide) (by decide) (by decide) (by decide)]; exact X.1.2
  · rw [kk_cntc (P := kk_lb Z (-1)) (fun v _ _ => E4.2.1 (-1) v)]; exact b3
  · rw [kk_cntc (P := kk_bs Z t) (fun v _ _ => E4.1 t v)]; exact b7
theorem c_38 {b : Int} {h : mm_Id → Int → Int} {dh : Int → Int} {nx ns : Int} (hy : 10581 ≤ nx) (hc : kk_core b h dh) (hb : b + 1 ≤ 1000000) {t : Int} (ht : -2147483648 ≤ t ∧ t < 2147483648) : kk_call 38 264 [zI t] b h dh nx ns kk_SI := by
  unfold kk_call
  have hx : 5275 ≤ nx := by omega
  have hc0 : kk_core b (mm_up h (40, 0, 0) 0 0) dh := kk_core0 hc
  have fin : ∀ v, kk_SI (zI v) → mm_Cl 264 [zR (40, 0, 0), zI t] (mm_z h dh nx ns) (fun (r2 : mm_V) (h2 : mm_H) => r2 = zI v ∧ ∃ g2, h2 = mm_z g2 dh nx ns ∧ kk_core (b + 1) g2 dh ∧ ∀ x j, kk_scr x j → g2 x j = h x j) →
      (fun (r : mm_V) (h1 : mm_H) => kk_SI r ∧ ∃ g dh1, h1 = mm_z g dh1 nx ns ∧ mm_Cl 264 [zR (40, 0, 0), zI t] (mm_z g dh1 nx ns) (fun r2 h2 => r2 = r ∧ ∃ g2, h2 = mm_z g2 dh1 nx ns ∧ kk_core (b + 1) g2 dh1 ∧ ∀ x j, kk_scr x j → g2 x j = h x j)) (zI v) (mm_z h dh nx ns) :=
    fun v h1 h2 => ⟨h1, h, dh, rfl, h2⟩
  have mfin : ∀ v w : Int, w = v → (fun (r2 : mm_V) (h2 : mm_H) => r2 = zI v ∧ ∃ g2, h2 = mm_z g2 dh nx ns ∧ kk_core (b + 1) g2 dh ∧ ∀ x j, kk_scr x j → g2 x j = h x j) (zI w) (mm_z (mm_up h (40, 0, 0) 0 0) dh nx ns) :=
    fun v w e => ⟨by rw [e], _, rfl, kk_coreS hb hc0, fun x j hs => kk_scr0 hs⟩
  have ca := kk_cal hc
  rw [r_38_e (hx := hx)]
  refine s53t hx (kk_nmC hc) (fun s s0 s1 hs => ?_) (fun hs => ?_)
  · have hD : mm_isD s := ⟨s0, s1⟩
    have s13 : 0 ≤ s ∧ s < 13 := ⟨s0, by omega⟩
    have hT := mm_T13 s13
    have hno := kk_tpp hs
    have T26 : mm_isT 26 := by unfold mm_isT; omega
    have T27 : mm_isT 27 := by unfold mm_isT; omega
    have f9 := hc.1.2.2.2.2.2.2.1
    have hR := hc.1.1.2.2.2.2.2.2.2.1
    have eM : ∀ (F : mm_Id → Int → Int) (f : Nat), 41 ≤ f → f ≤ 54 → mm_up F (40, 0, 0) 0 0 (f, 0, 0) = F (f, 0, 0) := fun F f f0 f1 => funext (fun i => by rw [mm_upf (by omega)])
    rw [mm_pR, r_38_0_3a (hvx1 := rfl) (hty0 := hD) (hx := hx)]
    have noF : ¬ (h (40, 0, 0) 34 = 1 ∧ ∀ n, 1 ≤ n → n < 37 → kk_ua h s 26 n) → (fun (r : mm_V) (h1 : mm_H) => kk_SI r ∧ ∃ g dh1, h1 = mm_z g dh1 nx ns ∧ mm_Cl 264 [zR (40, 0, 0), zI t] (mm_z g dh1 nx ns) (fun r2 h2 => r2 = r ∧ ∃ g2, h2 = mm_z g2 dh1 nx ns ∧ kk_core (b + 1) g2 dh1 ∧ ∀ x j, kk_scr x j → g2 x j = h x j)) (zI (-3)) (mm_z h dh nx ns) := fun nu => by
      refine fin (-3) ⟨_, rfl, by omega, by omega⟩ ?_
      rw [r_264_e (hy := hy)]
      refine m182y hy hc (kk_lku (by decide) (kk_lkr h)) ht hs s1 ?_
      rw [mm_pI, r_264_0_6 (hvx1 := rfl) (hy := hy), if_neg (by omega)]
      refine m262 hy hc s13 (eM h) (mm_upj (by decide)) (fun w1 w2 => absurd ⟨w1, w2⟩ nu) (fun _ => ?_)
      rw [mm_pI, r_264_1_3 (hy := hy), if_pos rfl]
      exact mfin _ _ rfl
    by_cases c9 : h (1, 0, 0) 9 = 0
    · rw [if_pos c9, r_38_2 (hx := hx)]
      exact noF (fun q => by have := q.1; omega)
    rw [if_neg c9]
    have s9 : h (1, 0, 0) 9 = 1 := by omega
    have hf : h (40, 0, 0) 34 = 1 := by omega
    refine s168 hT T26 hx hR.1 (fun n n0 n1 => ?_) (fun n n0 n1 => (hc.1.1.2.1 26 n T26 n0 n1).2.2.2.2.2.2.1) (fun ua => ?_) (fun nu => ?_)
    · have W := hc.1.1.2.1 s n hT n0 n1
      exact ⟨W.2.2.2.2.2.2.1, W.2.1, W.2.2.2.1, fun k => by have := W.2.2.2.2.2.2.2.2.2.2.1.2.2 k; omega⟩
    · rw [mm_pI, r_38_1_8 (htx2 := hD) (hx := hx), if_neg (by decide)]
      by_cases c12 : h (1, 0, 0) 12 = 0
      · rw [if_pos c12]
        refine s169 hT T27 hx hR.1 (fun n n0 n1 => (hc.1.1.2.1 27 n T27 n0 n1).2.2.2.2.2.2.1) ?_
        rw [mm_pI, r_38_4_5 (htx2 := hD) (hx := hx)]
        refine s170 hT T27 hx hR.1 (fun n n0 n1 => (hc.1.1.2.1 s n hT n0 n1).2.2.2.2.2.2.1) ?_
        have xb := kk_Sbb (fun n p => h (27, 27, n) p ≠ 0 ∧ ¬ kk_kp h s n 27 n p)
        have yb := kk_Sbb (fun n p => ((1 ≤ h (27, s, n) p ∧ h (27, s, n) p < 1701) ∧ h (17, 0, 0) (h (27, s, n) p) = 1) ∧ ¬ kk_kp h s n 27 n p)
        obtain ⟨X3, eX⟩ : ∃ q, kk_S (fun n => mm_sm (fun p => kk_b (h (27, 27, n) p ≠ 0 ∧ ¬ kk_kp h s n 27 n p)) 36) 36 = q := ⟨_, rfl⟩
        obtain ⟨Y0, eY⟩ : ∃ q, kk_S (fun n => mm_sm (fun p => kk_b (((1 ≤ h (27, s, n) p ∧ h (27, s, n) p < 1701) ∧ h (17, 0, 0) (h (27, s, n) p) = 1) ∧ ¬ kk_kp h s n 27 n p)) 36) 36 = q := ⟨_, rfl⟩
        obtain ⟨NB, eN⟩ : ∃ q, kk_S (fun n => h (24, 27, n) 9) 36 = q := ⟨_, rfl⟩
        rw [eX] at xb ⊢
        rw [eY] at yb ⊢
        have cl := hc.1.2.1.2.2.1
        have cl0 : 0 ≤ kk_cnt (kk_lb h (-1)) := by rw [kk_cntm]; exact kk_cmnn _ _
        have D7 := (kk_dsC hc s0 s1 hno).2.1
        have nope : ¬ (kk_cnt (kk_lb h (-1)) - Y0 + X3 ≤ 400 ∧ NB ≤ h (59, 0, 0) s) → (fun (r : mm_V) (h1 : mm_H) => kk_SI r ∧ ∃ g dh1, h1 = mm_z g dh1 nx ns ∧ mm_Cl 264 [zR (40, 0, 0), zI t] (mm_z g dh1 nx ns) (fun r2 h2 => r2 = r ∧ ∃ g2, h2 = mm_z g2 dh1 nx ns ∧ kk_core (b + 1) g2 dh1 ∧ ∀ x j, kk_scr x j → g2 x j = h x j)) (zI (-4)) (mm_z h dh nx ns) := fun nr => by
          refine fin (-4) ⟨_, rfl, by omega, by omega⟩ ?_
          rw [r_264_e (hy := hy)]
          refine m182y hy hc (kk_lku (by decide) (kk_lkr h)) ht hs s1 ?_
          rw [mm_pI, r_264_0_6 (hvx1 := rfl) (hy := hy), if_neg (by omega)]
          refine m262 hy hc s13 (eM h) (mm_upj (by decide)) (fun _ _ => ?_) (fun w => absurd ⟨hf, ua⟩ w)
          rw [mm_pI, r_264_1_3 (hy := hy), if_neg (by decide), mm_upj (by decide), ← ca.1, if_pos c12]
          refine m264g hy hc ⟨s0, s1⟩ (fun x j _ q2 => mm_upne' q2) (fun G gm v5 v6 v7 v8 v9 v10 v11 IG eG A => ?_)
          have X := A.1
          have GF := kk_GFI hc s13 IG
          obtain ⟨C1, C2⟩ := kk_rcC hc s13 hno IG A
          rw [eX, eY] at C1
          rw [eN] at C2
          have g59 : gm (59, 0, 0) s = h (59, 0, 0) s := (X.2.2.1 _ _ (by simp) (by simp) (by simp) (kk_sx6 (by omega))).trans (IG.1 _ _ (by decide) (kk_sx6 (by omega)) (by decide) (by simp))
          refine m201 hy (by omega) X.2.2.2.1 (fun gx eg w1 w2 => absurd ⟨by rw [← C1]; exact w1, by rw [← C2, ← g59]; exact w2⟩ nr) (fun gx eg w => ?_)
          have egm : ∀ (x : mm_Id) j, x.1 ≠ 56 → gx x j = gm x j := fun x j q => eg x j (by rintro ⟨v, _⟩; rw [v] at q; exact q rfl)
          have w28 : ∀ v, 1 ≤ v → v < 37 → kk_mw gx (36 * 28 + v - 1) := fun v v0 v1 => by
            have q := GF.2.2.1 28 v (by omega) (by omega) v0 v1
            unfold kk_mw at q ⊢
            rw [egm _ _ (by decide), egm _ _ (by decide), egm _ _ (by decide), kk_RXf X kk_f53 (s := 28) (by omega) ⟨v0, v1⟩, kk_RXf X kk_f44 (s := 28) (by omega) ⟨v0, v1⟩, kk_RXf X kk_f49 (s := 28) (by omega) ⟨v0, v1⟩]
            exact q
          rw [mm_pI, r_264_18_3 (hy := hy), if_pos rfl]
          refine m179 hy (by omega) (by omega) (by omega) w28 (fun g3 mS mF => ?_)
          rw [mm_pU, r_264_18_8 (hy := hy)]
          have frX : ∀ (x : mm_Id) j, ¬ kk_sx s x j → x.1 ≠ 54 → x.1 ≠ 55 → x.1 ≠ 56 → ¬ (x = (40, 0, 0) ∧ (j = 0 ∨ j = 18)) → gx x j = G x j := fun x j q1 q2 q3 q4 q5 => by
            rw [egm x j q4]; exact X.2.2.1 x j (fun v => q2 (by rw [v])) (fun v => q3 (by rw [v])) (fun v => q5 ⟨v.1, Or.inr v.2⟩) q1
          refine ⟨rfl, g3, rfl, kk_coreS hb (kk_rsN hc ⟨s0, s1⟩ hno IG (fun x j q => ?_) frX (fun c k q c0 c1 k0 k1 => by rw [egm _ _ (by decide)]; exact X.2.1 c k q c0 c1 k0 k1) (fun c c0 c1 q => by rw [egm _ _ (by decide)]; exact X.1.1 c c0 c1 (kk_RXa s13 GF X q)) (by rw [egm _ _ (by decide)]; exact X.1.2) mS mF), fun x j q => ?_⟩
          · rw [eG x j (fun v => by have r := kk_sxr v; omega)]; exact mm_upne' (by rintro ⟨v, _⟩; rw [v] at q; simp at q)
          · have n0 : ¬ (41 ≤ x.1 ∧ x.1 ≤ 56) ∧ ¬ (x = (40, 0, 0) ∧ (j = 0 ∨ j = 18)) := by
              unfold kk_scr at q
              refine ⟨?_, ?_⟩
              · rcases q with q | q | ⟨q, _⟩ | q
                · omega
                · omega
                · rw [q]; simp
                · omega
              · rintro ⟨v, v2⟩; rw [v] at q; simp at q; omega
            have n2 : ∀ a, ¬ kk_sx a x j := fun a v => by have r := kk_sxr v; omega
            rw [mF x j (n2 s), frX x j (n2 s) (by omega) (by omega) (by omega) n0.2, eG x j (n2 28)]
            exact kk_scr0 q
        rw [mm_pI, r_38_4_11 (htx2 := hD) (hx := hx), kk_lbh hc.1, mm_wi (z := kk_cnt (kk_lb h (-1)) - Y0) (by omega) (by omega), mm_wi (z := kk_cnt (kk_lb h (-1)) - Y0 + X3) (by omega) (by omega)]
        generalize eC : kk_cnt (kk_lb h (-1)) = CL at nope cl cl0 ⊢
        by_cases c4 : 400 < CL - Y0 + X3
        · rw [if_pos c4, r_38_5 (hx := hx)]
          exact nope (fun q => by omega)
        rw [if_neg c4]
        have b9 : ∀ n, 1 ≤ n → n < 37 → 0 ≤ h (24, 27, n) 9 ∧ h (24, 27, n) 9 ≤ 36 := fun n n0 n1 => by
          rw [(hc.1.1.2.1 27 n T27 n0 n1).2.2.2.2.2.2.1]; exact ⟨kk_nznn _, kk_nzub _⟩
        refine s160 T27 hx b9 ?_
        rw [eN, mm_pI, r_38_4_24 (htx2 := hD) (hx := hx)]
        by_cases c5 : h (31, s, 0) 5 < NB
        · rw [if_pos c5, r_38_5 (hx := hx)]
          exact nope (fun q => by omega)
        rw [if_neg c5]
        have us := kk_usle hc
        refine s171b s13 T27 hx (by omega) hR (fun n n0 n1 => (hc.1.1.2.1 s n hT n0 n1).2.2.2.2.2.2.1) (fun n n0 n1 => kk_nwC hc T27 ⟨n0, n1⟩) (by rw [hc.1.1.2.2.2.2.2.2.2.2.2.1 s hT]; exact if_pos s13) ?_ (fun A aR aP aS ⟨a16, aB⟩ aD aF => ?_)
        · have e : kk_S (fun n => kk_nz (h (27, 27, n))) 36 = NB := by
            rw [← eN]
            exact kk_Sc 36 (fun n n0 n1 => (hc.1.1.2.1 27 n T27 n0 (by omega)).2.2.2.2.2.2.1.symm)
          rw [e]; omega
        rw [mm_pU, r_38_6_5 (htx2 := hD) (hx := hx)]
        have a9 : ∀ n, 1 ≤ n → n < 37 → A (24, s, n) 9 = kk_nz (A (27, s, n)) := fun n n0 n1 => by
          rw [(aD n n0 n1).2, (hc.1.1.2.1 27 n T27 n0 n1).2.2.2.2.2.2.1]
          exact sm_cgI 36 (fun p p0 p1 => by
            have := kk_paz (aP n p n0 n1 p0 (by omega))
            by_cases v : h (27, 27, n) p = 0
            · rw [if_pos v, if_pos (this.2 v)]
            · rw [if_neg v, if_neg (fun u => v (this.1 u))])
        have A22 : A (22, s, 0) 2 = kk_as s := by rw [aF _ _ (by unfold kk_ct; simp) (by simp) (by simp) (by unfold kk_tr; simp)]; exact hc.1.1.2.2.2.2.2.2.2.2.2.1 s hT
        refine s65 hx hD aR a9 A22 (fun B dh2 bR bC bF b6 b1 b0 => ?_)
        have unA : ∀ n, 1 ≤ n → n < 37 → ¬ (A (24, s, n) 0 = 1 ∧ A (24, s, n) 5 = 0) := fun n n0 n1 q => kk_SRu hc (Or.inr rfl) ⟨n0, n1⟩ (by rw [(aD n n0 n1).1.1 0 kk_F0, (aD n n0 n1).1.1 5 kk_F5] at q; exact q)
        have bF2 : ∀ (x : mm_Id) j, ¬ kk_ct x j → ¬ (x = (31, s, 0) ∧ j = 6) → B x j = A x j := fun x j q1 q2 => bF x j q1 (fun v => unA x.2.2 v.1.2.2.2.1 v.1.2.2.2.2 v.2) q2
        have B27 : ∀ a n p, B (27, a, n) p = A (27, a, n) p := fun a n p => bF2 _ _ (by unfold kk_ct; simp) (by simp)
        have B16 : ∀ j, B (16, 0, 0) j = A (16, 0, 0) j := fun j => bF2 _ _ (by unfold kk_ct; simp) (by simp)
        have Bt : ∀ (f : Nat) a n j, 24 ≤ f → f ≤ 30 → B (f, a, n) j = A (f, a, n) j := fun f a n j f0 f1 => bF2 _ _ (by unfold kk_ct; rintro (⟨v, _⟩ | v | v | v) <;> simp at v <;> omega) (by rintro ⟨v, _⟩; simp at v; omega)
        have bD : ∀ n, 1 ≤ n → n < 37 → kk_sd B s n h 27 n ∧ B (24, s, n) 9 = h (24, 27, n) 9 := fun n n0 n1 => by
          obtain ⟨⟨d1, d2, d3, d4⟩, d5⟩ := aD n n0 n1
          exact ⟨⟨fun f hf => by rw [Bt 24 s n f (by decide) (by decide)]; exact d1 f hf, fun k e e0 e1 => by rw [Bt 25 s n e (by decide) (by decide), Bt 26 s n e (by decide) (by decide)]; exact d2 k e e0 e1, fun k e e0 e1 => by rw [Bt 30 s n e (by decide) (by decide)]; exact d3 k e e0 e1, fun e e0 e1 => by rw [Bt 28 s n e (by decide) (by decide), Bt 29 s n e (by decide) (by decide)]; exact d4 e e0 e1⟩, by rw [Bt 24 s n 9 (by decide) (by decide)]; exact d5⟩
        have bP : ∀ n p, 1 ≤ n → n < 37 → 0 ≤ p → p < 36 → kk_pa h B s 27 n p := fun n p n0 n1 p0 p1 => by
          have q := aP n p n0 n1 p0 p1
          unfold kk_pa at q ⊢
          simp only [B27, B16]
          exact q
        have bS : ∀ t2 n p, mm_isT t2 → mm_isN n → 0 ≤ p → p < 36 → ¬ (t2 = s ∧ 1 ≤ n) → kk_ps h B t2 n p := fun t2 n p h1 h2 h3 h4 h5 => by
          have q := aS t2 n p h1 h2 h3 h4 h5
          unfold kk_ps at q ⊢
          simp only [B27, B16]
          exact q
        have bB : kk_ba h B := fun j j0 j1 => by
          obtain ⟨k, hk, e⟩ := aB j j0 j1
          exact ⟨k, hk, by rw [B16]; exact e⟩
        have bFh : ∀ (x : mm_Id) k, ¬ kk_ct x k → ¬ (x = (15, 0, 0) ∧ k = 8) → x.1 ≠ 16 → ¬ kk_tr s 1 37 x → ¬ (x = (31, s, 0) ∧ k = 6) → B x k = h x k := fun x k q1 q2 q3 q4 q5 => by
          rw [bF2 x k q1 q5]; exact aF x k q1 q2 q3 q4
        have bk : ∀ (x : mm_Id) k, 40 ≤ x.1 → B x k = h x k := fun x k q => bFh x k (by unfold kk_ct; rintro (⟨v, _⟩ | v | v | v) <;> (rw [v] at q; simp at q)) (by rintro ⟨v, _⟩; rw [v] at q; simp at q) (by omega) (by unfold kk_tr; omega) (by rintro ⟨v, _⟩; rw [v] at q; simp at q)
        have nwB : ∀ a n, 0 ≤ a → a < 18 → 1 ≤ n → n < 37 → kk_nw B a n := fun a n a0 a1 n0 n1 => by
          by_cases q : a = s
          · rw [q]
            have w := hc.1.1.2.1 27 n T27 n0 n1
            have d := (bD n n0 n1).1.1
            refine ⟨by rw [d 14 (by unfold kk_F; omega)]; exact w.2.2.2.2.2.1, by rw [d 11 (by unfold kk_F; omega)]; exact w.2.2.2.1, ?_⟩
            rw [Bt 24 s n 9 (by decide) (by decide), a9 n n0 n1]
            exact kk_nzc (fun p _ _ => (B27 s n p).symm)
          · exact kk_nwcp (kk_cpdr (fun f j f0 f1 => bFh _ _ (by unfold kk_ct; rintro (⟨v, _⟩ | v | v | v) <;> simp at v <;> omega) (by rintro ⟨v, _⟩; simp at v; omega) (by show f ≠ 16; omega) (by unfold kk_tr; simp; omega) (by rintro ⟨v, _⟩; simp at v; omega))) (kk_nwC hc (mm_T18 ⟨a0, a1⟩) ⟨n0, n1⟩)
        rw [mm_pU, r_38_6_8 (hx := hx)]
        refine s64p hx bR nwB (fun a a0 a1 => ?_) (fun gf k1 k2 k3 => ?_)
        · rw [bFh _ _ (by unfold kk_ct; simp) (by simp) (by simp) (by unfold kk_tr; simp) (by simp), hc.1.1.2.2.2.2.2.2.2.2.2.1 a (mm_T18 ⟨by omega, a1⟩)]
          exact if_neg (by omega)
        have ek : ∀ (x : mm_Id) j, 40 ≤ x.1 → gf x j = h x j := fun x j q => by rw [k2 x j q]; exact bk x j q
        rw [mm_pI, r_38_6_10 (hx := hx)]
        refine ⟨⟨_, rfl, by omega, by omega⟩, gf, dh2, rfl, ?_⟩
        rw [r_264_e (hy := hy)]
        refine m182h hy hc (fun k _ _ => by rw [mm_upf (by decide)]; exact ek _ _ (by decide)) ht hs s1 ?_
        rw [mm_pI, r_264_0_6 (hvx1 := rfl) (hy := hy), if_neg (by omega)]
        refine m262 hy hc s13 (fun f f0 f1 => ?_) (by rw [mm_upj (by decide)]; exact ek _ _ (by decide)) (fun _ _ => ?_) (fun w => absurd ⟨hf, ua⟩ w)
        · funext i
          rw [mm_upf (by omega)]; exact ek _ _ (by show 40 ≤ f; omega)
        rw [mm_pI, r_264_1_3 (hy := hy), if_neg (by decide), mm_upj (by decide), ek _ _ (by decide), ← ca.1, if_pos c12]
        refine m264g hy hc ⟨s0, s1⟩ (fun x j q q2 => by rw [mm_upne' q2]; exact ek x j q) (fun G gm v5 v6 v7 v8 v9 v10 v11 IG eG A => ?_)
        have X := A.1
        have GF := kk_GFI hc s13 IG
        obtain ⟨C1, C2⟩ := kk_rcC hc s13 hno IG A
        rw [eX, eY, eC] at C1
        rw [eN] at C2
        have N3 := kk_rcN hc s13 IG
        rw [eX] at N3
        have g59 : gm (59, 0, 0) s = h (59, 0, 0) s := (X.2.2.1 _ _ (by simp) (by simp) (by simp) (kk_sx6 (by omega))).trans (IG.1 _ _ (by decide) (kk_sx6 (by omega)) (by decide) (by simp))
        have ok3 : kk_cnt (kk_lb gm (-1)) ≤ 400 := by rw [C1]; omega
        have ok7 : kk_cnt (kk_bs gm s) ≤ h (59, 0, 0) s := by rw [C2]; omega
        refine m201 hy (by omega) X.2.2.2.1 (fun gx eg w1 w2 => ?_) (fun gx eg w => absurd ⟨ok3, by rw [g59]; exact ok7⟩ w)
        have egm : ∀ (x : mm_Id) j, x.1 ≠ 56 → gx x j = gm x j := fun x j q => eg x j (by rintro ⟨v, _⟩; rw [v] at q; exact q rfl)
        have grf : ∀ (x : mm_Id) j, ¬ kk_sx s x j → ¬ kk_sx 28 x j → x.1 ≠ 54 → x.1 ≠ 55 → x.1 ≠ 56 → ¬ (x = (40, 0, 0) ∧ (j = 0 ∨ j = 18)) → gx x j = gf x j := fun x j q1 q2 q3 q4 q5 q6 => by
          rw [egm x j q5, X.2.2.1 x j (fun v => q3 (by rw [v])) (fun v => q4 (by rw [v])) (fun v => q6 ⟨v.1, Or.inr v.2⟩) q1, eG x j q2]
          exact mm_upne' (fun v => q6 ⟨v.1, Or.inl v.2⟩)
        have D := fun n (n0 : 1 ≤ n) (n1 : n < 37) => A.2.1 n n0 n1
        have cG : ∀ n, 1 ≤ n → n < 37 → (kk_ctn2 G 27 n ↔ kk_ctn2 h 27 n) := fun n n0 n1 => kk_ctG hc IG (by omega) ⟨n0, n1⟩
        rw [mm_pI, r_264_18_3 (hy := hy), if_neg (by decide)]
        refine m194u hy hc hD (fun d d0 d1 => ?_) (fun d d0 d1 k => ?_) (fun n n0 n1 q => ?_) (fun f k hf => ?_) (fun G2 u1 u2 u3 => ?_)
        · rw [egm _ _ (by decide)]
          by_cases c : kk_ctn2 G 27 d
          · rw [((D d d0 d1).1 c).1.1 44 kk_f44]; exact (GF.2.2.1 27 d (by omega) (by omega) d0 d1).2.1
          · rw [((D d d0 d1).2 c).1.2.2.1]; omega
        · rw [egm _ _ (by decide)] at k ⊢
          by_cases c : kk_ctn2 G 27 d
          · have m := kk_Gms hc IG (s := 27) (n := d) (by omega) ⟨d0, d1⟩
            rw [((D d d0 d1).1 c).1.1 44 kk_f44, m.1 44 kk_f44]
            rw [((D d d0 d1).1 c).1.1 41 kk_f41, m.1 41 kk_f41] at k
            exact (kk_MWC hc (s := 27) (n := d) (by omega) ⟨d0, d1⟩).2.2.1 (by omega)
          · exact ((D d d0 d1).2 c).1.2.2.1
        · rw [egm _ _ (by decide)] at q
          have e : kk_ef gx s n = kk_ef h 27 n := sm_cgI 36 (fun i i1 i2 => by
            have d0 : 1 ≤ i + 1 := by omega
            have d1 : i + 1 < 37 := by omega
            have m := kk_Gms hc IG (s := 27) (n := i + 1) (by omega) ⟨d0, d1⟩
            show mm_sm _ _ = mm_sm _ _
            rw [egm _ _ (by decide)]
            by_cases c : kk_ctn2 G 27 (i + 1)
            · obtain ⟨y1, y2, _, _⟩ := ((D (i + 1) d0 d1).1 c).1
              rw [y1 44 kk_f44, m.1 44 kk_f44]
              exact sm_cgI _ (fun e e0 e1 => by rw [egm _ _ (by decide), (y2 e e0 (by have := m.1 44 kk_f44; omega)).2, (m.2.2.1 e e0 (by omega)).2])
            · have z : h (44, 0, 0) (36 * 27 + (i + 1) - 1) = 0 := by
                refine (kk_MWC hc (s := 27) (n := i + 1) (by omega) ⟨d0, d1⟩).2.2.1 (fun k => c ((cG _ d0 d1).2 ⟨by omega, fun w => by omega⟩))
              rw [((D (i + 1) d0 d1).2 c).1.2.2.1, z]; rfl)
          rw [e] at q
          by_cases c : kk_ctn2 G 27 n
          · have m := kk_Gms hc IG (s := 27) (n := n) (by omega) ⟨n0, n1⟩
            rw [((D n n0 n1).1 c).1.1 41 kk_f41, m.1 41 kk_f41] at q
            have := ((cG n n0 n1).1 c).2 q.1
            omega
          · rw [((D n n0 n1).2 c).1.1] at q
            omega
        · rw [egm _ _ (by show f ≠ 56; omega), X.2.2.1 _ _ (by rintro v; simp at v; omega) (by rintro v; simp at v; omega) (by rintro ⟨v, _⟩; simp at v; omega) (kk_sx6 (by omega))]
          exact IG.1 _ _ (by show 40 ≤ f; omega) (kk_sx6 (by omega)) (by show f ≠ 56; omega) (by rintro ⟨v, _⟩; simp at v; omega)
        have mC : ∀ (x : mm_Id) k, x.1 < 40 → kk_mix B G2 x k = B x k := fun x k q => kk_mixC q
        have mM : ∀ (x : mm_Id) k, 40 ≤ x.1 → kk_mix B G2 x k = G2 x k := fun x k q => kk_mixM q
        have WP : kk_W b (kk_mix B G2) dh2 := by
          refine kk_rcZ hc ⟨s0, s1⟩ hno s9 IG A (fun x k q q1 q2 q3 => by rw [mM x k q, u1 x k q2 q3]; exact egm x k q1) ?_ (fun n n0 n1 => ?_) (fun n p n0 n1 p0 p1 => ?_) (fun t2 n p h1 h2 h3 h4 h5 => ?_) (fun e e0 e1 => by rw [mC _ _ (by decide), B16]; exact a16 e e0 e1) (fun j j0 j1 => ?_) (fun x k q q1 q2 q3 q4 q5 => by rw [mC x k q]; exact bFh x k q1 q2 q3 q4 q5) (by rw [mC _ _ (by simp)]; exact b6) ok3 ok7 (fun q q0 q1 e => ?_) (fun q q0 q1 e => ?_)
          · exact kk_Rcong (fun _ _ _ => mC _ _ (by simp)) (mC _ _ (by simp)) (mC _ _ (by simp)) (fun _ => mC _ _ (by simp)) (fun _ => mC _ _ (by simp)) (fun _ => mC _ _ (by simp)) bR
          · obtain ⟨⟨d1, d2, d3, d4⟩, d5⟩ := bD n n0 n1
            exact ⟨⟨fun f hf => by rw [mC _ _ (by simp)]; exact d1 f hf, fun k e e0 e1 => by rw [mC _ _ (by simp), mC _ _ (by simp)]; exact d2 k e e0 e1, fun k e e0 e1 => by rw [mC _ _ (by simp)]; exact d3 k e e0 e1, fun e e0 e1 => by rw [mC _ _ (by simp), mC _ _ (by simp)]; exact d4 e e0 e1⟩, by rw [mC _ _ (by simp)]; exact d5⟩
          · have q := bP n p n0 n1 p0 p1
            have c27 : ∀ a n p, kk_mix B G2 (27, a, n) p = B (27, a, n) p := fun a n p => mC _ _ (by simp)
            have c16 : ∀ j, kk_mix B G2 (16, 0, 0) j = B (16, 0, 0) j := fun j => mC _ _ (by simp)
            unfold kk_pa at q ⊢
            simp only [c27, c16]
            exact q
          · have q := bS t2 n p h1 h2 h3 h4 h5
            unfold kk_ps at q ⊢
            rw [mC _ _ (by simp)]
            exact ⟨q.1, fun e e0 e1 => by rw [mC _ _ (by simp)]; exact q.2 e e0 e1⟩
          · obtain ⟨k, hk, e⟩ := bB j j0 j1
            exact ⟨k, hk, by rw [mC _ _ (by simp)]; exact e⟩
          · have z := u2 q q0 q1 e
            exact ⟨b1 q q0 q1 e, by rw [mM _ _ (by decide)]; exact z.1, fun a a0 a1 => by rw [mM _ _ (by decide)]; exact z.2 a a0 a1⟩
          · have z := u3 q q0 q1 e
            exact ⟨b0 q (fun w => e w.2), by rw [mM _ _ (by decide)]; exact z.1, fun a a0 a1 => by rw [mM _ _ (by decide)]; exact z.2 a a0 a1⟩
        rw [mm_pU, r_264_19_3 (hy := hy)]
        refine m208W hy WP (fun g2 m1 m2 m3 => ?_)
        rw [mm_pU, r_264_19_5 (hy := hy)]
        have g2f : ∀ (x : mm_Id) j, x.1 < 40 → G2 x j = gf x j := fun x j q => by
          rw [u1 x j (by omega) (by omega)]
          exact grf x j (fun v => by have r := kk_sxr v; omega) (fun v => by have r := kk_sxr v; omega) (by omega) (by omega) (by omega) (by rintro ⟨v, _⟩; rw [v] at q; simp at q)
        refine ⟨by rw [N3], g2, rfl, kk_pdend (gx := G2) hb WP k1 m1 (fun x j q => by rw [m2 x j q]; exact g2f x j q) m3 (fun _ _ _ => rfl) (fun x j q => ?_)⟩
        rcases kk_scrC q with q5 | q5
        · have q6 := q
          unfold kk_scr at q6
          have nf : ¬ (41 ≤ x.1 ∧ x.1 ≤ 66) ∧ ¬ (x = (40, 0, 0) ∧ (j = 0 ∨ j = 18)) := by
            refine ⟨?_, ?_⟩
            · rcases q6 with q6 | q6 | ⟨q6, _⟩ | q6
              · omega
              · omega
              · rw [q6]; simp
              · omega
            · rintro ⟨v, v2⟩; rw [v] at q6; simp at q6; omega
          rw [u1 x j (by omega) (by omega), grf x j (fun v => by have r := kk_sxr v; omega) (fun v => by have r := kk_sxr v; omega) (by omega) (by omega) (by omega) nf.2]
          exact ek x j q5
        · rw [g2f x j (by omega), k3 x j q5.1 q5.2]
          exact bFh x j (by unfold kk_ct; rintro (⟨v, _⟩ | v | v | v) <;> (rw [v] at q5; simp at q5)) (by rintro ⟨v, _⟩; rw [v] at q5; simp at q5) (by omega) (by unfold kk_tr; omega) (by rintro ⟨v, _⟩; rw [v] at q5; simp at q5)
      · rw [if_neg c12]
        refine fin (-5) ⟨_, rfl, by omega, by omega⟩ ?_
        rw [r_264_e (hy := hy)]
        refine m182y hy hc (kk_lku (by decide) (kk_lkr h)) ht hs s1 ?_
        rw [mm_pI, r_264_0_6 (hvx1 := rfl) (hy := hy), if_neg (by omega)]
        refine m262 hy hc s13 (eM h) (mm_upj (by decide)) (fun _ _ => ?_) (fun w => absurd ⟨hf, ua⟩ w)
        rw [mm_pI, r_264_1_3 (hy := hy), if_neg (by decide), mm_upj (by decide), ← ca.1, if_neg c12]
        exact mfin _ _ rfl
    · rw [mm_pI, r_38_1_8 (htx2 := hD) (hx := hx), if_pos rfl, r_38_2 (hx := hx)]
      exact noF (fun q => by obtain ⟨n, n0, n1, u⟩ := nu; exact u (q.2 n n0 n1))
  · rw [mm_pR, r_38_0_3 (hvx1 := rfl) (hx := hx)]
    refine fin (-1) ⟨_, rfl, by omega, by omega⟩ ?_
    rw [r_264_e (hy := hy)]
    refine m182n hy hc (kk_lku (by decide) (kk_lkr h)) ht hs ?_
    rw [mm_pI, r_264_0_6 (hvx1 := rfl) (hy := hy), if_pos (by decide)]
    exact mfin _ _ rfl

