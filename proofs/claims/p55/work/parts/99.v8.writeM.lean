/-! write, the reference: pieces renewed, bytes put, room -/
section
variable {h gb : mm_Id → Int → Int} {dh dh0 : Int → Int} {nx ns b : Int} {Q : mm_V → mm_H → Prop}
theorem kk_Gub {t u : Int} {G : mm_Id → Int → Int} (I : kk_G28 t h G) {s : Int} (hs : s < 28) : kk_ub G s u = kk_ub h s u := by
  unfold kk_ub
  refine kk_Sc 36 (fun i i1 i2 => sm_cgI 36 (fun p p0 p1 => ?_))
  rw [kk_G41 I kk_f41 (by decide) (by decide) hs (by omega), kk_G41 I kk_f47 (by decide) (by decide) hs (by omega), kk_G43 I hs (by omega) (by omega)]
theorem kk_e4 {X c : mm_Id → Int → Int} (e : ∀ (f : Nat) j, f = 41 ∨ f = 43 ∨ f = 47 ∨ f = 57 → X (f, 0, 0) j = c (f, 0, 0) j) : (∀ s v, kk_bs X s v ↔ kk_bs c s v) ∧ (∀ s v, kk_lb X s v ↔ kk_lb c s v) ∧ (∀ s u, kk_ub X s u = kk_ub c s u) := by
  have a := fun j => e 41 j (by omega)
  have a2 := fun j => e 43 j (by omega)
  have a3 := fun j => e 47 j (by omega)
  have a4 := fun j => e 57 j (by omega)
  have bb : ∀ s v, kk_bs X s v ↔ kk_bs c s v := fun s v => by unfold kk_bs; simp only [a, a2]
  exact ⟨bb, fun s v => by unfold kk_lb; simp only [bb, a4], fun s u => by unfold kk_ub; simp only [a, a2, a3]⟩
/-- counts after pieces are renewed, by those before -/
theorem kk_RIc {s n lo hi lim : Int} {G c2 : mm_Id → Int → Int} (hc : kk_core b h dh0) (hs : 0 ≤ s ∧ s < 5) (hn : 1 ≤ n ∧ n < 37) (h0 : 0 ≤ lo) (h1 : lo ≤ hi) (h2 : hi ≤ 36) (IG : kk_G28 s h G) (I : kk_RI s n lo hi lim G c2) :
    kk_cnt (kk_lb c2 (-1)) = kk_cnt (kk_lb h (-1)) + kk_sf (kk_na h s n) lo hi ∧ kk_cnt (kk_bs c2 s) = kk_cnt (kk_bs h s) + kk_sf (kk_fr h s n) lo hi ∧ kk_ub c2 s (h (47, 0, 0) (36 * s + n - 1)) = kk_ub h s (h (47, 0, 0) (36 * s + n - 1)) + kk_sf (kk_fr h s n) lo hi := by
  obtain ⟨_, _, _, _, _, _, _, I9, I10, I11, _⟩ := I
  have e : lo + ((hi - lo).toNat : Int) = hi := by omega
  have s1 : kk_sf (fun p => 1 - kk_b (G (43, 0, 0) (36 * (36 * s + n - 1) + p) ≠ 0 ∧ ¬ kk_lb G s (G (43, 0, 0) (36 * (36 * s + n - 1) + p)))) lo hi = kk_sf (kk_na h s n) lo hi := by
    rw [← e]
    refine kk_sfc (hi - lo).toNat (fun p p0 p1 => ?_)
    rw [kk_G43 IG (by omega) hn.2 (by omega)]
    have a := kk_al1 hc.1 (t := s) (n := n) (p := p) ⟨hs.1, by omega⟩ hn (by omega)
    unfold kk_na
    by_cases q : (1 ≤ h (27, s, n) p ∧ h (27, s, n) p < 1701) ∧ h (17, 0, 0) (h (27, s, n) p) = 1
    · rw [if_pos q, kk_b1 ⟨(a.1 q).1, fun w => (a.1 q).2 ((kk_Glb hc IG).1 w)⟩]; rfl
    · rw [if_neg q, kk_b0 (fun w => q (a.2 ⟨w.1, fun w2 => w.2 ((kk_Glb hc IG).2 w2)⟩))]; rfl
  have s2 : kk_sf (fun p => 1 - kk_b (G (43, 0, 0) (36 * (36 * s + n - 1) + p) ≠ 0)) lo hi = kk_sf (kk_fr h s n) lo hi := by
    rw [← e]
    refine kk_sfc (hi - lo).toNat (fun p p0 p1 => ?_)
    rw [kk_G43 IG (by omega) hn.2 (by omega)]
    have r8 := ((kk_NRC hc (t := s) (n := n) ⟨hs.1, by omega⟩ hn).2.2.2.2.2.2.2 p (by omega) (by omega)).1
    unfold kk_fr
    by_cases q : h (27, s, n) p = 0
    · rw [if_pos q, kk_b0 (fun w => w (r8.1 q))]; rfl
    · rw [if_neg q, kk_b1 (fun w => q (r8.2 w))]; rfl
  rw [s1] at I9
  rw [s2] at I10 I11
  rw [I9, I10, kk_cntc (P := kk_lb G (-1)) (fun v _ _ => kk_Glb hc IG), kk_cntc (P := kk_bs G s) (fun v _ _ => kk_Gbs hc IG ⟨hs.1, by omega⟩)]
  rw [kk_G41 IG kk_f47 (by decide) (by decide) (by omega) hn.2, kk_Gub IG (by omega)] at I11
  exact ⟨rfl, rfl, I11⟩
theorem m220r (hy : 10581 ≤ nx) (hc : kk_core b h dh0) {s n k l m lo p1 sz : Int} {vx1 vx8 vx9 vx10 vx11 : mm_V} (hs : 0 ≤ s ∧ s < 5) (hno : 0 < kk_no h s) (hn : 1 ≤ n ∧ n < 37) (hk1 : h (24, s, n) 0 = 1) (hk : 0 ≤ k ∧ k + m ≤ 2160) (hm : 1 ≤ m ∧ m ≤ 8) (hlo : lo = k / 60) (hp1 : p1 = (k + m - 1) / 60) (ek : ∀ (x : mm_Id) j, 40 ≤ x.1 → ¬ (x = (40, 0, 0) ∧ j = 0) → gb x j = h x j)
    (hsz : sz = if h (24, s, n) 1 < k + m then k + m else h (24, s, n) 1)
    (K : ∀ (G c2 g2 : mm_Id → Int → Int) (v11 : mm_V), kk_G28 s h G → (∀ (x : mm_Id) j, ¬ kk_sx 28 x j → G x j = gb x j) → kk_RI s n lo (p1 + 1) 2160 G c2 → kk_PW 54 (fun p => c2 (43, 0, 0) (36 * (36 * s + n - 1) + p)) (fun p => lo ≤ p ∧ p < p1 + 1) k (fun i => mm_b (mm_w (mm_lushr l (8 * (m - 1 - i))))) m c2 g2 →
      mm_Cl 201 [zR (40, 0, 0), zI s] (mm_z (mm_up g2 (42, 0, 0) (36 * s + n - 1) sz) dh nx ns) (fun r h3 => mm_Wp 220 (bk_220_12.drop 4) [zR (40, 0, 0), vx1, zI n, zI k, zL l, zU, zI m, zI s, zI (kk_ub h s (h (24, s, n) 2)), zI p1, zI (36 * s + n - 1), v11] (mm_push r []) h3 Q)) :
    mm_Wp 220 (bk_220_5.drop 5) [zR (40, 0, 0), vx1, zI n, zI k, zL l, zU, zI m, zI s, vx8, vx9, vx10, vx11] [zI 1] (mm_z gb dh nx ns) Q := by
  have t13 : 0 ≤ s ∧ s < 13 := ⟨hs.1, by omega⟩
  have nf := kk_nf hc (s := s) (n := n) ⟨hs.1, by omega⟩ hn
  have nf2 := nf.2.2.2 (by omega)
  have gbm : ∀ n, 1 ≤ n → n < 37 → kk_ms gb (36 * s + n - 1) h (36 * s + n - 1) := fun n n0 n1 => by
    have w := kk_mwC hc (s := s) (n := n) (by omega) ⟨n0, n1⟩
    refine kk_msr w.2.1.2 w.2.2.2 (fun x j hx => ?_)
    have r := kk_mxr hx
    exact ek x j (by omega) (by rintro ⟨v, _⟩; rw [v] at r; simp at r)
  rw [r_220_5_5 (hy := hy), if_neg (by decide)]
  refine m179 hy (by omega) (by omega) (by omega) (fun n n0 n1 => ?_) (fun G mS mF => ?_)
  · unfold kk_mw
    rw [ek _ _ (by decide) (by simp), ek _ _ (by decide) (by simp), ek _ _ (by decide) (by simp)]; exact kk_mwC hc (by omega) ⟨n0, n1⟩
  have IG : kk_G28 s h G := ⟨fun x j q q2 q3 q4 => by rw [mF x j q2]; exact ek x j q q4, fun n n0 n1 => kk_mst (mS n n0 n1) (gbm n n0 n1)⟩
  have G57 : 0 < G (57, 0, 0) s := by rw [IG.1 _ _ (by decide) (kk_sx6 (by omega)) (by decide) (by simp), kk_NC hc s hs.1 (by omega)]; exact hno
  have G41 : G (41, 0, 0) (36 * s + n - 1) = 1 := by rw [kk_G41 IG kk_f41 (by decide) (by decide) (by omega) hn.2, nf.1]; exact hk1
  have G47 : G (47, 0, 0) (36 * s + n - 1) = h (24, s, n) 2 := by rw [kk_G41 IG kk_f47 (by decide) (by decide) (by omega) hn.2]; exact nf2.2.1
  obtain ⟨G0, GA⟩ := kk_G0 (m := n) (lo := lo) (lim := 2160) hc t13 IG
  rw [mm_pU, r_220_6_4 (hy := hy)]
  refine m175 hy (by omega) hn ?_
  rw [mm_pI, r_220_6_11 (hy := hy)]
  refine ⟨by omega, m205 hy (by omega) ?_⟩
  rw [G47, kk_Gub IG (by omega), mm_pI, r_220_6_13 (hy := hy), mm_wi (z := k + m) (by omega) (by omega), mm_wi (z := k + m - 1) (by omega) (by omega), Int.tdiv_eq_ediv_of_nonneg (show 0 ≤ k + m - 1 by omega), Int.tdiv_eq_ediv_of_nonneg hk.1, mm_wi (z := (k + m - 1) / 60) (by omega) (by omega), mm_wi (z := k / 60) (by omega) (by omega), ← hlo, ← hp1]
  -- bytes are put
  have L2 : ∀ (c2 : mm_Id → Int → Int), kk_RI s n lo (p1 + 1) 2160 G c2 → ∀ (d : Nat) (i : Int) (g : mm_Id → Int → Int) (v : mm_V), m - i = d → 0 ≤ i → kk_PW 54 (fun p => c2 (43, 0, 0) (36 * (36 * s + n - 1) + p)) (fun p => lo ≤ p ∧ p < p1 + 1) k (fun i => mm_b (mm_w (mm_lushr l (8 * (m - 1 - i))))) i c2 g →
      mm_Wp 220 (mm_blk 220 9) [zR (40, 0, 0), vx1, zI n, zI k, zL l, zU, zI m, zI s, zI (kk_ub h s (h (24, s, n) 2)), zI p1, zI i, v] [] (mm_z g dh nx ns) Q := by
    intro c2 I d
    have I8 := I.2.2.2.2.2.2.1
    have I3 := I.2.1
    induction d with
    | zero =>
      intro i g v e1 e2 J
      have i6 : i = m := by omega
      rw [i6] at J ⊢
      have e42 : g (42, 0, 0) (36 * s + n - 1) = h (24, s, n) 1 := by
        rw [J.1 _ _ (by simp), I8 _ _ (by simp) (by simp) (by simp) (by simp), kk_G41 IG kk_f42 (by decide) (by decide) (by omega) hn.2]; exact nf2.1
      rw [r_220_9 (hy := hy), if_neg (by omega)]
      refine m175 hy (by omega) hn ?_
      rw [mm_pI, r_220_10_3 (hvx9 := rfl) (hy := hy), e42, mm_wi (z := k + m) (by omega) (by omega)]
      refine ⟨by omega, ?_⟩
      have fin := K G c2 g v IG mF I J
      by_cases c : h (24, s, n) 1 < k + m
      · rw [if_pos c, r_220_12 (hy := hy)]
        rw [hsz, if_pos c] at fin
        exact ⟨by omega, fin⟩
      · rw [if_neg c]
        refine ⟨by omega, ?_⟩
        rw [r_220_12 (hy := hy)]
        rw [hsz, if_neg c] at fin
        exact ⟨by omega, fin⟩
    | succ d ih =>
      intro i g v e1 e2 J
      have w1 := I3 ((k + i) / 60) (by omega) (by omega)
      have e43 : ∀ q, g (43, 0, 0) q = c2 (43, 0, 0) q := fun q => J.1 _ _ (by simp)
      rw [r_220_9 (hy := hy), if_pos (by omega)]
      refine m175 hy (by omega) hn ?_
      rw [mm_pI, r_220_9_9 (hy := hy), mm_wi (z := 36 * (36 * s + n - 1)) (by omega) (by omega), mm_wi (z := k + i) (by omega) (by omega), Int.tdiv_eq_ediv_of_nonneg (show 0 ≤ k + i by omega), Int.tmod_eq_emod_of_nonneg (show 0 ≤ k + i by omega), mm_wi (z := (k + i) / 60) (by omega) (by omega), mm_wi (z := 36 * (36 * s + n - 1) + (k + i) / 60) (by omega) (by omega), e43, mm_wi (z := 60 * c2 (43, 0, 0) (36 * (36 * s + n - 1) + (k + i) / 60)) (by omega) (by omega), mm_wi (z := 60 * c2 (43, 0, 0) (36 * (36 * s + n - 1) + (k + i) / 60) + (k + i) % 60) (by omega) (by omega), mm_wi (z := m - 1) (by omega) (by omega), mm_wi (z := m - 1 - i) (by omega) (by omega), mm_wi (z := 8 * (m - 1 - i)) (by omega) (by omega), mm_wi (z := i + 1) (by omega) (by omega), ← kk_shb l _ (by omega)]
      refine ⟨by omega, by omega, ih (i + 1) _ _ (by omega) (by omega) (kk_PW1 J hk.1 e2 (by omega) (fun p q s1 s2 e => I.2.2.2.1 p q s1.1 s1.2 s2.1 s2.2 e))⟩
  have L1 : ∀ (d : Nat) (j : Int) (c : mm_Id → Int → Int) (v : mm_V), p1 + 1 - j = d → lo ≤ j → kk_RI s n lo j 2160 G c → mm_Wp 220 (mm_blk 220 7) [zR (40, 0, 0), vx1, zI n, zI k, zL l, zU, zI m, zI s, zI (kk_ub h s (h (24, s, n) 2)), zI p1, zI j, v] [] (mm_z c dh nx ns) Q := by
    intro d
    induction d with
    | zero =>
      intro j c v e1 e2 I
      rw [r_220_7 (hy := hy), if_pos (by omega)]
      rw [show j = p1 + 1 by omega] at I
      exact L2 c I m.toNat 0 c v (by omega) (by omega) kk_PW0
    | succ d ih =>
      intro j c v e1 e2 I
      rw [r_220_7 (hy := hy), if_neg (by omega)]
      refine m219R hy I t13 G57 hn (by omega) (by omega) (by omega) G41 GA (kk_G54 hc t13 hn IG) (fun h2 w I2 => ?_)
      rw [mm_pI, r_220_7_9 (hy := hy), mm_wi (z := j + 1) (by omega) (by omega)]
      exact ih (j + 1) h2 _ (by omega) (by omega) I2
  exact L1 (p1 + 1 - lo).toNat lo G _ (by omega) (by omega) G0
/-- whether there is room after -/
def kk_room (h : mm_Id → Int → Int) (s u NA FR : Int) : Prop := kk_cnt (kk_lb h (-1)) + NA ≤ 400 ∧ kk_cnt (kk_bs h s) + FR ≤ h (59, 0, 0) s ∧ (FR = 0 ∨ kk_ub h s u + FR ≤ h (61, 0, 0) (8 * s + u))
theorem m220d (hy : 10581 ≤ nx) (hc : kk_core b h dh0) {s n k l m u lo hi lim : Int} {vx1 v9 v11 : mm_V} {G c2 X : mm_Id → Int → Int} (hs : 0 ≤ s ∧ s < 5) (hn : 1 ≤ n ∧ n < 37) (hu : 0 ≤ u ∧ u < 8) (hu2 : h (47, 0, 0) (36 * s + n - 1) = u) (h0 : 0 ≤ lo) (h1 : lo ≤ hi) (h2 : hi ≤ 36) (IG : kk_G28 s h G) (I : kk_RI s n lo hi lim G c2)
    (eX : ∀ (f : Nat) j, f = 41 ∨ f = 43 ∨ f = 47 ∨ f = 57 → X (f, 0, 0) j = c2 (f, 0, 0) j) (e59 : ∀ (f : Nat) j, f = 59 ∨ f = 61 → X (f, 0, 0) j = h (f, 0, 0) j)
    (Ky : ∀ gm, (∀ (x : mm_Id) j, x.1 ≠ 56 → gm x j = X x j) → kk_room h s u (kk_sf (kk_na h s n) lo hi) (kk_sf (kk_fr h s n) lo hi) → mm_Wp 220 (mm_blk 220 14) [zR (40, 0, 0), vx1, zI n, zI k, zL l, zU, zI m, zI s, zI (kk_ub h s u), v9, zI (36 * s + n - 1), v11] [] (mm_z gm dh nx ns) Q)
    (Kn : ∀ gm, (∀ (x : mm_Id) j, x.1 ≠ 56 → gm x j = X x j) → ¬ kk_room h s u (kk_sf (kk_na h s n) lo hi) (kk_sf (kk_fr h s n) lo hi) → mm_Wp 220 (mm_blk 220 13) [zR (40, 0, 0), vx1, zI n, zI k, zL l, zU, zI m, zI s, zI (kk_ub h s u), v9, zI (36 * s + n - 1), v11] [] (mm_z gm dh nx ns) Q) :
    mm_Cl 201 [zR (40, 0, 0), zI s] (mm_z X dh nx ns) (fun r h3 => mm_Wp 220 (bk_220_12.drop 4) [zR (40, 0, 0), vx1, zI n, zI k, zL l, zU, zI m, zI s, zI (kk_ub h s u), v9, zI (36 * s + n - 1), v11] (mm_push r []) h3 Q) := by
  obtain ⟨a1, a2, a3⟩ := kk_RIc hc hs hn h0 h1 h2 IG I
  obtain ⟨b1, b2, b3⟩ := kk_e4 eX
  have c1 : kk_cnt (kk_lb X (-1)) = kk_cnt (kk_lb h (-1)) + kk_sf (kk_na h s n) lo hi := by rw [kk_cntc (P := kk_lb X (-1)) (fun v _ _ => b2 (-1) v)]; exact a1
  have c2' : kk_cnt (kk_bs X s) = kk_cnt (kk_bs h s) + kk_sf (kk_fr h s n) lo hi := by rw [kk_cntc (P := kk_bs X s) (fun v _ _ => b1 s v)]; exact a2
  have c3 : kk_ub X s u = kk_ub h s u + kk_sf (kk_fr h s n) lo hi := by rw [b3, ← hu2]; exact a3
  have br : ∀ q, 0 ≤ q → q < 29 → kk_br X q := fun q q0 q1 n p n0 n1 p0 p1 => by
    rw [eX 43 _ (by omega)]; exact I.2.2.2.2.2.2.2.2.2.2.1.2.2.1 q q0 q1 n p n0 n1 p0 p1
  have fb := kk_sfb (f := kk_fr h s n) (lo := lo) (hi - lo).toNat (fun p _ _ => kk_frb h s n p)
  rw [show lo + ((hi - lo).toNat : Int) = hi by omega] at fb
  unfold kk_room at Ky Kn
  generalize kk_cnt (kk_lb h (-1)) = CL at c1 Ky Kn
  generalize kk_cnt (kk_bs h s) = CB at c2' Ky Kn
  generalize kk_sf (kk_na h s n) lo hi = NA at c1 Ky Kn
  generalize kk_sf (kk_fr h s n) lo hi = FR at c2' c3 fb Ky Kn
  refine m201 hy (by omega) br (fun gm eg w1 w2 => ?_) (fun gm eg w => ?_)
  · rw [c1] at w1
    rw [c2', e59 59 _ (by omega)] at w2
    have eg2 : ∀ (x : mm_Id) j, x.1 ≠ 56 → gm x j = X x j := fun x j q => eg x j (by rintro ⟨v, _⟩; rw [v] at q; exact q rfl)
    have g3 : kk_ub gm s u = kk_ub X s u := (kk_e4 (X := gm) (c := X) (fun f j hf => eg2 _ _ (by show f ≠ 56; omega))).2.2 s u
    have g47 : gm (47, 0, 0) (36 * s + n - 1) = u := by
      rw [eg2 _ _ (by decide), eX 47 _ (by omega), I.2.2.2.2.2.2.1 _ _ (by simp) (by simp) (by simp) (by simp), kk_G41 IG kk_f47 (by decide) (by decide) (by omega) hn.2]; exact hu2
    have g61 : gm (61, 0, 0) (8 * s + u) = h (61, 0, 0) (8 * s + u) := by rw [eg2 _ _ (by decide), e59 61 _ (by omega)]
    rw [mm_pI, r_220_12_4 (hy := hy), if_neg (by decide), g47]
    refine ⟨by omega, m205 hy (by omega) ?_⟩
    rw [mm_pI, r_220_12_12 (hy := hy), g47, g3, c3]
    by_cases z : kk_ub h s u < kk_ub h s u + FR
    · rw [if_pos z]
      refine ⟨by omega, m206 hy (by omega) hu (fun y => ?_) (fun y => ?_)⟩
      · rw [g61, g3, c3] at y
        rw [mm_pI, r_220_12_21 (hy := hy), if_neg (by decide)]
        exact Ky gm eg2 ⟨w1, w2, Or.inr (by omega)⟩
      · rw [g61, g3, c3] at y
        rw [mm_pI, r_220_12_21 (hy := hy), if_pos rfl]
        exact Kn gm eg2 (fun q => by have := q.2.2; omega)
    · rw [if_neg z]
      exact Ky gm eg2 ⟨w1, w2, Or.inl (by omega)⟩
  · rw [c1, c2', e59 59 _ (by omega)] at w
    rw [mm_pI, r_220_12_4 (hy := hy), if_pos rfl]
    exact Kn gm (fun x j q => eg x j (by rintro ⟨v, _⟩; rw [v] at q; exact q rfl)) (fun q => w ⟨q.1, q.2.1⟩)
end

