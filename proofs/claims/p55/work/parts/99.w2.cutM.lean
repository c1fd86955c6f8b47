/-! cut, the reference: pieces dropped, one renewed, room -/
section
variable {h gb : mm_Id → Int → Int} {dh dh0 : Int → Int} {nx ns b : Int} {Q : mm_V → mm_H → Prop}
/-- whether a piece is renewed where a file is cut -/
def kk_cu (h : mm_Id → Int → Int) (s n a lo hi : Int) : Prop := (hi = lo + 1 ∧ a < h (24, s, n) 1 ∧ 0 < a % 60 ∧ h (27, s, n) lo ≠ 0) ∨ (hi = lo ∧ ¬ (a < h (24, s, n) 1 ∧ 0 < a % 60 ∧ h (27, s, n) lo ≠ 0))
theorem kk_sfz {f : Int → Int} {lo : Int} (d : Nat) (h : ∀ p, lo ≤ p → p < lo + d → f p = 0) : kk_sf f lo (lo + d) = 0 := by
  unfold kk_sf
  rw [show (lo + (d : Int) - lo).toNat = d by omega]
  exact sm_0I d (fun i i0 i1 => h _ (by omega) (by omega))
theorem kk_RId {s n lo hi lim w a : Int} {G c2 : mm_Id → Int → Int} (hc : kk_core b h dh0) (hs : 0 ≤ s ∧ s < 5) (hno : 0 < kk_no h s) (hn : 1 ≤ n ∧ n < 37) (hk1 : h (24, s, n) 0 = 1) (ha : 0 ≤ a ∧ a ≤ 2160) (hlo : lo = a / 60) (hw : w = (a + 59) / 60) (hU : kk_cu h s n a lo hi) (IG : kk_G28 s h G) (I : kk_RI s n lo hi lim (kk_Dj s n w 36 G) c2) :
    kk_cnt (kk_lb c2 (-1)) = kk_cnt (kk_lb h (-1)) + kk_sf (kk_na h s n) lo hi - kk_sf (fun p => 1 - kk_na h s n p) w 36 ∧ kk_cnt (kk_bs c2 s) ≤ kk_cnt (kk_bs h s) := by
  obtain ⟨_, _, _, _, _, _, _, I9, I10, I11, _⟩ := I
  have t13 : 0 ≤ s ∧ s < 13 := ⟨hs.1, by omega⟩
  obtain ⟨G0, GA⟩ := kk_G0 (m := n) (lo := lo) (lim := lim) hc t13 IG
  obtain ⟨_, _, _, _, _, _, _, _, _, _, ⟨gD, gF, gB, _⟩, _⟩ := G0
  have G57 : 0 < G (57, 0, 0) s := by rw [IG.1 _ _ (by decide) (kk_sx6 (by omega)) (by decide) (by simp), kk_NC hc s hs.1 (by omega)]; exact hno
  have G41 : G (41, 0, 0) (36 * s + n - 1) = 1 := by rw [kk_G41 IG kk_f41 (by decide) (by decide) (by omega) hn.2, (kk_nf hc (s := s) (n := n) ⟨hs.1, by omega⟩ hn).1]; exact hk1
  obtain ⟨⟨d1, d2, d3, d4, d5⟩, d6, d7⟩ := kk_drop t13 G57 hn (w := w) (by omega) G41 gD gF gB (36 - w).toNat (by omega)
  have e36 : w + ((36 - w).toNat : Int) = 36 := by omega
  rw [e36] at d1 d2 d3 d4 d5 d6 d7
  have u1 : lo ≤ hi ∧ hi ≤ w ∧ hi ≤ lo + 1 := by rcases hU with u | u <;> omega
  have e : lo + ((hi - lo).toNat : Int) = hi := by omega
  have nal : ∀ p, 0 ≤ p → p < 36 → kk_b (G (43, 0, 0) (36 * (36 * s + n - 1) + p) ≠ 0 ∧ ¬ kk_lb G s (G (43, 0, 0) (36 * (36 * s + n - 1) + p))) = 1 - kk_na h s n p := fun p p0 p1 => by
    rw [kk_G43 IG (by omega) hn.2 p1]
    have y := kk_al1 hc.1 (t := s) (n := n) (p := p) ⟨hs.1, by omega⟩ hn ⟨p0, p1⟩
    unfold kk_na
    by_cases q : (1 ≤ h (27, s, n) p ∧ h (27, s, n) p < 1701) ∧ h (17, 0, 0) (h (27, s, n) p) = 1
    · rw [if_pos q, kk_b1 ⟨(y.1 q).1, fun w => (y.1 q).2 ((kk_Glb hc IG).1 w)⟩]; rfl
    · rw [if_neg q, kk_b0 (fun w => q (y.2 ⟨w.1, fun w2 => w.2 ((kk_Glb hc IG).2 w2)⟩))]; rfl
  have s1 : kk_sf (fun p => 1 - kk_b (kk_Dj s n w 36 G (43, 0, 0) (36 * (36 * s + n - 1) + p) ≠ 0 ∧ ¬ kk_lb (kk_Dj s n w 36 G) s (kk_Dj s n w 36 G (43, 0, 0) (36 * (36 * s + n - 1) + p)))) lo hi = kk_sf (kk_na h s n) lo hi := by
    rw [← e]
    refine kk_sfc (hi - lo).toNat (fun p p0 p1 => ?_)
    rw [kk_Djn (by rintro ⟨_, y⟩; omega), kk_bc (P := G (43, 0, 0) (36 * (36 * s + n - 1) + p) ≠ 0 ∧ ¬ kk_lb (kk_Dj s n w 36 G) s (G (43, 0, 0) (36 * (36 * s + n - 1) + p))) (R := G (43, 0, 0) (36 * (36 * s + n - 1) + p) ≠ 0 ∧ ¬ kk_lb G s (G (43, 0, 0) (36 * (36 * s + n - 1) + p))) (by rw [d4]), nal p (by omega) (by omega)]
    omega
  have s2 : kk_sf (fun p => 1 - kk_b (kk_Dj s n w 36 G (43, 0, 0) (36 * (36 * s + n - 1) + p) ≠ 0)) lo hi = 0 := by
    rw [← e]
    refine kk_sfz (hi - lo).toNat (fun p p0 p1 => ?_)
    rcases hU with u | u
    · have r8 := ((kk_NRC hc (t := s) (n := n) ⟨hs.1, by omega⟩ hn).2.2.2.2.2.2.2 p (by omega) (by omega)).1
      have pl : p = lo := by omega
      rw [kk_Djn (by rintro ⟨_, y⟩; omega), kk_G43 IG (by omega) hn.2 (by omega), kk_b1 (fun w => u.2.2.2 (by rw [← pl]; exact r8.2 w))]
      rfl
    · omega
  have s3 : kk_sf (fun p => kk_b (G (43, 0, 0) (36 * (36 * s + n - 1) + p) ≠ 0 ∧ ¬ kk_lb G s (G (43, 0, 0) (36 * (36 * s + n - 1) + p)))) w 36 = kk_sf (fun p => 1 - kk_na h s n p) w 36 := by
    have q := kk_sfc (f := fun p => kk_b (G (43, 0, 0) (36 * (36 * s + n - 1) + p) ≠ 0 ∧ ¬ kk_lb G s (G (43, 0, 0) (36 * (36 * s + n - 1) + p)))) (g := fun p => 1 - kk_na h s n p) (lo := w) (36 - w).toNat (fun p p0 p1 => nal p (by omega) (by omega))
    rw [e36] at q
    exact q
  rw [s1] at I9
  rw [s2] at I10
  rw [s3, kk_cntc (P := kk_lb G (-1)) (fun v _ _ => kk_Glb hc IG)] at d6
  rw [kk_cntc (P := kk_bs G s) (fun v _ _ => kk_Gbs hc IG ⟨hs.1, by omega⟩)] at d7
  rw [I9, I10, d6]
  exact ⟨by omega, by omega⟩
theorem m222r (hy : 10581 ≤ nx) (hc : kk_core b h dh0) {s n a lo hi w : Int} {vx1 vx5 vx6 vx7 : mm_V} (hs : 0 ≤ s ∧ s < 5) (hno : 0 < kk_no h s) (hn : 1 ≤ n ∧ n < 37) (hk1 : h (24, s, n) 0 = 1) (ha : 0 ≤ a ∧ a ≤ 2160) (hlo : lo = a / 60) (hw : w = (a + 59) / 60) (hU : kk_cu h s n a lo hi) (ek : ∀ (x : mm_Id) j, 40 ≤ x.1 → ¬ (x = (40, 0, 0) ∧ j = 0) → gb x j = h x j)
    (K : ∀ (G c2 : mm_Id → Int → Int) (v7 : mm_V), kk_G28 s h G → (∀ (x : mm_Id) j, ¬ kk_sx 28 x j → G x j = gb x j) → kk_RI s n lo hi a (kk_Dj s n w 36 G) c2 →
      mm_Cl 201 [zR (40, 0, 0), zI s] (mm_z (mm_up c2 (42, 0, 0) (36 * s + n - 1) a) dh nx ns) (fun r h3 => mm_Wp 222 (bk_222_8.drop 8) [zR (40, 0, 0), vx1, zI n, zI a, zI s, zI (36 * s + n - 1), zI (h (24, s, n) 1), v7] (mm_push r []) h3 Q)) :
    mm_Wp 222 (bk_222_4.drop 5) [zR (40, 0, 0), vx1, zI n, zI a, zI s, vx5, vx6, vx7] [zI 1] (mm_z gb dh nx ns) Q := by
  have t13 : 0 ≤ s ∧ s < 13 := ⟨hs.1, by omega⟩
  have nf := kk_nf hc (s := s) (n := n) ⟨hs.1, by omega⟩ hn
  have nf2 := nf.2.2.2 (by omega)
  have gbm : ∀ n, 1 ≤ n → n < 37 → kk_ms gb (36 * s + n - 1) h (36 * s + n - 1) := fun n n0 n1 => by
    have w := kk_mwC hc (s := s) (n := n) (by omega) ⟨n0, n1⟩
    refine kk_msr w.2.1.2 w.2.2.2 (fun x j hx => ?_)
    have r := kk_mxr hx
    exact ek x j (by omega) (by rintro ⟨v, _⟩; rw [v] at r; simp at r)
  rw [r_222_4_5 (hy := hy), if_neg (by decide)]
  refine m179 hy (by omega) (by omega) (by omega) (fun n n0 n1 => ?_) (fun G mS mF => ?_)
  · unfold kk_mw
    rw [ek _ _ (by decide) (by simp), ek _ _ (by decide) (by simp), ek _ _ (by decide) (by simp)]; exact kk_mwC hc (by omega) ⟨n0, n1⟩
  have IG : kk_G28 s h G := ⟨fun x j q q2 q3 q4 => by rw [mF x j q2]; exact ek x j q q4, fun n n0 n1 => kk_mst (mS n n0 n1) (gbm n n0 n1)⟩
  have G57 : 0 < G (57, 0, 0) s := by rw [IG.1 _ _ (by decide) (kk_sx6 (by omega)) (by decide) (by simp), kk_NC hc s hs.1 (by omega)]; exact hno
  have G41 : G (41, 0, 0) (36 * s + n - 1) = 1 := by rw [kk_G41 IG kk_f41 (by decide) (by decide) (by omega) hn.2, nf.1]; exact hk1
  have G42 : G (42, 0, 0) (36 * s + n - 1) = h (24, s, n) 1 := by rw [kk_G41 IG kk_f42 (by decide) (by decide) (by omega) hn.2]; exact nf2.1
  obtain ⟨G0, GA⟩ := kk_G0 (m := n) (lo := lo) (lim := a) hc t13 IG
  obtain ⟨⟨g1, g2⟩, _, _, _, _, _, _, _, _, _, ⟨gD, gF, gB, _⟩, _⟩ := G0
  have e36 : w + ((36 - w).toNat : Int) = 36 := by omega
  obtain ⟨⟨d1, d2, d3, d4, d5⟩, d6, d7⟩ := kk_drop t13 G57 hn (w := w) (by omega) G41 gD gF gB (36 - w).toNat (by omega)
  rw [e36] at d1 d2 d3 d4 d5 d6 d7
  have I0 : kk_RI s n lo lo a (kk_Dj s n w 36 G) (kk_Dj s n w 36 G) := kk_RI0 (fun c c0 c1 q => by rw [kk_Djn (by simp)]; exact g1 c c0 c1 (d5 c c0 q)) (by rw [kk_Djn (by simp)]; exact g2) d1 d2 d3
  have DA : kk_cnt (kk_any (kk_Dj s n w 36 G)) ≤ 1200 := Int.le_trans (kk_cntle (fun c c0 _ q => d5 c c0 q)) GA
  rw [mm_pU, r_222_5_4 (hy := hy)]
  refine m175 hy (by omega) hn ?_
  rw [mm_pI, r_222_5_7 (hy := hy), G42, mm_wi (z := a + 60) (by omega) (by omega), mm_wi (z := a + 60 - 1) (by omega) (by omega), show a + 60 - 1 = a + 59 by omega, Int.tdiv_eq_ediv_of_nonneg (show 0 ≤ a + 59 by omega), mm_wi (z := (a + 59) / 60) (by omega) (by omega), ← hw]
  refine ⟨by omega, ?_⟩
  have L : ∀ (d : Nat) (j : Int), 36 - j = d → w ≤ j → mm_Wp 222 (mm_blk 222 6) [zR (40, 0, 0), vx1, zI n, zI a, zI s, zI (36 * s + n - 1), zI (h (24, s, n) 1), zI 36] [] (mm_z (kk_Dj s n w 36 G) dh nx ns) Q →
      mm_Wp 222 (mm_blk 222 6) [zR (40, 0, 0), vx1, zI n, zI a, zI s, zI (36 * s + n - 1), zI (h (24, s, n) 1), zI j] [] (mm_z (kk_Dj s n w j G) dh nx ns) Q := by
    intro d
    induction d with
    | zero =>
      intro j e1 e2 k
      rw [show j = 36 by omega]; exact k
    | succ d ih =>
      intro j e1 e2 k
      rw [r_222_6 (hy := hy), if_pos (by omega), mm_wi (z := 36 * (36 * s + n - 1)) (by omega) (by omega), mm_wi (z := 36 * (36 * s + n - 1) + j) (by omega) (by omega), mm_wi (z := j + 1) (by omega) (by omega), kk_Dj1 e2]
      exact ⟨by omega, ih (j + 1) (by omega) (by omega) k⟩
  have e0 := L (36 - w).toNat w (by omega) (Int.le_refl _)
  rw [kk_Dj0] at e0
  refine e0 ?_
  have fin : ∀ v7, hi = lo → mm_Wp 222 (mm_blk 222 8) [zR (40, 0, 0), vx1, zI n, zI a, zI s, zI (36 * s + n - 1), zI (h (24, s, n) 1), v7] [] (mm_z (kk_Dj s n w 36 G) dh nx ns) Q := fun v7 e => by
    rw [r_222_8 (hy := hy)]
    exact ⟨by omega, K G _ v7 IG mF (by rw [e]; exact I0)⟩
  rw [r_222_6 (hy := hy), if_neg (by omega)]
  have n27 := (kk_NRC hc (t := s) (n := n) ⟨hs.1, by omega⟩ hn).2.2.2.2.2.2.2
  by_cases q1 : a < h (24, s, n) 1
  · rw [if_pos q1, Int.tmod_eq_emod_of_nonneg ha.1]
    by_cases q2 : 0 < a % 60
    · have lw : lo < w ∧ lo < 36 := by omega
      rw [if_pos q2, Int.tdiv_eq_ediv_of_nonneg ha.1, ← hlo, mm_wi (z := lo) (by omega) (by omega), mm_wi (z := 36 * (36 * s + n - 1)) (by omega) (by omega), mm_wi (z := 36 * (36 * s + n - 1) + lo) (by omega) (by omega)]
      have o43 : kk_Dj s n w 36 G (43, 0, 0) (36 * (36 * s + n - 1) + lo) = h (43, 0, 0) (36 * (36 * s + n - 1) + lo) := by rw [kk_Djn (by rintro ⟨_, y⟩; omega)]; exact kk_G43 IG (by omega) hn.2 lw.2
      have br := kk_brC hc (s := s) ⟨hs.1, by omega⟩ n lo hn.1 hn.2 (by omega) lw.2
      have r8 := (n27 lo (by omega) lw.2).1
      rw [o43]
      refine ⟨by omega, ?_⟩
      by_cases q3 : h (27, s, n) lo = 0
      · rw [if_neg (by rw [r8.1 q3]; omega)]
        exact fin _ (by rcases hU with u | u <;> omega)
      · have z3 : h (43, 0, 0) (36 * (36 * s + n - 1) + lo) ≠ 0 := fun q => q3 (r8.2 q)
        have ehi : hi = lo + 1 := by rcases hU with u | u <;> omega
        rw [if_pos (by omega)]
        refine m219R hy I0 t13 (by rw [kk_Djn (by simp)]; exact G57) hn (by omega) (by omega) ha (by rw [kk_Djn (by simp)]; exact G41) DA (fun p i p0 p1 i0 i1 z => ?_) (fun h2 v I2 => ?_)
        · have y : p < w := by
            apply Classical.byContradiction
            intro y
            rw [kk_Djz ⟨by omega, p1⟩] at z
            omega
          rw [kk_Djn (x := (43, 0, 0)) (by rintro ⟨_, y⟩; omega)] at z ⊢
          rw [kk_Djn (x := (54, 0, 0)) (by simp)]
          exact kk_G54 hc t13 hn IG p i p0 p1 i0 i1 z
        · rw [mm_pI, r_222_7_26 (hy := hy), r_222_8 (hy := hy)]
          exact ⟨by omega, K G h2 _ IG mF (by rw [ehi]; exact I2)⟩
    · rw [if_neg q2]
      exact fin _ (by rcases hU with u | u <;> omega)
  · rw [if_neg q1]
    exact fin _ (by rcases hU with u | u <;> omega)
theorem m222d (hy : 10581 ≤ nx) (hc : kk_core b h dh0) {s n a lo hi w lim : Int} {vx1 v7 : mm_V} {G c2 X : mm_Id → Int → Int} (hs : 0 ≤ s ∧ s < 5) (hno : 0 < kk_no h s) (hn : 1 ≤ n ∧ n < 37) (hk1 : h (24, s, n) 0 = 1) (ha : 0 ≤ a ∧ a ≤ 2160) (hlo : lo = a / 60) (hw : w = (a + 59) / 60) (hU : kk_cu h s n a lo hi) (IG : kk_G28 s h G) (I : kk_RI s n lo hi lim (kk_Dj s n w 36 G) c2)
    (eX : ∀ (f : Nat) j, f = 41 ∨ f = 43 ∨ f = 47 ∨ f = 57 → X (f, 0, 0) j = c2 (f, 0, 0) j) (e59 : ∀ j, X (59, 0, 0) j = h (59, 0, 0) j)
    (Ky : ∀ gm, (∀ (x : mm_Id) j, x.1 ≠ 56 → gm x j = X x j) → kk_cnt (kk_lb h (-1)) + kk_sf (kk_na h s n) lo hi - kk_sf (fun p => 1 - kk_na h s n p) w 36 ≤ 400 → mm_Cl 209 [zR (40, 0, 0)] (mm_z gm dh nx ns) (fun r h3 => mm_Wp 222 (bk_222_9.drop 2) [zR (40, 0, 0), vx1, zI n, zI a, zI s, zI (36 * s + n - 1), zI (h (24, s, n) 1), v7] (mm_push r []) h3 Q))
    (Kn : ∀ gm, (∀ (x : mm_Id) j, x.1 ≠ 56 → gm x j = X x j) → ¬ (kk_cnt (kk_lb h (-1)) + kk_sf (kk_na h s n) lo hi - kk_sf (fun p => 1 - kk_na h s n p) w 36 ≤ 400) → mm_Cl 179 [zR (40, 0, 0), zI 28, zI s] (mm_z gm dh nx ns) (fun r h3 => mm_Wp 222 (bk_222_8.drop 13) [zR (40, 0, 0), vx1, zI n, zI a, zI s, zI (36 * s + n - 1), zI (h (24, s, n) 1), v7] (mm_push r []) h3 Q)) :
    mm_Cl 201 [zR (40, 0, 0), zI s] (mm_z X dh nx ns) (fun r h3 => mm_Wp 222 (bk_222_8.drop 8) [zR (40, 0, 0), vx1, zI n, zI a, zI s, zI (36 * s + n - 1), zI (h (24, s, n) 1), v7] (mm_push r []) h3 Q) := by
  obtain ⟨a1, a2⟩ := kk_RId hc hs hno hn hk1 ha hlo hw hU IG I
  obtain ⟨b1, b2, b3⟩ := kk_e4 eX
  have b7 := (hc.1.2.1.2.2.2.2.2.2 s hs.1 hs.2).1 hno
  have c1 : kk_cnt (kk_lb X (-1)) = kk_cnt (kk_lb c2 (-1)) := kk_cntc (fun v _ _ => b2 (-1) v)
  have c2' : kk_cnt (kk_bs X s) = kk_cnt (kk_bs c2 s) := kk_cntc (fun v _ _ => b1 s v)
  have br : ∀ q, 0 ≤ q → q < 29 → kk_br X q := fun q q0 q1 n p n0 n1 p0 p1 => by
    rw [eX 43 _ (by omega)]; exact I.2.2.2.2.2.2.2.2.2.2.1.2.2.1 q q0 q1 n p n0 n1 p0 p1
  refine m201 hy (by omega) br (fun gm eg w1 w2 => ?_) (fun gm eg w => ?_)
  · rw [c1, a1] at w1
    rw [mm_pI, r_222_8_8 (hy := hy), if_neg (by decide)]
    exact Ky gm (fun x j q => eg x j (by rintro ⟨v, _⟩; rw [v] at q; exact q rfl)) w1
  · rw [c1, a1, c2', e59] at w
    rw [mm_pI, r_222_8_8 (hy := hy), if_pos rfl]
    exact Kn gm (fun x j q => eg x j (by rintro ⟨v, _⟩; rw [v] at q; exact q rfl)) (fun q => w ⟨q, Int.le_trans a2 b7⟩)
end

