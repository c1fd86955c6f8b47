/-! the calls of both: destroy -/
/-- what keeps a tree -/
def kk_kept (h : mm_Id → Int → Int) (s t : Int) : Prop := (s < 5 ∧ mm_sm (fun k => if 0 < h (57, 0, 0) k then 1 else 0) 5 = 1) ∨ (5 ≤ s ∧ ¬ h (60, 0, 0) s = 0) ∨ ∃ k, (0 ≤ k ∧ k < 13) ∧ kk_of h s t k
section
variable {h : mm_Id → Int → Int} {dh dh0 : Int → Int} {nx ns b : Int} {Q : mm_V → mm_H → Prop}
theorem m253p (hy : 10581 ≤ nx) (hc : kk_core b h dh0) {G : mm_Id → Int → Int} {t s : Int} (hr : -2147483648 ≤ t ∧ t < 2147483648) (hs : kk_tp h t s) (mG : ∀ (x : mm_Id) k, 40 ≤ x.1 → ¬ (x = (40, 0, 0) ∧ k = 0) → G x k = h x k)
    (K : ∀ f v3 v, mm_wt v3 = 1 → (f = 0 ∨ f = 1) → (f = 0 ↔ ¬ kk_kept h s t) → mm_Wp 253 (mm_blk 253 9) [zR (40, 0, 0), zI t, zI s, v3, zI f, zI 13, v] [] (mm_z G dh nx ns) Q) :
    mm_Cl 181 [zR (40, 0, 0), zI t] (mm_z G dh nx ns) (fun r h3 => mm_Wp 253 (bk_253_0.drop 6) [zR (40, 0, 0), zI t, zU, zU, zU, zU, zU] (mm_push r []) h3 Q) := by
  have e57 : ∀ k, G (57, 0, 0) k = h (57, 0, 0) k := fun k => mG _ _ (by decide) (by simp)
  have e58 : ∀ k, G (58, 0, 0) k = h (58, 0, 0) k := fun k => mG _ _ (by decide) (by simp)
  have e60 : ∀ k, G (60, 0, 0) k = h (60, 0, 0) k := fun k => mG _ _ (by decide) (by simp)
  have s13 := hs.1
  have h01 := hc.1.2.2.1.2.2.2.2.2.2.2.2.2.1 s hs.1.1 (by omega)
  have eS : mm_sm (fun k => if 0 < G (57, 0, 0) k then 1 else 0) 5 = mm_sm (fun k => if 0 < h (57, 0, 0) k then 1 else 0) 5 := sm_cgI _ (fun i _ _ => by rw [e57])
  have eO : ∀ k, kk_of G s t k ↔ kk_of h s t k := fun k => by unfold kk_of; rw [e57, e58]
  refine m181h hy hc (fun k _ _ => e57 k) hr hs ?_
  rw [mm_pI, r_253_0_6 (hy := hy), if_neg (by omega)]
  refine m253s hy ?_
  rw [eS, r_253_2 (hy := hy), if_neg (by omega)]
  by_cases s5 : s < 5
  · rw [if_pos s5]
    by_cases z : mm_sm (fun k => if 0 < h (57, 0, 0) k then 1 else 0) 5 = 1
    · rw [if_pos z, r_253_8 (hvx3 := rfl) (hy := hy)]
      refine m253f hy rfl (Or.inr rfl) (fun f v f1 f2 => K f _ v rfl f1 ?_)
      rw [f2]
      exact ⟨fun w => absurd w.1 (by decide), fun w => absurd (Or.inl ⟨s5, z⟩) w⟩
    · rw [if_neg z, r_253_8 (hvx3 := rfl) (hy := hy)]
      refine m253f hy rfl (Or.inl rfl) (fun f v f1 f2 => K f _ v rfl f1 ?_)
      rw [f2]
      simp only [eO]
      constructor
      · rintro ⟨_, w⟩ (q | q | ⟨k, hk, q⟩)
        · exact z q.2
        · omega
        · exact w k hk.1 hk.2 q
      · intro w
        exact ⟨trivial, fun k k0 k1 q => w (Or.inr (Or.inr ⟨k, ⟨k0, k1⟩, q⟩))⟩
  · rw [if_neg s5]
    refine ⟨⟨by omega, by omega⟩, ?_⟩
    rw [e60, r_253_8 (hvx3 := rfl) (hy := hy)]
    refine m253f hy rfl h01 (fun f v f1 f2 => K f _ v rfl f1 ?_)
    rw [f2]
    simp only [eO]
    constructor
    · rintro ⟨w0, w⟩ (q | q | ⟨k, hk, q⟩)
      · omega
      · exact q.2 w0
      · exact w k hk.1 hk.2 q
    · intro w
      refine ⟨?_, fun k k0 k1 q => w (Or.inr (Or.inr ⟨k, ⟨k0, k1⟩, q⟩))⟩
      by_cases z : h (60, 0, 0) s = 0
      · exact z
      · exact absurd (Or.inr (Or.inl ⟨by omega, z⟩)) w
end
/-- destroyed, here; then there -/
theorem kk_c31t {b s t : Int} {h hcc g : mm_Id → Int → Int} {dh dh2 : Int → Int} {nx ns : Int} (hy : 10581 ≤ nx) (hc : kk_core b h dh) (hb : b + 1 ≤ 1000000) (ht : -2147483648 ≤ t ∧ t < 2147483648) (hs : kk_tp h t s) (nk : ¬ kk_kept h s t) (c0 : h (1, 0, 0) 12 = 0) (R : kk_R hcc) (cl : ∀ n, 1 ≤ n → n < 37 → kk_cl hcc s n) (ck : s < 5 → ∀ n, 1 ≤ n → n < 37 → kk_cl hcc (13 + s) n)
    (cF : ∀ (f : Nat) a c k, f < 40 → ¬ (f = 15 ∧ k = 7) → f ≠ 17 → f ≠ 18 → f ≠ 19 → ¬ (24 ≤ f ∧ f ≤ 30 ∧ a = s ∧ 1 ≤ c ∧ c < 37) → ¬ (s < 5 ∧ 24 ≤ f ∧ f ≤ 30 ∧ a = 13 + s ∧ 1 ≤ c ∧ c < 37) → ¬ (s < 5 ∧ f = 31 ∧ a = s) → ¬ (5 ≤ s ∧ f = 33 ∧ 5 + a = s) → hcc (f, a, c) k = h (f, a, c) k)
    (e40 : ∀ (x : mm_Id) k, 40 ≤ x.1 → hcc x k = h x k) (c31 : s < 5 → hcc (31, s, 0) 3 = 0 ∧ hcc (31, s, 0) 6 = 0) (c33 : 5 ≤ s → hcc (33, s - 5, 0) 1 = 0 ∧ hcc (33, s - 5, 0) 2 = 0) (dcl : ∀ p, 0 ≤ p → p < 8 → mm_isD (dh p) ∧ dh p = s → dh2 p = -1) (dno : ∀ p, 0 ≤ p → p < 8 → ¬ (mm_isD (dh p) ∧ dh p = s) → dh2 p = dh p)
    (k1 : kk_pdC hcc g) (k2 : ∀ (x : mm_Id) k, 40 ≤ x.1 → g x k = hcc x k) (k3 : ∀ (x : mm_Id) k, 8 ≤ x.1 → x.1 ≤ 13 → g x k = hcc x k) : (fun (r : mm_V) (h1 : mm_H) => kk_SI r ∧ ∃ g dh1, h1 = mm_z g dh1 nx ns ∧ mm_Cl 253 [zR (40, 0, 0), zI t] (mm_z g dh1 nx ns) (fun r2 h2 => r2 = r ∧ ∃ g2, h2 = mm_z g2 dh1 nx ns ∧ kk_core (b + 1) g2 dh1 ∧ ∀ x j, kk_scr x j → g2 x j = h x j)) (zI (mm_w (h (15, 0, 0) 7 - g (15, 0, 0) 7))) (mm_z g dh2 nx ns) := by
  have ca := kk_cal hc
  have ek : ∀ (x : mm_Id) k, 40 ≤ x.1 → g x k = h x k := fun x k q => (k2 x k q).trans (e40 x k q)
  refine ⟨⟨_, rfl, by unfold mm_w; omega, by unfold mm_w; omega⟩, g, dh2, rfl, ?_⟩
  rw [r_253_e (hy := hy)]
  have mG : ∀ (x : mm_Id) k, 40 ≤ x.1 → ¬ (x = (40, 0, 0) ∧ k = 0) → mm_up g (40, 0, 0) 0 0 x k = h x k := fun x k q q2 => by rw [mm_upne' q2]; exact ek x k q
  refine m253p hy hc ht hs mG (fun f v3 v w3 f1 f2 => ?_)
  have f0 : f = 0 := f2.2 nk
  subst f0
  rw [r_253_9 (hy := hy), if_neg (by decide), if_pos rfl, mG _ _ (by decide) (by simp), ← ca.1, if_pos c0]
  refine m253r hy hc rfl hs.1 mG (fun g0 gm a1 a2 a3 a4 a5 a6 => ?_)
  have m0 : ∀ (x : mm_Id) k, 40 ≤ x.1 → x.1 ≠ 56 → x.1 ≠ 63 → x.1 ≠ 64 → ¬ (x = (57, 0, 0) ∧ k = s) → ¬ (x = (40, 0, 0) ∧ k = 0) → g0 x k = h x k := fun x k q q1 q2 q3 q4 q5 => (a1 x k q1 q2 q3 q4).trans (mG x k q q5)
  have WP : kk_W b (kk_mix hcc gm) dh2 := kk_deW hc hs.1 R cl ck cF c31 c33 m0 a2 a3 a4 (fun p p0 p1 q => ⟨dcl p p0 p1 q, a5 p p0 p1 q⟩) (fun p p0 p1 q => ⟨dno p p0 p1 q, a6 p p0 p1 q⟩)
  have gx : ∀ (x : mm_Id) k, x.1 < 41 ∨ 53 < x.1 → x.1 ≠ 56 → gm x k = g0 x k := fun x k q q2 => a4 x k (by
    rintro ⟨n, n0, n1, w⟩
    have r := kk_mxr (kk_cxm w)
    omega) q2
  have gc : ∀ (x : mm_Id) k, x.1 < 40 → gm x k = g x k := fun x k q => by
    rw [gx x k (by omega) (by omega), a1 x k (by omega) (by omega) (by omega) (by rintro ⟨v, _⟩; rw [v] at q; simp at q), kk_clU q (by simp)]
  have g0m : ∀ a n x k, 1 ≤ n → n < 37 → kk_mx (36 * a + n - 1) x k → g0 x k = h x k := fun a n x k n0 n1 hx2 => by
    have r := kk_mxr hx2
    exact m0 x k (by omega) (by omega) (by omega) (by omega) (by rintro ⟨v, _⟩; rw [v] at r; simp at r) (by rintro ⟨v, _⟩; rw [v] at r; simp at r)
  refine m208p hy (fun k k0 k9 => ?_) (fun k n k0 k9 n0 n1 => ?_) (fun g2 m1 m2 m3 => ?_)
  · rw [gx _ _ (by decide) (by decide), m0 _ _ (by decide) (by decide) (by decide) (by decide) (by simp) (by simp)]
    exact hc.1.2.2.1.2.2.2.2.2.2.2.2.2.1 k k0 (by omega)
  · have w := kk_mwC hc (s := k) (n := n) (by omega) ⟨n0, n1⟩
    by_cases q : k = s
    · have y := a3 n n0 n1
      rw [q]
      rw [q] at w
      unfold kk_mw
      rw [a4 (53, 0, 0) _ (by
        rintro ⟨n, n0, n1, w⟩
        unfold kk_cx at w
        simp at w) (by decide), g0m s n _ _ n0 n1 (Or.inl ⟨kk_f53, rfl⟩), y.1.2.2.1, y.1.2.2.2]
      exact ⟨w.1, by omega, by omega⟩
    · refine kk_mwm (kk_msr w.2.1.2 w.2.2.2 (fun x i hx2 => ?_)) w
      have r := kk_mxr hx2
      rw [a4 x i (by
        rintro ⟨m, m0, m1, w⟩
        exact kk_mxd (a := 36 * k + n - 1) (b := 36 * s + m - 1) (by omega) hx2 (kk_cxm w)) (by omega)]
      exact g0m k n x i n0 n1 hx2
  have cr : kk_core b g2 dh2 := kk_downC WP k1 m1 (fun x k q => by rw [m2 x k q]; exact gc x k q)
  have l2 : kk_lb g2 (-1) = kk_lb gm (-1) := by
    funext c
    have e57 : ∀ k, k < 13 → g2 (57, 0, 0) k = gm (57, 0, 0) k := fun k k1 => m1.2.2.2.2 _ _ (by decide) (kk_dxN2 (by omega) (by omega)) (by simp)
    have es : ∀ a n x k, 0 ≤ a → a < 13 → 1 ≤ n → n < 37 → kk_mx (36 * a + n - 1) x k → g2 x k = gm x k := fun a n x k a0 a1 n0 n1 hx2 => by
      have r := kk_mxr hx2
      exact m1.2.2.2.2 x k (by omega) (kk_dxN4 (s := a) (by omega) ⟨n0, n1⟩ hx2) (by rintro ⟨v, _⟩; rw [v] at r; simp at r)
    have eb : ∀ a, 0 ≤ a → a < 13 → (kk_bs g2 a c ↔ kk_bs gm a c) := fun a a0 a1 => by
      constructor
      · rintro ⟨n, p, hn, hp, k, e⟩
        rw [es a n _ _ a0 a1 hn.1 hn.2 (Or.inl ⟨kk_f41, rfl⟩)] at k
        rw [es a n _ _ a0 a1 hn.1 hn.2 (kk_m43 hp)] at e
        exact ⟨n, p, hn, hp, k, e⟩
      · rintro ⟨n, p, hn, hp, k, e⟩
        refine ⟨n, p, hn, hp, ?_, ?_⟩
        · rw [es a n _ _ a0 a1 hn.1 hn.2 (Or.inl ⟨kk_f41, rfl⟩)]; exact k
        · rw [es a n _ _ a0 a1 hn.1 hn.2 (kk_m43 hp)]; exact e
    unfold kk_lb
    apply propext
    constructor
    · rintro ⟨k, hk, q1, q2, q3⟩
      exact ⟨k, hk, by rw [← e57 k hk.2]; exact q1, q2, (eb k hk.1 hk.2).1 q3⟩
    · rintro ⟨k, hk, q1, q2, q3⟩
      exact ⟨k, hk, by rw [e57 k hk.2]; exact q1, q2, (eb k hk.1 hk.2).2 q3⟩
  have hg : g (15, 0, 0) 7 = kk_cnt (kk_lb gm (-1)) := by
    rw [← l2, ← kk_lbh cr.1, m2 _ _ (by decide), gc _ _ (by decide)]
  rw [mm_pU, r_253_19_21 (hy := hy)]
  refine ⟨by rw [hg, kk_lbh hc.1], g2, rfl, kk_coreS hb cr, fun x k q => ?_⟩
  rw [m3 x k q]
  rcases kk_scrC q with q5 | q5
  · have q6 := q
    unfold kk_scr at q6
    obtain ⟨f, a, c⟩ := x
    simp at q5 q6
    rw [gx _ k (by show f < 41 ∨ 53 < f; omega) (by show f ≠ 56; omega)]
    exact m0 _ k q5 (by show f ≠ 56; omega) (by show f ≠ 63; omega) (by show f ≠ 64; omega) (by rintro ⟨v, _⟩; simp at v; omega) (by rintro ⟨v, _⟩; simp at v; omega)
  · rw [gc x k (by omega), k3 x k q5.1 q5.2]
    obtain ⟨f, a, c⟩ := x
    simp at q5
    exact cF f a c k (by omega) (by omega) (by omega) (by omega) (by omega) (by omega) (by omega) (by omega) (by omega)

theorem c_31 {b : Int} {h : mm_Id → Int → Int} {dh : Int → Int} {nx ns : Int} (hy : 10581 ≤ nx) (hc : kk_core b h dh) (hb : b + 1 ≤ 1000000) {t : Int} (ht : -2147483648 ≤ t ∧ t < 2147483648) : kk_call 31 253 [zI t] b h dh nx ns kk_SI := by
  unfold kk_call
  have hx : 5275 ≤ nx := by omega
  have hc0 : kk_core b (mm_up h (40, 0, 0) 0 0) dh := kk_core0 hc
  have fin : ∀ v, kk_SI (zI v) → mm_Cl 253 [zR (40, 0, 0), zI t] (mm_z h dh nx ns) (fun (r2 : mm_V) (h2 : mm_H) => r2 = zI v ∧ ∃ g2, h2 = mm_z g2 dh nx ns ∧ kk_core (b + 1) g2 dh ∧ ∀ x j, kk_scr x j → g2 x j = h x j) →
      (fun (r : mm_V) (h1 : mm_H) => kk_SI r ∧ ∃ g dh1, h1 = mm_z g dh1 nx ns ∧ mm_Cl 253 [zR (40, 0, 0), zI t] (mm_z g dh1 nx ns) (fun r2 h2 => r2 = r ∧ ∃ g2, h2 = mm_z g2 dh1 nx ns ∧ kk_core (b + 1) g2 dh1 ∧ ∀ x j, kk_scr x j → g2 x j = h x j)) (zI v) (mm_z h dh nx ns) :=
    fun v h1 h2 => ⟨h1, h, dh, rfl, h2⟩
  have mfin : ∀ v w : Int, w = v → (fun (r2 : mm_V) (h2 : mm_H) => r2 = zI v ∧ ∃ g2, h2 = mm_z g2 dh nx ns ∧ kk_core (b + 1) g2 dh ∧ ∀ x j, kk_scr x j → g2 x j = h x j) (zI w) (mm_z (mm_up h (40, 0, 0) 0 0) dh nx ns) :=
    fun v w e => ⟨by rw [e], _, rfl, kk_coreS hb hc0, fun x j hs => kk_scr0 hs⟩
  have ca := kk_cal hc
  have nm := kk_nmC hc
  have h22 : ∀ a, mm_isT a → h (22, a, 0) 2 = kk_as a := hc.1.1.2.2.2.2.2.2.2.2.2.1
  -- refused by both, in this state or by the caller
  have no3 : ∀ s, kk_tp h t s → kk_kept h s t → mm_Cl 253 [zR (40, 0, 0), zI t] (mm_z h dh nx ns) (fun (r2 : mm_V) (h2 : mm_H) => r2 = zI (-3) ∧ ∃ g2, h2 = mm_z g2 dh nx ns ∧ kk_core (b + 1) g2 dh ∧ ∀ x j, kk_scr x j → g2 x j = h x j) := fun s hs k => by
    rw [r_253_e (hy := hy)]
    refine m253p hy hc ht hs (fun x k q q2 => mm_upne' q2) (fun f v3 v w3 f1 f2 => ?_)
    have f0 : ¬ f = 0 := fun w => (f2.1 w) k
    rw [r_253_9 (hy := hy), if_neg (by decide), if_neg f0]
    exact mfin _ _ rfl
  have no5 : ∀ s, kk_tp h t s → ¬ kk_kept h s t → ¬ h (1, 0, 0) 12 = 0 → mm_Cl 253 [zR (40, 0, 0), zI t] (mm_z h dh nx ns) (fun (r2 : mm_V) (h2 : mm_H) => r2 = zI (-5) ∧ ∃ g2, h2 = mm_z g2 dh nx ns ∧ kk_core (b + 1) g2 dh ∧ ∀ x j, kk_scr x j → g2 x j = h x j) := fun s hs k c0 => by
    rw [r_253_e (hy := hy)]
    refine m253p hy hc ht hs (fun x k q q2 => mm_upne' q2) (fun f v3 v w3 f1 f2 => ?_)
    have f0 : f = 0 := f2.2 k
    rw [r_253_9 (hy := hy), if_neg (by decide), if_pos f0, mm_upj (by decide), ← ca.1, if_neg c0]
    exact mfin _ _ rfl
  rw [r_31_e (hx := hx)]
  rcases kk_tpx h t with np | ⟨s, hs⟩
  · have none : mm_Wp 31 (mm_blk 31 2) [zR (1, 0, 0), zI t, zR mm_nul, zU, zU] [zR mm_nul] (mm_z h dh nx ns) (fun (r : mm_V) (h1 : mm_H) => kk_SI r ∧ ∃ g dh1, h1 = mm_z g dh1 nx ns ∧ mm_Cl 253 [zR (40, 0, 0), zI t] (mm_z g dh1 nx ns) (fun r2 h2 => r2 = r ∧ ∃ g2, h2 = mm_z g2 dh1 nx ns ∧ kk_core (b + 1) g2 dh1 ∧ ∀ x j, kk_scr x j → g2 x j = h x j)) := by
      rw [r_31_2 (hx := hx)]
      refine fin (-1) ⟨_, rfl, by omega, by omega⟩ ?_
      rw [r_253_e (hy := hy)]
      refine m181n hy hc (kk_lku (by decide) (kk_lkr h)) ht np ?_
      rw [mm_pI, r_253_0_6 (hy := hy), if_pos (by decide)]
      exact mfin _ _ rfl
    refine s53t hx nm (fun s s0 s1 hs => absurd hs (fun w => kk_tpn np w)) (fun hs => ?_)
    rw [mm_pR, r_31_0_3 (hx := hx)]
    split
    · rename_i l
      refine s54t hx nm (fun s s0 s1 hs => ?_) (fun hs => ?_)
      · exfalso
        by_cases z : t = -2147483648
        · have w : mm_w (-t) = -2147483648 := by rw [z]; decide
          rw [w] at hs
          have := ((kk_tl2 nm s0 s1).1 hs.2.1).1
          omega
        · rw [mm_wi (by omega) (by omega)] at hs
          rw [show -(-t) = t by omega] at hs
          exact kk_tpn np hs
      · rw [mm_pR, r_31_0_10 (hx := hx)]
        exact none
    · exact none
  · have s13 := hs.1
    by_cases s5 : s < 5
    · have tp := (kk_tl1 nm hs.1.1 s5).1 hs.2.1
      have hD : mm_isD s := ⟨hs.1.1, s5⟩
      have e73 := kk_sof hc t
      have e72 : mm_sm (fun i => if h (31, i, 0) 3 = 0 then 0 else 1) 5 = mm_sm (fun k => if 0 < h (57, 0, 0) k then 1 else 0) 5 := sm_cgI _ (fun i i0 i1 => by
        have w := kk_n31 hc i0 i1
        rw [w.1]
        by_cases z : h (31, i, 0) 3 = 0
        · rw [if_pos z, if_neg (by omega)]
        · rw [if_neg z, if_pos (by omega)])
      have kp : kk_kept h s t ↔ 0 < mm_sm (fun j => if 0 < h (57, 0, 0) (5 + j) ∧ h (58, 0, 0) (5 + j) = t then 1 else 0) 8 ∨ mm_sm (fun k => if 0 < h (57, 0, 0) k then 1 else 0) 5 = 1 := by
        constructor
        · rintro (q | q | ⟨k, hk, q⟩)
          · exact Or.inr q.2
          · omega
          · unfold kk_of at q
            have k5 : 5 ≤ k := by omega
            have y := sm_ge (f := fun j => if 0 < h (57, 0, 0) (5 + j) ∧ h (58, 0, 0) (5 + j) = t then 1 else 0) 8 (fun i _ _ => by split <;> omega) (j := k - 5) (by omega) (by omega)
            rw [show 5 + (k - 5) = k by omega, if_pos ⟨q.1, by omega⟩] at y
            exact Or.inl (by omega)
        · rintro (q | q)
          · obtain ⟨j, j0, j1, w⟩ := sm_pos 8 q
            refine Or.inr (Or.inr ⟨5 + j, by omega, ?_⟩)
            have w : 0 < (if 0 < h (57, 0, 0) (5 + j) ∧ h (58, 0, 0) (5 + j) = t then (1 : Int) else 0) := w
            by_cases z : 0 < h (57, 0, 0) (5 + j) ∧ h (58, 0, 0) (5 + j) = t
            · exact ⟨z.1, Or.inl ⟨s5, by omega, z.2⟩⟩
            · rw [if_neg z] at w; omega
          · exact Or.inl ⟨s5, q⟩
      refine s53t hx nm (fun s2 a1 a2 a3 => ?_) (fun q => absurd hs (q s s5))
      have e := kk_tp1 a3 hs
      subst e
      rw [mm_pR, r_31_0_3a (hty0 := hD) (hx := hx), if_neg (by omega), r_31_2a (htx2 := hD) (hx := hx), r_31_3 (htx2 := hD) (hx := hx)]
      refine s73 hx ?_
      rw [e73, mm_pI, r_31_3_5 (htx2 := hD) (hx := hx)]
      by_cases q1 : 0 < mm_sm (fun j => if 0 < h (57, 0, 0) (5 + j) ∧ h (58, 0, 0) (5 + j) = t then 1 else 0) 8
      · rw [if_pos q1, r_31_4 (hx := hx)]
        exact fin (-3) ⟨_, rfl, by omega, by omega⟩ (no3 _ hs (kp.2 (Or.inl q1)))
      · rw [if_neg q1]
        refine s72 hx ?_
        rw [e72, mm_pI, r_31_3_8 (htx2 := hD) (hx := hx)]
        by_cases q2 : mm_sm (fun k => if 0 < h (57, 0, 0) k then 1 else 0) 5 = 1
        · rw [if_pos q2, r_31_4 (hx := hx)]
          exact fin (-3) ⟨_, rfl, by omega, by omega⟩ (no3 _ hs (kp.2 (Or.inr q2)))
        · have nk : ¬ kk_kept h s2 t := fun w => by
            rcases kp.1 w with w | w
            · exact q1 w
            · exact q2 w
          rw [if_neg q2, r_31_5a (htx2 := hD) (hx := hx), r_31_7a (htx2 := hD) (hx := hx)]
          by_cases c0 : h (1, 0, 0) 12 = 0
          · rw [if_pos c0]
            refine s66 hx hD (fun dh2 d1 d2 => ?_)
            rw [mm_pU, r_31_8_9 (htx2 := hD) (hx := hx), r_81_e (htx0 := hD) (hx := hx)]
            obtain ⟨hA, eA⟩ : ∃ q, q = mm_up (mm_up h (31, s2, 0) 3 0) (31, s2, 0) 6 0 := ⟨_, rfl⟩
            rw [← eA]
            have aF : ∀ (f : Nat) a c k, ¬ (f = 31 ∧ a = s2) → hA (f, a, c) k = h (f, a, c) k := fun f a c k q => by
              rw [eA, mm_upne' (by rintro ⟨v, _⟩; simp at v; omega), mm_upne' (by rintro ⟨v, _⟩; simp at v; omega)]
            have RA : kk_R hA := by rw [eA]; exact kk_Rup (by omega) (kk_Rup (by omega) hc.1.1.2.2.2.2.2.2.2.1)
            have nwA : ∀ a n, mm_isT a → 1 ≤ n → n < 37 → kk_nw hA a n := fun a n hT n0 n1 => kk_nwcp (kk_cpdr (fun f k f0 f1 => aF f a n k (by omega))) (kk_nwC hc hT ⟨n0, n1⟩)
            refine s166 (mm_td hD) hx RA (fun n n0 n1 => (nwA _ n (mm_td hD) n0 n1).2.2) (by rw [aF 22 _ 0 2 (by omega)]; exact h22 _ (mm_td hD)) (fun hB bR bC bF => ?_)
            have bF2 : ∀ (f : Nat) a c k, ¬ (f = 15 ∧ k = 7) → f ≠ 17 → f ≠ 18 → f ≠ 19 → ¬ (24 ≤ f ∧ f ≤ 30 ∧ a = s2 ∧ 1 ≤ c ∧ c < 37) → hB (f, a, c) k = hA (f, a, c) k := fun f a c k q1 q2 q3 q4 q5 =>
              bF _ _ (by unfold kk_ct; simp; omega) (by unfold kk_tr; simp; omega)
            rw [mm_pU, r_81_0_9 (htx0 := hD) (hx := hx)]
            refine s166 (mm_tk hD) hx bR (fun n n0 n1 => (kk_nwcp (kk_cpdr (fun f k f0 f1 => bF2 f _ n k (by omega) (by omega) (by omega) (by omega) (by omega))) (nwA _ n (mm_tk hD) n0 n1)).2.2) (by rw [bF2 22 _ 0 2 (by omega) (by decide) (by decide) (by decide) (by omega), aF 22 _ 0 2 (by omega)]; exact h22 _ (mm_tk hD)) (fun hcc cR cC cF => ?_)
            have cF2 : ∀ (f : Nat) a c k, ¬ (f = 15 ∧ k = 7) → f ≠ 17 → f ≠ 18 → f ≠ 19 → ¬ (24 ≤ f ∧ f ≤ 30 ∧ a = 13 + s2 ∧ 1 ≤ c ∧ c < 37) → hcc (f, a, c) k = hB (f, a, c) k := fun f a c k q1 q2 q3 q4 q5 =>
              cF _ _ (by unfold kk_ct; simp; omega) (by unfold kk_tr; simp; omega)
            have cl : ∀ n, 1 ≤ n → n < 37 → kk_cl hcc s2 n := fun n n0 n1 => kk_cle (fun f k q => cF2 f s2 n k (by omega) (by omega) (by omega) (by omega) (by omega)) (bC n n0 n1)
            have cF3 : ∀ (f : Nat) a c k, f < 40 → ¬ (f = 15 ∧ k = 7) → f ≠ 17 → f ≠ 18 → f ≠ 19 → ¬ (24 ≤ f ∧ f ≤ 30 ∧ a = s2 ∧ 1 ≤ c ∧ c < 37) → ¬ (s2 < 5 ∧ 24 ≤ f ∧ f ≤ 30 ∧ a = 13 + s2 ∧ 1 ≤ c ∧ c < 37) → ¬ (s2 < 5 ∧ f = 31 ∧ a = s2) → ¬ (5 ≤ s2 ∧ f = 33 ∧ 5 + a = s2) → hcc (f, a, c) k = h (f, a, c) k := fun f a c k _ q1 q2 q3 q4 q5 q6 q7 _ => by
              rw [cF2 f a c k q1 q2 q3 q4 (by omega), bF2 f a c k q1 q2 q3 q4 q5, aF f a c k (by omega)]
            have e40 : ∀ (x : mm_Id) k, 40 ≤ x.1 → hcc x k = h x k := fun x k q => by
              obtain ⟨f, a, c⟩ := x
              simp at q
              rw [cF2 f a c k (by omega) (by omega) (by omega) (by omega) (by omega), bF2 f a c k (by omega) (by omega) (by omega) (by omega) (by omega), aF f a c k (by omega)]
            rw [mm_pU, r_81_0_12 (hx := hx), mm_pU, r_31_8_11 (hx := hx), r_31_9a (hx := hx), r_31_10 (hx := hx)]
            refine s64p hx cR (fun a n a0 a1 n0 n1 => ?_) (fun a a0 a1 => ?_) (fun g k1 k2 k3 => ?_)
            · by_cases y1 : a = s2
              · rw [y1]; exact kk_nwcl (cl n n0 n1)
              · by_cases y2 : a = 13 + s2
                · rw [y2]; exact kk_nwcl (cC n n0 n1)
                · exact kk_nwcp (kk_cpdr (fun f k f0 f1 => cF3 f a n k (by omega) (by omega) (by omega) (by omega) (by omega) (by omega) (by omega) (by omega) (by omega))) (kk_nwC hc (mm_T18 ⟨a0, a1⟩) ⟨n0, n1⟩)
            · rw [cF3 22 a 0 2 (by omega) (by omega) (by omega) (by omega) (by omega) (by omega) (by omega) (by omega) (by omega), h22 a (mm_T18 ⟨by omega, a1⟩)]
              exact if_neg (by omega)
            rw [mm_pI, r_31_10_2 (hx := hx)]
            refine kk_c31t hy hc hb ht hs nk c0 cR cl (fun _ => cC) cF3 e40 (fun _ => ⟨?_, ?_⟩) (fun w => by omega) (fun p p0 p1 q => d1 p p0 p1 q.2) (fun p p0 p1 q => d2 p (fun w => q ⟨by rw [w.2]; exact hD, w.2⟩)) k1 k2 k3
            · rw [cF2 31 s2 0 3 (by omega) (by decide) (by decide) (by decide) (by omega), bF2 31 s2 0 3 (by omega) (by decide) (by decide) (by decide) (by omega), eA, mm_upj (by decide), mm_ups]
            · rw [cF2 31 s2 0 6 (by omega) (by decide) (by decide) (by decide) (by omega), bF2 31 s2 0 6 (by omega) (by decide) (by decide) (by decide) (by omega), eA, mm_ups]
          · rw [if_neg c0]
            exact fin (-5) ⟨_, rfl, by omega, by omega⟩ (no5 _ hs nk c0)
    · have tp := (kk_tl2 nm (by omega) hs.1.2).1 hs.2.1
      have tb := (nm s hs.1.1 hs.1.2).2
      have hno := kk_tpp hs
      have te : kk_no h s = -t := by
        unfold kk_no
        rw [if_neg s5]; exact tp.2
      have hS : mm_isS (s - 5) := ⟨by omega, by omega⟩
      have sT := mm_T13 (s := s) hs.1
      have e9 := (kk_snC hc (j := s - 5) (by omega) (by omega)).1
      rw [show 5 + (s - 5) = s by omega] at e9
      have e9 := e9 hno
      have w2 : mm_w (-t) = -t := mm_wi (by omega) (by omega)
      have kp : kk_kept h s t ↔ ¬ h (33, s - 5, 0) 3 = 0 ∨ ∃ i, (0 ≤ i ∧ i < 5) ∧ ¬ h (31, i, 0) 3 = 0 ∧ h (31, i, 0) 4 = h (33, s - 5, 0) 1 := by
        constructor
        · rintro (q | q | ⟨k, hk, q⟩)
          · omega
          · rw [← e9.2.1] at q; exact Or.inl q.2
          · unfold kk_of at q
            rw [w2] at q
            have k5 : k < 5 := by omega
            have y := kk_n31 hc hk.1 k5
            have d := (kk_dsC hc hk.1 k5 (by rw [kk_n5 k5]; omega)).1.1
            exact Or.inr ⟨k, ⟨hk.1, k5⟩, by omega, by omega⟩
        · rintro (q | ⟨i, hi, q, q2⟩)
          · rw [e9.2.1] at q; exact Or.inr (Or.inl ⟨by omega, q⟩)
          · have y := kk_n31 hc hi.1 hi.2
            have d := (kk_dsC hc hi.1 hi.2 (by rw [kk_n5 hi.2]; omega)).1.1
            exact Or.inr (Or.inr ⟨i, by omega, by omega, Or.inr ⟨by omega, hi.2, by rw [w2]; omega⟩⟩)
      refine s53t hx nm (fun s2 a1 a2 a3 => absurd (kk_tp1 a3 hs) (by omega)) (fun q => ?_)
      rw [mm_pR, r_31_0_3 (hx := hx), if_pos (by omega), w2]
      refine s54t hx nm (fun s2 a1 a2 a3 => ?_) (fun q => absurd hs (by have := q s (by omega); rw [show -(-t) = t by omega] at this; exact this))
      rw [show -(-t) = t by omega] at a3
      have e := kk_tp1 a3 hs
      subst e
      rw [mm_pR, r_31_0_10a (hty0 := hS) (hx := hx), r_31_2b (hty0 := hS) (hx := hx), r_31_3a (htx3 := hS) (hx := hx), r_31_5 (htx3 := hS) (hx := hx)]
      by_cases q1 : h (33, s2 - 5, 0) 3 = 0
      · rw [if_pos q1]
        refine s75 hx (fun w => ?_) (fun w => ?_)
        · rw [mm_pI, r_31_5_9 (htx3 := hS) (hx := hx), if_neg (by decide), r_31_6 (hx := hx)]
          exact fin (-3) ⟨_, rfl, by omega, by omega⟩ (no3 _ hs (kp.2 (Or.inr w)))
        · have nk : ¬ kk_kept h s2 t := fun w3 => by
            rcases kp.1 w3 with w4 | ⟨i, hi, w4⟩
            · exact w4 q1
            · exact w i hi.1 hi.2 w4
          rw [mm_pI, r_31_5_9 (htx3 := hS) (hx := hx), if_pos rfl, r_31_7 (htx3 := hS) (hx := hx)]
          by_cases c0 : h (1, 0, 0) 12 = 0
          · rw [if_pos c0, r_31_9 (htx3 := hS) (hx := hx), r_155_e (htx0 := hS) (hx := hx), show 5 + (s2 - 5) = s2 by omega]
            obtain ⟨hA, eA⟩ : ∃ q, q = mm_up (mm_up h (33, s2 - 5, 0) 1 0) (33, s2 - 5, 0) 2 0 := ⟨_, rfl⟩
            rw [← eA]
            have aF : ∀ (f : Nat) a c k, ¬ (f = 33 ∧ 5 + a = s2) → hA (f, a, c) k = h (f, a, c) k := fun f a c k q => by
              rw [eA, mm_upne' (by rintro ⟨v, _⟩; simp at v; omega), mm_upne' (by rintro ⟨v, _⟩; simp at v; omega)]
            have RA : kk_R hA := by rw [eA]; exact kk_Rup (by omega) (kk_Rup (by omega) hc.1.1.2.2.2.2.2.2.2.1)
            have nwA : ∀ a n, mm_isT a → 1 ≤ n → n < 37 → kk_nw hA a n := fun a n hT n0 n1 => kk_nwcp (kk_cpdr (fun f k f0 f1 => aF f a n k (by omega))) (kk_nwC hc hT ⟨n0, n1⟩)
            refine s166 sT hx RA (fun n n0 n1 => (nwA _ n sT n0 n1).2.2) (by rw [aF 22 _ 0 2 (by omega)]; exact h22 _ sT) (fun hcc cR cC cF => ?_)
            have cF2 : ∀ (f : Nat) a c k, ¬ (f = 15 ∧ k = 7) → f ≠ 17 → f ≠ 18 → f ≠ 19 → ¬ (24 ≤ f ∧ f ≤ 30 ∧ a = s2 ∧ 1 ≤ c ∧ c < 37) → hcc (f, a, c) k = hA (f, a, c) k := fun f a c k q1 q2 q3 q4 q5 =>
              cF _ _ (by unfold kk_ct; simp; omega) (by unfold kk_tr; simp; omega)
            have cF3 : ∀ (f : Nat) a c k, f < 40 → ¬ (f = 15 ∧ k = 7) → f ≠ 17 → f ≠ 18 → f ≠ 19 → ¬ (24 ≤ f ∧ f ≤ 30 ∧ a = s2 ∧ 1 ≤ c ∧ c < 37) → ¬ (s2 < 5 ∧ 24 ≤ f ∧ f ≤ 30 ∧ a = 13 + s2 ∧ 1 ≤ c ∧ c < 37) → ¬ (s2 < 5 ∧ f = 31 ∧ a = s2) → ¬ (5 ≤ s2 ∧ f = 33 ∧ 5 + a = s2) → hcc (f, a, c) k = h (f, a, c) k := fun f a c k _ q1 q2 q3 q4 q5 _ _ q8 => by
              rw [cF2 f a c k q1 q2 q3 q4 q5, aF f a c k (by omega)]
            have e40 : ∀ (x : mm_Id) k, 40 ≤ x.1 → hcc x k = h x k := fun x k q => by
              obtain ⟨f, a, c⟩ := x
              simp at q
              rw [cF2 f a c k (by omega) (by omega) (by omega) (by omega) (by omega), aF f a c k (by omega)]
            rw [mm_pU, r_155_0_9 (hx := hx), mm_pU, r_31_9_4 (hx := hx), r_31_10 (hx := hx)]
            refine s64p hx cR (fun a n a0 a1 n0 n1 => ?_) (fun a a0 a1 => ?_) (fun g k1 k2 k3 => ?_)
            · by_cases y1 : a = s2
              · rw [y1]; exact kk_nwcl (cC n n0 n1)
              · exact kk_nwcp (kk_cpdr (fun f k f0 f1 => cF3 f a n k (by omega) (by omega) (by omega) (by omega) (by omega) (by omega) (by omega) (by omega) (by omega))) (kk_nwC hc (mm_T18 ⟨a0, a1⟩) ⟨n0, n1⟩)
            · rw [cF3 22 a 0 2 (by omega) (by omega) (by omega) (by omega) (by omega) (by omega) (by omega) (by omega) (by omega), h22 a (mm_T18 ⟨by omega, a1⟩)]
              exact if_neg (by omega)
            rw [mm_pI, r_31_10_2 (hx := hx)]
            refine kk_c31t hy hc hb ht hs nk c0 cR cC (fun w => by omega) cF3 e40 (fun w => by omega) (fun _ => ⟨?_, ?_⟩) (fun p p0 p1 q => ?_) (fun p p0 p1 q => rfl) k1 k2 k3
            · rw [cF2 33 _ 0 1 (by omega) (by decide) (by decide) (by decide) (by omega), eA, mm_upj (by decide), mm_ups]
            · rw [cF2 33 _ 0 2 (by omega) (by decide) (by decide) (by decide) (by omega), eA, mm_ups]
            · have := q.1
              unfold mm_isD at this
              omega
          · rw [if_neg c0]
            exact fin (-5) ⟨_, rfl, by omega, by omega⟩ (no5 _ hs nk c0)
      · rw [if_neg q1, r_31_6 (hx := hx)]
        exact fin (-3) ⟨_, rfl, by omega, by omega⟩ (no3 _ hs (kp.2 (Or.inl q1)))


