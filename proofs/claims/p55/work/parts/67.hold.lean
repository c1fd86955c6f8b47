/-! what is looked up where the cls has run already; hold, quota, limit -/
/-- the numbers of trees are as they were -/
def kk_lk (h g : mm_Id → Int → Int) : Prop := (∀ s, 0 ≤ s → s < 13 → kk_no g s = kk_no h s) ∧ ∀ k, 0 ≤ k → k < 13 → g (57, 0, 0) k = h (57, 0, 0) k
theorem kk_lkr (h : mm_Id → Int → Int) : kk_lk h h := ⟨fun _ _ _ => rfl, fun _ _ _ => rfl⟩
theorem kk_lku {h g : mm_Id → Int → Int} {f : Nat} {t n j v : Int} (hf : f ≠ 31 ∧ f ≠ 33 ∧ f ≠ 57) (l : kk_lk h g) : kk_lk h (mm_up g (f, t, n) j v) := by
  refine ⟨fun s s0 s1 => ?_, fun k k0 k1 => ?_⟩
  · rw [← l.1 s s0 s1]
    unfold kk_no
    rw [mm_upf (by omega), mm_upf (by omega)]
  · rw [mm_upf (by omega)]; exact l.2 k k0 k1
theorem kk_lkt {h g : mm_Id → Int → Int} {x s : Int} (l : ∀ s, 0 ≤ s → s < 13 → kk_no g s = kk_no h s) : kk_tp g x s ↔ kk_tp h x s := by
  have e : ∀ j, 0 ≤ j → j < 13 → (kk_tl g x j ↔ kk_tl h x j) := fun j j0 j1 => by unfold kk_tl; rw [l j j0 j1]
  constructor
  · rintro ⟨q1, q2, q3⟩
    exact ⟨q1, (e s q1.1 q1.2).1 q2, fun j j0 j1 q => q3 j j0 j1 ((e j j0 (by omega)).2 q)⟩
  · rintro ⟨q1, q2, q3⟩
    exact ⟨q1, (e s q1.1 q1.2).2 q2, fun j j0 j1 q => q3 j j0 j1 ((e j j0 (by omega)).1 q)⟩
theorem kk_pdno {a g : mm_Id → Int → Int} (c : kk_pdC a g) (s : Int) : kk_no g s = kk_no a s := by
  have e : ∀ (f : Nat) i j, f = 31 ∨ f = 33 → (f = 31 → j ≠ 6) → g (f, i, 0) j = a (f, i, 0) j := fun f i j hf hj => c.2.2.2.2 _ _ (by show f < 40; omega) (by unfold kk_ct; rintro (⟨q, _⟩ | q | q | q) <;> simp at q <;> omega) (by rintro ⟨i2, _, _, q⟩; unfold kk_tr at q; simp at q <;> omega) (by rintro ⟨i2, _, q, q2⟩; simp at q <;> omega) (by rintro ⟨q, _⟩; simp at q <;> omega)
  unfold kk_no
  rw [e 31 s 3 (by omega) (by omega), e 33 _ 1 (by omega) (by omega)]
theorem kk_acno {t : Int} {a g : mm_Id → Int → Int} (c : kk_acC t a g) (s : Int) : kk_no g s = kk_no a s := by
  have e : ∀ v, kk_no (mm_up (mm_up a (31, t, 0) 6 1) (1, 0, 0) 13 v) s = kk_no a s := fun v => by
    unfold kk_no
    rw [mm_upf (by decide), mm_upj (by decide), mm_upf (by decide), mm_upf (by decide)]
  rcases c with ⟨_, c⟩ | ⟨_, c⟩
  · rw [c]; exact e _
  · rw [kk_pdno c, e]
section
variable {h g : mm_Id → Int → Int} {dh dh0 : Int → Int} {nx ns b : Int} {Q : mm_V → mm_H → Prop}
theorem kk_lkn (hc : kk_core b h dh0) (l : kk_lk h g) : kk_nm g ∧ kk_N g := by
  have m := kk_nmC hc
  have n := kk_NC hc
  refine ⟨fun s s0 s1 => ?_, fun s s0 s1 => ?_⟩
  · rw [l.1 s s0 s1]; exact m s s0 s1
  · rw [l.1 s s0 s1, l.2 s s0 s1]; exact n s s0 s1
theorem m181y (hy : 10581 ≤ nx) (hc : kk_core b h dh0) (l : kk_lk h g) {x s : Int} (hr : -2147483648 ≤ x ∧ x < 2147483648) (hs : kk_tp h x s) (K : Q (zI s) (mm_z g dh nx ns)) : mm_Cl 181 [zR (40, 0, 0), zI x] (mm_z g dh nx ns) Q := by
  have w := kk_lkn hc l
  have hs2 := (kk_lkt l.1).2 hs
  exact m181t hy w.1 w.2 hr.1 hr.2 (fun s2 q1 q2 q3 => (kk_tp1 q3 hs2) ▸ K) (fun q => absurd hs2 (fun z => kk_tpn q z))
theorem m181n (hy : 10581 ≤ nx) (hc : kk_core b h dh0) (l : kk_lk h g) {x : Int} (hr : -2147483648 ≤ x ∧ x < 2147483648) (hs : kk_np h x) (K : Q (zI (-1)) (mm_z g dh nx ns)) : mm_Cl 181 [zR (40, 0, 0), zI x] (mm_z g dh nx ns) Q := by
  have w := kk_lkn hc l
  exact m181t hy w.1 w.2 hr.1 hr.2 (fun s2 q1 q2 q3 => absurd ((kk_lkt l.1).1 q3) (fun z => kk_tpn hs z)) (fun q => K)
theorem m182y (hy : 10581 ≤ nx) (hc : kk_core b h dh0) (l : kk_lk h g) {x s : Int} (hr : -2147483648 ≤ x ∧ x < 2147483648) (hs : kk_tp h x s) (h5 : s < 5) (K : Q (zI s) (mm_z g dh nx ns)) : mm_Cl 182 [zR (40, 0, 0), zI x] (mm_z g dh nx ns) Q := by
  have w := kk_lkn hc l
  have hs2 := (kk_lkt l.1).2 hs
  exact m182 hy w.1 w.2 hr.1 hr.2 (fun s2 q1 q2 q3 => (kk_tp1 q3 hs2) ▸ K) (fun q => absurd hs2 (q s h5))
theorem m182n (hy : 10581 ≤ nx) (hc : kk_core b h dh0) (l : kk_lk h g) {x : Int} (hr : -2147483648 ≤ x ∧ x < 2147483648) (hs : ∀ s, s < 5 → ¬ kk_tp h x s) (K : Q (zI (-1)) (mm_z g dh nx ns)) : mm_Cl 182 [zR (40, 0, 0), zI x] (mm_z g dh nx ns) Q := by
  have w := kk_lkn hc l
  exact m182 hy w.1 w.2 hr.1 hr.2 (fun s2 q1 q2 q3 => absurd ((kk_lkt l.1).1 q3) (hs s2 q2)) (fun q => K)
theorem m183y (hy : 10581 ≤ nx) (hc : kk_core b h dh0) (l : kk_lk h g) {x s : Int} (hr : -2147483648 ≤ x ∧ x < 2147483648) (hs : kk_tp h (-x) s) (h5 : 5 ≤ s) (K : Q (zI s) (mm_z g dh nx ns)) : mm_Cl 183 [zR (40, 0, 0), zI x] (mm_z g dh nx ns) Q := by
  have w := kk_lkn hc l
  have hs2 := (kk_lkt l.1).2 hs
  exact m183 hy w.1 w.2 hr.1 hr.2 (fun s2 q1 q2 q3 => (kk_tp1 q3 hs2) ▸ K) (fun q => absurd hs2 (q s h5))
theorem m183n (hy : 10581 ≤ nx) (hc : kk_core b h dh0) (l : kk_lk h g) {x : Int} (hr : -2147483648 ≤ x ∧ x < 2147483648) (hs : ∀ s, 5 ≤ s → ¬ kk_tp h (-x) s) (K : Q (zI (-1)) (mm_z g dh nx ns)) : mm_Cl 183 [zR (40, 0, 0), zI x] (mm_z g dh nx ns) Q := by
  have w := kk_lkn hc l
  exact m183 hy w.1 w.2 hr.1 hr.2 (fun s2 q1 q2 q3 => absurd ((kk_lkt l.1).1 q3) (hs s2 q1)) (fun q => K)
theorem m174y (hy : 10581 ≤ nx) {v lo up : Int} (w : lo ≤ v ∧ v ≤ up) (K : Q (zI 1) (mm_z g dh nx ns)) : mm_Cl 174 [zL v, zL lo, zL up] (mm_z g dh nx ns) Q := m174 hy (fun _ => K) (fun q => absurd w q)
theorem m174n (hy : 10581 ≤ nx) {v lo up : Int} (w : ¬ (lo ≤ v ∧ v ≤ up)) (K : Q (zI 0) (mm_z g dh nx ns)) : mm_Cl 174 [zL v, zL lo, zL up] (mm_z g dh nx ns) Q := m174 hy (fun q => absurd q w) (fun _ => K)
theorem m210y (hy : 10581 ≤ nx) {s n : Int} (hs : 0 ≤ s ∧ s < 29) (h1 : 1 ≤ n ∧ n < 37) (h2 : 0 < g (41, 0, 0) (36 * s + n - 1)) (K : Q (zI 1) (mm_z g dh nx ns)) : mm_Cl 210 [zR (40, 0, 0), zI s, zI n] (mm_z g dh nx ns) Q := m210 hy hs (fun _ _ => K) (fun q => absurd ⟨h1, h2⟩ q)
theorem m210z (hy : 10581 ≤ nx) {s n : Int} (hs : 0 ≤ s ∧ s < 29) (h2 : ¬ ((1 ≤ n ∧ n < 37) ∧ 0 < g (41, 0, 0) (36 * s + n - 1))) (K : Q (zI 0) (mm_z g dh nx ns)) : mm_Cl 210 [zR (40, 0, 0), zI s, zI n] (mm_z g dh nx ns) Q := m210 hy hs (fun a b => absurd ⟨a, b⟩ h2) (fun _ => K)
end
/-- the end of a call that puts down -/
theorem kk_pdend {b : Int} {h hc0 g gm g2 gx : mm_Id → Int → Int} {dh : Int → Int} (hb : b + 1 ≤ 1000000) (W : kk_W b (kk_mix hc0 gm) dh) (c : kk_pdC hc0 g) (m : kk_pdM gm g2) (hg : ∀ x j, x.1 < 40 → g2 x j = g x j) (s1 : ∀ x j, kk_scr x j → g2 x j = gm x j) (s2 : ∀ x j, kk_scr x j → gm x j = gx x j) (s3 : ∀ x j, kk_scr x j → gx x j = h x j) : kk_core (b + 1) g2 dh ∧ ∀ x j, kk_scr x j → g2 x j = h x j :=
  ⟨kk_coreS hb (kk_downC W c m hg), fun x j hs => by rw [s1 x j hs, s2 x j hs, s3 x j hs]⟩
theorem kk_clU {f : mm_Id → Int → Int} {x y : mm_Id} {i j v : Int} (hx : x.1 < 40) (hy : 40 ≤ y.1) : mm_up f y i v x j = f x j := mm_upne' (by rintro ⟨rfl, _⟩; omega)
theorem kk_moU {f : mm_Id → Int → Int} {x y : mm_Id} {i j v : Int} (hx : 40 ≤ x.1) (hy : y.1 < 40) : mm_up f y i v x j = f x j := mm_upne' (by rintro ⟨rfl, _⟩; omega)

theorem c_32 {b : Int} {h : mm_Id → Int → Int} {dh : Int → Int} {nx ns : Int} (hy : 10581 ≤ nx) (hc : kk_core b h dh) (hb : b + 1 ≤ 1000000) {t n : Int} (ht : -2147483648 ≤ t ∧ t < 2147483648) (hn : n = 0 ∨ n = 1) : kk_call 32 254 [zI t, zI n] b h dh nx ns kk_SI := by
  unfold kk_call
  have hx : 5275 ≤ nx := by omega
  have hc0 : kk_core b (mm_up h (40, 0, 0) 0 0) dh := kk_core0 hc
  have fin : ∀ v, kk_SI (zI v) → mm_Cl 254 [zR (40, 0, 0), zI t, zI n] (mm_z h dh nx ns) (fun (r2 : mm_V) (h2 : mm_H) => r2 = zI v ∧ ∃ g2, h2 = mm_z g2 dh nx ns ∧ kk_core (b + 1) g2 dh ∧ ∀ x j, kk_scr x j → g2 x j = h x j) →
      (fun (r : mm_V) (h1 : mm_H) => kk_SI r ∧ ∃ g dh1, h1 = mm_z g dh1 nx ns ∧ mm_Cl 254 [zR (40, 0, 0), zI t, zI n] (mm_z g dh1 nx ns) (fun r2 h2 => r2 = r ∧ ∃ g2, h2 = mm_z g2 dh1 nx ns ∧ kk_core (b + 1) g2 dh1 ∧ ∀ x j, kk_scr x j → g2 x j = h x j)) (zI v) (mm_z h dh nx ns) :=
    fun v h1 h2 => ⟨h1, h, dh, rfl, h2⟩
  have mfin : ∀ v w : Int, w = v → (fun (r2 : mm_V) (h2 : mm_H) => r2 = zI v ∧ ∃ g2, h2 = mm_z g2 dh nx ns ∧ kk_core (b + 1) g2 dh ∧ ∀ x j, kk_scr x j → g2 x j = h x j) (zI w) (mm_z (mm_up h (40, 0, 0) 0 0) dh nx ns) :=
    fun v w e => ⟨by rw [e], _, rfl, kk_coreS hb hc0, fun x j hs => kk_scr0 hs⟩
  rw [r_32_e (hx := hx)]
  refine s54t hx (kk_nmC hc) (fun s s0 s1 hs => ?_) (fun hs => ?_)
  · have hS : mm_isS (s - 5) := ⟨by omega, by omega⟩
    have e9 := (kk_snC hc (j := s - 5) (by omega) (by omega)).1
    rw [show 5 + (s - 5) = s by omega] at e9
    have e9 := e9 (kk_tpp hs)
    have ca := kk_cal hc
    have WP : ∀ gq : mm_Id → Int → Int, (∀ x j, 40 ≤ x.1 → x.1 ≠ 56 → ¬ (x = (40, 0, 0) ∧ j = 0) → gq x j = h x j) → kk_W b (kk_mix (mm_up h (33, s - 5, 0) 3 n) (mm_up gq (60, 0, 0) s n)) dh := fun gq eq => by
      have E : ∀ x j, ¬ (x = (33, s - 5, 0) ∧ j = 3) → ¬ (x = (60, 0, 0) ∧ j = s) → ¬ (x = (40, 0, 0) ∧ j = 0) → x.1 ≠ 56 → (kk_mix (mm_up h (33, s - 5, 0) 3 n) (mm_up gq (60, 0, 0) s n)) x j = h x j := fun x j q1 q2 q3 q4 => by
        by_cases q : x.1 < 40
        · rw [kk_mixC q, mm_upne' q1]
        · rw [kk_mixM (by omega), mm_upne' q2, eq x j (by omega) q4 q3]
      have no : ∀ s2, kk_no (kk_mix (mm_up h (33, s - 5, 0) 3 n) (mm_up gq (60, 0, 0) s n)) s2 = kk_no h s2 := fun s2 => by
        unfold kk_no
        rw [E _ _ (by simp) (by simp) (by simp) (by simp), E _ _ (by simp) (by simp) (by simp) (by simp)]
      have bs : ∀ s2 c, kk_bs (kk_mix (mm_up h (33, s - 5, 0) 3 n) (mm_up gq (60, 0, 0) s n)) s2 c ↔ kk_bs h s2 c := fun s2 c => by
        unfold kk_bs
        simp only [fun k => E (41, 0, 0) k (by simp) (by simp) (by simp) (by simp), fun k => E (43, 0, 0) k (by simp) (by simp) (by simp) (by simp)]
      refine kk_WD (fun x j hx2 => E x j ?_ ?_ ?_ ?_) (kk_KGe (fun x j hx2 => E x j ?_ ?_ ?_ ?_) hc.1.2.2.2) ?_ ?_ ?_ ?_ hc.1
      · rintro ⟨q, q2⟩; subst q; simp [kk_wd] at hx2 <;> omega
      · rintro ⟨q, q2⟩; subst q; simp [kk_wd] at hx2 <;> omega
      · rintro ⟨q, q2⟩; subst q; simp [kk_wd] at hx2; omega
      · intro q; exact hx2 (by simp [kk_wd, q])
      · rintro ⟨q, q2⟩; subst q; simp [kk_kgx] at hx2 <;> omega
      · rintro ⟨q, q2⟩; subst q; simp [kk_kgx] at hx2 <;> omega
      · rintro ⟨q, q2⟩; subst q; simp [kk_kgx] at hx2; omega
      · intro q; unfold kk_kgx at hx2; rcases hx2 with ⟨q2, _⟩ | q2 | q2 | q2 | q2 | ⟨q2, _⟩ | ⟨q2, _⟩ <;> first | omega | (rw [q2] at q; simp at q)
      · intro i i0 i1 z
        rw [no] at z
        obtain ⟨w1, w2, w3⟩ := kk_dsC hc i0 i1 z
        rw [E _ _ (by simp) (by simp) (by simp) (by simp), E _ _ (by simp) (by simp) (by simp) (by simp), E _ _ (by simp) (by simp) (by simp) (by simp), E _ _ (by simp) (by simp) (by simp) (by simp)]
        refine ⟨w1, w2, fun u u0 u1 => ?_⟩
        rw [E _ _ (by simp) (by simp) (by simp) (by simp), E _ _ (by simp) (by simp) (by simp) (by simp)]
        exact w3 u u0 u1
      · intro j j0 j1
        have w := kk_snC hc j0 j1
        by_cases z : 5 + j = s
        · have z2 : j = s - 5 := by omega
          rw [no, E (33, j, 0) 2 (by simp) (by simp) (by simp) (by simp), E (58, 0, 0) _ (by simp) (by simp) (by simp) (by simp), z, z2, kk_mixC (by simp), kk_mixM (by simp), mm_ups, mm_ups]
          rw [z, z2] at w
          exact ⟨fun q => ⟨(w.1 q).1, rfl, (w.1 q).2.2⟩, w.2⟩
        · rw [no, E (33, j, 0) 2 (by simp) (by simp) (by simp) (by simp), E (58, 0, 0) _ (by simp) (by simp) (by simp) (by simp), E (33, j, 0) 3 (by simp; omega) (by simp) (by simp) (by simp), E (60, 0, 0) _ (by simp) (by simp; omega) (by simp) (by simp)]
          exact w
      · intro k k0 k1
        by_cases z : k = s
        · rw [z, kk_mixM (by simp), mm_ups]; exact hn
        · rw [E _ _ (by simp) (by simp; omega) (by simp) (by simp)]
          exact hc.1.2.2.1.2.2.2.2.2.2.2.2.2.1 k k0 k1
      · intro i i0 i1
        rw [no, E _ _ (by simp) (by simp) (by simp) (by simp), E _ _ (by simp) (by simp) (by simp) (by simp), E _ _ (by simp) (by simp) (by simp) (by simp), kk_cntc (fun c _ _ => bs i c), kk_cntc (fun c _ _ => bs (13 + i) c)]
        exact hc.1.2.1.2.2.2.2.2.2 i i0 i1
    have cl : ∀ y, h (1, 0, 0) 12 = 0 → (y = if h (33, s - 5, 0) 3 = 0 then 0 else 1) → mm_Wp 32 (mm_blk 32 4) [zR (1, 0, 0), zI t, zI n, zR (33, s - 5, 0), zU] [zI y] (mm_z h dh nx ns) (fun (r : mm_V) (h1 : mm_H) => kk_SI r ∧ ∃ g dh1, h1 = mm_z g dh1 nx ns ∧ mm_Cl 254 [zR (40, 0, 0), zI t, zI n] (mm_z g dh1 nx ns) (fun r2 h2 => r2 = r ∧ ∃ g2, h2 = mm_z g2 dh1 nx ns ∧ kk_core (b + 1) g2 dh1 ∧ ∀ x j, kk_scr x j → g2 x j = h x j)) := fun y c0 hy2 => by
      have ry : 0 ≤ y ∧ y ≤ 1 := by rw [hy2]; split <;> omega
      rw [r_32_4 (htx3 := hS) (hx := hx)]
      refine ⟨hn, ?_⟩
      have WP0 := WP h (fun _ _ _ _ _ => rfl)
      refine s64W hx WP0 (fun g k1 k2 k3 => ?_)
      rw [mm_pI, r_32_4_6 (hx := hx)]
      have lk : kk_lk h g := ⟨fun s2 _ _ => by rw [kk_pdno k1 s2]; unfold kk_no; rw [mm_upne' (by simp), mm_upne' (by simp)], fun k k0 k9 => by rw [k2 _ _ (by simp), mm_upf (by decide)]⟩
      refine ⟨⟨_, rfl, by omega, by omega⟩, g, dh, rfl, ?_⟩
      have ek : ∀ x j, 40 ≤ x.1 → g x j = h x j := fun x j q => by rw [k2 x j q, kk_moU q (by simp)]
      rw [r_254_e (hy := hy)]
      refine m183y hy hc (kk_lku (by decide) lk) ht hs s0 ?_
      have fm : ∀ u, u = y → mm_Wp 254 (mm_blk 254 4) [zR (40, 0, 0), zI t, zI n, zI s, zU] [zI u] (mm_z (mm_up g (40, 0, 0) 0 0) dh nx ns) (fun r2 h2 => r2 = zI y ∧ ∃ g2, h2 = mm_z g2 dh nx ns ∧ kk_core (b + 1) g2 dh ∧ ∀ x j, kk_scr x j → g2 x j = h x j) := fun u hu => by
        rw [r_254_4 (hy := hy)]
        refine ⟨⟨hn, by omega⟩, ?_⟩
        have WM := WP (mm_up g (40, 0, 0) 0 0) (fun x j q _ q3 => by rw [mm_upne' q3]; exact ek x j q)
        have cq : ∀ x j, x.1 < 40 → (mm_up g (40, 0, 0) 0 0) x j = g x j := (fun x j q => kk_clU q (by simp))
        have sq : ∀ x j, kk_scr x j → (mm_up g (40, 0, 0) 0 0) x j = g x j := (fun x j q => kk_scrU q (Or.inr ⟨rfl, by omega⟩))
        refine m208W hy WM (fun g2 m1 m2 m3 => ?_)
        rw [mm_pU, r_254_4_8 (hy := hy)]
        refine ⟨by rw [hu], g2, rfl, kk_pdend (gx := g) hb WM k1 m1 (fun x j q => by rw [m2 x j q, kk_clU q (by simp)]; exact cq x j q) m3 (fun x j q => by rw [kk_scrU q (Or.inl (by simp))]; exact sq x j q) (fun x j q => ?_)⟩
        rcases kk_scrC q with q5 | q5
        · exact ek x j q5
        · rw [k3 x j q5.1 q5.2, mm_upne' (by rintro ⟨q6, _⟩; rw [q6] at q5; simp at q5)]
      rw [mm_pI, r_254_0_6 (hy := hy), if_neg (by omega), mm_upj (by decide), ek _ _ (by decide), ← ca.1, if_pos c0]
      refine ⟨by omega, ?_⟩
      rw [mm_upf (by decide), ek _ _ (by decide), ← e9.2.1]
      split
      · rename_i z
        exact fm 0 (by rw [hy2, if_pos z])
      · rename_i z
        exact fm 1 (by rw [hy2, if_neg z])
    rw [mm_pR, r_32_0_3a (hty0 := hS) (hx := hx)]
    split
    · rename_i c0
      split
      · rename_i z
        exact cl 0 c0 (by rw [if_pos z])
      · rename_i z
        exact cl 1 c0 (by rw [if_neg z])
    · rename_i c0
      refine fin (-5) ⟨_, rfl, by omega, by omega⟩ ?_
      rw [r_254_e (hy := hy)]
      refine m183y hy hc (kk_lku (by decide) (kk_lkr h)) ht hs s0 ?_
      rw [mm_pI, r_254_0_6 (hy := hy), if_neg (by omega), mm_upj (by decide), ← ca.1, if_neg c0]
      exact mfin _ _ rfl
  · rw [mm_pR, r_32_0_3 (hx := hx)]
    refine fin (-1) ⟨_, rfl, by omega, by omega⟩ ?_
    rw [r_254_e (hy := hy)]
    refine m183n hy hc (kk_lku (by decide) (kk_lkr h)) ht hs ?_
    rw [mm_pI, r_254_0_6 (hy := hy), if_pos (by decide)]
    exact mfin _ _ rfl


