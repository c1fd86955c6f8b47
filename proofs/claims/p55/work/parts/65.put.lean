/-! the calls of both: what is put down, quotas, limits, holds -/
theorem kk_mixE {a c c' : mm_Id → Int → Int} (h : ∀ x j, 40 ≤ x.1 → c x j = c' x j) : kk_mix a c = kk_mix a c' := by
  funext x j
  unfold kk_mix
  split
  · rfl
  · rename_i q
    exact h x j (by omega)
/-- cells of the rest -/
def kk_kgx (x : mm_Id) (j : Int) : Prop := x = (1, 0, 0) ∧ (j = 9 ∨ j = 12) ∨ x.1 = 5 ∨ x.1 = 6 ∨ x.1 = 14 ∨ x.1 = 65 ∨ x = (40, 0, 0) ∧ (j = 1 ∨ j = 29 ∨ j = 30 ∨ j = 34 ∨ j = 35 ∨ j = 36) ∨ x.1 = 24 ∧ (x.2.1 = 26 ∨ x.2.1 = 27)
theorem kk_KGe {h g : mm_Id → Int → Int} (e : ∀ x j, kk_kgx x j → g x j = h x j) (k : kk_KG h) : kk_KG g := by
  have e1 : ∀ j, j = 9 ∨ j = 12 → g (1, 0, 0) j = h (1, 0, 0) j := fun j hj => e _ _ (Or.inl ⟨rfl, hj⟩)
  have e5 : ∀ j, g (5, 0, 0) j = h (5, 0, 0) j := fun j => e _ _ (by simp [kk_kgx])
  have e6 : ∀ j, g (6, 0, 0) j = h (6, 0, 0) j := fun j => e _ _ (by simp [kk_kgx])
  have e14 : ∀ j, g (14, 0, 0) j = h (14, 0, 0) j := fun j => e _ _ (by simp [kk_kgx])
  have e65 : ∀ j, g (65, 0, 0) j = h (65, 0, 0) j := fun j => e _ _ (by simp [kk_kgx])
  have e40 : ∀ j, j = 1 ∨ j = 29 ∨ j = 30 ∨ j = 34 ∨ j = 35 ∨ j = 36 → g (40, 0, 0) j = h (40, 0, 0) j := fun j hj => e _ _ (Or.inr (Or.inr (Or.inr (Or.inr (Or.inr (Or.inl ⟨rfl, hj⟩))))))
  have e26 : ∀ n, g (24, 26, n) 0 = h (24, 26, n) 0 := fun n => e _ _ (by simp [kk_kgx])
  have e27 : ∀ n, g (24, 27, n) 0 = h (24, 27, n) 0 := fun n => e _ _ (by simp [kk_kgx])
  unfold kk_KG at k ⊢
  rw [e1 12 (by decide), e1 9 (by decide), e40 29 (by decide), e40 30 (by decide), e40 34 (by decide), e40 1 (by decide), e40 35 (by decide), e40 36 (by decide)]
  simp only [e5, e6, e14, e65, e26, e27]
  exact k
section
variable {b : Int} {a c : mm_Id → Int → Int} {dh : Int → Int}
theorem kk_xR (hW : kk_W b (kk_mix a c) dh) : kk_R a :=
  kk_Rcong (fun t n p => (kk_mixC (a := a) (c := c) (x := (27, t, n)) (by simp)).symm) (kk_mixC (a := a) (c := c) (x := (15, 0, 0)) (by decide)).symm (kk_mixC (a := a) (c := c) (x := (15, 0, 0)) (by decide)).symm (fun r => (kk_mixC (a := a) (c := c) (x := (17, 0, 0)) (by decide)).symm) (fun r => (kk_mixC (a := a) (c := c) (x := (18, 0, 0)) (by decide)).symm) (fun r => (kk_mixC (a := a) (c := c) (x := (19, 0, 0)) (by decide)).symm) hW.1.2.2.2.2.2.2.2.1
theorem kk_xn (hW : kk_W b (kk_mix a c) dh) : ∀ t n, 0 ≤ t → t < 18 → 1 ≤ n → n < 37 → kk_nw a t n := fun t n t0 t1 n0 n1 => by
  have w := hW.1.2.1 t n (by unfold mm_isT; omega) n0 n1
  exact ⟨w.2.2.2.2.2.1, w.2.2.2.1, w.2.2.2.2.2.2.1⟩
theorem kk_xa (hW : kk_W b (kk_mix a c) dh) : ∀ t, 13 ≤ t → t < 18 → a (22, t, 0) 2 = 1 := fun t t0 t1 => by
  have w := hW.1.2.2.2.2.2.2.2.2.2.1 t (by unfold mm_isT; omega)
  unfold kk_as at w
  rw [if_neg (by omega)] at w
  exact w
theorem kk_xh (hW : kk_W b (kk_mix a c) dh) : ∀ k, 0 ≤ k → k < 13 → c (60, 0, 0) k = 0 ∨ c (60, 0, 0) k = 1 := fun k k0 k1 => hW.2.2.1.2.2.2.2.2.2.2.2.2.1 k k0 (by omega)
theorem kk_xm (hW : kk_W b (kk_mix a c) dh) : ∀ k n, 0 ≤ k → k < 13 → 1 ≤ n → n < 37 → kk_mw c (36 * k + n - 1) := fun k n k0 k1 n0 n1 => (hW.1.2.2.2.2.1 k n k0 (by omega) n0 n1).1
end
section
variable {hi : mm_Id → Int → Int} {dh dh' : Int → Int} {nx ns : Int} {Q : mm_V → mm_H → Prop} {b : Int} {c : mm_Id → Int → Int}
theorem s64W (hx : 5275 ≤ nx) (hW : kk_W b (kk_mix hi c) dh')
    (K : ∀ h2, kk_pdC hi h2 → (∀ x j, 40 ≤ x.1 → h2 x j = hi x j) → (∀ x j, 8 ≤ x.1 → x.1 ≤ 13 → h2 x j = hi x j) → Q (zI (hi (1, 0, 0) 13)) (mm_z h2 dh nx ns)) : mm_Cl 64 [zR (1, 0, 0)] (mm_z hi dh nx ns) Q :=
  s64p hx (kk_xR hW) (kk_xn hW) (kk_xa hW) K
theorem m208W (hy : 10581 ≤ nx) (hW : kk_W b (kk_mix c hi) dh')
    (K : ∀ h2, kk_pdM hi h2 → (∀ x j, x.1 < 40 → h2 x j = hi x j) → (∀ x j, kk_scr x j → h2 x j = hi x j) → Q zU (mm_z h2 dh nx ns)) : mm_Cl 208 [zR (40, 0, 0)] (mm_z hi dh nx ns) Q :=
  m208p hy (kk_xh hW) (kk_xm hW) K
end
theorem kk_scrC {x : mm_Id} {j : Int} (hs : kk_scr x j) : 40 ≤ x.1 ∨ 8 ≤ x.1 ∧ x.1 ≤ 13 := by
  rcases hs with q | q | ⟨q, _⟩ | q
  · exact Or.inr q
  · exact Or.inl (by omega)
  · rw [q]; exact Or.inl (by decide)
  · exact Or.inl (by omega)
/-- cells of scripts are left alone by an update elsewhere -/
theorem kk_scrU {f : mm_Id → Int → Int} {x y : mm_Id} {i j v : Int} (hs : kk_scr x j) (hy : (y.1 < 8 ∨ 13 < y.1 ∧ y.1 < 40 ∨ 40 < y.1 ∧ y.1 < 67) ∨ y = (40, 0, 0) ∧ (i < 37 ∨ 46 < i)) : mm_up f y i v x j = f x j := by
  refine mm_upne' ?_
  rintro ⟨rfl, rfl⟩
  rcases hs with q | q | ⟨q, q2⟩ | q
  · rcases hy with y | ⟨y, _⟩
    · omega
    · rw [y] at q; simp at q
  · rcases hy with y | ⟨y, _⟩
    · omega
    · rw [y] at q; simp at q
  · rcases hy with y | ⟨_, y⟩
    · rw [q] at y; simp at y
    · omega
  · rcases hy with y | ⟨y, _⟩
    · omega
    · rw [y] at q; simp at q
/-- commit and sync -/
theorem kk_commit {b : Int} {h : mm_Id → Int → Int} {dh : Int → Int} {nx ns : Int} (hy : 10581 ≤ nx) (hc : kk_core b h dh) (hb : b + 1 ≤ 1000000) {k : Nat} {Q : mm_V → mm_H → Prop}
    (K : ∀ g, (∀ x j, 40 ≤ x.1 → g x j = h x j) → (∀ Q2 : mm_V → mm_H → Prop, (∀ g2, kk_core (b + 1) g2 dh → (∀ x j, kk_scr x j → g2 x j = h x j) → Q2 zU (mm_z g2 dh nx ns)) → mm_Cl 208 [zR (40, 0, 0)] (mm_z (mm_up g (40, 0, 0) 0 0) dh nx ns) Q2) → Q (zI (h (1, 0, 0) 13)) (mm_z g dh nx ns)) : mm_Cl 64 [zR (1, 0, 0)] (mm_z h dh nx ns) Q := by
  have hx : 5275 ≤ nx := by omega
  have W0 := (kk_core0 (v := 0) hc).1
  have e0 : kk_mix h (mm_up h (40, 0, 0) 0 0) = mm_up h (40, 0, 0) 0 0 := by
    funext x j
    unfold kk_mix
    split
    · rename_i q
      rw [mm_upne' (by rintro ⟨q1, _⟩; rw [q1] at q; simp at q)]
    · rfl
  rw [← e0] at W0
  refine s64W hx W0 (fun g k1 k2 k3 => ?_)
  refine K g k2 (fun Q2 K2 => ?_)
  have e1 : kk_mix h (mm_up g (40, 0, 0) 0 0) = kk_mix h (mm_up h (40, 0, 0) 0 0) := kk_mixE (fun x j q => by unfold mm_up; rw [k2 x j q])
  rw [← e1] at W0
  refine m208W hy W0 (fun g2 m1 m2 m3 => ?_)
  refine K2 g2 (kk_coreS hb (kk_downC W0 k1 m1 (fun x j q => ?_))) (fun x j hs => ?_)
  · rw [m2 x j q, mm_upne' (by rintro ⟨q1, _⟩; rw [q1] at q; simp at q)]
  · rw [m3 x j hs, kk_scrU hs (Or.inr ⟨rfl, by omega⟩)]
    rcases kk_scrC hs with q | q
    · exact k2 x j q
    · exact k3 x j q.1 q.2
theorem kk_ac {b : Int} {h : mm_Id → Int → Int} {dh : Int → Int} (hc : kk_core b h dh) : h (1, 0, 0) 13 = h (40, 0, 0) 33 ∧ 0 ≤ h (1, 0, 0) 13 ∧ h (1, 0, 0) 13 < 100 := hc.2.2.1
theorem c_39 {b : Int} {h : mm_Id → Int → Int} {dh : Int → Int} {nx ns : Int} (hy : 10581 ≤ nx) (hc : kk_core b h dh) (hb : b + 1 ≤ 1000000) : kk_call 39 265 [] b h dh nx ns kk_SI := by
  have hx : 5275 ≤ nx := by omega
  have a := kk_ac hc
  unfold kk_call
  rw [r_39_e (hx := hx)]
  refine kk_commit (k := 0) hy hc hb (fun g e K => ?_)
  rw [mm_pI, r_39_0_2 (hx := hx)]
  refine ⟨⟨_, rfl, by omega, by omega⟩, g, dh, rfl, ?_⟩
  rw [r_265_e (hy := hy)]
  refine K _ (fun g2 q1 q2 => ?_)
  rw [mm_pU, r_265_0_8 (hy := hy)]
  exact ⟨by rw [mm_upj (by decide), e _ _ (by decide), a.1], g2, rfl, q1, q2⟩
theorem c_40 {b : Int} {h : mm_Id → Int → Int} {dh : Int → Int} {nx ns : Int} (hy : 10581 ≤ nx) (hc : kk_core b h dh) (hb : b + 1 ≤ 1000000) : kk_call 40 266 [] b h dh nx ns kk_SI := by
  have hx : 5275 ≤ nx := by omega
  have a := kk_ac hc
  unfold kk_call
  rw [r_40_e (hx := hx)]
  refine kk_commit (k := 0) hy hc hb (fun g e K => ?_)
  rw [mm_pI, r_40_0_2 (hx := hx)]
  refine ⟨⟨_, rfl, by omega, by omega⟩, g, dh, rfl, ?_⟩
  rw [r_266_e (hy := hy)]
  refine K _ (fun g2 q1 q2 => ?_)
  rw [mm_pU, r_266_0_8 (hy := hy)]
  exact ⟨by rw [mm_upj (by decide), e _ _ (by decide), a.1], g2, rfl, q1, q2⟩

