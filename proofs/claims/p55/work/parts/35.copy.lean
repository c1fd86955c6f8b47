/-! a node becomes as another -/
def kk_F (f : Int) : Prop := f = 0 ∨ f = 1 ∨ f = 2 ∨ f = 3 ∨ f = 4 ∨ f = 5 ∨ f = 6 ∨ f = 11 ∨ f = 14
/-- the same data, blocks left out -/
def kk_sd (h : mm_Id → Int → Int) (t n : Int) (g : mm_Id → Int → Int) (t1 n1 : Int) : Prop :=
  (∀ f, kk_F f → h (24, t, n) f = g (24, t1, n1) f) ∧ (g (24, t1, n1) 0 = 2 → ∀ e, 0 ≤ e → e < 24 → h (25, t, n) e = g (25, t1, n1) e ∧ h (26, t, n) e = g (26, t1, n1) e) ∧
  (g (24, t1, n1) 0 = 3 → ∀ e, 0 ≤ e → e < 8 → h (30, t, n) e = g (30, t1, n1) e) ∧ (∀ e, 0 ≤ e → e < g (24, t1, n1) 11 → h (28, t, n) e = g (28, t1, n1) e ∧ h (29, t, n) e = g (29, t1, n1) e)
/-- what the data of a node lie in -/
def kk_nd (t n : Int) (x : mm_Id) (j : Int) : Prop := x = (24, t, n) ∧ j ≠ 9 ∨ x = (25, t, n) ∨ x = (26, t, n) ∨ x = (28, t, n) ∨ x = (29, t, n) ∨ x = (30, t, n)
theorem mm_cps {f : mm_Id → Int → Int} {x y : mm_Id} {sp dp n k : Int} (h : dp ≤ k) (h2 : k < dp + n) : mm_cp f x sp y dp n y k = f x (sp + (k - dp)) := by simp [mm_cp, h, h2]
theorem mm_cpx {f : mm_Id → Int → Int} {x y z : mm_Id} {sp dp n k : Int} (h : ¬ z = y) : mm_cp f x sp y dp n z k = f z k := by simp [mm_cp, h]
theorem kk_idt {a : Nat} {t n t1 n1 : Int} (h : ¬ (t1 = t ∧ n1 = n)) : ¬ ((a, t1, n1) : mm_Id) = (a, t, n) := by
  intro q
  injection q with _ q
  injection q with q1 q2
  exact h ⟨q1, q2⟩
section
variable {hi : mm_Id → Int → Int} {dh : Int → Int} {nx ns : Int} {Q : mm_V → mm_H → Prop} {t n t1 n1 : Int}
theorem s112 (ht : mm_isT t) (hn : mm_isN n) (ht1 : mm_isT t1) (hn1 : mm_isN n1) (hx : 5275 ≤ nx) (hne : ¬ (t1 = t ∧ n1 = n)) (hfr : hi (24, t1, n1) 14 = 0 ∨ hi (24, t1, n1) 14 = 1) (hkc : 0 ≤ hi (24, t1, n1) 11 ∧ hi (24, t1, n1) 11 ≤ 4)
    (K : ∀ h2, kk_sd h2 t n hi t1 n1 → (∀ x j, ¬ kk_nd t n x j → h2 x j = hi x j) → Q zU (mm_z h2 dh nx ns)) :
    mm_Cl 112 [zR (24, t, n), zR (24, t1, n1)] (mm_z hi dh nx ns) Q := by
  have d24 : ¬ ((24, t1, n1) : mm_Id) = (24, t, n) := kk_idt hne
  have d25 : ¬ ((25, t1, n1) : mm_Id) = (25, t, n) := kk_idt hne
  have d26 : ¬ ((26, t1, n1) : mm_Id) = (26, t, n) := kk_idt hne
  have d28 : ¬ ((28, t1, n1) : mm_Id) = (28, t, n) := kk_idt hne
  have d29 : ¬ ((29, t1, n1) : mm_Id) = (29, t, n) := kk_idt hne
  have d30 : ¬ ((30, t1, n1) : mm_Id) = (30, t, n) := kk_idt hne
  have loop : ∀ (k : Nat) (i : Int) (h : mm_Id → Int → Int), hi (24, t1, n1) 11 - i = k → 0 ≤ i → (∀ f, kk_F f → h (24, t, n) f = hi (24, t1, n1) f) → (hi (24, t1, n1) 0 = 2 → ∀ e, 0 ≤ e → e < 24 → h (25, t, n) e = hi (25, t1, n1) e ∧ h (26, t, n) e = hi (26, t1, n1) e) →
      (hi (24, t1, n1) 0 = 3 → ∀ e, 0 ≤ e → e < 8 → h (30, t, n) e = hi (30, t1, n1) e) → (∀ e, 0 ≤ e → e < i → h (28, t, n) e = hi (28, t1, n1) e ∧ h (29, t, n) e = hi (29, t1, n1) e) → (∀ x j, ¬ kk_nd t n x j → h x j = hi x j) →
      mm_Wp 112 (mm_blk 112 3) [zR (24, t, n), zR (24, t1, n1), zI i] [] (mm_z h dh nx ns) Q := by
    intro k
    induction k with
    | zero =>
      intro i h e1 e2 a1 a2 a3 a4 a5
      rw [r_112_3 (htx0 := ht) (hnx0 := hn) (htx1 := ht1) (hnx1 := hn1) (hx := hx), a1 11 (by unfold kk_F; omega), if_neg (by omega)]
      exact K h ⟨a1, a2, a3, fun e b1 b2 => a4 e b1 (by omega)⟩ a5
    | succ k ih =>
      intro i h e1 e2 a1 a2 a3 a4 a5
      rw [r_112_3 (htx0 := ht) (hnx0 := hn) (htx1 := ht1) (hnx1 := hn1) (hx := hx), a1 11 (by unfold kk_F; omega), if_pos (by omega), mm_wi (by omega) (by omega)]
      refine ⟨by omega, by omega, by omega, by omega, ?_⟩
      have s1 : h (28, t1, n1) i = hi (28, t1, n1) i := a5 _ _ (by unfold kk_nd; simp; exact fun q1 q2 => hne ⟨q1, q2⟩)
      have s2 : h (29, t1, n1) i = hi (29, t1, n1) i := a5 _ _ (by unfold kk_nd; simp; exact fun q1 q2 => hne ⟨q1, q2⟩)
      rw [mm_upf (by decide), s1, s2]
      refine ih (i + 1) _ (by omega) (by omega) (fun f hf => ?_) (fun q e b1 b2 => ?_) (fun q e b1 b2 => ?_) (fun e b1 b2 => ?_) (fun x j b => ?_)
      · rw [mm_upf (by decide), mm_upf (by decide)]; exact a1 f hf
      · rw [mm_upf (by decide), mm_upf (by decide), mm_upf (by decide), mm_upf (by decide)]; exact a2 q e b1 b2
      · rw [mm_upf (by decide), mm_upf (by decide)]; exact a3 q e b1 b2
      · rw [mm_upf (by decide)]
        by_cases c : e = i
        · rw [c, mm_ups, mm_ups]; exact ⟨rfl, rfl⟩
        · rw [mm_upj c, mm_upj c, mm_upf (by decide)]; exact a4 e b1 (by omega)
      · rw [mm_upx (by intro q; apply b; unfold kk_nd; simp [q]), mm_upx (by intro q; apply b; unfold kk_nd; simp [q])]; exact a5 x j b
  have blk1 : ∀ (h : mm_Id → Int → Int) (v : mm_V), (∀ f, kk_F f → h (24, t, n) f = hi (24, t1, n1) f) → (hi (24, t1, n1) 0 = 2 → ∀ e, 0 ≤ e → e < 24 → h (25, t, n) e = hi (25, t1, n1) e ∧ h (26, t, n) e = hi (26, t1, n1) e) → (∀ x j, ¬ kk_nd t n x j → h x j = hi x j) →
      mm_Wp 112 (mm_blk 112 1) [zR (24, t, n), zR (24, t1, n1), v] [] (mm_z h dh nx ns) Q := by
    intro h v a1 a2 a5
    have s1 : ∀ e, h (30, t1, n1) e = hi (30, t1, n1) e := fun e => a5 _ _ (by unfold kk_nd; simp; exact fun q1 q2 => hne ⟨q1, q2⟩)
    rw [r_112_1 (htx0 := ht) (hnx0 := hn) (htx1 := ht1) (hnx1 := hn1) (hx := hx), a1 0 (by unfold kk_F; omega)]
    split
    · rename_i h3
      refine ⟨by omega, ?_⟩
      rw [r_112_2 (htx0 := ht) (hnx0 := hn) (htx1 := ht1) (hnx1 := hn1) (hx := hx)]
      refine loop (hi (24, t1, n1) 11).toNat 0 _ (by omega) (by omega) (fun f hf => ?_) (fun q => absurd h3 (by omega)) (fun _ e b1 b2 => ?_) (fun e b1 b2 => by omega) (fun x j b => ?_)
      · rw [mm_cpx (mm_idf (by decide))]; exact a1 f hf
      · rw [mm_cps (by omega) (by omega), s1, show 0 + (e - 0) = e by omega]
      · rw [mm_cpx (by intro q; apply b; unfold kk_nd; simp [q])]; exact a5 x j b
    · rename_i h3
      rw [r_112_2 (htx0 := ht) (hnx0 := hn) (htx1 := ht1) (hnx1 := hn1) (hx := hx)]
      exact loop (hi (24, t1, n1) 11).toNat 0 _ (by omega) (by omega) a1 a2 (fun q => absurd q h3) (fun e b1 b2 => by omega) a5
  rw [r_112_e (htx0 := ht) (hnx0 := hn) (htx1 := ht1) (hnx1 := hn1) (hx := hx)]
  simp only [mm_upx d24]
  refine ⟨hfr, ?_⟩
  have top : ∀ (h : mm_Id → Int → Int) (v : mm_V), (∀ f, kk_F f → h (24, t, n) f = hi (24, t1, n1) f) → (∀ x j, ¬ kk_nd t n x j → h x j = hi x j) → (h (24, t, n) 0 = 2 → mm_Wp 112 (mm_blk 112 1) [zR (24, t, n), zR (24, t1, n1), v] [] (mm_z (mm_cp (mm_cp h (25, t1, n1) 0 (25, t, n) 0 24) (26, t1, n1) 0 (26, t, n) 0 24) dh nx ns) Q) ∧ (¬ h (24, t, n) 0 = 2 → mm_Wp 112 (mm_blk 112 1) [zR (24, t, n), zR (24, t1, n1), v] [] (mm_z h dh nx ns) Q) := by
    intro h v a1 a5
    refine ⟨fun h2 => ?_, fun h2 => ?_⟩
    · have s1 : ∀ e, h (25, t1, n1) e = hi (25, t1, n1) e := fun e => a5 _ _ (by unfold kk_nd; simp; exact fun q1 q2 => hne ⟨q1, q2⟩)
      have s2 : ∀ e, h (26, t1, n1) e = hi (26, t1, n1) e := fun e => a5 _ _ (by unfold kk_nd; simp; exact fun q1 q2 => hne ⟨q1, q2⟩)
      refine blk1 _ v (fun f hf => ?_) (fun _ e b1 b2 => ?_) (fun x j b => ?_)
      · rw [mm_cpx (mm_idf (by decide)), mm_cpx (mm_idf (by decide))]; exact a1 f hf
      · rw [mm_cpx (mm_idf (by decide)), mm_cps (by omega) (by omega), mm_cps (by omega) (by omega), mm_cpx (mm_idf (by decide)), s1, s2, show 0 + (e - 0) = e by omega]
        exact ⟨rfl, rfl⟩
      · rw [mm_cpx (by intro q; apply b; unfold kk_nd; simp [q]), mm_cpx (by intro q; apply b; unfold kk_nd; simp [q])]; exact a5 x j b
    · exact blk1 h v a1 (fun q => absurd (by rw [a1 0 (by unfold kk_F; omega)]; exact q) h2) a5
  split
  · rename_i h2
    refine ⟨by omega, by omega, (top _ _ ?_ ?_).1 h2⟩
    · intro f hf
      unfold kk_F at hf
      rcases hf with rfl | rfl | rfl | rfl | rfl | rfl | rfl | rfl | rfl <;> simp [mm_up]
    · intro x j b
      have b2 : x = (24, t, n) → j = 9 := fun q => Classical.byContradiction (fun q2 => b (Or.inl ⟨q, q2⟩))
      unfold mm_up
      grind
  · rename_i h2
    refine (top _ _ ?_ ?_).2 h2
    · intro f hf
      unfold kk_F at hf
      rcases hf with rfl | rfl | rfl | rfl | rfl | rfl | rfl | rfl | rfl <;> simp [mm_up]
    · intro x j b
      have b2 : x = (24, t, n) → j = 9 := fun q => Classical.byContradiction (fun q2 => b (Or.inl ⟨q, q2⟩))
      unfold mm_up
      grind
end

