/-! a run moved: to the other pool's cells, or to a heap that is alike -/
def tt_S (x : mm_Id) : Bool := decide (x.1 < 36 ∧ 0 ≤ x.2.2 ∧ x.2.2 < 100)
theorem tt_Si {x : mm_Id} : tt_S x = true ↔ x.1 < 36 ∧ 0 ≤ x.2.2 ∧ x.2.2 < 100 := by unfold tt_S; exact decide_eq_true_iff
def tt_r (c : Int) (x : mm_Id) : mm_Id := if x.1 = 0 then x else (x.1, x.2.1, x.2.2 + c)
def tt_i (c : Int) (x : mm_Id) : mm_Id := if x.1 = 0 then x else (x.1, x.2.1, x.2.2 - c)
def tt_V (c : Int) : mm_V → mm_V
  | .inl x => .inl x
  | .inr none => .inr none
  | .inr (some x) => .inr (some (tt_r c x))
theorem tt_r1 (c : Int) (x : mm_Id) : (tt_r c x).1 = x.1 := by unfold tt_r; split <;> rfl
theorem tt_i1 (c : Int) (x : mm_Id) : (tt_i c x).1 = x.1 := by unfold tt_i; split <;> rfl
theorem tt_ri (c : Int) (x : mm_Id) : tt_i c (tt_r c x) = x := by
  unfold tt_i
  rw [tt_r1]
  by_cases q : x.1 = 0
  · rw [if_pos q]; unfold tt_r; rw [if_pos q]
  · rw [if_neg q]; unfold tt_r; rw [if_neg q]
    dsimp only
    rw [Int.add_sub_cancel]
theorem tt_ir (c : Int) (x : mm_Id) : tt_r c (tt_i c x) = x := by
  unfold tt_r
  rw [tt_i1]
  by_cases q : x.1 = 0
  · rw [if_pos q]; unfold tt_i; rw [if_pos q]
  · rw [if_neg q]; unfold tt_i; rw [if_neg q]
    dsimp only
    rw [Int.sub_add_cancel]
theorem tt_inj {c : Int} {x y : mm_Id} (h : tt_r c x = tt_r c y) : x = y := by rw [← tt_ri c x, h, tt_ri]
theorem tt_eq {c : Int} {x y : mm_Id} : tt_r c x = tt_r c y ↔ x = y := ⟨tt_inj, fun h => by rw [h]⟩
theorem tt_r0 (c : Int) : tt_r c mm_nul = mm_nul := rfl
theorem tt_rn {c : Int} {x : mm_Id} : tt_r c x = mm_nul ↔ x = mm_nul := ⟨fun h => tt_inj (c := c) (h.trans (tt_r0 c).symm), fun h => by rw [h]; rfl⟩
theorem tt_rz (x : mm_Id) : tt_r 0 x = x := by
  unfold tt_r
  split
  · rfl
  · rw [Int.add_zero]
theorem tt_SH {c : Int} {x : mm_Id} (hc : c = 0 ∨ c = 100) (hS : tt_S x = true) : mm_SH (tt_r c x) = mm_SH x := by
  rw [tt_Si] at hS
  unfold tt_r
  by_cases q : x.1 = 0
  · rw [if_pos q]
  · rw [if_neg q]
    rcases hc with rfl | rfl
    · rw [Int.add_zero]
    · unfold mm_SH
      rw [mm_flp (by exact hS.1) (by dsimp only; omega), mm_fl0 (x := x) hS.2.2]
      dsimp only
      rw [Int.add_sub_cancel]
/-- cells whose numbers are not moved -/
abbrev tt_X (D : Bool) (x : mm_Id) : Prop := x.1 = 0 ∨ D = true ∧ x.1 = 14
theorem tt_Xr {D : Bool} {c : Int} {x : mm_Id} : tt_X D (tt_r c x) = tt_X D x := by unfold tt_X; rw [tt_r1]
/-- the cells of a heap put into another's -/
def tt_m (c : Int) (D : Bool) (dn ds : Int) (h k : mm_H) : mm_H := (fun z j => if tt_S (tt_i c z) = true ∧ ¬ tt_X D z then h.1 (tt_i c z) j else k.1 z j, fun z j => if tt_S (tt_i c z) = true ∧ z.1 ≠ 0 then tt_r c (h.2.1 (tt_i c z) j) else k.2.1 z j, h.2.2.1 + dn, h.2.2.2 + ds)
section
variable {c dn ds N : Int} {D : Bool} {P : Int → Prop} {l s : List mm_V} {h k : mm_H} {i : mm_I} {r : List mm_V × List mm_V × mm_H}
theorem tt_m1 {x : mm_Id} {j : Int} (hS : tt_S x = true) (hD : ¬ tt_X D x) : (tt_m c D dn ds h k).1 (tt_r c x) j = h.1 x j := by
  show (if tt_S (tt_i c (tt_r c x)) = true ∧ ¬ tt_X D (tt_r c x) then h.1 (tt_i c (tt_r c x)) j else _) = _
  rw [tt_ri, if_pos (show tt_S x = true ∧ ¬ tt_X D (tt_r c x) from ⟨hS, by rw [tt_Xr]; exact hD⟩)]
theorem tt_m2 {x : mm_Id} {j : Int} (hS : tt_S x = true) (h0 : x.1 ≠ 0) : (tt_m c D dn ds h k).2.1 (tt_r c x) j = tt_r c (h.2.1 x j) := by
  show (if tt_S (tt_i c (tt_r c x)) = true ∧ (tt_r c x).1 ≠ 0 then tt_r c (h.2.1 (tt_i c (tt_r c x)) j) else _) = _
  rw [tt_ri, tt_r1, if_pos ⟨hS, h0⟩]
theorem tt_mu {x : mm_Id} {j v : Int} (hS : tt_S x = true) (hD : ¬ tt_X D x) : (mm_up (tt_m c D dn ds h k).1 (tt_r c x) j v, (tt_m c D dn ds h k).2) = tt_m c D dn ds (mm_up h.1 x j v, h.2) k := by
  refine Prod.ext ?_ rfl
  funext z i
  show mm_up (tt_m c D dn ds h k).1 (tt_r c x) j v z i = if tt_S (tt_i c z) = true ∧ ¬ tt_X D z then mm_up h.1 x j v (tt_i c z) i else k.1 z i
  unfold mm_up
  by_cases e : z = tt_r c x ∧ i = j
  · rw [if_pos e, e.1, tt_ri, if_pos (show tt_S x = true ∧ ¬ tt_X D (tt_r c x) from ⟨hS, by rw [tt_Xr]; exact hD⟩), if_pos ⟨rfl, e.2⟩]
  · have e2 : ¬ (tt_i c z = x ∧ i = j) := fun w => e ⟨by rw [← w.1, tt_ir], w.2⟩
    rw [if_neg e]
    simp only [if_neg e2]
    rfl
theorem tt_mr {x v : mm_Id} {j : Int} (hS : tt_S x = true) (h0 : x.1 ≠ 0) : ((tt_m c D dn ds h k).1, mm_up (tt_m c D dn ds h k).2.1 (tt_r c x) j (tt_r c v), (tt_m c D dn ds h k).2.2) = tt_m c D dn ds (h.1, mm_up h.2.1 x j v, h.2.2) k := by
  refine Prod.ext rfl (Prod.ext ?_ rfl)
  funext z i
  show mm_up (tt_m c D dn ds h k).2.1 (tt_r c x) j (tt_r c v) z i = if tt_S (tt_i c z) = true ∧ z.1 ≠ 0 then tt_r c (mm_up h.2.1 x j v (tt_i c z) i) else k.2.1 z i
  unfold mm_up
  by_cases e : z = tt_r c x ∧ i = j
  · rw [if_pos e, e.1, tt_ri, tt_r1, if_pos ⟨hS, h0⟩, if_pos ⟨rfl, e.2⟩]
  · have e2 : ¬ (tt_i c z = x ∧ i = j) := fun w => e ⟨by rw [← w.1, tt_ir], w.2⟩
    rw [if_neg e]
    simp only [if_neg e2]
    rfl
theorem tt_mc {x y : mm_Id} {sp dp n : Int} (hx : tt_S x = true) (hxD : ¬ tt_X D x) (hy : tt_S y = true) (hyD : ¬ tt_X D y) : (mm_cp (tt_m c D dn ds h k).1 (tt_r c x) sp (tt_r c y) dp n, (tt_m c D dn ds h k).2) = tt_m c D dn ds (mm_cp h.1 x sp y dp n, h.2) k := by
  refine Prod.ext ?_ rfl
  funext z i
  show mm_cp (tt_m c D dn ds h k).1 (tt_r c x) sp (tt_r c y) dp n z i = if tt_S (tt_i c z) = true ∧ ¬ tt_X D z then mm_cp h.1 x sp y dp n (tt_i c z) i else k.1 z i
  unfold mm_cp
  by_cases e : z = tt_r c y ∧ dp ≤ i ∧ i < dp + n
  · rw [if_pos e, e.1, tt_ri, if_pos (show tt_S y = true ∧ ¬ tt_X D (tt_r c y) from ⟨hy, by rw [tt_Xr]; exact hyD⟩), if_pos ⟨rfl, e.2⟩]
    exact tt_m1 hx hxD
  · have e2 : ¬ (tt_i c z = y ∧ dp ≤ i ∧ i < dp + n) := fun w => e ⟨by rw [← w.1, tt_ir], w.2⟩
    rw [if_neg e]
    simp only [if_neg e2]
    rfl
/-- when cells live and are made -/
def tt_K (c dn N : Int) (P : Int → Prop) : Prop := (c = 0 ∨ c = 100) ∧ ∀ n, P n → (∀ x, tt_S x = true → (mm_SH x).1 ≠ 0 → mm_lv x n = true → mm_lv (tt_r c x) (n + dn) = true) ∧
  ((mm_SH (mm_be n)).1 ≠ 0 → (mm_SH (mm_be n)).1 < 10 → n + 1 ≤ N → mm_be (n + dn) = tt_r c (mm_be n) ∧ tt_S (mm_be n) = true ∧ P (n + 1))
def tt_C (P : Int → Prop) (h : mm_H) : Prop := (∀ x j, tt_S x = true → tt_S (h.2.1 x j) = true) ∧ P h.2.2.1
/-- rows that may be moved: D: none that looks at a Disks -/
def tt_n (D : Bool) (R : Nat → Bool) (i : mm_I) : Bool := decide (i.1 ≠ 67 ∧ i.1 ≠ 96) && (!D || decide (¬ (60 ≤ i.1 ∧ i.1 < 67 ∧ i.2.2.1 = 2))) && (decide (¬ (85 ≤ i.1 ∧ i.1 < 89)) || R i.2.1)
theorem tt_nI {R : Nat → Bool} (q : tt_n D R i = true) : (i.1 ≠ 67 ∧ i.1 ≠ 96) ∧ (D = true → 60 ≤ i.1 → i.1 < 67 → i.2.2.1 ≠ 2) ∧ (85 ≤ i.1 → i.1 < 89 → R i.2.1 = true) := by
  unfold tt_n at q
  simp only [Bool.and_eq_true, Bool.or_eq_true, decide_eq_true_eq, Bool.not_eq_true'] at q
  refine ⟨q.1.1, fun d a b e => ?_, fun a b => ?_⟩
  · rcases q.1.2 with w | w
    · rw [w] at d; cases d
    · exact w ⟨a, b, e⟩
  · rcases q.2 with w | w
    · exact absurd ⟨a, b⟩ w
    · exact w
theorem tt_14 {x : mm_Id} (hS : tt_S x = true) (h : x.1 = 14) : mm_SH x = (1, 2) ∨ mm_SH x = (0, 0) := by
  rw [tt_Si] at hS
  obtain ⟨f, t, n⟩ := x
  have h : f = 14 := h
  subst h
  rw [mm_SH_lo hS.2.2]
  show mm_on (14, t, n) (1, 2) = _ ∨ _
  unfold mm_on
  split
  · exact Or.inl rfl
  · exact Or.inr (by rename_i w; show mm_on (14, t, n) (1, 2) = _; unfold mm_on; rw [if_neg w])
theorem tt_x0 {x : mm_Id} {kd : Nat} {q : Int} (hS : tt_S x = true) (hx : mm_SH x = (kd, q)) (h0 : kd ≠ 0) : x.1 ≠ 0 := fun e => by
  rw [tt_Si] at hS
  obtain ⟨f, t, n⟩ := x
  have e : f = 0 := e
  subst e
  rw [mm_SH_lo hS.2.2] at hx
  have hx : ((0, 0) : Nat × Int) = (kd, q) := hx
  exact h0 (congrArg Prod.fst hx).symm
theorem tt_nd {x : mm_Id} {kd : Nat} {q : Int} (hS : tt_S x = true) (hx : mm_SH x = (kd, q)) (h0 : kd ≠ 0) (h : D = true → kd = 1 → q ≠ 2) : ¬ tt_X D x := by
  rintro (e | ⟨d, e⟩)
  · exact tt_x0 hS hx h0 e
  · rcases tt_14 hS e with w | w
    · have := hx.symm.trans w
      have e1 : kd = 1 := congrArg Prod.fst this
      have e2 : q = 2 := congrArg Prod.snd this
      exact h d e1 e2
    · have := hx.symm.trans w
      exact h0 (congrArg Prod.fst this)
theorem tt_nd2 {x : mm_Id} (hS : tt_S x = true) (h2 : 2 ≤ (mm_SH x).1) : ¬ tt_X D x := tt_nd (kd := (mm_SH x).1) (q := (mm_SH x).2) hS rfl (by omega) (fun _ _ => by omega)
theorem tt_ok {x : mm_Id} {n q : Int} {kd : Nat} (K : tt_K c dn N P) (hP : P n) (hS : tt_S x = true) (h0 : kd ≠ 0) (ho : mm_ok x n kd q = true) : mm_ok (tt_r c x) (n + dn) kd q = true := by
  unfold mm_ok at ho ⊢
  rw [Bool.and_eq_true, decide_eq_true_iff] at ho ⊢
  rw [tt_SH K.1 hS]
  exact ⟨ho.1, (K.2 n hP).1 x hS (by rw [ho.1]; exact h0) ho.2⟩
theorem tt_in {x : mm_Id} {n j : Int} {kd : Nat} (K : tt_K c dn N P) (hP : P n) (hS : tt_S x = true) (h0 : kd ≠ 0) (ho : mm_in x n kd j = true) : mm_in (tt_r c x) (n + dn) kd j = true := by
  unfold mm_in at ho ⊢
  rw [Bool.and_eq_true, Bool.and_eq_true, Bool.and_eq_true, decide_eq_true_iff, decide_eq_true_iff, decide_eq_true_iff] at ho ⊢
  rw [tt_SH K.1 hS]
  exact ⟨⟨⟨ho.1.1.1, (K.2 n hP).1 x hS (by rw [ho.1.1.1]; exact h0) ho.1.1.2⟩, ho.1.2⟩, ho.2⟩
theorem tt_inN {x : mm_Id} {n j : Int} {kd : Nat} (hc : c = 0 ∨ c = 100) (hS : tt_S x = true) (h0 : (mm_SH x).1 ≠ kd) : mm_in (tt_r c x) n kd j = false := by
  unfold mm_in
  rw [tt_SH hc hS, decide_eq_false h0]
  rfl
theorem tt_i1k {x : mm_Id} {n j : Int} {kd : Nat} (q : mm_in x n kd j = true) : (mm_SH x).1 = kd := (mm_inI q).1
theorem tt_st {l : List mm_V} {k : Nat} {v : mm_V} : (mm_st l k v).map (tt_V c) = mm_st (l.map (tt_V c)) k (tt_V c v) := by
  unfold mm_st
  cases k with
  | zero => simp only [List.map_set]
  | succ j =>
    simp only [List.getElem?_map]
    cases hl : l[j]? with
    | none => simp only [Option.map_none, List.map_set]
    | some w =>
      rcases w with (w | w) | (_ | w)
      · simp only [Option.map_some, tt_V, List.map_set]
      · simp only [Option.map_some, tt_V, List.map_set]
      · simp only [Option.map_some, tt_V, List.map_set]
      · simp only [Option.map_some, tt_V, List.map_set]
theorem tt_wt (v : mm_V) : mm_wt (tt_V c v) = mm_wt v := by rcases v with (v | v) | (_ | v) <;> rfl
theorem tt_ws : ((s.map (tt_V c)).map mm_wt).sum = (s.map mm_wt).sum := by
  rw [List.map_map]
  congr 1
  exact List.map_congr_left (fun v _ => tt_wt v)
/-- a row that leaves the cells alone, moved -/
def tt_0 (c : Int) (l s : List mm_V) (h : mm_H) (run : List mm_V → List mm_V → mm_H → mm_R) (r : List mm_V × List mm_V × mm_H) : Prop := mm_SLs tt_S r.1 ∧ mm_SLs tt_S r.2.1 ∧ r.2.2 = h ∧ ∀ h', run (l.map (tt_V c)) (s.map (tt_V c)) h' = some (r.1.map (tt_V c), r.2.1.map (tt_V c), h')
theorem tt_x1 (hl : mm_SLs tt_S l) (hs : mm_SLs tt_S s) (e : mm_x1 i l s h = some r) : tt_0 c l s h (mm_x1 i) r := by
  obtain ⟨a, b, d, f, g⟩ := i
  have S0 : tt_S mm_nul = true := by decide
  unfold tt_0
  unfold mm_x1 at e ⊢
  simp only at e ⊢
  split at e
  · cases e; exact ⟨hl, mm_SLc (mm_SVI _) hs, rfl, fun _ => rfl⟩
  · cases e; exact ⟨hl, mm_SLc (mm_SVL _) hs, rfl, fun _ => rfl⟩
  · split at e
    · rename_i q; cases e; exact ⟨hl, mm_SLc (mm_SVI _) hs, rfl, fun _ => by simp only [List.getElem?_map, q, Option.map_some, tt_V, List.map_cons]⟩
    · cases e
  · split at e
    · rename_i q; cases e; exact ⟨hl, mm_SLc (mm_SVL _) hs, rfl, fun _ => by simp only [List.getElem?_map, q, Option.map_some, tt_V, List.map_cons]⟩
    · cases e
  · split at e
    · rename_i q; cases e; exact ⟨hl, mm_SLc (mm_SLg hl q) hs, rfl, fun _ => by simp only [List.getElem?_map, q, Option.map_some, tt_V, List.map_cons]⟩
    · cases e
  · split at e
    · split at e
      · rename_i q; cases e; exact ⟨mm_SLst hl (mm_SVI _), mm_SLt hs, rfl, fun _ => by simp only [List.map_cons, tt_V, List.length_map, if_pos q, tt_st]⟩
      · cases e
    · cases e
  · split at e
    · split at e
      · rename_i q; cases e; exact ⟨mm_SLset (mm_SLst hl (mm_SVL _)) mm_SVU, mm_SLt hs, rfl, fun _ => by simp only [List.map_cons, tt_V, List.length_map, if_pos q, List.map_set, tt_st]⟩
      · cases e
    · cases e
  · split at e
    · split at e
      · rename_i q; cases e; exact ⟨mm_SLst hl (mm_SLh hs), mm_SLt hs, rfl, fun _ => by simp only [List.map_cons, tt_V, List.length_map, if_pos q, tt_st]⟩
      · cases e
    · cases e
  · split at e
    · rename_i q; cases e; exact ⟨mm_SLset hl (mm_SVI _), hs, rfl, fun _ => by simp only [List.getElem?_map, q, Option.map_some, tt_V, List.map_set]⟩
    · cases e
  · split at e
    · cases e; exact ⟨hl, mm_SLc (mm_SVI _) hs, rfl, fun _ => rfl⟩
    · cases e; exact ⟨hl, mm_SLc (mm_SLh hs) hs, rfl, fun _ => rfl⟩
    · cases e
  · split at e
    · cases e; exact ⟨hl, mm_SLt hs, rfl, fun _ => rfl⟩
    · cases e; exact ⟨hl, mm_SLt hs, rfl, fun _ => rfl⟩
    · cases e
  · split at e
    · cases e; exact ⟨hl, mm_SLc (mm_SVI _) (mm_SLc (mm_SLh (mm_SLt hs)) hs), rfl, fun _ => rfl⟩
    · cases e
  · cases e; exact ⟨hl, mm_SLc (mm_SVR S0) hs, rfl, fun _ => rfl⟩
  · split at e
    · cases e; exact ⟨hl, mm_SLc (mm_SVI _) (mm_SLt hs), rfl, fun _ => rfl⟩
    · cases e
  · cases e
theorem tt_x2 (hl : mm_SLs tt_S l) (hs : mm_SLs tt_S s) (e : mm_x2 i l s h = some r) : tt_0 c l s h (mm_x2 i) r := by
  obtain ⟨a, b, d, f, g⟩ := i
  unfold tt_0
  unfold mm_x2 at e ⊢
  simp only at e ⊢
  split at e
  all_goals first
    | (cases e; done)
    | (split at e
       all_goals first
         | (cases e; done)
         | (split at e
            all_goals first
              | (cases e; done)
              | (rename_i q; cases e; exact ⟨hl, mm_SLc (mm_SVI _) (mm_SLt (mm_SLt hs)), rfl, fun _ => by simp only [List.map_cons, tt_V, if_neg q]⟩)
              | (rename_i q; cases e; exact ⟨hl, mm_SLc (mm_SVL _) (mm_SLt (mm_SLt hs)), rfl, fun _ => by simp only [List.map_cons, tt_V, if_neg q]⟩))
         | (cases e; exact ⟨hl, mm_SLc (mm_SVI _) (mm_SLt (mm_SLt hs)), rfl, fun _ => rfl⟩)
         | (cases e; exact ⟨hl, mm_SLc (mm_SVL _) (mm_SLt (mm_SLt hs)), rfl, fun _ => rfl⟩)
         | (cases e; exact ⟨hl, mm_SLc (mm_SVI _) (mm_SLt hs), rfl, fun _ => rfl⟩)
         | (cases e; exact ⟨hl, mm_SLc (mm_SVL _) (mm_SLt hs), rfl, fun _ => rfl⟩))
end
