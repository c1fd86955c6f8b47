/-! a run touches the cells of its own side only -/
def mm_mg (S : mm_Id → Bool) (a c : mm_H) : mm_H := (fun x j => if S x = true then a.1 x j else c.1 x j, fun x j => if S x = true then a.2.1 x j else c.2.1 x j, a.2.2)
def mm_SV (S : mm_Id → Bool) (v : mm_V) : Prop := ∀ x, v = zR x → S x = true
def mm_SLs (S : mm_Id → Bool) (l : List mm_V) : Prop := ∀ v, v ∈ l → mm_SV S v
def mm_SC (S : mm_Id → Bool) (h : mm_H) : Prop := (∀ x j, S x = true → S (h.2.1 x j) = true) ∧ 10581 ≤ h.2.2.1
def mm_SK (S : mm_Id → Bool) : Prop := S mm_nul = true ∧ S (91, 0, 0) = true ∧ S (94, 0, 0) = true ∧ ∀ x j, S x = true → S (mm_ror x j) = true
section
variable {S : mm_Id → Bool} {l s : List mm_V} {h c : mm_H} {i : mm_I} {r : List mm_V × List mm_V × mm_H}
theorem mm_mg1 {x : mm_Id} {j : Int} (q : S x = true) : (mm_mg S h c).1 x j = h.1 x j := if_pos q
theorem mm_mg2 {x : mm_Id} {j : Int} (q : S x = true) : (mm_mg S h c).2.1 x j = h.2.1 x j := if_pos q
theorem mm_SVI (n : Int) : mm_SV S (zI n) := fun x q => by simp at q
theorem mm_SVL (n : Int) : mm_SV S (zL n) := fun x q => by simp at q
theorem mm_SVU : mm_SV S zU := fun x q => by simp at q
theorem mm_SVR {x : mm_Id} (q : S x = true) : mm_SV S (zR x) := fun y e => by simp at e; rw [← e]; exact q
theorem mm_SLc {v : mm_V} (a : mm_SV S v) (b : mm_SLs S s) : mm_SLs S (v :: s) := fun w q => by
  rcases List.mem_cons.1 q with q | q
  · rw [q]; exact a
  · exact b w q
theorem mm_SLt {v : mm_V} (b : mm_SLs S (v :: s)) : mm_SLs S s := fun w q => b w (List.mem_cons_of_mem _ q)
theorem mm_SLh {v : mm_V} (b : mm_SLs S (v :: s)) : mm_SV S v := b v List.mem_cons_self
theorem mm_SLx {x : mm_Id} (b : mm_SLs S (zR x :: s)) : S x = true := b _ List.mem_cons_self x rfl
theorem mm_SLg {k : Nat} {v : mm_V} (b : mm_SLs S l) (q : l[k]? = some v) : mm_SV S v := b v (List.mem_of_getElem? q)
theorem mm_SLset {k : Nat} {v : mm_V} (b : mm_SLs S l) (a : mm_SV S v) : mm_SLs S (l.set k v) := fun w q => by
  rcases List.mem_or_eq_of_mem_set q with q | q
  · exact b w q
  · rw [q]; exact a
theorem mm_SLst {k : Nat} {v : mm_V} (b : mm_SLs S l) (a : mm_SV S v) : mm_SLs S (mm_st l k v) := by
  unfold mm_st
  split
  · exact mm_SLset b a
  · split
    · exact mm_SLset (mm_SLset b mm_SVU) a
    · exact mm_SLset b a
/-- what a row does that leaves the cells alone -/
def mm_S0 (S : mm_Id → Bool) (h : mm_H) (run : mm_H → mm_R) (r : List mm_V × List mm_V × mm_H) : Prop := mm_SLs S r.1 ∧ mm_SLs S r.2.1 ∧ r.2.2 = h ∧ ∀ h', run h' = some (r.1, r.2.1, h')
theorem mm_x1S (K : mm_SK S) (hl : mm_SLs S l) (hs : mm_SLs S s) (e : mm_x1 i l s h = some r) : mm_S0 S h (mm_x1 i l s) r := by
  obtain ⟨a, b, d, f, g⟩ := i
  unfold mm_S0
  unfold mm_x1 at e ⊢
  simp only at e ⊢
  split at e
  · cases e; exact ⟨hl, mm_SLc (mm_SVI _) hs, rfl, fun _ => rfl⟩
  · cases e; exact ⟨hl, mm_SLc (mm_SVL _) hs, rfl, fun _ => rfl⟩
  · split at e
    · rename_i q; cases e; exact ⟨hl, mm_SLc (mm_SVI _) hs, rfl, fun _ => rfl⟩
    · cases e
  · split at e
    · rename_i q; cases e; exact ⟨hl, mm_SLc (mm_SVL _) hs, rfl, fun _ => rfl⟩
    · cases e
  · split at e
    · rename_i q; cases e; exact ⟨hl, mm_SLc (mm_SLg hl q) hs, rfl, fun _ => rfl⟩
    · cases e
  · split at e
    · split at e
      · rename_i q; cases e; exact ⟨mm_SLst hl (mm_SVI _), mm_SLt hs, rfl, fun _ => by simp only [if_pos q]⟩
      · cases e
    · cases e
  · split at e
    · split at e
      · rename_i q; cases e; exact ⟨mm_SLset (mm_SLst hl (mm_SVL _)) mm_SVU, mm_SLt hs, rfl, fun _ => by simp only [if_pos q]⟩
      · cases e
    · cases e
  · split at e
    · split at e
      · rename_i q; cases e; exact ⟨mm_SLst hl (mm_SLh hs), mm_SLt hs, rfl, fun _ => by simp only [if_pos q]⟩
      · cases e
    · cases e
  · split at e
    · rename_i q; cases e; exact ⟨mm_SLset hl (mm_SVI _), hs, rfl, fun _ => rfl⟩
    · cases e
  · split at e
    · cases e; exact ⟨hl, mm_SLc (mm_SVI _) hs, rfl, fun _ => rfl⟩
    · cases e; exact ⟨hl, mm_SLc (mm_SLh hs) hs, rfl, fun _ => rfl⟩
    · cases e
  · split at e
    · cases e; exact ⟨hl, mm_SLt hs, rfl, fun _ => rfl⟩
    · cases e; exact ⟨hl, mm_SLt hs, rfl, fun _ => rfl⟩
    · cases e
  · split at e
    · cases e; exact ⟨hl, mm_SLc (mm_SVI _) (mm_SLc (mm_SLh (mm_SLt hs)) hs), rfl, fun _ => rfl⟩
    · cases e
  · cases e; exact ⟨hl, mm_SLc (mm_SVR K.1) hs, rfl, fun _ => rfl⟩
  · split at e
    · cases e; exact ⟨hl, mm_SLc (mm_SVI _) (mm_SLt hs), rfl, fun _ => rfl⟩
    · cases e
  · cases e
theorem mm_x2S (hl : mm_SLs S l) (hs : mm_SLs S s) (e : mm_x2 i l s h = some r) : mm_S0 S h (mm_x2 i l s) r := by
  obtain ⟨a, b, d, f, g⟩ := i
  unfold mm_S0
  unfold mm_x2 at e ⊢
  simp only at e ⊢
  split at e
  all_goals first
    | (cases e; done)
    | (split at e
       all_goals first
         | (cases e; done)
         | (split at e
            all_goals first
              | (cases e; done)
              | (rename_i q; cases e; exact ⟨hl, mm_SLc (mm_SVI _) (mm_SLt (mm_SLt hs)), rfl, fun _ => by simp only [if_neg q]⟩)
              | (rename_i q; cases e; exact ⟨hl, mm_SLc (mm_SVL _) (mm_SLt (mm_SLt hs)), rfl, fun _ => by simp only [if_neg q]⟩))
         | (cases e; exact ⟨hl, mm_SLc (mm_SVI _) (mm_SLt (mm_SLt hs)), rfl, fun _ => rfl⟩)
         | (cases e; exact ⟨hl, mm_SLc (mm_SVL _) (mm_SLt (mm_SLt hs)), rfl, fun _ => rfl⟩)
         | (cases e; exact ⟨hl, mm_SLc (mm_SVI _) (mm_SLt hs), rfl, fun _ => rfl⟩)
         | (cases e; exact ⟨hl, mm_SLc (mm_SVL _) (mm_SLt hs), rfl, fun _ => rfl⟩))
theorem mm_SHolt {x : mm_Id} (q : (mm_SHo x).1 ≠ 0 ∧ (mm_SHo x).1 < 10) : x.1 < 90 ∧ x.1 ≠ 0 := by
  apply Classical.byContradiction
  intro w
  obtain ⟨f, a, b⟩ := x
  unfold mm_SHo at q
  simp only at q w
  split at q <;> first | omega | skip
  all_goals simp only [mm_on, mm_oi] at q
  all_goals (split at q <;> simp at q)
theorem mm_SHlt {x : mm_Id} (q : (mm_SH x).1 ≠ 0 ∧ (mm_SH x).1 < 10) : x.1 < 90 ∧ x.1 ≠ 0 := by
  have := mm_SHolt (x := mm_fl x) q
  rwa [mm_fl1] at this
def mm_S1 (S : mm_Id → Bool) (h : mm_H) (run : mm_H → mm_R) (r : List mm_V × List mm_V × mm_H) : Prop := mm_SLs S r.1 ∧ mm_SLs S r.2.1 ∧ mm_SC S r.2.2 ∧ r.2.2.2.2 = h.2.2 ∧ (∀ x j, ¬ (x.1 < 90 ∧ x.1 ≠ 0) → r.2.2.1 x j = h.1 x j ∧ r.2.2.2.1 x j = h.2.1 x j) ∧ ∀ c, run (mm_mg S h c) = some (r.1, r.2.1, mm_mg S r.2.2 c)
theorem mm_S01 {run : mm_H → mm_R} (hc : mm_SC S h) (q : mm_S0 S h run r) : mm_S1 S h run r := by
  obtain ⟨q1, q2, q3, q4⟩ := q
  refine ⟨q1, q2, by rw [q3]; exact hc, by rw [q3], fun _ _ _ => by rw [q3]; exact ⟨rfl, rfl⟩, fun c => ?_⟩
  rw [q4, q3]
theorem mm_mgu {x : mm_Id} {j v : Int} (q : S x = true) : (mm_up (mm_mg S h c).1 x j v, (mm_mg S h c).2) = mm_mg S (mm_up h.1 x j v, h.2) c := by
  unfold mm_mg
  refine Prod.ext ?_ rfl
  funext y k
  show mm_up (fun x j => if S x = true then h.1 x j else c.1 x j) x j v y k = if S y = true then mm_up h.1 x j v y k else c.1 y k
  unfold mm_up
  by_cases e : y = x ∧ k = j
  · rw [if_pos e, if_pos e, e.1, if_pos q]
  · rw [if_neg e, if_neg e]
theorem mm_mgr {x v : mm_Id} {j : Int} (q : S x = true) : ((mm_mg S h c).1, mm_up (mm_mg S h c).2.1 x j v, (mm_mg S h c).2.2) = mm_mg S (h.1, mm_up h.2.1 x j v, h.2.2) c := by
  unfold mm_mg
  refine Prod.ext rfl (Prod.ext ?_ rfl)
  funext y k
  show mm_up (fun x j => if S x = true then h.2.1 x j else c.2.1 x j) x j v y k = if S y = true then mm_up h.2.1 x j v y k else c.2.1 y k
  unfold mm_up
  by_cases e : y = x ∧ k = j
  · rw [if_pos e, if_pos e, e.1, if_pos q]
  · rw [if_neg e, if_neg e]
theorem mm_SCu {x : mm_Id} {j v : Int} (hc : mm_SC S h) : mm_SC S (mm_up h.1 x j v, h.2) := hc
theorem mm_SCr {x v : mm_Id} {j : Int} (hc : mm_SC S h) (q : S v = true) : mm_SC S (h.1, mm_up h.2.1 x j v, h.2.2) := ⟨fun y k w => by
  show S (mm_up h.2.1 x j v y k) = true
  unfold mm_up
  split
  · exact q
  · exact hc.1 y k w, hc.2⟩
theorem mm_ok9 {x : mm_Id} {n : Int} {k : Nat} {d : Int} (hk : k ≠ 0 ∧ k < 10) (q : mm_ok x n k d = true) : x.1 < 90 ∧ x.1 ≠ 0 := by
  unfold mm_ok at q
  simp only [Bool.and_eq_true, decide_eq_true_eq] at q
  exact mm_SHlt (by rw [q.1]; exact hk)
theorem mm_in9 {x : mm_Id} {n j : Int} {k : Nat} (hk : k ≠ 0 ∧ k < 10) (q : mm_in x n k j = true) : x.1 < 90 ∧ x.1 ≠ 0 := by
  unfold mm_in at q
  simp only [Bool.and_eq_true, decide_eq_true_eq] at q
  exact mm_SHlt (by rw [q.1.1.1]; exact hk)
theorem mm_nn9 {x y : mm_Id} {j k v : Int} (q : x.1 < 90 ∧ x.1 ≠ 0) (w : ¬ (y.1 < 90 ∧ y.1 ≠ 0)) : mm_up h.1 x j v y k = h.1 y k := by
  unfold mm_up
  rw [if_neg (fun e => by rw [e.1] at w; omega)]
theorem mm_rr9 {x y v : mm_Id} {j k : Int} (q : x.1 < 90 ∧ x.1 ≠ 0) (w : ¬ (y.1 < 90 ∧ y.1 ≠ 0)) : mm_up h.2.1 x j v y k = h.2.1 y k := by
  unfold mm_up
  rw [if_neg (fun e => by rw [e.1] at w; omega)]
end

