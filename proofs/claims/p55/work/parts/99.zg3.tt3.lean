/-! a run moved: jumps, calls, and the run -/
section
variable {c dn ds N : Int} {D : Bool} {P : Int → Prop} {l s : List mm_V} {h k : mm_H} {i : mm_I}
theorem tt_sh {x : mm_Id} (hc : c = 0 ∨ c = 100) (hS : tt_S x = true) (q : x = mm_nul ∨ mm_SH x ≠ (0, 0) ∧ x.1 < 90) : tt_r c x = mm_nul ∨ mm_SH (tt_r c x) ≠ (0, 0) ∧ (tt_r c x).1 < 90 := by
  rcases q with q | q
  · exact Or.inl (tt_rn.2 q)
  · exact Or.inr (by rw [tt_SH hc hS, tt_r1]; exact q)
theorem tt_j {o : Option Nat} {s1 : List mm_V} (hc : c = 0 ∨ c = 100) (hs : mm_SLs tt_S s) (e : mm_j i s = some (o, s1)) : mm_j i (s.map (tt_V c)) = some (o, s1.map (tt_V c)) := by
  obtain ⟨a, b, d, f, g⟩ := i
  unfold mm_j at e ⊢
  simp only at e ⊢
  split at e
  all_goals first
    | (cases e; done)
    | (cases e; rfl)
    | (split at e
       all_goals first
         | (cases e; done)
         | (cases e; rfl)
         | (split at e
            all_goals first
              | (cases e; done)
              | (cases e; rfl)
              | (rename_i q; cases e; simp only [List.map_cons, tt_V]; rw [q]; done)
              | (rename_i q
                 cases e
                 have hy := mm_SLx hs
                 have hx := mm_SLx (mm_SLt hs)
                 simp only [List.map_cons, tt_V]
                 rw [if_pos ⟨tt_sh hc hx q.1, tt_sh hc hy q.2⟩]
                 simp only [tt_eq])
              | (rename_i q
                 cases e
                 simp only [List.map_cons, tt_V, tt_rn]
                 first | rw [if_pos q] | rw [if_neg q])))
    | (split at e
       all_goals first
         | (cases e; done)
         | (rename_i q
            cases e
            simp only [List.map_cons, tt_V, tt_rn]
            first | rw [if_pos q] | rw [if_neg q]))
theorem tt_e1 (a : List mm_V) : mm_ent1 (a.map (tt_V c)) = (mm_ent1 a).map (tt_V c) := by
  induction a with
  | nil => rfl
  | cons v a ih =>
    rcases v with (v | v) | (_ | v)
    · show zI v :: mm_ent1 (a.map (tt_V c)) = _; rw [ih]; rfl
    · show zL v :: zU :: mm_ent1 (a.map (tt_V c)) = _; rw [ih]; rfl
    · show zU :: mm_ent1 (a.map (tt_V c)) = _; rw [ih]; rfl
    · show zR (tt_r c v) :: mm_ent1 (a.map (tt_V c)) = _; rw [ih]; rfl
theorem tt_en (y : Nat) (a : List mm_V) : mm_ent y (a.map (tt_V c)) = (mm_ent y a).map (tt_V c) := by
  unfold mm_ent
  rw [tt_e1, List.map_append, List.map_replicate, List.length_map]
  rfl
theorem tt_pu (v : mm_V) : mm_push (tt_V c v) (s.map (tt_V c)) = (mm_push v s).map (tt_V c) := by
  rcases v with (v | v) | (_ | v) <;> rfl
theorem tt_cl {a s1 : List mm_V} (K : tt_K c dn N P) (hs : mm_SLs tt_S s) (hc : tt_C P h) (e : mm_cl i s h = some (a, s1)) : mm_cl i (s.map (tt_V c)) (tt_m c D dn ds h k) = some (a.map (tt_V c), s1.map (tt_V c)) := by
  have ha := (mm_clS hs e).1
  unfold mm_cl at e ⊢
  have e1 : ((s.map (tt_V c)).take (mm_n i.2.1)).reverse = ((s.take (mm_n i.2.1)).reverse).map (tt_V c) := by rw [List.map_reverse, List.map_take]
  have e2 : (s.map (tt_V c)).drop (mm_n i.2.1) = (s.drop (mm_n i.2.1)).map (tt_V c) := by rw [List.map_drop]
  rw [e1, e2, tt_ws, tt_e1, List.length_map, List.length_map]
  split at e
  · rename_i q
    rw [if_pos q]
    split at e
    · rename_i q2
      cases e
      rw [if_pos q2]
    · rename_i q2
      rw [if_neg q2]
      split at e
      · rename_i x rest q3
        split at e
        · rename_i q4
          cases e
          rw [q3]
          simp only [List.map_cons, tt_V]
          rw [if_pos]
          rcases q4 with q4 | q4 | q4
          · exact Or.inl (tt_ok K hc.2 (mm_SLx ha) (by decide) q4)
          · exact (mm_SHno q4.2 (by decide)).elim
          · exact (mm_SHno q4.2 (by decide)).elim
        · cases e
      · cases e
  · cases e
theorem tt_rt {v : mm_V} (e : mm_rt i s = some v) : mm_rt i (s.map (tt_V c)) = some (tt_V c v) := by
  obtain ⟨a, b, d, f, g⟩ := i
  unfold mm_rt at e ⊢
  simp only at e ⊢
  split at e
  · split at e
    · cases e; rfl
    · cases e
  · split at e
    · cases e; rfl
    · cases e
  · split at e
    · cases e; rfl
    · cases e
  · split at e
    · cases e; rfl
    · cases e
  · split at e
    · split at e
      · rename_i q
        cases e
        simp only [List.map_cons, List.map_nil, tt_V]
        exact if_pos q
      · cases e
    · cases e
  · cases e
end
/-- the rows of a method, and of those that it calls -/
def tt_R (D : Bool) (R : Nat → Bool) : Prop := ∀ y, R y = true → ∀ b, ∀ i ∈ mm_blk y b, tt_n D R i = true
theorem tt_run {c dn ds N : Int} {D : Bool} {P : Int → Prop} {R : Nat → Bool} (K : tt_K c dn N P) (hR : tt_R D R) : ∀ (f y : Nat) (is : List mm_I) (l s : List mm_V) (h : mm_H) (v : mm_V) (h1 : mm_H), mm_run f y is l s h = some (v, h1) → R y = true → (∀ i ∈ is, tt_n D R i = true) → mm_SLs tt_S l → mm_SLs tt_S s → tt_C P h → h1.2.2.1 ≤ N →
    mm_SV tt_S v ∧ tt_C P h1 ∧ ∀ k, mm_run f y is (l.map (tt_V c)) (s.map (tt_V c)) (tt_m c D dn ds h k) = some (tt_V c v, tt_m c D dn ds h1 k) := by
  intro f
  induction f with
  | zero => intro y is l s h v h1 e; simp [mm_run] at e
  | succ f ih =>
    intro y is l s h v h1 e hy hi hl hs hc hN
    cases is with
    | nil => simp [mm_run] at e
    | cons i is =>
      have hi1 := hi i List.mem_cons_self
      have hi2 : ∀ j ∈ is, tt_n D R j = true := fun j q => hi j (List.mem_cons_of_mem _ q)
      unfold mm_run at e
      by_cases c1 : i.1 = 0 ∨ 40 ≤ i.1 ∧ i.1 < 60
      · rw [if_pos c1] at e
        cases hj : mm_j i s with
        | none => simp only [hj] at e; cases e
        | some a =>
          have hjk := fun o s1 (w : mm_j i s = some (o, s1)) => tt_j K.1 hs w
          rcases a with ⟨_ | b, s1⟩ <;> simp only [hj] at e
          · obtain ⟨q1, q2, q3⟩ := ih y is l s1 h v h1 e hy hi2 hl (mm_jS hs hj) hc hN
            exact ⟨q1, q2, fun k => by unfold mm_run; rw [if_pos c1]; simp only [hjk _ _ hj]; exact q3 k⟩
          · obtain ⟨q1, q2, q3⟩ := ih y _ l s1 h v h1 e hy (hR y hy b) hl (mm_jS hs hj) hc hN
            exact ⟨q1, q2, fun k => by unfold mm_run; rw [if_pos c1]; simp only [hjk _ _ hj]; exact q3 k⟩
      · rw [if_neg c1] at e
        by_cases c2 : 85 ≤ i.1 ∧ i.1 < 89
        · rw [if_pos c2] at e
          cases hcl : mm_cl i s h with
          | none => simp only [hcl] at e; cases e
          | some a =>
            rcases a with ⟨a, s1⟩
            simp only [hcl] at e
            obtain ⟨ha, hs1⟩ := mm_clS hs hcl
            cases hr : mm_run f i.2.1 (mm_blk i.2.1 0) (mm_ent i.2.1 a) [] h with
            | none => simp only [hr] at e; cases e
            | some b =>
              rcases b with ⟨w, h2⟩
              simp only [hr] at e
              have hRi := (tt_nI hi1).2.2 c2.1 c2.2
              obtain ⟨p1, p2, p3⟩ := ih _ _ _ _ h w h2 hr hRi (hR _ hRi 0) (mm_SLE ha) mm_SLn hc (by have := mm_mono _ _ _ _ _ _ _ _ e; omega)
              obtain ⟨q1, q2, q3⟩ := ih y is l _ h2 v h1 e hy hi2 hl (mm_SLp p1 hs1) p2 hN
              refine ⟨q1, q2, fun k => ?_⟩
              have hcl2 : mm_cl i (s.map (tt_V c)) (tt_m c D dn ds h k) = some (a.map (tt_V c), s1.map (tt_V c)) := tt_cl K hs hc hcl
              have p3k : mm_run f i.2.1 (mm_blk i.2.1 0) (mm_ent i.2.1 (a.map (tt_V c))) [] (tt_m c D dn ds h k) = some (tt_V c w, tt_m c D dn ds h2 k) := by
                rw [tt_en]
                exact p3 k
              unfold mm_run
              rw [if_neg c1, if_pos c2]
              simp only [hcl2, p3k, tt_pu]
              exact q3 k
        · rw [if_neg c2] at e
          by_cases c3 : 90 ≤ i.1 ∧ i.1 < 95
          · rw [if_pos c3] at e
            cases hr : mm_rt i s with
            | none => simp only [hr] at e; cases e
            | some w =>
              simp only [hr] at e
              cases e
              refine ⟨mm_rtS hs hr, hc, fun k => ?_⟩
              unfold mm_run
              rw [if_neg c1, if_neg c2, if_pos c3]
              simp only [tt_rt hr]
          · rw [if_neg c3] at e
            cases hx : mm_x i l s h with
            | none => simp only [hx] at e; cases e
            | some r =>
              simp only [hx] at e
              obtain ⟨p1, p2, p3, p4⟩ := tt_x (ds := ds) K hi1 (by have := mm_mono _ _ _ _ _ _ _ _ e; omega) hl hs hc hx
              obtain ⟨q1, q2, q3⟩ := ih y is _ _ _ v h1 e hy hi2 p1 p2 p3 hN
              refine ⟨q1, q2, fun k => ?_⟩
              unfold mm_run
              rw [if_neg c1, if_neg c2, if_neg c3]
              simp only [p4 k]
              exact q3 k
