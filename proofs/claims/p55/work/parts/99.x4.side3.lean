/-! a run touches the cells of its own side only: the rest, and the run -/
theorem mm_beN {k : Int} (hk : 10581 ≤ k) : ¬ ((mm_SH (mm_be k)).1 ≠ 0 ∧ (mm_SH (mm_be k)).1 < 10) := by
  have e : mm_be k = ((k - 10510).toNat, 0, 0) := by
    unfold mm_be
    rw [if_neg (by omega), if_neg (by omega)]
    unfold mm_beo
    rw [if_neg (by omega), if_neg (by omega), if_neg (by omega), if_neg (by omega), if_neg (by omega), if_neg (by omega), show k - 5275 - 5235 = k - 10510 by omega]
  obtain ⟨f, hf⟩ : ∃ f, f = (k - 10510).toNat := ⟨_, rfl⟩
  have f0 : 71 ≤ f := by omega
  rw [e, ← hf, mm_SH_lo (by show (0 : Int) < 100; decide)]
  intro q
  unfold mm_SHo at q
  simp only at q
  split at q <;> first | omega | skip
  all_goals simp only [mm_on] at q
  all_goals (split at q <;> simp at q)
section
variable {S : mm_Id → Bool} {l s : List mm_V} {h c : mm_H} {i : mm_I} {r : List mm_V × List mm_V × mm_H}
theorem mm_mgc {x y : mm_Id} {sp dp n : Int} (q : S x = true) (q2 : S y = true) : (mm_cp (mm_mg S h c).1 x sp y dp n, (mm_mg S h c).2) = mm_mg S (mm_cp h.1 x sp y dp n, h.2) c := by
  unfold mm_mg
  refine Prod.ext ?_ rfl
  funext z k
  show mm_cp (fun x j => if S x = true then h.1 x j else c.1 x j) x sp y dp n z k = if S z = true then mm_cp h.1 x sp y dp n z k else c.1 z k
  unfold mm_cp
  by_cases e : z = y ∧ dp ≤ k ∧ k < dp + n
  · rw [if_pos e, if_pos e, e.1, if_pos q2]
    exact if_pos q
  · rw [if_neg e, if_neg e]
theorem mm_SLn : mm_SLs S [] := fun v q => absurd q List.not_mem_nil
theorem mm_x5S (K : mm_SK S) (hl : mm_SLs S l) (hs : mm_SLs S s) (hc : mm_SC S h) (e : mm_x5 i l s h = some r) : mm_S1 S h (mm_x5 i l s) r := by
  obtain ⟨a, b, d, f, g⟩ := i
  have nb := mm_beN hc.2
  unfold mm_S1
  unfold mm_x5 at e ⊢
  simp only at e ⊢
  have st : ∀ {v : mm_V} {s : List mm_V}, mm_SLs S s → mm_SV S v → mm_SLs S l ∧ mm_SLs S (v :: s) ∧ mm_SC S h ∧ h.2.2 = h.2.2 ∧ ∀ (x : mm_Id) (j : Int), ¬ (x.1 < 90 ∧ x.1 ≠ 0) → h.1 x j = h.1 x j ∧ h.2.1 x j = h.2.1 x j := fun a b => ⟨hl, mm_SLc b a, hc, rfl, fun _ _ _ => ⟨rfl, rfl⟩⟩
  split at e
  · split at e
    · rename_i q
      exact absurd (by rw [q.1]; exact ⟨by simp, by simp⟩) nb
    · cases e
  · split at e
    · split at e
      · rename_i q
        exact absurd (by rw [q.1]; exact ⟨by have := q.2.1; omega, by have := q.2.2.1; omega⟩) nb
      · cases e
    · cases e
  · split at e
    · split at e
      · rename_i q
        exact absurd (by rw [q.1]; exact ⟨by have := q.2.1; omega, by have := q.2.2.1; omega⟩) nb
      · cases e
    · cases e
  · split at e
    · split at e
      · rename_i q
        cases e
        obtain ⟨z1, z2, z3, z4, z5⟩ := st (mm_SLt (mm_SLt hs)) (mm_SVI _)
        exact ⟨z1, z2, z3, z4, z5, fun c => (if_pos q)⟩
      · cases e
    · cases e
  · split at e
    · split at e
      · rename_i q
        cases e
        obtain ⟨z1, z2, z3, z4, z5⟩ := st (mm_SLt (mm_SLt hs)) (mm_SVI _)
        exact ⟨z1, z2, z3, z4, z5, fun c => (if_pos q)⟩
      · cases e
    · cases e
  · split at e
    · split at e
      · rename_i q
        cases e
        obtain ⟨z1, z2, z3, z4, z5⟩ := st (mm_SLt hs) (mm_SVI _)
        exact ⟨z1, z2, z3, z4, z5, fun c => (if_pos q)⟩
      · cases e
    · cases e
  · split at e
    · split at e
      · cases e
      · rename_i q
        cases e
        exact ⟨hl, mm_SLn, hc, rfl, fun _ _ _ => ⟨rfl, rfl⟩, fun c => (if_neg q)⟩
    · cases e
  · split at e
    · have hy := mm_SLx (mm_SLt (mm_SLt hs))
      have hx := mm_SLx (mm_SLt (mm_SLt (mm_SLt (mm_SLt hs))))
      split at e
      · rename_i q
        cases e
        refine ⟨hl, mm_SLn, hc, rfl, fun z k w => ⟨?_, rfl⟩, fun c => (if_pos q).trans (by rw [mm_mgc hx hy])⟩
        show mm_cp _ _ _ _ _ _ z k = _
        unfold mm_cp
        rw [if_neg (fun u => by
          have q1 := q.1
          have q2 := q.2.1
          have := mm_SHlt (x := z) (by rw [u.1]; exact ⟨by omega, by omega⟩)
          omega)]
      · cases e
    · cases e
  · cases e
theorem mm_xS (K : mm_SK S) (hl : mm_SLs S l) (hs : mm_SLs S s) (hc : mm_SC S h) (e : mm_x i l s h = some r) : mm_S1 S h (mm_x i l s) r := by
  have go : ∀ run : mm_H → mm_R, (∀ h, mm_x i l s h = run h) → mm_S1 S h run r → mm_S1 S h (mm_x i l s) r := fun run hr q => by
    obtain ⟨q1, q2, q3, q4, q5, q6⟩ := q
    exact ⟨q1, q2, q3, q4, q5, fun c => by rw [hr]; exact q6 c⟩
  by_cases c1 : i.1 < 10
  · have er : ∀ h, mm_x i l s h = mm_x1 i l s h := fun h => by unfold mm_x; rw [if_pos c1]
    rw [er] at e
    exact go _ er (mm_S01 hc (mm_x1S K hl hs e))
  · by_cases c2 : i.1 < 35
    · have er : ∀ h, mm_x i l s h = mm_x2 i l s h := fun h => by unfold mm_x; rw [if_neg c1, if_pos c2]
      rw [er] at e
      exact go _ er (mm_S01 hc (mm_x2S hl hs e))
    · by_cases c3 : i.1 < 40
      · have er : ∀ h, mm_x i l s h = mm_x1 i l s h := fun h => by unfold mm_x; rw [if_neg c1, if_neg c2, if_pos c3]
        rw [er] at e
        exact go _ er (mm_S01 hc (mm_x1S K hl hs e))
      · by_cases c4 : i.1 < 70
        · have er : ∀ h, mm_x i l s h = mm_x3 i l s h := fun h => by unfold mm_x; rw [if_neg c1, if_neg c2, if_neg c3, if_pos c4]
          rw [er] at e
          exact go _ er (mm_x3S K hl hs hc e)
        · by_cases c5 : i.1 < 80
          · have er : ∀ h, mm_x i l s h = mm_x4 i l s h := fun h => by unfold mm_x; rw [if_neg c1, if_neg c2, if_neg c3, if_neg c4, if_pos c5]
            rw [er] at e
            exact go _ er (mm_x4S K hl hs hc e)
          · have er : ∀ h, mm_x i l s h = mm_x5 i l s h := fun h => by unfold mm_x; rw [if_neg c1, if_neg c2, if_neg c3, if_neg c4, if_neg c5]
            rw [er] at e
            exact go _ er (mm_x5S K hl hs hc e)
theorem mm_jS {o : Option Nat} {s1 : List mm_V} (hs : mm_SLs S s) (e : mm_j i s = some (o, s1)) : mm_SLs S s1 := by
  obtain ⟨a, b, d, f, g⟩ := i
  unfold mm_j at e
  simp only at e
  split at e
  all_goals first
    | (cases e; done)
    | (cases e; exact hs)
    | (split at e
       all_goals first
         | (cases e; done)
         | (cases e; exact mm_SLt hs)
         | (cases e; exact mm_SLt (mm_SLt hs))
         | (split at e
            all_goals first
              | (cases e; done)
              | (cases e; exact mm_SLt hs)
              | (cases e; exact mm_SLt (mm_SLt hs))))
theorem mm_SLe (a : List mm_V) (q : mm_SLs S a) : mm_SLs S (mm_ent1 a) := by
  induction a with
  | nil => exact mm_SLn
  | cons v a ih =>
    have t := ih (mm_SLt q)
    unfold mm_ent1
    split
    · rename_i w; cases w
    · rename_i w; cases w; exact mm_SLc (mm_SVL _) (mm_SLc mm_SVU t)
    · rename_i w; cases w; exact mm_SLc (mm_SLh q) t
theorem mm_SLE {y : Nat} {a : List mm_V} (q : mm_SLs S a) : mm_SLs S (mm_ent y a) := by
  intro v w
  unfold mm_ent at w
  rcases List.mem_append.1 w with w | w
  · exact mm_SLe a q v w
  · rw [List.eq_of_mem_replicate w]; exact mm_SVU
theorem mm_SLp {v : mm_V} (q : mm_SV S v) (w : mm_SLs S s) : mm_SLs S (mm_push v s) := by
  unfold mm_push
  split
  · exact w
  · exact mm_SLc q w
theorem mm_clS {a s1 : List mm_V} (hs : mm_SLs S s) (e : mm_cl i s h = some (a, s1)) : mm_SLs S a ∧ mm_SLs S s1 := by
  have d : mm_SLs S (s.drop (mm_n i.2.1)) := fun v q => hs v (List.mem_of_mem_drop q)
  have t : mm_SLs S (s.take (mm_n i.2.1)).reverse := fun v q => hs v (List.mem_of_mem_take (List.mem_reverse.1 q))
  unfold mm_cl at e
  split at e
  · split at e
    · cases e; exact ⟨t, d⟩
    · split at e
      · rename_i x rest q
        split at e
        · cases e
          rw [q] at t
          exact ⟨t, d⟩
        · cases e
      · cases e
  · cases e
theorem mm_rtS {v : mm_V} (hs : mm_SLs S s) (e : mm_rt i s = some v) : mm_SV S v := by
  unfold mm_rt at e
  split at e
  · split at e
    · cases e; exact mm_SVI _
    · cases e
  · split at e
    · cases e; exact mm_SVL _
    · cases e
  · split at e
    · cases e; exact mm_SLh hs
    · cases e
  · split at e
    · cases e; exact mm_SVU
    · cases e
  · split at e
    · split at e
      · cases e; exact mm_SVI _
      · cases e
    · cases e
  · cases e
end
theorem mm_runS {S : mm_Id → Bool} (K : mm_SK S) : ∀ (f y : Nat) (is : List mm_I) (l s : List mm_V) (h : mm_H) (v : mm_V) (h1 : mm_H), mm_run f y is l s h = some (v, h1) → mm_SLs S l → mm_SLs S s → mm_SC S h →
    mm_SV S v ∧ mm_SC S h1 ∧ h1.2.2 = h.2.2 ∧ (∀ x j, ¬ (x.1 < 90 ∧ x.1 ≠ 0) → h1.1 x j = h.1 x j ∧ h1.2.1 x j = h.2.1 x j) ∧ ∀ c, mm_run f y is l s (mm_mg S h c) = some (v, mm_mg S h1 c) := by
  intro f
  induction f with
  | zero => intro y is l s h v h1 e; simp [mm_run] at e
  | succ f ih =>
    intro y is l s h v h1 e hl hs hc
    cases is with
    | nil => simp [mm_run] at e
    | cons i is =>
      unfold mm_run at e
      by_cases c1 : i.1 = 0 ∨ 40 ≤ i.1 ∧ i.1 < 60
      · rw [if_pos c1] at e
        cases hj : mm_j i s with
        | none => simp only [hj] at e; cases e
        | some a =>
          rcases a with ⟨_ | b, s1⟩ <;> simp only [hj] at e
          · obtain ⟨q1, q2, q3, q4, q5⟩ := ih y is l s1 h v h1 e hl (mm_jS hs hj) hc
            exact ⟨q1, q2, q3, q4, fun c => by unfold mm_run; rw [if_pos c1]; simp only [hj]; exact q5 c⟩
          · obtain ⟨q1, q2, q3, q4, q5⟩ := ih y _ l s1 h v h1 e hl (mm_jS hs hj) hc
            exact ⟨q1, q2, q3, q4, fun c => by unfold mm_run; rw [if_pos c1]; simp only [hj]; exact q5 c⟩
      · rw [if_neg c1] at e
        by_cases c2 : 85 ≤ i.1 ∧ i.1 < 89
        · rw [if_pos c2] at e
          cases hcl : mm_cl i s h with
          | none => simp only [hcl] at e; cases e
          | some a =>
            rcases a with ⟨a, s1⟩
            simp only [hcl] at e
            obtain ⟨ha, hs1⟩ := mm_clS hs hcl
            cases hr : mm_run f i.2.1 (mm_blk i.2.1 0) (mm_ent i.2.1 a) [] h with
            | none => simp only [hr] at e; cases e
            | some b =>
              rcases b with ⟨w, h2⟩
              simp only [hr] at e
              obtain ⟨p1, p2, p3, p4, p5⟩ := ih _ _ _ _ h w h2 hr (mm_SLE ha) mm_SLn hc
              obtain ⟨q1, q2, q3, q4, q5⟩ := ih y is l _ h2 v h1 e hl (mm_SLp p1 hs1) p2
              refine ⟨q1, q2, by rw [q3, p3], fun x j w9 => ⟨by rw [(q4 x j w9).1, (p4 x j w9).1], by rw [(q4 x j w9).2, (p4 x j w9).2]⟩, fun c => ?_⟩
              have hcl2 : mm_cl i s (mm_mg S h c) = some (a, s1) := hcl
              unfold mm_run
              rw [if_neg c1, if_pos c2]
              simp only [hcl2, p5 c]
              exact q5 c
        · rw [if_neg c2] at e
          by_cases c3 : 90 ≤ i.1 ∧ i.1 < 95
          · rw [if_pos c3] at e
            cases hr : mm_rt i s with
            | none => simp only [hr] at e; cases e
            | some w =>
              simp only [hr] at e
              cases e
              refine ⟨mm_rtS hs hr, hc, rfl, fun _ _ _ => ⟨rfl, rfl⟩, fun c => ?_⟩
              unfold mm_run
              rw [if_neg c1, if_neg c2, if_pos c3]
              simp only [hr]
          · rw [if_neg c3] at e
            cases hx : mm_x i l s h with
            | none => simp only [hx] at e; cases e
            | some r =>
              simp only [hx] at e
              obtain ⟨p1, p2, p3, p4, p5, p6⟩ := mm_xS K hl hs hc hx
              obtain ⟨q1, q2, q3, q4, q5⟩ := ih y is _ _ _ v h1 e p1 p2 p3
              have p4' : r.2.2.2.2 = h.2.2 := p4
              refine ⟨q1, q2, by rw [q3, p4'], fun x j w9 => ⟨by rw [(q4 x j w9).1, (p5 x j w9).1], by rw [(q4 x j w9).2, (p5 x j w9).2]⟩, fun c => ?_⟩
              unfold mm_run
              rw [if_neg c1, if_neg c2, if_neg c3]
              simp only [p6 c]
              exact q5 c

