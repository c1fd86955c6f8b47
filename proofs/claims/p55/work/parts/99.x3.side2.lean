/-! a run touches the cells of its own side only: fields, arrays -/
section
variable {S : mm_Id → Bool} {l s : List mm_V} {h c : mm_H} {i : mm_I} {r : List mm_V × List mm_V × mm_H}
theorem mm_x3S (K : mm_SK S) (hl : mm_SLs S l) (hs : mm_SLs S s) (hc : mm_SC S h) (e : mm_x3 i l s h = some r) : mm_S1 S h (mm_x3 i l s) r := by
  obtain ⟨a, b, d, f, g⟩ := i
  unfold mm_S1
  unfold mm_x3 at e ⊢
  simp only at e ⊢
  have st : ∀ {v : mm_V} {s : List mm_V}, mm_SLs S s → mm_SV S v → mm_SLs S l ∧ mm_SLs S (v :: s) ∧ mm_SC S h ∧ h.2.2 = h.2.2 ∧ ∀ (x : mm_Id) (j : Int), ¬ (x.1 < 90 ∧ x.1 ≠ 0) → h.1 x j = h.1 x j ∧ h.2.1 x j = h.2.1 x j := fun a b => ⟨hl, mm_SLc b a, hc, rfl, fun _ _ _ => ⟨rfl, rfl⟩⟩
  split at e
  · split at e
    · have hx := mm_SLx hs
      have ht := mm_SLt hs
      split at e
      · rename_i q1
        split at e
        · rename_i q2
          cases e
          obtain ⟨z1, z2, z3, z4, z5⟩ := st ht (mm_SVI 0)
          exact ⟨z1, z2, z3, z4, z5, fun c => (if_pos q1).trans (if_pos q2)⟩
        · cases e
      · rename_i q1
        split at e
        · rename_i q2
          split at e
          · rename_i q3
            cases e
            obtain ⟨z1, z2, z3, z4, z5⟩ := st ht (mm_SVI _)
            exact ⟨z1, z2, z3, z4, z5, fun c => (if_neg q1).trans ((if_pos q2).trans (if_pos q3))⟩
          · cases e
        · rename_i q2
          split at e
          · rename_i q3
            cases e
            obtain ⟨z1, z2, z3, z4, z5⟩ := st ht (mm_SVI _)
            exact ⟨z1, z2, z3, z4, z5, fun c => (if_neg q1).trans ((if_neg q2).trans ((if_pos q3).trans (by rw [mm_mg1 hx])))⟩
          · cases e
    · cases e
  · split at e
    · have hx := mm_SLx hs
      split at e
      · rename_i q3
        cases e
        obtain ⟨z1, z2, z3, z4, z5⟩ := st (mm_SLt hs) (mm_SVL _)
        exact ⟨z1, z2, z3, z4, z5, fun c => (if_pos q3).trans (by rw [mm_mg1 hx])⟩
      · cases e
    · cases e
  · split at e
    · have hx := mm_SLx hs
      have ht := mm_SLt hs
      split at e
      · rename_i q1
        split at e
        · rename_i q2
          cases e
          obtain ⟨z1, z2, z3, z4, z5⟩ := st ht (mm_SVR (K.2.2.2 _ _ hx))
          exact ⟨z1, z2, z3, z4, z5, fun c => (if_pos q1).trans (if_pos q2)⟩
        · cases e
      · rename_i q1
        split at e
        · rename_i q2
          split at e
          · rename_i q3
            cases e
            obtain ⟨z1, z2, z3, z4, z5⟩ := st ht (mm_SVR (K.2.2.2 _ _ hx))
            exact ⟨z1, z2, z3, z4, z5, fun c => (if_neg q1).trans ((if_pos q2).trans (if_pos q3))⟩
          · cases e
        · rename_i q2
          split at e
          · rename_i q3
            cases e
            obtain ⟨z1, z2, z3, z4, z5⟩ := st ht (mm_SVR (hc.1 _ _ hx))
            exact ⟨z1, z2, z3, z4, z5, fun c => (if_neg q1).trans ((if_neg q2).trans ((if_pos q3).trans (by rw [mm_mg2 hx])))⟩
          · cases e
    · cases e
  · split at e
    · have hx := mm_SLx (mm_SLt hs)
      split at e
      · rename_i q
        cases e
        have n9 := mm_ok9 (by decide) q
        exact ⟨hl, mm_SLt (mm_SLt hs), mm_SCu hc, rfl, fun y k w => ⟨mm_nn9 n9 w, rfl⟩, fun c => (if_pos q).trans (by rw [mm_mgu hx])⟩
      · cases e
    · cases e
  · split at e
    · have hx := mm_SLx (mm_SLt hs)
      split at e
      · rename_i q
        cases e
        have n9 := mm_ok9 (by decide) q.1
        exact ⟨hl, mm_SLt (mm_SLt hs), mm_SCu hc, rfl, fun y k w => ⟨mm_nn9 n9 w, rfl⟩, fun c => (if_pos q).trans (by rw [mm_mgu hx])⟩
      · cases e
    · cases e
  · split at e
    · have hx := mm_SLx (mm_SLt hs)
      split at e
      · rename_i q
        cases e
        have n9 := mm_ok9 (by decide) q
        exact ⟨hl, mm_SLt (mm_SLt hs), mm_SCu hc, rfl, fun y k w => ⟨mm_nn9 n9 w, rfl⟩, fun c => (if_pos q).trans (by rw [mm_mgu hx])⟩
      · cases e
    · cases e
  · split at e
    · have hx := mm_SLx (mm_SLt hs)
      have hv := mm_SLx hs
      split at e
      · rename_i q
        cases e
        have n9 := mm_ok9 (by decide) q
        exact ⟨hl, mm_SLt (mm_SLt hs), mm_SCr hc hv, rfl, fun y k w => ⟨rfl, mm_rr9 n9 w⟩, fun c => (if_pos q).trans (by rw [mm_mgr hx])⟩
      · cases e
    · cases e
  · split at e
    · rename_i q
      cases e
      obtain ⟨z1, z2, z3, z4, z5⟩ := st hs (mm_SVR K.2.1)
      exact ⟨z1, z2, z3, z4, z5, fun c => (if_pos q)⟩
    · rename_i q
      split at e
      · rename_i q2
        cases e
        obtain ⟨z1, z2, z3, z4, z5⟩ := st hs (mm_SVR K.2.2.1)
        exact ⟨z1, z2, z3, z4, z5, fun c => (if_neg q).trans (if_pos q2)⟩
      · rename_i q2
        split at e
        · rename_i q3
          cases e
          obtain ⟨z1, z2, z3, z4, z5⟩ := st hs (mm_SVI 1)
          exact ⟨z1, z2, z3, z4, z5, fun c => (if_neg q).trans ((if_neg q2).trans (if_pos q3))⟩
        · rename_i q3
          cases e
          obtain ⟨z1, z2, z3, z4, z5⟩ := st hs mm_SVU
          exact ⟨z1, z2, z3, z4, z5, fun c => (if_neg q).trans ((if_neg q2).trans (if_neg q3))⟩
  · cases e
theorem mm_in9x {x : mm_Id} {n j : Int} {k : Nat} (hk : 6 ≤ k ∧ k ≤ 9) (q : mm_in x n k j = true) : x.1 < 90 ∧ x.1 ≠ 0 := mm_in9 (by omega) q
theorem mm_x4S (K : mm_SK S) (hl : mm_SLs S l) (hs : mm_SLs S s) (hc : mm_SC S h) (e : mm_x4 i l s h = some r) : mm_S1 S h (mm_x4 i l s) r := by
  obtain ⟨a, b, d, f, g⟩ := i
  unfold mm_S1
  unfold mm_x4 at e ⊢
  simp only at e ⊢
  have st : ∀ {v : mm_V} {s : List mm_V}, mm_SLs S s → mm_SV S v → mm_SLs S l ∧ mm_SLs S (v :: s) ∧ mm_SC S h ∧ h.2.2 = h.2.2 ∧ ∀ (x : mm_Id) (j : Int), ¬ (x.1 < 90 ∧ x.1 ≠ 0) → h.1 x j = h.1 x j ∧ h.2.1 x j = h.2.1 x j := fun a b => ⟨hl, mm_SLc b a, hc, rfl, fun _ _ _ => ⟨rfl, rfl⟩⟩
  split at e
  · split at e
    · have hx := mm_SLx (mm_SLt hs)
      have ht := mm_SLt (mm_SLt hs)
      split at e
      · rename_i q1
        cases e
        obtain ⟨z1, z2, z3, z4, z5⟩ := st ht (mm_SVI _)
        exact ⟨z1, z2, z3, z4, z5, fun c => (if_pos q1).trans (by rw [mm_mg1 hx])⟩
      · rename_i q1
        split at e
        · rename_i q2
          cases e
          obtain ⟨z1, z2, z3, z4, z5⟩ := st ht (mm_SVI _)
          exact ⟨z1, z2, z3, z4, z5, fun c => (if_neg q1).trans ((if_pos (by rw [mm_mg1 hx]; exact q2)).trans (by rw [mm_mg1 hx]))⟩
        · rename_i q2
          split at e
          · rename_i q3
            cases e
            obtain ⟨z1, z2, z3, z4, z5⟩ := st ht (mm_SVI _)
            exact ⟨z1, z2, z3, z4, z5, fun c => (if_neg q1).trans ((if_neg (by rw [mm_mg1 hx]; exact q2)).trans (if_pos q3))⟩
          · cases e
    · cases e
  · split at e
    · have hx := mm_SLx (mm_SLt hs)
      have ht := mm_SLt (mm_SLt hs)
      split at e
      · rename_i q1
        cases e
        obtain ⟨z1, z2, z3, z4, z5⟩ := st ht (mm_SVI _)
        exact ⟨z1, z2, z3, z4, z5, fun c => (if_pos q1).trans (by rw [mm_mg1 hx])⟩
      · rename_i q1
        split at e
        · rename_i q2
          cases e
          obtain ⟨z1, z2, z3, z4, z5⟩ := st ht (mm_SVI _)
          exact ⟨z1, z2, z3, z4, z5, fun c => (if_neg q1).trans (if_pos q2)⟩
        · cases e
    · cases e
  · split at e
    · have hx := mm_SLx (mm_SLt hs)
      split at e
      · rename_i q1
        cases e
        obtain ⟨z1, z2, z3, z4, z5⟩ := st (mm_SLt (mm_SLt hs)) (mm_SVL _)
        exact ⟨z1, z2, z3, z4, z5, fun c => (if_pos q1).trans (by rw [mm_mg1 hx])⟩
      · cases e
    · cases e
  · split at e
    · have hx := mm_SLx (mm_SLt hs)
      have ht := mm_SLt (mm_SLt hs)
      split at e
      · rename_i q1
        cases e
        obtain ⟨z1, z2, z3, z4, z5⟩ := st ht (mm_SVR (K.2.2.2 _ _ hx))
        exact ⟨z1, z2, z3, z4, z5, fun c => (if_pos q1)⟩
      · rename_i q1
        split at e
        · rename_i q2
          cases e
          obtain ⟨z1, z2, z3, z4, z5⟩ := st ht (mm_SVR (hc.1 _ _ hx))
          exact ⟨z1, z2, z3, z4, z5, fun c => (if_neg q1).trans ((if_pos q2).trans (by rw [mm_mg2 hx]))⟩
        · cases e
    · cases e
  · split at e
    · have hx := mm_SLx (mm_SLt (mm_SLt hs))
      split at e
      · rename_i q
        cases e
        have n9 := mm_in9 (by decide) q
        exact ⟨hl, mm_SLt (mm_SLt (mm_SLt hs)), mm_SCu hc, rfl, fun y k w => ⟨mm_nn9 n9 w, rfl⟩, fun c => (if_pos q).trans (by rw [mm_mgu hx])⟩
      · cases e
    · cases e
  · split at e
    · have hx := mm_SLx (mm_SLt (mm_SLt hs))
      split at e
      · rename_i q
        cases e
        have n9 := mm_in9 (by decide) q
        exact ⟨hl, mm_SLt (mm_SLt (mm_SLt hs)), mm_SCu hc, rfl, fun y k w => ⟨mm_nn9 n9 w, rfl⟩, fun c => (if_pos q).trans (by rw [mm_mgu hx])⟩
      · rename_i q1
        split at e
        · rename_i q
          cases e
          have n9 := mm_in9 (by decide) q.1
          exact ⟨hl, mm_SLt (mm_SLt (mm_SLt hs)), mm_SCu hc, rfl, fun y k w => ⟨mm_nn9 n9 w, rfl⟩, fun c => (if_neg q1).trans ((if_pos q).trans (by rw [mm_mgu hx]))⟩
        · cases e
    · cases e
  · split at e
    · have hx := mm_SLx (mm_SLt (mm_SLt hs))
      split at e
      · rename_i q
        cases e
        have n9 := mm_in9 (by decide) q
        exact ⟨hl, mm_SLt (mm_SLt (mm_SLt hs)), mm_SCu hc, rfl, fun y k w => ⟨mm_nn9 n9 w, rfl⟩, fun c => (if_pos q).trans (by rw [mm_mgu hx])⟩
      · cases e
    · cases e
  · split at e
    · have hx := mm_SLx (mm_SLt (mm_SLt hs))
      have hv := mm_SLx hs
      split at e
      · rename_i q
        cases e
        have n9 := mm_in9x ⟨q.1, q.2.1⟩ q.2.2.1
        exact ⟨hl, mm_SLt (mm_SLt (mm_SLt hs)), mm_SCr hc hv, rfl, fun y k w => ⟨rfl, mm_rr9 n9 w⟩, fun c => (if_pos q).trans (by rw [mm_mgr hx])⟩
      · cases e
    · cases e
  · split at e
    · have hx := mm_SLx hs
      have ht := mm_SLt hs
      split at e
      · rename_i q1
        cases e
        obtain ⟨z1, z2, z3, z4, z5⟩ := st ht (mm_SVI _)
        exact ⟨z1, z2, z3, z4, z5, fun c => (if_pos q1).trans (by rw [mm_mg1 hx])⟩
      · rename_i q1
        split at e
        · rename_i q2
          cases e
          obtain ⟨z1, z2, z3, z4, z5⟩ := st ht (mm_SVI _)
          exact ⟨z1, z2, z3, z4, z5, fun c => (if_neg q1).trans (if_pos q2)⟩
        · rename_i q2
          split at e
          · rename_i q3
            cases e
            obtain ⟨z1, z2, z3, z4, z5⟩ := st ht (mm_SVI _)
            exact ⟨z1, z2, z3, z4, z5, fun c => (if_neg q1).trans ((if_neg q2).trans (if_pos q3))⟩
          · cases e
    · cases e
  · cases e
end

