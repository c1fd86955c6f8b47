/-! a run moved: fields, arrays, makings -/
section
variable {c dn ds N : Int} {D : Bool} {P : Int → Prop} {l s : List mm_V} {h k : mm_H} {i : mm_I} {r : List mm_V × List mm_V × mm_H}
/-- a row, moved -/
def tt_1 (c dn ds : Int) (D : Bool) (P : Int → Prop) (l s : List mm_V) (h : mm_H) (run : List mm_V → List mm_V → mm_H → mm_R) (r : List mm_V × List mm_V × mm_H) : Prop := mm_SLs tt_S r.1 ∧ mm_SLs tt_S r.2.1 ∧ tt_C P r.2.2 ∧ ∀ k, run (l.map (tt_V c)) (s.map (tt_V c)) (tt_m c D dn ds h k) = some (r.1.map (tt_V c), r.2.1.map (tt_V c), tt_m c D dn ds r.2.2 k)
theorem tt_01 {run : List mm_V → List mm_V → mm_H → mm_R} (hc : tt_C P h) (q : tt_0 c l s h run r) : tt_1 c dn ds D P l s h run r := by
  obtain ⟨q1, q2, q3, q4⟩ := q
  refine ⟨q1, q2, by rw [q3]; exact hc, fun k => ?_⟩
  rw [q4, q3]
theorem tt_Cr {x v : mm_Id} {j : Int} (hc : tt_C P h) (q : tt_S v = true) : tt_C P (h.1, mm_up h.2.1 x j v, h.2.2) := ⟨fun y k w => by
  show tt_S (mm_up h.2.1 x j v y k) = true
  unfold mm_up
  split
  · exact q
  · exact hc.1 y k w, hc.2⟩
theorem tt_x3 (K : tt_K c dn N P) (hn : i.1 ≠ 67) (hD : D = true → 60 ≤ i.1 → i.1 < 67 → i.2.2.1 ≠ 2) (hl : mm_SLs tt_S l) (hs : mm_SLs tt_S s) (hc : tt_C P h) (e : mm_x3 i l s h = some r) : tt_1 c dn ds D P l s h (mm_x3 i) r := by
  obtain ⟨a, b, d, f, g⟩ := i
  unfold tt_1
  unfold mm_x3 at e ⊢
  simp only at e hn hD ⊢
  have nd : ∀ {x : mm_Id} {q : Int} {n : Int}, tt_S x = true → mm_ok x n 1 q = true → (D = true → q ≠ 2) → ¬ tt_X D x := fun hS ho hq => tt_nd hS (mm_okI ho).1 (by decide) (fun d _ => hq d)
  split at e
  · have hD := fun d => hD d (by decide) (by decide)
    split at e
    · have hx := mm_SLx hs
      have ht := mm_SLt hs
      split at e
      · split at e
        · rename_i q2
          exact (mm_SHno q2.1 (by decide)).elim
        · cases e
      · rename_i q1
        split at e
        · split at e
          · rename_i q3
            exact (mm_SHno q3.1 (by decide)).elim
          · cases e
        · rename_i q2
          split at e
          · rename_i q3
            cases e
            refine ⟨hl, mm_SLc (mm_SVI _) ht, hc, fun k => ?_⟩
            simp only [List.map_cons, tt_V, if_neg q1, if_neg q2]
            exact (if_pos (tt_ok K hc.2 hx (by decide) q3)).trans (by rw [tt_m1 hx (nd hx q3 hD)])
          · cases e
    · cases e
  · have hD := fun d => hD d (by decide) (by decide)
    split at e
    · have hx := mm_SLx hs
      split at e
      · rename_i q3
        cases e
        refine ⟨hl, mm_SLc (mm_SVL _) (mm_SLt hs), hc, fun k => ?_⟩
        simp only [List.map_cons, tt_V]
        exact (if_pos (tt_ok K hc.2 hx (by decide) q3)).trans (by rw [tt_m1 hx (nd hx q3 hD)])
      · cases e
    · cases e
  · have hD := fun d => hD d (by decide) (by decide)
    split at e
    · have hx := mm_SLx hs
      have ht := mm_SLt hs
      split at e
      · split at e
        · rename_i q2
          exact (mm_SHno q2.1 (by decide)).elim
        · cases e
      · rename_i q1
        split at e
        · split at e
          · rename_i q3
            exact (mm_SHno q3.1 (by decide)).elim
          · cases e
        · rename_i q2
          split at e
          · rename_i q3
            cases e
            refine ⟨hl, mm_SLc (mm_SVR (hc.1 _ _ hx)) ht, hc, fun k => ?_⟩
            simp only [List.map_cons, tt_V, if_neg q1, if_neg q2]
            exact (if_pos (tt_ok K hc.2 hx (by decide) q3)).trans (by rw [tt_m2 hx (fun w => nd hx q3 hD (Or.inl w))])
          · cases e
    · cases e
  · have hD := fun d => hD d (by decide) (by decide)
    split at e
    · have hx := mm_SLx (mm_SLt hs)
      split at e
      · rename_i q
        cases e
        refine ⟨hl, mm_SLt (mm_SLt hs), hc, fun k => ?_⟩
        simp only [List.map_cons, tt_V]
        exact (if_pos (tt_ok K hc.2 hx (by decide) q)).trans (by rw [tt_mu hx (nd hx q hD)])
      · cases e
    · cases e
  · have hD := fun d => hD d (by decide) (by decide)
    split at e
    · have hx := mm_SLx (mm_SLt hs)
      split at e
      · rename_i q
        cases e
        refine ⟨hl, mm_SLt (mm_SLt hs), hc, fun k => ?_⟩
        simp only [List.map_cons, tt_V]
        exact (if_pos ⟨tt_ok K hc.2 hx (by decide) q.1, q.2⟩).trans (by rw [tt_mu hx (nd hx q.1 hD)])
      · cases e
    · cases e
  · have hD := fun d => hD d (by decide) (by decide)
    split at e
    · have hx := mm_SLx (mm_SLt hs)
      split at e
      · rename_i q
        cases e
        refine ⟨hl, mm_SLt (mm_SLt hs), hc, fun k => ?_⟩
        simp only [List.map_cons, tt_V]
        exact (if_pos (tt_ok K hc.2 hx (by decide) q)).trans (by rw [tt_mu hx (nd hx q hD)])
      · cases e
    · cases e
  · have hD := fun d => hD d (by decide) (by decide)
    split at e
    · have hx := mm_SLx (mm_SLt hs)
      have hv := mm_SLx hs
      split at e
      · rename_i q
        cases e
        refine ⟨hl, mm_SLt (mm_SLt hs), tt_Cr hc hv, fun k => ?_⟩
        simp only [List.map_cons, tt_V]
        exact (if_pos (tt_ok K hc.2 hx (by decide) q)).trans (by rw [tt_mr hx (fun w => nd hx q hD (Or.inl w))])
      · cases e
    · cases e
  · exact absurd rfl hn
  · cases e
theorem tt_x4 (K : tt_K c dn N P) (hl : mm_SLs tt_S l) (hs : mm_SLs tt_S s) (hc : tt_C P h) (e : mm_x4 i l s h = some r) : tt_1 c dn ds D P l s h (mm_x4 i) r := by
  obtain ⟨a, b, d, f, g⟩ := i
  unfold tt_1
  unfold mm_x4 at e ⊢
  simp only at e ⊢
  have nd : ∀ {x : mm_Id} {n j : Int} {kd : Nat}, tt_S x = true → mm_in x n kd j = true → 2 ≤ kd → ¬ tt_X D x := fun hS ho h2 => tt_nd2 hS (by rw [tt_i1k ho]; exact h2)
  have no10 : ∀ {x : mm_Id}, tt_S x = true → (mm_SH x).1 = 10 → False := fun hS q => by
    have w := mm_SH10 q
    subst w
    exact absurd hS (by decide)
  split at e
  · split at e
    · have hx := mm_SLx (mm_SLt hs)
      have ht := mm_SLt (mm_SLt hs)
      split at e
      · rename_i q1
        cases e
        refine ⟨hl, mm_SLc (mm_SVI _) ht, hc, fun k => ?_⟩
        simp only [List.map_cons, tt_V]
        exact (if_pos (tt_in K hc.2 hx (by decide) q1)).trans (by rw [tt_m1 hx (nd hx q1 (by decide))])
      · split at e
        · rename_i q2
          exact (no10 hx (by rw [q2.1])).elim
        · split at e
          · rename_i q3
            exact (mm_SHno q3.1 (by decide)).elim
          · cases e
    · cases e
  · split at e
    · have hx := mm_SLx (mm_SLt hs)
      have ht := mm_SLt (mm_SLt hs)
      split at e
      · rename_i q1
        cases e
        refine ⟨hl, mm_SLc (mm_SVI _) ht, hc, fun k => ?_⟩
        simp only [List.map_cons, tt_V]
        refine (if_pos ?_).trans (by rw [tt_m1 hx (by rcases q1 with w | w; exact nd hx w (by decide); exact nd hx w (by decide))])
        rcases q1 with w | w
        · exact Or.inl (tt_in K hc.2 hx (by decide) w)
        · exact Or.inr (tt_in K hc.2 hx (by decide) w)
      · split at e
        · rename_i q2
          exact (mm_SHno q2.1 (by decide)).elim
        · cases e
    · cases e
  · split at e
    · have hx := mm_SLx (mm_SLt hs)
      split at e
      · rename_i q1
        cases e
        refine ⟨hl, mm_SLc (mm_SVL _) (mm_SLt (mm_SLt hs)), hc, fun k => ?_⟩
        simp only [List.map_cons, tt_V]
        exact (if_pos (tt_in K hc.2 hx (by decide) q1)).trans (by rw [tt_m1 hx (nd hx q1 (by decide))])
      · cases e
    · cases e
  · split at e
    · have hx := mm_SLx (mm_SLt hs)
      have ht := mm_SLt (mm_SLt hs)
      split at e
      · rename_i q1
        exact (mm_SHno q1.1 (by decide)).elim
      · split at e
        · rename_i q2
          cases e
          refine ⟨hl, mm_SLc (mm_SVR (hc.1 _ _ hx)) ht, hc, fun k => ?_⟩
          simp only [List.map_cons, tt_V]
          refine (if_neg ?_).trans ((if_pos ?_).trans (by rw [tt_m2 hx (fun w => nd hx q2.2.2 (by omega) (Or.inl w))]))
          · rw [tt_SH K.1 hx]
            intro w
            exact mm_SHno w.1 (by decide)
          · rw [tt_SH K.1 hx]
            exact ⟨q2.1, q2.2.1, tt_in K hc.2 hx (by omega) q2.2.2⟩
        · cases e
    · cases e
  · split at e
    · have hx := mm_SLx (mm_SLt (mm_SLt hs))
      split at e
      · rename_i q
        cases e
        refine ⟨hl, mm_SLt (mm_SLt (mm_SLt hs)), hc, fun k => ?_⟩
        simp only [List.map_cons, tt_V]
        exact (if_pos (tt_in K hc.2 hx (by decide) q)).trans (by rw [tt_mu hx (nd hx q (by decide))])
      · cases e
    · cases e
  · split at e
    · have hx := mm_SLx (mm_SLt (mm_SLt hs))
      split at e
      · rename_i q
        cases e
        refine ⟨hl, mm_SLt (mm_SLt (mm_SLt hs)), hc, fun k => ?_⟩
        simp only [List.map_cons, tt_V]
        exact (if_pos (tt_in K hc.2 hx (by decide) q)).trans (by rw [tt_mu hx (nd hx q (by decide))])
      · split at e
        · rename_i q
          cases e
          refine ⟨hl, mm_SLt (mm_SLt (mm_SLt hs)), hc, fun k => ?_⟩
          simp only [List.map_cons, tt_V]
          refine (if_neg ?_).trans ((if_pos ⟨tt_in K hc.2 hx (by decide) q.1, q.2⟩).trans (by rw [tt_mu hx (nd hx q.1 (by decide))]))
          rw [tt_inN K.1 hx (by rw [tt_i1k q.1]; decide)]
          exact fun w => by cases w
        · cases e
    · cases e
  · split at e
    · have hx := mm_SLx (mm_SLt (mm_SLt hs))
      split at e
      · rename_i q
        cases e
        refine ⟨hl, mm_SLt (mm_SLt (mm_SLt hs)), hc, fun k => ?_⟩
        simp only [List.map_cons, tt_V]
        exact (if_pos (tt_in K hc.2 hx (by decide) q)).trans (by rw [tt_mu hx (nd hx q (by decide))])
      · cases e
    · cases e
  · split at e
    · have hx := mm_SLx (mm_SLt (mm_SLt hs))
      have hv := mm_SLx hs
      split at e
      · rename_i q
        cases e
        refine ⟨hl, mm_SLt (mm_SLt (mm_SLt hs)), tt_Cr hc hv, fun k => ?_⟩
        simp only [List.map_cons, tt_V]
        refine (if_pos ?_).trans (by rw [tt_mr hx (fun w => nd hx q.2.2.1 (by omega) (Or.inl w))])
        rw [tt_SH K.1 hx]
        exact ⟨q.1, q.2.1, tt_in K hc.2 hx (by omega) q.2.2.1, tt_ok K hc.2 hv (by decide) q.2.2.2⟩
      · cases e
    · cases e
  · split at e
    · have hx := mm_SLx hs
      have ht := mm_SLt hs
      split at e
      · rename_i q1
        exact (no10 hx q1).elim
      · rename_i q1
        split at e
        · rename_i q2
          exact (mm_SHno q2 (by decide)).elim
        · split at e
          · rename_i q3
            cases e
            refine ⟨hl, mm_SLc (mm_SVI _) ht, hc, fun k => ?_⟩
            simp only [List.map_cons, tt_V]
            rw [tt_SH K.1 hx, if_neg q1, if_neg (fun w => mm_SHno w (by decide)), if_pos]
            rcases q3 with q3 | q3
            · exact Or.inl ⟨q3.1, q3.2.1, (K.2 _ hc.2).1 _ hx (by omega) q3.2.2⟩
            · exact (mm_SHno q3 (by decide)).elim
          · cases e
    · cases e
  · cases e
theorem tt_m3 {a b : Int} : (( (tt_m c D dn ds h k).1, (tt_m c D dn ds h k).2.1, (tt_m c D dn ds h k).2.2.1 + a, (tt_m c D dn ds h k).2.2.2 + b) : mm_H) = tt_m c D dn ds (h.1, h.2.1, h.2.2.1 + a, h.2.2.2 + b) k := by
  refine Prod.ext rfl (Prod.ext rfl (Prod.ext ?_ ?_))
  · show h.2.2.1 + dn + a = h.2.2.1 + a + dn; omega
  · show h.2.2.2 + ds + b = h.2.2.2 + b + ds; omega
theorem tt_x5 (K : tt_K c dn N P) (hn : i.1 ≠ 96) (hN : r.2.2.2.2.1 ≤ N) (hl : mm_SLs tt_S l) (hs : mm_SLs tt_S s) (hc : tt_C P h) (e : mm_x5 i l s h = some r) : tt_1 c dn ds D P l s h (mm_x5 i) r := by
  obtain ⟨a, b, d, f, g⟩ := i
  unfold tt_1
  unfold mm_x5 at e ⊢
  simp only at e hn ⊢
  have mk : ∀ {kd : Nat} {q : Int}, mm_SH (mm_be h.2.2.1) = (kd, q) → kd ≠ 0 → kd < 10 → h.2.2.1 + 1 ≤ N → mm_be (h.2.2.1 + dn) = tt_r c (mm_be h.2.2.1) ∧ tt_S (mm_be h.2.2.1) = true ∧ P (h.2.2.1 + 1) ∧ mm_SH (mm_be (h.2.2.1 + dn)) = (kd, q) := fun q h0 h9 hN => by
    obtain ⟨a1, a2, a3⟩ := (K.2 _ hc.2).2 (by rw [q]; exact h0) (by rw [q]; exact h9) hN
    exact ⟨a1, a2, a3, by rw [a1, tt_SH K.1 a2]; exact q⟩
  split at e
  · split at e
    · rename_i q
      cases e
      obtain ⟨a1, a2, a3, a4⟩ := mk q.1 (by decide) (by decide) hN
      refine ⟨hl, mm_SLc (mm_SVR a2) hs, ⟨hc.1, a3⟩, fun k => ?_⟩
      refine (if_pos ⟨a4, q.2⟩).trans ?_
      rw [← tt_m3]
      show some (_, zR (mm_be (h.2.2.1 + dn)) :: _, _) = _
      rw [a1]
      rfl
    · cases e
  · split at e
    · split at e
      · rename_i q
        cases e
        obtain ⟨a1, a2, a3, a4⟩ := mk q.1 (by omega) (by omega) hN
        refine ⟨hl, mm_SLc (mm_SVR a2) (mm_SLt hs), ⟨hc.1, a3⟩, fun k => ?_⟩
        refine (if_pos ⟨a4, q.2⟩).trans ?_
        rw [← tt_m3]
        show some (_, zR (mm_be (h.2.2.1 + dn)) :: _, _) = _
        rw [a1]
        rfl
      · cases e
    · cases e
  · split at e
    · split at e
      · rename_i q
        cases e
        obtain ⟨a1, a2, a3, a4⟩ := mk q.1 (by omega) (by omega) hN
        refine ⟨hl, mm_SLc (mm_SVR a2) (mm_SLt hs), ⟨hc.1, a3⟩, fun k => ?_⟩
        refine (if_pos ⟨a4, q.2⟩).trans ?_
        rw [← tt_m3]
        show some (_, zR (mm_be (h.2.2.1 + dn)) :: _, _) = _
        rw [a1]
        rfl
      · cases e
    · cases e
  · split at e
    · split at e
      · rename_i q
        cases e
        refine ⟨hl, mm_SLc (mm_SVI _) (mm_SLt (mm_SLt hs)), hc, fun k => ?_⟩
        simp only [List.map_cons, tt_V]
        exact if_pos (by rw [tt_ws]; exact q)
      · cases e
    · cases e
  · split at e
    · split at e
      · rename_i q
        cases e
        refine ⟨hl, mm_SLc (mm_SVI _) (mm_SLt (mm_SLt hs)), hc, fun k => ?_⟩
        simp only [List.map_cons, tt_V]
        exact if_pos (by rw [tt_ws]; exact q)
      · cases e
    · cases e
  · exact absurd rfl hn
  · split at e
    · split at e
      · cases e
      · rename_i q
        cases e
        refine ⟨hl, mm_SLn, hc, fun k => ?_⟩
        simp only [List.map_cons, List.map_nil, tt_V]
        exact if_neg (fun w => q (tt_rn.1 w))
    · cases e
  · split at e
    · have hy := mm_SLx (mm_SLt (mm_SLt hs))
      have hx := mm_SLx (mm_SLt (mm_SLt (mm_SLt (mm_SLt hs))))
      split at e
      · rename_i q
        cases e
        obtain ⟨q1, q2, q3, q4, q5⟩ := q
        have x2 : ∀ {z : mm_Id}, ((mm_SH z).1 = 2 ∨ (mm_SH z).1 = 3) → 2 ≤ (mm_SH z).1 := fun w => by omega
        refine ⟨hl, mm_SLn, hc, fun k => ?_⟩
        simp only [List.map_cons, List.map_nil, tt_V]
        refine (if_pos ?_).trans (by rw [tt_mc hx (tt_nd2 hx (x2 q1)) hy (tt_nd2 hy (by rw [q2]; exact x2 q1))])
        rw [tt_SH K.1 hx, tt_SH K.1 hy]
        exact ⟨q1, q2, (K.2 _ hc.2).1 _ hx (by omega) q3, (K.2 _ hc.2).1 _ hy (by omega) q4, q5⟩
      · cases e
    · cases e
  · cases e
theorem tt_x {R : Nat → Bool} (K : tt_K c dn N P) (hn : tt_n D R i = true) (hN : r.2.2.2.2.1 ≤ N) (hl : mm_SLs tt_S l) (hs : mm_SLs tt_S s) (hc : tt_C P h) (e : mm_x i l s h = some r) : tt_1 c dn ds D P l s h (mm_x i) r := by
  obtain ⟨⟨n1, n2⟩, n3, -⟩ := tt_nI hn
  have go : ∀ run : List mm_V → List mm_V → mm_H → mm_R, (∀ l s h, mm_x i l s h = run l s h) → tt_1 c dn ds D P l s h run r → tt_1 c dn ds D P l s h (mm_x i) r := fun run hr q => by
    obtain ⟨q1, q2, q3, q4⟩ := q
    exact ⟨q1, q2, q3, fun k => by rw [hr]; exact q4 k⟩
  by_cases c1 : i.1 < 10
  · have er : ∀ l s h, mm_x i l s h = mm_x1 i l s h := fun l s h => by unfold mm_x; rw [if_pos c1]
    rw [er] at e
    exact go _ er (tt_01 hc (tt_x1 hl hs e))
  · by_cases c2 : i.1 < 35
    · have er : ∀ l s h, mm_x i l s h = mm_x2 i l s h := fun l s h => by unfold mm_x; rw [if_neg c1, if_pos c2]
      rw [er] at e
      exact go _ er (tt_01 hc (tt_x2 hl hs e))
    · by_cases c3 : i.1 < 40
      · have er : ∀ l s h, mm_x i l s h = mm_x1 i l s h := fun l s h => by unfold mm_x; rw [if_neg c1, if_neg c2, if_pos c3]
        rw [er] at e
        exact go _ er (tt_01 hc (tt_x1 hl hs e))
      · by_cases c4 : i.1 < 70
        · have er : ∀ l s h, mm_x i l s h = mm_x3 i l s h := fun l s h => by unfold mm_x; rw [if_neg c1, if_neg c2, if_neg c3, if_pos c4]
          rw [er] at e
          exact go _ er (tt_x3 K n1 n3 hl hs hc e)
        · by_cases c5 : i.1 < 80
          · have er : ∀ l s h, mm_x i l s h = mm_x4 i l s h := fun l s h => by unfold mm_x; rw [if_neg c1, if_neg c2, if_neg c3, if_neg c4, if_pos c5]
            rw [er] at e
            exact go _ er (tt_x4 K hl hs hc e)
          · have er : ∀ l s h, mm_x i l s h = mm_x5 i l s h := fun l s h => by unfold mm_x; rw [if_neg c1, if_neg c2, if_neg c3, if_neg c4, if_neg c5]
            rw [er] at e
            exact go _ er (tt_x5 K n2 hN hl hs hc e)
end
