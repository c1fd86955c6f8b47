/-! both pools made -/
def kk_h0 (S : Int → Int) : mm_Id → Int → Int := fun x j => if x = (90, 0, 0) then S j else 0
theorem kk_gr00 : kk_gr (fun _ _ => False) = fun _ _ => mm_nul := by
  funext y j
  exact kk_gr0 (fun q => q)
theorem tt_K0 : tt_K 0 0 5275 (fun n => 0 ≤ n ∧ n ≤ 5275) := ⟨Or.inl rfl, fun n hn => ⟨fun x hS h hl => by rw [tt_rz, Int.add_zero]; exact hl, fun a b h => by
  obtain ⟨q1, q2, q3⟩ := (tt_Km.2 n hn).2 a b h
  exact ⟨by rw [tt_rz, Int.add_zero], q2, q3⟩⟩⟩
section
variable {hi : mm_Id → Int → Int} {ns : Int}
theorem ct_two (z0 : ∀ x j, x ≠ (90, 0, 0) → hi x j = 0) : ∃ (H : mm_Id → Int → Int) (h5 : mm_H), kk_CF 4 hi H ∧ (∀ t n j, n ≠ 0 → H (22, t, n) j = hi (22, t, n) j) ∧ mm_Cl 0 [zR (1, 0, 0), zI 4] (hi, kk_gr (fun _ _ => False), 1, ns) (fun r h1 => r = zU ∧ h1 = mm_z H (fun _ => -1) 5275 (ns + 258001)) ∧ mm_Cl 0 [zR (1, 0, 0), zI 5] (hi, kk_gr (fun _ _ => False), 1, ns) (fun r h1 => r = zU ∧ h1 = h5) ∧ h5.2.2 = (5275, ns + 258001) ∧ (∀ x, tt_S x = true → x.1 ≠ 0 → (x.1 ≠ 14 → ∀ j, h5.1 x j = H x j) ∧ ∀ j, h5.2.1 x j = mm_mkR (fun _ => -1) 5275 x j) ∧ h5.1 (14, 0, 0) 0 = 5 ∧ h5.1 (14, 0, 0) 1 = 0 ∧ h5.1 (14, 0, 0) 2 = 0 := by
  have e4 : kk_c47 4 = 4 := by decide
  have e5 : kk_c47 5 = 5 := by decide
  obtain ⟨f, r, h1, e, er, H, eH, hC, h22⟩ := ct_suf (x1 := 4) (c := 4) (ns := ns) (Q := fun r h1 => r = zU ∧ ∃ H, h1 = mm_z H (fun _ => -1) 5275 (ns + 258001) ∧ kk_CF 4 hi H ∧ ∀ t n j, n ≠ 0 → H (22, t, n) j = hi (22, t, n) j) z0 (fun H a b => ⟨rfl, H, rfl, a, b⟩)
  subst er eH
  have hl : mm_SLs tt_S [zR (1, 0, 0), zI 4, zR (15, 0, 0), zI 0] := mm_SLc (mm_SVR (by decide)) (mm_SLc (mm_SVI _) (mm_SLc (mm_SVR (by decide)) (mm_SLc (mm_SVI _) mm_SLn)))
  obtain ⟨g, eg⟩ : ∃ g : Int → mm_Id → Int → Int, g = fun c => kk_ht (fun t => (t = 26 ∨ t = 27) ∨ (0 ≤ t ∧ t < 0 ∨ 13 ≤ t ∧ t < 13 + 0)) (mm_up (mm_up hi (8, 0, 0) 9 (-2)) (14, 0, 0) 0 c) := ⟨_, rfl⟩
  have eg' : ∀ c, kk_ht (fun t => (t = 26 ∨ t = 27) ∨ (0 ≤ t ∧ t < 0 ∨ 13 ≤ t ∧ t < 13 + 0)) (mm_up (mm_up hi (8, 0, 0) 9 (-2)) (14, 0, 0) 0 c) = g c := fun c => by rw [eg]
  have g14 : ∀ c t n j, g c (14, t, n) j = mm_up (mm_up hi (8, 0, 0) 9 (-2)) (14, 0, 0) 0 c (14, t, n) j := fun c t n j => by
    rw [eg]
    show kk_ht _ _ _ _ = _
    unfold kk_ht
    rw [@if_neg _ (Classical.propDecidable _) (fun w => absurd w.1 (show ¬ (14 : Nat) = 22 by decide))]
  have gne : ∀ (x : mm_Id) j, x.1 ≠ 14 → g 4 x j = g 5 x j := fun x j q => by
    rw [eg]
    show kk_ht _ _ _ _ = kk_ht _ _ _ _
    unfold kk_ht
    have u : ∀ c, mm_up (mm_up hi (8, 0, 0) 9 (-2)) (14, 0, 0) 0 c x j = mm_up hi (8, 0, 0) 9 (-2) x j := fun c => mm_upne' (fun w => q (by rw [w.1]))
    rw [u, u]
  rw [eg'] at e
  have hc : tt_C (fun n => 0 ≤ n ∧ n ≤ 5275) (g 4, kk_gr (kk_PB 0), 543 + 524 * 0, ns + 162614 + 8679 * 0) := ⟨fun x j q => by
    show tt_S (kk_gr (kk_PB 0) x j) = true
    by_cases p : kk_PB 0 x j
    · rw [kk_gr1 p]; exact tt_mk q
    · rw [kk_gr0 p]; decide, show (0 : Int) ≤ 543 + 524 * 0 ∧ (543 + 524 * 0 : Int) ≤ 5275 by omega⟩
  have R5 := ct_run (a := 4) (b := 5) (ds := 0) tt_K0 f _ _ _ _ _ _ _ _ e (dk_b (by omega)) hl mm_SLn hc (Int.le_refl _) (g 5, kk_gr (kk_PB 0), 543 + 524 * 0, ns + 162614 + 8679 * 0)
  have em : tt_m 0 true 0 0 (g 4, kk_gr (kk_PB 0), 543 + 524 * 0, ns + 162614 + 8679 * 0) (g 5, kk_gr (kk_PB 0), 543 + 524 * 0, ns + 162614 + 8679 * 0) = (g 5, kk_gr (kk_PB 0), 543 + 524 * 0, ns + 162614 + 8679 * 0) := by
    have i0 : ∀ z, tt_i 0 z = z := fun z => tt_inj (c := 0) (by rw [tt_ir, tt_rz])
    refine Prod.ext ?_ (Prod.ext ?_ (Prod.ext ?_ ?_))
    · funext z j
      show (if tt_S (tt_i 0 z) = true ∧ ¬ tt_X true z then g 4 (tt_i 0 z) j else g 5 z j) = g 5 z j
      by_cases q : tt_S (tt_i 0 z) = true ∧ ¬ tt_X true z
      · rw [if_pos q, i0]; exact gne z j (fun w => q.2 (Or.inr ⟨rfl, w⟩))
      · rw [if_neg q]
    · funext z j
      show (if tt_S (tt_i 0 z) = true ∧ z.1 ≠ 0 then tt_r 0 (kk_gr (kk_PB 0) (tt_i 0 z) j) else kk_gr (kk_PB 0) z j) = kk_gr (kk_PB 0) z j
      rw [i0, tt_rz, ite_self]
    · exact Int.add_zero _
    · exact Int.add_zero _
  rw [em] at R5
  have d14 : ∀ j, (tt_m 0 true 0 0 (mm_z H (fun _ => -1) 5275 (ns + 258001)) (g 5, kk_gr (kk_PB 0), 543 + 524 * 0, ns + 162614 + 8679 * 0)).1 (14, 0, 0) j = g 5 (14, 0, 0) j := fun j => by
    show (if tt_S (tt_i 0 (14, 0, 0)) = true ∧ ¬ tt_X true (14, 0, 0) then H (tt_i 0 (14, 0, 0)) j else g 5 (14, 0, 0) j) = g 5 (14, 0, 0) j
    rw [if_neg (fun w => w.2 (Or.inr ⟨rfl, rfl⟩))]
  refine ⟨H, tt_m 0 true 0 0 (mm_z H (fun _ => -1) 5275 (ns + 258001)) (g 5, kk_gr (kk_PB 0), 543 + 524 * 0, ns + 162614 + 8679 * 0), hC, h22, ?_, ?_, ?_, fun x hS h0 => ⟨fun h14 j => ?_, fun j => ?_⟩, ?_, ?_, ?_⟩
  · refine ct_pre ?_
    rw [e4, eg']
    exact ⟨f, _, _, e, rfl, rfl⟩
  · refine ct_pre ?_
    rw [e5, eg']
    exact ⟨f, _, _, R5, rfl, rfl⟩
  · refine Prod.ext ?_ ?_
    · exact Int.add_zero _
    · exact Int.add_zero _
  · have := tt_m1 (c := 0) (D := true) (dn := 0) (ds := 0) (h := mm_z H (fun _ => -1) 5275 (ns + 258001)) (k := (g 5, kk_gr (kk_PB 0), 543 + 524 * 0, ns + 162614 + 8679 * 0)) (j := j) hS (fun w => w.elim h0 (fun w => h14 w.2))
    rw [tt_rz] at this
    exact this
  · have := tt_m2 (c := 0) (D := true) (dn := 0) (ds := 0) (h := mm_z H (fun _ => -1) 5275 (ns + 258001)) (k := (g 5, kk_gr (kk_PB 0), 543 + 524 * 0, ns + 162614 + 8679 * 0)) (j := j) hS h0
    rw [tt_rz, tt_rz] at this
    exact this
  all_goals rw [d14, g14]
  · exact mm_ups
  · rw [mm_upj (by decide), mm_upf (by decide)]; exact z0 _ _ (by simp)
  · rw [mm_upj (by decide), mm_upf (by decide)]; exact z0 _ _ (by simp)
end
theorem ct_q {H hi : mm_Id → Int → Int} (hC : kk_CF 4 hi H) (h22 : ∀ t n j, n ≠ 0 → H (22, t, n) j = hi (22, t, n) j) (z0 : ∀ x j, x ≠ (90, 0, 0) → hi x j = 0) {z : mm_Id} {j : Int} (hz : tt_S (tt_i 100 z) = true) (h0 : z.1 ≠ 0) : H z j = 0 ∧ mm_mkR (fun _ => -1) 5275 z j = mm_nul := by
  rw [tt_Si] at hz
  obtain ⟨f, t, n⟩ := z
  have h0 : f ≠ 0 := h0
  unfold tt_i at hz
  rw [if_neg h0] at hz
  dsimp only at hz
  have n1 : 100 ≤ n := by omega
  have nn : ∀ y : mm_Id, y.2.2 < 100 → ((f, t, n) : mm_Id) ≠ y := fun y q w => by
    have := congrArg (fun x => x.2.2) w
    simp only at this
    omega
  refine ⟨?_, ?_⟩
  · by_cases c : f = 22
    · subst c
      rw [h22 t n j (by omega)]
      exact z0 _ _ (nn _ (by decide))
    · rw [hC.2.2.2.2.2.2.2.2.2 (f, t, n) j (fun w => nn _ (by decide) w.1) (fun w => nn _ (by decide) w.1) (fun w => nn _ (by decide) w.1) c (fun w => nn _ (by decide) w.1) (nn _ (by decide)) (fun w => nn _ (by decide) w.1) (fun w => by
        unfold kk_ct at w
        rcases w with w | w | w | w
        · exact nn _ (by decide) w.1
        · exact nn _ (by decide) w
        · exact nn _ (by decide) w
        · exact nn _ (by decide) w) (fun w => by unfold kk_tr at w; dsimp only at w; omega)]
      exact z0 _ _ (nn _ (by decide))
  · have f40 : f < 36 := hz.1
    unfold mm_mkR
    simp only
    split
    all_goals first
      | rfl
      | (exfalso; omega)
      | (rw [if_neg (by omega)])
