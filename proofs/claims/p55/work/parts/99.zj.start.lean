/-! the start: what the mini machine asks holds at the law's entry -/
theorem ne_arrP {A : Array Value} {s : State} {ty : FieldType} (h : (Cond.arrayClass ty).before A s = true) (hp : ∀ C, ty ≠ .object C) : ∃ cA : ClassId, ArrOfT s cA ty ∧ va_RA s cA ty := by
  obtain ⟨c, k, comp, h1, h2, h3⟩ := Cond.arrayClass_spec h
  refine ⟨c, fun n z => ⟨(fun k h => by cases h), k, h2, comp, h3⟩, ?_⟩
  cases ty with
  | object C => exact absurd rfl (hp C)
  | _ => exact h1
theorem ne_arrO {s : State} {C : String} (h : va_AO C s) : ∃ cA : ClassId, ArrOfT s cA (.object C) ∧ va_RA s cA (.object C) := by
  obtain ⟨comp, c, k, h1, h2, h3, h4, h5⟩ := Cond.arrayOver_spec h
  exact ⟨c, fun n z => ⟨(fun k h => by cases h), k, h3, comp, h4⟩, k, comp, h3, h4, h1, h5⟩
theorem ne_inT {w : Cond} (h : w ∈ tables_1) : w ∈ lw_tbl := by
  unfold lw_tbl
  exact List.mem_append_right _ h
theorem ne_inst : ∀ k : Nat, k < 10 → Cond.instantiable (mm_Cn k) (mm_nc k) ∈ tables_1 := by decide +kernel
theorem ne_nest : ∀ q ∈ mm_nest, Cond.methodLinkNest q.1 q.2.1 q.2.2 "PoolHouse" ∈ tables_1 := by decide +kernel
theorem ne_ws : ∀ w ∈ ([.arrayClass .int, .arrayClass .byte, .arrayClass .boolean, .arrayClass .long, .arrayOver (.object "PoolHouse$Dataset"), .arrayOver (.object "PoolHouse$Snapshot"), .arrayOver (.object "PoolHouse$Handle"), .arrayOver (.object "PoolHouse$Node")] : List Cond), w ∈ tables_1 := by decide +kernel
section NES
variable {b L : Nat} {xs : Nat → Int32} {s : State}
theorem ne_aty (hts : ∀ w ∈ lw_tbl, w.before #[Value.ref b] s = true) (kd : Nat) (h2 : 2 ≤ kd) (h9 : kd ≤ 9) : ∃ cA : ClassId, ArrOfT s cA (mm_aty kd) ∧ va_RA s cA (mm_aty kd) := by
  rcases (show kd = 2 ∨ kd = 3 ∨ kd = 4 ∨ kd = 5 ∨ kd = 6 ∨ kd = 7 ∨ kd = 8 ∨ kd = 9 by omega) with rfl | rfl | rfl | rfl | rfl | rfl | rfl | rfl
  · exact ne_arrP (hts _ (ne_inT (ne_ws _ (List.mem_of_getElem? (i := 0) rfl)))) (fun C h => by cases h)
  · exact ne_arrP (hts _ (ne_inT (ne_ws _ (List.mem_of_getElem? (i := 1) rfl)))) (fun C h => by cases h)
  · exact ne_arrP (hts _ (ne_inT (ne_ws _ (List.mem_of_getElem? (i := 2) rfl)))) (fun C h => by cases h)
  · exact ne_arrP (hts _ (ne_inT (ne_ws _ (List.mem_of_getElem? (i := 3) rfl)))) (fun C h => by cases h)
  · exact ne_arrO (va_AO.of (hts _ (ne_inT (ne_ws _ (List.mem_of_getElem? (i := 4) rfl)))))
  · exact ne_arrO (va_AO.of (hts _ (ne_inT (ne_ws _ (List.mem_of_getElem? (i := 5) rfl)))))
  · exact ne_arrO (va_AO.of (hts _ (ne_inT (ne_ws _ (List.mem_of_getElem? (i := 6) rfl)))))
  · exact ne_arrO (va_AO.of (hts _ (ne_inT (ne_ws _ (List.mem_of_getElem? (i := 7) rfl)))))
theorem ne_ghost (hts : ∀ w ∈ lw_tbl, w.before #[Value.ref b] s = true) : ∃ (D : va_G) (dA : Nat → ClassId), va_K D mm_cls [] s ∧ ∀ kd, 2 ≤ kd → kd ≤ 9 → ArrOfT s (dA kd) (mm_aty kd) ∧ va_RA s (dA kd) (mm_aty kd) := by
  have hg : ∀ w ∈ lw_g, w.before #[Value.ref b] s = true := fun w hw => hts w (List.mem_filter.mp hw).1
  have h : ∀ k : Nat, ∃ q : ClassId × (Nat → Nat), k < 10 → u_Kn s (mm_Cn k) (mm_Tc k) (mm_nc k) q.1 q.2 := by
    intro k
    by_cases hk : k < 10
    · obtain ⟨cC, iS, h⟩ := u_known (C := mm_Cn k) (T := mm_Tc k) (N := mm_nc k) (n := mm_nc k) hg (mm_uA k hk) (hts _ (ne_inT (ne_inst k hk)))
      exact ⟨(cC, iS), fun _ => h⟩
    · exact ⟨(0, fun _ => 0), fun h => absurd h hk⟩
  have a : ∀ kd : Nat, ∃ cA : ClassId, 2 ≤ kd → kd ≤ 9 → ArrOfT s cA (mm_aty kd) ∧ va_RA s cA (mm_aty kd) := by
    intro kd
    by_cases hk : 2 ≤ kd ∧ kd ≤ 9
    · obtain ⟨cA, h⟩ := ne_aty hts kd hk.1 hk.2
      exact ⟨cA, fun _ _ => h⟩
    · exact ⟨0, fun h2 h9 => absurd ⟨h2, h9⟩ hk⟩
  obtain ⟨fD, hD⟩ := Classical.axiomOfChoice h
  obtain ⟨dA, hA⟩ := Classical.axiomOfChoice a
  refine ⟨(fun k => (fD k).1, fun k => (fD k).2), dA, ⟨fun c q hq => ?_, fun k q hq => by cases hq⟩, hA⟩
  have hc : c < 10 := (List.getElem?_eq_some_iff.mp hq).1
  have e := (mm_cA c hc).1
  rw [e] at hq
  cases hq
  exact hD c hc
theorem ne_kf (hts : ∀ w ∈ lw_tbl, w.before #[Value.ref b] s = true) (hX : va_X b L xs s s.heap) (hbl : b < s.heap.size) : ∃ g : mm_G, g.1 = s.heap.size ∧ g.2.2.2.1 = s.heap ∧ g.2.2.2.2 = (fun _ => b) ∧ mm_kf g s := by
  obtain ⟨D, dA, h1, h2⟩ := ne_ghost hts
  have hw : ∀ (i : Nat) (w : Cond), _ → w.before #[Value.ref b] s = true := fun i w (h : ([.arrayClass .int, .arrayClass .byte, .arrayClass .boolean, .arrayClass .long, .arrayOver (.object "PoolHouse$Dataset"), .arrayOver (.object "PoolHouse$Snapshot"), .arrayOver (.object "PoolHouse$Handle"), .arrayOver (.object "PoolHouse$Node")] : List Cond)[i]? = some w) => hts w (ne_inT (ne_ws w (List.mem_of_getElem? h)))
  refine ⟨(s.heap.size, D, dA, s.heap, fun _ => b), rfl, rfl, rfl, h1, h2, ⟨hbl, rfl, fun cell hc => ?_⟩, fun q hq => va_Nw.of rfl (hts _ (ne_inT (ne_nest q hq))), va_AO.of (hw 4 _ rfl), va_AO.of (hw 5 _ rfl), va_AO.of (hw 6 _ rfl), va_AO.of (hw 7 _ rfl)⟩
  obtain ⟨scr, q1, q2, q3, -⟩ := hX
  have hc : s.heap[b]? = some cell := hc
  cases q1.symm.trans hc
  exact ⟨q2, q3⟩
def ne_Sx (L : Nat) (xs : Nat → Int32) : Int → Int := fun j => if j < 0 then (L : Int) else (xs j.toNat).toInt
theorem ne_hr {g : mm_G} (hX : va_X b L xs s s.heap) (hL : L ≤ 260) (g1 : g.1 = s.heap.size) (g4 : g.2.2.2.1 = s.heap) (g5 : g.2.2.2.2 = fun _ => b) : mm_hr g (kk_h0 (ne_Sx L xs), fun _ _ => mm_nul, 0, 0) s.heap := by
  have dead : ∀ (x : mm_Id) (kd : Nat) (n : Int), mm_SH x = (kd, n) → 1 ≤ kd → kd ≤ 9 → mm_lv x 0 = true → False := fun x kd n hx h1 h9 hl => by
    have a := (mm_be_off x (mm_ne0 hx h1) (mm_kd90 hx h1 h9)).2
    have c := mm_lvI.mp hl
    omega
  refine ⟨⟨g1.symm, Int.le_refl 0, Int.le_refl 0, fun q _ => by rw [g4]⟩, fun x c hx hl => (dead x 1 c hx (Nat.le_refl 1) (by omega) hl).elim, fun x kd n hx h2 h9 hl => (dead x kd n hx (by omega) h9 hl).elim, fun x _ h9 _ k => ⟨?_, rfl⟩, ?_⟩
  · show (if x = (90, 0, 0) then ne_Sx L xs k else 0) = 0
    rw [if_neg (fun e => by rw [e] at h9; exact absurd h9 (by decide))]
  · obtain ⟨scr, h1, h2, h3, h4, h5⟩ := hX
    refine ⟨L, scr, by rw [g4, g5]; exact h1, h4, by omega, ?_, fun j hj => ⟨xs j, h5 j hj, ?_⟩⟩
    · show (if ((90, 0, 0) : mm_Id) = (90, 0, 0) then ne_Sx L xs (-1) else 0) = (L : Int)
      rw [if_pos rfl]
      rfl
    · show (if ((90, 0, 0) : mm_Id) = (90, 0, 0) then ne_Sx L xs (j : Int) else 0) = (xs j).toInt
      rw [if_pos rfl]
      unfold ne_Sx
      rw [if_neg (by omega)]
      rfl
end NES
set_option maxRecDepth 20000 in
theorem ne_by : mm_by 297 = code := rfl
set_option maxRecDepth 20000 in
theorem ne_mL : mm_mL 297 = 11 := rfl
set_option maxRecDepth 20000 in
theorem ne_cl : (mm_nm 297).cls = "PoolHouseLaw" := rfl
theorem ne_nn : (mm_nm 297).name ≠ "<init>" := by decide +kernel
theorem ne_fr : mm_fr 297 ≤ 9 ∧ mm_lo 297 ≤ 344 := by decide +kernel
