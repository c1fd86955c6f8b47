/-! a row that goes straight on, of any kind -/
theorem mm_SHb (x : mm_Id) : 0 ≤ (mm_SH x).2 ∧ (mm_SH x).2 < 60000000 := by
  unfold mm_SH
  split <;> first | (unfold mm_on; split <;> decide) | (unfold mm_oi; split <;> decide) | (unfold mm_ot; split <;> decide) | (unfold mm_ox; split <;> decide) | decide
/-- which cells were there ahead -/
theorem mm_SHhi {x : mm_Id} {kd : Nat} {c : Int} (h : mm_SH x = (kd, c)) (h9 : 10 ≤ kd) :
    (kd = 10 ∧ x = (90, 0, 0)) ∨ (kd = 11 ∧ x = (91, 0, 0)) ∨ (kd = 13 ∧ ∃ i : Nat, i < 47 ∧ x = (92, (i : Int), 0)) ∨ (kd = 14 ∧ ∃ i : Nat, i < 94 ∧ x = (93, (i : Int), 0)) ∨ (kd = 12 ∧ x = (94, 0, 0)) ∨ (kd = 15 ∧ ∃ i : Nat, i < 94 ∧ x = (95, (i : Int), 0)) := by
  obtain ⟨f, t, n⟩ := x
  have hne : ((kd, c) : Nat × Int) ≠ (0, 0) := fun e => by have := congrArg Prod.fst e; dsimp only at this; omega
  have one : ∀ (w : Nat × Int), mm_on (f, t, n) w = (kd, c) → w.1 = kd ∧ t = 0 ∧ n = 0 := fun w hw => by
    obtain ⟨a, b, e⟩ := mm_SHn hw hne
    exact ⟨by rw [e], a, b⟩
  have ind : ∀ (w : Nat × Int) (N : Nat), mm_oi (f, t, n) (N : Int) w = (kd, c) → w.1 = kd ∧ (∃ i : Nat, i < N ∧ t = (i : Int)) ∧ n = 0 := fun w N hw => by
    obtain ⟨a, b, d, e⟩ := mm_SHi hw hne
    dsimp only at a b d
    exact ⟨by rw [e], ⟨t.toNat, by omega, by omega⟩, d⟩
  have tre : ∀ (w : Nat × Int), mm_ot (f, t, n) w = (kd, c) → w.1 = kd := fun w hw => by rw [(mm_SHt hw hne).2.2]
  have nod : ∀ (w : Nat × Int), mm_ox (f, t, n) w = (kd, c) → w.1 = kd := fun w hw => by rw [(mm_SHx hw hne).2.2.2]
  rcases Nat.lt_or_ge f 90 with hf | hf
  · exfalso
    unfold mm_SH at h
    split at h <;> first
      | (have := (one _ h).1; dsimp only at this; omega)
      | (have := (ind _ 5 h).1; dsimp only at this; omega)
      | (have := (ind _ 8 h).1; dsimp only at this; omega)
      | (have := tre _ h; dsimp only at this; omega)
      | (have := nod _ h; dsimp only at this; omega)
      | (rename_i q; have q : f = _ := q; omega)
      | exact hne h.symm
  · rcases Nat.lt_or_ge f 96 with hf2 | hf2
    · have q : f = 90 ∨ f = 91 ∨ f = 92 ∨ f = 93 ∨ f = 94 ∨ f = 95 := by omega
      rcases q with q | q | q | q | q | q <;> subst q
      · obtain ⟨e, a, b⟩ := one _ h
        subst a; subst b; subst e
        exact Or.inl ⟨rfl, rfl⟩
      · obtain ⟨e, a, b⟩ := one _ h
        subst a; subst b; subst e
        exact Or.inr (Or.inl ⟨rfl, rfl⟩)
      · obtain ⟨e, ⟨i, hi, a⟩, b⟩ := ind _ 47 h
        subst a; subst b; subst e
        exact Or.inr (Or.inr (Or.inl ⟨rfl, i, hi, rfl⟩))
      · obtain ⟨e, ⟨i, hi, a⟩, b⟩ := ind _ 94 h
        subst a; subst b; subst e
        exact Or.inr (Or.inr (Or.inr (Or.inl ⟨rfl, i, hi, rfl⟩)))
      · obtain ⟨e, a, b⟩ := one _ h
        subst a; subst b; subst e
        exact Or.inr (Or.inr (Or.inr (Or.inr (Or.inl ⟨rfl, rfl⟩))))
      · obtain ⟨e, ⟨i, hi, a⟩, b⟩ := ind _ 94 h
        subst a; subst b; subst e
        exact Or.inr (Or.inr (Or.inr (Or.inr (Or.inr ⟨rfl, i, hi, rfl⟩))))
    · exfalso
      have e : mm_SH (f, t, n) = (0, 0) := by
        unfold mm_SH
        split <;> first | rfl | (rename_i q; have q : f = _ := q; omega)
      exact hne (h.symm.trans e)
theorem mm_SH10 {x : mm_Id} (h : (mm_SH x).1 = 10) : x = (90, 0, 0) := by
  rcases mm_SHhi (c := (mm_SH x).2) (show mm_SH x = (10, (mm_SH x).2) by rw [← h]) (by omega) with ⟨-, e⟩ | ⟨q, -⟩ | ⟨q, -⟩ | ⟨q, -⟩ | ⟨q, -⟩ | ⟨q, -⟩ <;> first | exact e | omega
theorem mm_SH11 {x : mm_Id} {c : Int} (h : mm_SH x = (11, c)) : x = (91, 0, 0) := by
  rcases mm_SHhi h (by omega) with ⟨q, -⟩ | ⟨-, e⟩ | ⟨q, -⟩ | ⟨q, -⟩ | ⟨q, -⟩ | ⟨q, -⟩ <;> first | exact e | omega
theorem mm_SH12 {x : mm_Id} {c : Int} (h : mm_SH x = (12, c)) : x = (94, 0, 0) := by
  rcases mm_SHhi h (by omega) with ⟨q, -⟩ | ⟨q, -⟩ | ⟨q, -⟩ | ⟨q, -⟩ | ⟨-, e⟩ | ⟨q, -⟩ <;> first | exact e | omega
theorem mm_SH13 {x : mm_Id} {c : Int} (h : mm_SH x = (13, c)) : ∃ i : Nat, i < 47 ∧ x = (92, (i : Int), 0) := by
  rcases mm_SHhi h (by omega) with ⟨q, -⟩ | ⟨q, -⟩ | ⟨-, e⟩ | ⟨q, -⟩ | ⟨q, -⟩ | ⟨q, -⟩ <;> first | exact e | omega
theorem mm_SH14 {x : mm_Id} {c : Int} (h : mm_SH x = (14, c)) : ∃ i : Nat, i < 94 ∧ x = (93, (i : Int), 0) := by
  rcases mm_SHhi h (by omega) with ⟨q, -⟩ | ⟨q, -⟩ | ⟨q, -⟩ | ⟨-, e⟩ | ⟨q, -⟩ | ⟨q, -⟩ <;> first | exact e | omega
theorem mm_SH15 {x : mm_Id} {c : Int} (h : mm_SH x = (15, c)) : ∃ i : Nat, i < 94 ∧ x = (95, (i : Int), 0) := by
  rcases mm_SHhi h (by omega) with ⟨q, -⟩ | ⟨q, -⟩ | ⟨q, -⟩ | ⟨q, -⟩ | ⟨q, -⟩ | ⟨-, e⟩ <;> first | exact e | omega
theorem mm_tyI {cc a : Nat} (hcc : cc < 11) (ha : a < mm_nc cc) : ((mm_ft.getD cc []).getD a 0 = 0 → mm_Yc cc a = .int) ∧ ((mm_ft.getD cc []).getD a 0 = 1 → mm_Yc cc a = .long) ∧ ((mm_ft.getD cc []).getD a 0 = 3 → mm_Yc cc a = .boolean) ∧
    ((mm_ft.getD cc []).getD a 0 = 2 → (∃ n, mm_Yc cc a = .object n) ∨ ∃ t, mm_Yc cc a = .array t) := by
  have ht := (mm_cA cc hcc).2.2.2 a ha
  unfold mm_tyOk at ht
  split at ht
  · rename_i q
    have e : (mm_ft.getD cc []).getD a 0 = 0 := by simpa using ht
    exact ⟨fun _ => q, fun z => by omega, fun z => by omega, fun z => by omega⟩
  · rename_i q
    have e : (mm_ft.getD cc []).getD a 0 = 1 := by simpa using ht
    exact ⟨fun z => by omega, fun _ => q, fun z => by omega, fun z => by omega⟩
  · rename_i n q
    have e : (mm_ft.getD cc []).getD a 0 = 2 := by simpa using ht
    exact ⟨fun z => by omega, fun z => by omega, fun z => by omega, fun _ => Or.inl ⟨_, q⟩⟩
  · rename_i n q
    have e : (mm_ft.getD cc []).getD a 0 = 2 := by simpa using ht
    exact ⟨fun z => by omega, fun z => by omega, fun z => by omega, fun _ => Or.inr ⟨_, q⟩⟩
  · rename_i q
    have e : (mm_ft.getD cc []).getD a 0 = 3 := by simpa using ht
    exact ⟨fun z => by omega, fun z => by omega, fun _ => q, fun z => by omega⟩
  · cases ht
theorem mm_sl_b (k : Int) : mm_sl k < 60000000 := by
  unfold mm_sl
  have h : ∀ w ∈ mm_words, w.length < 60000000 := by decide +kernel
  rw [List.getD_eq_getElem?_getD]
  cases hz : mm_words[k.toNat]? with
  | none => decide
  | some w => have := h w (List.mem_of_getElem? hz); simp only [Option.getD_some]; omega
theorem mm_scr_b (k j : Int) : -2147483648 ≤ mm_sc k j ∧ mm_sc k j < 2147483648 := by
  unfold mm_sc
  have h : ∀ w ∈ mm_words, ∀ z ∈ w, 0 ≤ z ∧ z < 128 := by decide +kernel
  rw [List.getD_eq_getElem?_getD (l := mm_words)]
  cases hz : mm_words[k.toNat]? with
  | none => simp
  | some w =>
    have h2 := h w (List.mem_of_getElem? hz)
    simp only [Option.getD_some]
    rw [List.getD_eq_getElem?_getD]
    cases hy : w[j.toNat]? with
    | none => simp
    | some v => have := h2 v (List.mem_of_getElem? hy); simp only [Option.getD_some]; omega
section MX
variable {p : Program} {l : Launch} {e : Env} {R : Room} {s : State} {m : MethodId} {args : Array Value} {below : List Frame} {meth : Method} {c : Code} {H : Heap} {locs : List Loc} {cells slots : Nat} {Q : State → Prop} {y pc len : Nat} {g : mm_G} {h : mm_H} {lo st : List mm_V} {ls : Array Slot} {vs : List Value} {op a d ee : Nat} {k : Int} {r : List mm_V × List mm_V × mm_H} {ins : Instr}
theorem ml_i2c (C : mm_C p s m args meth c y g) (hd : decode (mm_by y) pc = .ok (.i2c, 1)) (hx : mm_x1 (39, a, k, d, ee) lo st h = some r) (hl : mm_rl g lo ls (mm_mL y)) (hs : mm_rs g st vs) (hh : mm_hr g h H) (hq : ∀ q ∈ locs, g.1 ≤ q.base) (K : mm_K p l e R s m args below meth c Q y g r h cells slots (pc + 1)) : W p l e R s m args below meth c H locs cells slots Q (F0 m pc ls vs) := by
  simp only [mm_x1] at hx
  split at hx
  · cases hx
    obtain ⟨w0, v0, rfl, ⟨u0, rfl, rfl⟩, hs⟩ := hs
    refine lv_i2c C.1 C.2.1 hd rfl (K _ _ _ _ _ _ hl ⟨_, _, rfl, ⟨_, rfl, ?_⟩, hs⟩ hh hq rfl rfl)
    rw [pk_char, nI_toInt (by omega)]
    have e : u0.toInt = if 2 * u0.toBitVec.toNat < 2 ^ 32 then (u0.toBitVec.toNat : Int) else (u0.toBitVec.toNat : Int) - (2 ^ 32 : Nat) := rfl
    rw [e]
    split <;> omega
  · cases hx
theorem mm_wsum {g : mm_G} : ∀ {st : List mm_V} {vs : List Value}, mm_rs g st vs → (vs.map fun v => v.category).sum ≤ (st.map mm_wt).sum
  | [], vs, h => by
    have h : vs = [] := h
    subst h
    exact Nat.le_refl _
  | v :: st, vs, h => by
    obtain ⟨w, v', rfl, q, hs⟩ := h
    have ih := mm_wsum hs
    have : w.category ≤ mm_wt v := by
      rcases v with (x | x) | (_ | x)
      · obtain ⟨u, rfl, -⟩ := q; exact Nat.le_refl _
      · obtain ⟨u, rfl, -⟩ := q; exact Nat.le_refl _
      · have q : w.category = 1 := q
        rw [q]; exact Nat.le_refl _
      · rw [mm_rv_cat q (by intro z; cases z) (by intro z z'; cases z')]; exact Nat.le_refl _
    simp only [List.map_cons, List.sum_cons]
    omega
theorem mm_maw : (Cond.static Lib.Math.max.name ∈ lw_g ∧ Cond.code Lib.Math.max.name Lib.Math.max.code 2 (some .int) ∈ lw_g) ∧ (Cond.static Lib.Math.min.name ∈ lw_g ∧ Cond.code Lib.Math.min.name Lib.Math.min.code 2 (some .int) ∈ lw_g) ∧ Cond.initialized "java/lang/Math" ∈ lw_g := by decide +kernel
theorem ml_max (C : mm_C p s m args meth c y g) (hd : decode (mm_by y) pc = .ok (.invokestatic d, 3)) (hw : Cond.methodLink (mm_nm y).cls d Lib.Math.max.name ∈ lw_g) (hR : 1 ≤ R.frames ∧ 21 ≤ R.locals) (hc : cells ≤ R.cells ∧ slots ≤ R.slots) (hx : mm_x5 (98, a, k, d, ee) lo st h = some r) (hl : mm_rl g lo ls (mm_mL y)) (hs : mm_rs g st vs) (hh : mm_hr g h H) (hq : ∀ q ∈ locs, g.1 ≤ q.base) (K : mm_K p l e R s m args below meth c Q y g r h cells slots (pc + 3)) : W p l e R s m args below meth c H locs cells slots Q (F0 m pc ls vs) := by
  simp only [mm_x5] at hx
  split at hx
  · obtain ⟨w1, v1, rfl, ⟨u1, rfl, rfl⟩, w0, v0, rfl, ⟨u0, rfl, rfl⟩, hs⟩ := hs
    split at hx
    · rename_i hsum
      cases hx
      have := mm_wsum hs
      refine va_mmax C.1 C.2.1 (C.2.2.1.trans hl.1.symm) C.2.2.2.1 (C.2.2.2.2.1 _ hw) (C.2.2.2.2.1 _ mm_maw.1.1) (C.2.2.2.2.1 _ mm_maw.2.2) (C.2.2.2.2.1 _ mm_maw.1.2) hR.1 (by omega) hc.1 hc.2 hd (K _ _ _ _ _ _ hl ⟨_, _, rfl, ⟨_, rfl, ?_⟩, hs⟩ hh hq rfl rfl)
      simp only [mm_lt2]
      split <;> rfl
    · cases hx
  · cases hx
theorem ml_min (C : mm_C p s m args meth c y g) (hd : decode (mm_by y) pc = .ok (.invokestatic d, 3)) (hw : Cond.methodLink (mm_nm y).cls d Lib.Math.min.name ∈ lw_g) (hR : 1 ≤ R.frames ∧ 21 ≤ R.locals) (hc : cells ≤ R.cells ∧ slots ≤ R.slots) (hx : mm_x5 (99, a, k, d, ee) lo st h = some r) (hl : mm_rl g lo ls (mm_mL y)) (hs : mm_rs g st vs) (hh : mm_hr g h H) (hq : ∀ q ∈ locs, g.1 ≤ q.base) (K : mm_K p l e R s m args below meth c Q y g r h cells slots (pc + 3)) : W p l e R s m args below meth c H locs cells slots Q (F0 m pc ls vs) := by
  simp only [mm_x5] at hx
  split at hx
  · obtain ⟨w1, v1, rfl, ⟨u1, rfl, rfl⟩, w0, v0, rfl, ⟨u0, rfl, rfl⟩, hs⟩ := hs
    split at hx
    · rename_i hsum
      cases hx
      have := mm_wsum hs
      refine va_mmin C.1 C.2.1 (C.2.2.1.trans hl.1.symm) C.2.2.2.1 (C.2.2.2.2.1 _ hw) (C.2.2.2.2.1 _ mm_maw.2.1.1) (C.2.2.2.2.1 _ mm_maw.2.2) (C.2.2.2.2.1 _ mm_maw.2.1.2) hR.1 (by omega) hc.1 hc.2 hd (K _ _ _ _ _ _ hl ⟨_, _, rfl, ⟨_, rfl, ?_⟩, hs⟩ hh hq rfl rfl)
      simp only [mm_lt2]
      split <;> rfl
    · cases hx
  · cases hx
theorem mm_x5room {R : Room} (ho : op = 98 ∨ op = 99) (hx : mm_x5 (op, a, k, d, ee) lo st h = some r) (hRc : (cells : Int) + (r.2.2.2.2.1 - h.2.2.1) ≤ R.cells ∧ (slots : Int) + (r.2.2.2.2.2 - h.2.2.2) ≤ R.slots) : cells ≤ R.cells ∧ slots ≤ R.slots := by
  have e : r.2.2 = h := by
    rcases ho with rfl | rfl
    · simp only [mm_x5] at hx
      split at hx
      · split at hx
        · cases hx; rfl
        · cases hx
      · cases hx
    · simp only [mm_x5] at hx
      split at hx
      · split at hx
        · cases hx; rfl
        · cases hx
      · cases hx
  rw [e] at hRc
  omega
end MX
