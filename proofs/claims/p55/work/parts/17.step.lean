/-! a row that goes straight on, of any kind -/
theorem mm_SHob (x : mm_Id) : 0 ≤ (mm_SHo x).2 ∧ (mm_SHo x).2 < 60000000 := by
  unfold mm_SHo
  split <;> first | (unfold mm_on; split <;> decide) | (unfold mm_oi; split <;> decide) | (unfold mm_ot; split <;> decide) | (unfold mm_ox; split <;> decide) | decide
theorem mm_SHb (x : mm_Id) : 0 ≤ (mm_SH x).2 ∧ (mm_SH x).2 < 60000000 := mm_SHob (mm_fl x)
/-- which cells were there ahead -/
theorem mm_SHoh {x : mm_Id} (h9 : 10 ≤ (mm_SHo x).1) : (mm_SHo x).1 = 10 ∧ x = (90, 0, 0) := by
  obtain ⟨f, t, n⟩ := x
  have no : ∀ (v : Nat × Int), v.1 < 10 → ¬ 10 ≤ (mm_on (f, t, n) v).1 := fun v a b => by
    unfold mm_on at b; split at b <;> first | omega | (dsimp only at b; omega)
  have ni : ∀ (v : Nat × Int) (N : Int), v.1 < 10 → ¬ 10 ≤ (mm_oi (f, t, n) N v).1 := fun v N a b => by
    unfold mm_oi at b; split at b <;> first | omega | (dsimp only at b; omega)
  have nt : ∀ (v : Nat × Int), v.1 < 10 → ¬ 10 ≤ (mm_ot (f, t, n) v).1 := fun v a b => by
    unfold mm_ot at b; split at b <;> first | omega | (dsimp only at b; omega)
  have nx : ∀ (v : Nat × Int), v.1 < 10 → ¬ 10 ≤ (mm_ox (f, t, n) v).1 := fun v a b => by
    unfold mm_ox at b; split at b <;> first | omega | (dsimp only at b; omega)
  by_cases q : f = 90
  · subst q
    have e : mm_SHo (90, t, n) = mm_on (90, t, n) (10, 0) := rfl
    rw [e] at h9 ⊢
    unfold mm_on at h9 ⊢
    split at h9
    · rename_i w
      have w1 : t = 0 := w.1
      have w2 : n = 0 := w.2
      subst w1; subst w2
      exact ⟨rfl, rfl⟩
    · dsimp only at h9; omega
  · exfalso
    unfold mm_SHo at h9
    split at h9 <;> first
      | exact no _ (by decide) h9
      | exact ni _ _ (by decide) h9
      | exact nt _ (by decide) h9
      | exact nx _ (by decide) h9
      | (rename_i w; exact q w)
      | (dsimp only at h9; omega)
theorem mm_SHhi {x : mm_Id} (h : 10 ≤ (mm_SH x).1) : (mm_SH x).1 = 10 ∧ x = (90, 0, 0) := by
  obtain ⟨a, b⟩ := mm_SHoh (x := mm_fl x) h
  refine ⟨a, ?_⟩
  have c := mm_fl1 x
  rw [b] at c
  have c : 90 = x.1 := c
  have e : mm_fl x = x := by unfold mm_fl; rw [if_neg (by omega)]
  rw [← e]
  exact b
theorem mm_SH10 {x : mm_Id} (h : (mm_SH x).1 = 10) : x = (90, 0, 0) := (mm_SHhi (by omega)).2
theorem mm_SHno {x : mm_Id} {k : Nat} {c : Int} (h : mm_SH x = (k, c)) (hk : 11 ≤ k) : False := by
  have e : (mm_SH x).1 = k := by rw [h]
  have := (mm_SHhi (x := x) (by omega)).1
  omega
theorem mm_tyI {cc a : Nat} (hcc : cc < 10) (ha : a < mm_nc cc) : ((mm_ft.getD cc []).getD a 0 = 0 → mm_Yc cc a = .int) ∧ ((mm_ft.getD cc []).getD a 0 = 1 → mm_Yc cc a = .long) ∧ ((mm_ft.getD cc []).getD a 0 = 3 → mm_Yc cc a = .boolean) ∧
    ((mm_ft.getD cc []).getD a 0 = 2 → (∃ n, mm_Yc cc a = .object n) ∨ ∃ t, mm_Yc cc a = .array t) := by
  have ht := (mm_cA cc hcc).2.2.2 a ha
  unfold mm_tyOk at ht
  split at ht
  · rename_i q
    have e : (mm_ft.getD cc []).getD a 0 = 0 := by simpa using ht
    exact ⟨fun _ => q, fun z => by omega, fun z => by omega, fun z => by omega⟩
  · rename_i q
    have e : (mm_ft.getD cc []).getD a 0 = 1 := by simpa using ht
    exact ⟨fun z => by omega, fun _ => q, fun z => by omega, fun z => by omega⟩
  · rename_i n q
    have e : (mm_ft.getD cc []).getD a 0 = 2 := by simpa using ht
    exact ⟨fun z => by omega, fun z => by omega, fun z => by omega, fun _ => Or.inl ⟨_, q⟩⟩
  · rename_i n q
    have e : (mm_ft.getD cc []).getD a 0 = 2 := by simpa using ht
    exact ⟨fun z => by omega, fun z => by omega, fun z => by omega, fun _ => Or.inr ⟨_, q⟩⟩
  · rename_i q
    have e : (mm_ft.getD cc []).getD a 0 = 3 := by simpa using ht
    exact ⟨fun z => by omega, fun z => by omega, fun _ => q, fun z => by omega⟩
  · cases ht
section MX
variable {p : Program} {l : Launch} {e : Env} {R : Room} {s : State} {m : MethodId} {args : Array Value} {below : List Frame} {meth : Method} {c : Code} {H : Heap} {locs : List Loc} {cells slots : Nat} {Q : State → Prop} {y pc len : Nat} {g : mm_G} {h : mm_H} {lo st : List mm_V} {ls : Array Slot} {vs : List Value} {op a d ee : Nat} {k : Int} {r : List mm_V × List mm_V × mm_H} {ins : Instr}
theorem ml_i2c (C : mm_C p s m args meth c y g) (hd : decode (mm_by y) pc = .ok (.i2c, 1)) (hx : mm_x1 (39, a, k, d, ee) lo st h = some r) (hl : mm_rl g lo ls (mm_mL y)) (hs : mm_rs g st vs) (hh : mm_hr g h H) (hq : ∀ q ∈ locs, g.1 ≤ q.base) (K : mm_K p l e R s m args below meth c Q y g r h cells slots (pc + 1)) : W p l e R s m args below meth c H locs cells slots Q (F0 m pc ls vs) := by
  simp only [mm_x1] at hx
  split at hx
  · cases hx
    obtain ⟨w0, v0, rfl, ⟨u0, rfl, rfl⟩, hs⟩ := hs
    refine lv_i2c C.1 C.2.1 hd rfl (K _ _ _ _ _ _ hl ⟨_, _, rfl, ⟨_, rfl, ?_⟩, hs⟩ hh hq rfl rfl)
    rw [pk_char, nI_toInt (by omega)]
    have e : u0.toInt = if 2 * u0.toBitVec.toNat < 2 ^ 32 then (u0.toBitVec.toNat : Int) else (u0.toBitVec.toNat : Int) - (2 ^ 32 : Nat) := rfl
    rw [e]
    split <;> omega
  · cases hx
theorem mm_wsum {g : mm_G} : ∀ {st : List mm_V} {vs : List Value}, mm_rs g st vs → (vs.map fun v => v.category).sum ≤ (st.map mm_wt).sum
  | [], vs, h => by
    have h : vs = [] := h
    subst h
    exact Nat.le_refl _
  | v :: st, vs, h => by
    obtain ⟨w, v', rfl, q, hs⟩ := h
    have ih := mm_wsum hs
    have : w.category ≤ mm_wt v := by
      rcases v with (x | x) | (_ | x)
      · obtain ⟨u, rfl, -⟩ := q; exact Nat.le_refl _
      · obtain ⟨u, rfl, -⟩ := q; exact Nat.le_refl _
      · have q : w.category = 1 := q
        rw [q]; exact Nat.le_refl _
      · rw [mm_rv_cat q (by intro z; cases z) (by intro z z'; cases z')]; exact Nat.le_refl _
    simp only [List.map_cons, List.sum_cons]
    omega
theorem mm_maw : (Cond.static Lib.Math.max.name ∈ lw_g ∧ Cond.code Lib.Math.max.name Lib.Math.max.code 2 (some .int) ∈ lw_g) ∧ (Cond.static Lib.Math.min.name ∈ lw_g ∧ Cond.code Lib.Math.min.name Lib.Math.min.code 2 (some .int) ∈ lw_g) ∧ Cond.initialized "java/lang/Math" ∈ lw_g := by decide +kernel
theorem ml_max (C : mm_C p s m args meth c y g) (hd : decode (mm_by y) pc = .ok (.invokestatic d, 3)) (hw : Cond.methodLink (mm_nm y).cls d Lib.Math.max.name ∈ lw_g) (hR : 1 ≤ R.frames ∧ 21 ≤ R.locals) (hc : cells ≤ R.cells ∧ slots ≤ R.slots) (hx : mm_x5 (98, a, k, d, ee) lo st h = some r) (hl : mm_rl g lo ls (mm_mL y)) (hs : mm_rs g st vs) (hh : mm_hr g h H) (hq : ∀ q ∈ locs, g.1 ≤ q.base) (K : mm_K p l e R s m args below meth c Q y g r h cells slots (pc + 3)) : W p l e R s m args below meth c H locs cells slots Q (F0 m pc ls vs) := by
  simp only [mm_x5] at hx
  split at hx
  · obtain ⟨w1, v1, rfl, ⟨u1, rfl, rfl⟩, w0, v0, rfl, ⟨u0, rfl, rfl⟩, hs⟩ := hs
    split at hx
    · rename_i hsum
      cases hx
      have := mm_wsum hs
      refine va_mmax C.1 C.2.1 (C.2.2.1.trans hl.1.symm) C.2.2.2.1 (C.2.2.2.2.1 _ hw) (C.2.2.2.2.1 _ mm_maw.1.1) (C.2.2.2.2.1 _ mm_maw.2.2) (C.2.2.2.2.1 _ mm_maw.1.2) hR.1 (by omega) hc.1 hc.2 hd (K _ _ _ _ _ _ hl ⟨_, _, rfl, ⟨_, rfl, ?_⟩, hs⟩ hh hq rfl rfl)
      simp only [mm_lt2]
      split <;> rfl
    · cases hx
  · cases hx
theorem ml_min (C : mm_C p s m args meth c y g) (hd : decode (mm_by y) pc = .ok (.invokestatic d, 3)) (hw : Cond.methodLink (mm_nm y).cls d Lib.Math.min.name ∈ lw_g) (hR : 1 ≤ R.frames ∧ 21 ≤ R.locals) (hc : cells ≤ R.cells ∧ slots ≤ R.slots) (hx : mm_x5 (99, a, k, d, ee) lo st h = some r) (hl : mm_rl g lo ls (mm_mL y)) (hs : mm_rs g st vs) (hh : mm_hr g h H) (hq : ∀ q ∈ locs, g.1 ≤ q.base) (K : mm_K p l e R s m args below meth c Q y g r h cells slots (pc + 3)) : W p l e R s m args below meth c H locs cells slots Q (F0 m pc ls vs) := by
  simp only [mm_x5] at hx
  split at hx
  · obtain ⟨w1, v1, rfl, ⟨u1, rfl, rfl⟩, w0, v0, rfl, ⟨u0, rfl, rfl⟩, hs⟩ := hs
    split at hx
    · rename_i hsum
      cases hx
      have := mm_wsum hs
      refine va_mmin C.1 C.2.1 (C.2.2.1.trans hl.1.symm) C.2.2.2.1 (C.2.2.2.2.1 _ hw) (C.2.2.2.2.1 _ mm_maw.2.1.1) (C.2.2.2.2.1 _ mm_maw.2.2) (C.2.2.2.2.1 _ mm_maw.2.1.2) hR.1 (by omega) hc.1 hc.2 hd (K _ _ _ _ _ _ hl ⟨_, _, rfl, ⟨_, rfl, ?_⟩, hs⟩ hh hq rfl rfl)
      simp only [mm_lt2]
      split <;> rfl
    · cases hx
  · cases hx
theorem mm_x5room {R : Room} (ho : op = 98 ∨ op = 99) (hx : mm_x5 (op, a, k, d, ee) lo st h = some r) (hRc : (cells : Int) + (r.2.2.2.2.1 - h.2.2.1) ≤ R.cells ∧ (slots : Int) + (r.2.2.2.2.2 - h.2.2.2) ≤ R.slots) : cells ≤ R.cells ∧ slots ≤ R.slots := by
  have e : r.2.2 = h := by
    rcases ho with rfl | rfl
    · simp only [mm_x5] at hx
      split at hx
      · split at hx
        · cases hx; rfl
        · cases hx
      · cases hx
    · simp only [mm_x5] at hx
      split at hx
      · split at hx
        · cases hx; rfl
        · cases hx
      · cases hx
  rw [e] at hRc
  omega
end MX
