/-! rows that go elsewhere, rows on the heap -/
section MT
variable {p : Program} {l : Launch} {e : Env} {R : Room} {s : State} {m : MethodId} {args : Array Value} {below : List Frame} {meth : Method} {c : Code} {H : Heap} {locs : List Loc} {cells slots : Nat} {Q : State → Prop} {y pc : Nat} {g : mm_G} {h : mm_H} {lo st : List mm_V} {ls : Array Slot} {vs : List Value} {a d ee : Nat} {k : Int} {r : List mm_V × List mm_V × mm_H} {z : Option Nat × List mm_V}
def mm_tg (o : Option Nat) (t f : Nat) : Nat := match o with | some _ => t | none => f
theorem mm_lt0 (x : Int32) : x < 0 ↔ x.toInt < 0 := by rw [Int32.lt_iff_toInt_lt, Int32.toInt_zero]
theorem mm_ge0 (x : Int32) : 0 ≤ x ↔ ¬ x.toInt < 0 := by rw [Int32.le_iff_toInt_le, Int32.toInt_zero]; omega
theorem mm_gt0 (x : Int32) : 0 < x ↔ 0 < x.toInt := by rw [Int32.lt_iff_toInt_lt, Int32.toInt_zero]
theorem mm_le0 (x : Int32) : x ≤ 0 ↔ ¬ 0 < x.toInt := by rw [Int32.le_iff_toInt_le, Int32.toInt_zero]; omega
theorem mm_lt2 (x y : Int32) : x < y ↔ x.toInt < y.toInt := Int32.lt_iff_toInt_lt
theorem mm_le2 (x y : Int32) : x ≤ y ↔ ¬ y.toInt < x.toInt := by rw [Int32.le_iff_toInt_le]; omega
theorem mj_ifeq {off : Int} {tgt : Nat} (C : mm_C p s m args meth c y g) (hd : decode (mm_by y) pc = .ok (.ifCond .eq off, 3)) (ht : (pc : Int) + off = (tgt : Int)) (hx : mm_j (40, a, k, d, ee) st = some z) (hl : mm_rl g lo ls (mm_mL y)) (hs : mm_rs g st vs) (hh : mm_hr g h H) (hq : ∀ q ∈ locs, g.1 ≤ q.base) (K : mm_K p l e R s m args below meth c Q y g (lo, z.2, h) h cells slots (mm_tg z.1 tgt (pc + 3))) : W p l e R s m args below meth c H locs cells slots Q (F0 m pc ls vs) := by
  simp only [mm_j] at hx
  split at hx
  · cases hx
    obtain ⟨w0, v0, rfl, ⟨u0, rfl, rfl⟩, hs⟩ := hs
    refine lv_if_eq C.1 C.2.1 hd ht (fun q => ?_) (fun q => ?_)
    · have e := (mm_eq0 _).mp q; simp only [if_pos e, mm_tg] at K
      exact K _ _ _ _ _ _ hl hs hh hq rfl rfl
    · have e := fun z => q ((mm_eq0 _).mpr z); simp only [if_neg e, mm_tg] at K
      exact K _ _ _ _ _ _ hl hs hh hq rfl rfl
  · cases hx
theorem mj_ifne {off : Int} {tgt : Nat} (C : mm_C p s m args meth c y g) (hd : decode (mm_by y) pc = .ok (.ifCond .ne off, 3)) (ht : (pc : Int) + off = (tgt : Int)) (hx : mm_j (41, a, k, d, ee) st = some z) (hl : mm_rl g lo ls (mm_mL y)) (hs : mm_rs g st vs) (hh : mm_hr g h H) (hq : ∀ q ∈ locs, g.1 ≤ q.base) (K : mm_K p l e R s m args below meth c Q y g (lo, z.2, h) h cells slots (mm_tg z.1 tgt (pc + 3))) : W p l e R s m args below meth c H locs cells slots Q (F0 m pc ls vs) := by
  simp only [mm_j] at hx
  split at hx
  · cases hx
    obtain ⟨w0, v0, rfl, ⟨u0, rfl, rfl⟩, hs⟩ := hs
    refine lv_if_ne C.1 C.2.1 hd ht (fun q => ?_) (fun q => ?_)
    · have e := fun z => q ((mm_eq0 _).mpr z); simp only [if_neg e, mm_tg] at K
      exact K _ _ _ _ _ _ hl hs hh hq rfl rfl
    · have e := (mm_eq0 _).mp q; simp only [if_pos e, mm_tg] at K
      exact K _ _ _ _ _ _ hl hs hh hq rfl rfl
  · cases hx
theorem mj_iflt {off : Int} {tgt : Nat} (C : mm_C p s m args meth c y g) (hd : decode (mm_by y) pc = .ok (.ifCond .lt off, 3)) (ht : (pc : Int) + off = (tgt : Int)) (hx : mm_j (42, a, k, d, ee) st = some z) (hl : mm_rl g lo ls (mm_mL y)) (hs : mm_rs g st vs) (hh : mm_hr g h H) (hq : ∀ q ∈ locs, g.1 ≤ q.base) (K : mm_K p l e R s m args below meth c Q y g (lo, z.2, h) h cells slots (mm_tg z.1 tgt (pc + 3))) : W p l e R s m args below meth c H locs cells slots Q (F0 m pc ls vs) := by
  simp only [mm_j] at hx
  split at hx
  · cases hx
    obtain ⟨w0, v0, rfl, ⟨u0, rfl, rfl⟩, hs⟩ := hs
    refine lv_if_lt C.1 C.2.1 hd ht (fun q => ?_) (fun q => ?_)
    · have e := (mm_lt0 _).mp q; simp only [if_pos e, mm_tg] at K
      exact K _ _ _ _ _ _ hl hs hh hq rfl rfl
    · have e := fun z => q ((mm_lt0 _).mpr z); simp only [if_neg e, mm_tg] at K
      exact K _ _ _ _ _ _ hl hs hh hq rfl rfl
  · cases hx
theorem mj_ifge {off : Int} {tgt : Nat} (C : mm_C p s m args meth c y g) (hd : decode (mm_by y) pc = .ok (.ifCond .ge off, 3)) (ht : (pc : Int) + off = (tgt : Int)) (hx : mm_j (43, a, k, d, ee) st = some z) (hl : mm_rl g lo ls (mm_mL y)) (hs : mm_rs g st vs) (hh : mm_hr g h H) (hq : ∀ q ∈ locs, g.1 ≤ q.base) (K : mm_K p l e R s m args below meth c Q y g (lo, z.2, h) h cells slots (mm_tg z.1 tgt (pc + 3))) : W p l e R s m args below meth c H locs cells slots Q (F0 m pc ls vs) := by
  simp only [mm_j] at hx
  split at hx
  · cases hx
    obtain ⟨w0, v0, rfl, ⟨u0, rfl, rfl⟩, hs⟩ := hs
    refine lv_if_ge C.1 C.2.1 hd ht (fun q => ?_) (fun q => ?_)
    · have e := (mm_ge0 _).mp q; simp only [if_neg e, mm_tg] at K
      exact K _ _ _ _ _ _ hl hs hh hq rfl rfl
    · have e := Classical.byContradiction fun z => q ((mm_ge0 _).mpr z); simp only [if_pos e, mm_tg] at K
      exact K _ _ _ _ _ _ hl hs hh hq rfl rfl
  · cases hx
theorem mj_ifgt {off : Int} {tgt : Nat} (C : mm_C p s m args meth c y g) (hd : decode (mm_by y) pc = .ok (.ifCond .gt off, 3)) (ht : (pc : Int) + off = (tgt : Int)) (hx : mm_j (44, a, k, d, ee) st = some z) (hl : mm_rl g lo ls (mm_mL y)) (hs : mm_rs g st vs) (hh : mm_hr g h H) (hq : ∀ q ∈ locs, g.1 ≤ q.base) (K : mm_K p l e R s m args below meth c Q y g (lo, z.2, h) h cells slots (mm_tg z.1 tgt (pc + 3))) : W p l e R s m args below meth c H locs cells slots Q (F0 m pc ls vs) := by
  simp only [mm_j] at hx
  split at hx
  · cases hx
    obtain ⟨w0, v0, rfl, ⟨u0, rfl, rfl⟩, hs⟩ := hs
    refine lv_if_gt C.1 C.2.1 hd ht (fun q => ?_) (fun q => ?_)
    · have e := (mm_gt0 _).mp q; simp only [if_pos e, mm_tg] at K
      exact K _ _ _ _ _ _ hl hs hh hq rfl rfl
    · have e := fun z => q ((mm_gt0 _).mpr z); simp only [if_neg e, mm_tg] at K
      exact K _ _ _ _ _ _ hl hs hh hq rfl rfl
  · cases hx
theorem mj_ifle {off : Int} {tgt : Nat} (C : mm_C p s m args meth c y g) (hd : decode (mm_by y) pc = .ok (.ifCond .le off, 3)) (ht : (pc : Int) + off = (tgt : Int)) (hx : mm_j (45, a, k, d, ee) st = some z) (hl : mm_rl g lo ls (mm_mL y)) (hs : mm_rs g st vs) (hh : mm_hr g h H) (hq : ∀ q ∈ locs, g.1 ≤ q.base) (K : mm_K p l e R s m args below meth c Q y g (lo, z.2, h) h cells slots (mm_tg z.1 tgt (pc + 3))) : W p l e R s m args below meth c H locs cells slots Q (F0 m pc ls vs) := by
  simp only [mm_j] at hx
  split at hx
  · cases hx
    obtain ⟨w0, v0, rfl, ⟨u0, rfl, rfl⟩, hs⟩ := hs
    refine lv_if_le C.1 C.2.1 hd ht (fun q => ?_) (fun q => ?_)
    · have e := (mm_le0 _).mp q; simp only [if_neg e, mm_tg] at K
      exact K _ _ _ _ _ _ hl hs hh hq rfl rfl
    · have e := Classical.byContradiction fun z => q ((mm_le0 _).mpr z); simp only [if_pos e, mm_tg] at K
      exact K _ _ _ _ _ _ hl hs hh hq rfl rfl
  · cases hx
theorem mj_iceq {off : Int} {tgt : Nat} (C : mm_C p s m args meth c y g) (hd : decode (mm_by y) pc = .ok (.if_icmp .eq off, 3)) (ht : (pc : Int) + off = (tgt : Int)) (hx : mm_j (46, a, k, d, ee) st = some z) (hl : mm_rl g lo ls (mm_mL y)) (hs : mm_rs g st vs) (hh : mm_hr g h H) (hq : ∀ q ∈ locs, g.1 ≤ q.base) (K : mm_K p l e R s m args below meth c Q y g (lo, z.2, h) h cells slots (mm_tg z.1 tgt (pc + 3))) : W p l e R s m args below meth c H locs cells slots Q (F0 m pc ls vs) := by
  simp only [mm_j] at hx
  split at hx
  · cases hx
    obtain ⟨w0, v0, rfl, ⟨u0, rfl, rfl⟩, w1, v1, rfl, ⟨u1, rfl, rfl⟩, hs⟩ := hs
    refine lv_icmp_eq C.1 C.2.1 hd ht (fun q => ?_) (fun q => ?_)
    · have e := (mm_eq32 _ _).mp q; simp only [if_pos e, mm_tg] at K
      exact K _ _ _ _ _ _ hl hs hh hq rfl rfl
    · have e := fun z => q ((mm_eq32 _ _).mpr z); simp only [if_neg e, mm_tg] at K
      exact K _ _ _ _ _ _ hl hs hh hq rfl rfl
  · cases hx
theorem mj_icne {off : Int} {tgt : Nat} (C : mm_C p s m args meth c y g) (hd : decode (mm_by y) pc = .ok (.if_icmp .ne off, 3)) (ht : (pc : Int) + off = (tgt : Int)) (hx : mm_j (47, a, k, d, ee) st = some z) (hl : mm_rl g lo ls (mm_mL y)) (hs : mm_rs g st vs) (hh : mm_hr g h H) (hq : ∀ q ∈ locs, g.1 ≤ q.base) (K : mm_K p l e R s m args below meth c Q y g (lo, z.2, h) h cells slots (mm_tg z.1 tgt (pc + 3))) : W p l e R s m args below meth c H locs cells slots Q (F0 m pc ls vs) := by
  simp only [mm_j] at hx
  split at hx
  · cases hx
    obtain ⟨w0, v0, rfl, ⟨u0, rfl, rfl⟩, w1, v1, rfl, ⟨u1, rfl, rfl⟩, hs⟩ := hs
    refine lv_icmp_ne C.1 C.2.1 hd ht (fun q => ?_) (fun q => ?_)
    · have e := fun z => q ((mm_eq32 _ _).mpr z); simp only [if_neg e, mm_tg] at K
      exact K _ _ _ _ _ _ hl hs hh hq rfl rfl
    · have e := (mm_eq32 _ _).mp q; simp only [if_pos e, mm_tg] at K
      exact K _ _ _ _ _ _ hl hs hh hq rfl rfl
  · cases hx
theorem mj_iclt {off : Int} {tgt : Nat} (C : mm_C p s m args meth c y g) (hd : decode (mm_by y) pc = .ok (.if_icmp .lt off, 3)) (ht : (pc : Int) + off = (tgt : Int)) (hx : mm_j (48, a, k, d, ee) st = some z) (hl : mm_rl g lo ls (mm_mL y)) (hs : mm_rs g st vs) (hh : mm_hr g h H) (hq : ∀ q ∈ locs, g.1 ≤ q.base) (K : mm_K p l e R s m args below meth c Q y g (lo, z.2, h) h cells slots (mm_tg z.1 tgt (pc + 3))) : W p l e R s m args below meth c H locs cells slots Q (F0 m pc ls vs) := by
  simp only [mm_j] at hx
  split at hx
  · cases hx
    obtain ⟨w0, v0, rfl, ⟨u0, rfl, rfl⟩, w1, v1, rfl, ⟨u1, rfl, rfl⟩, hs⟩ := hs
    refine lv_icmp_lt C.1 C.2.1 hd ht (fun q => ?_) (fun q => ?_)
    · have e := (mm_lt2 _ _).mp q; simp only [if_pos e, mm_tg] at K
      exact K _ _ _ _ _ _ hl hs hh hq rfl rfl
    · have e := fun z => q ((mm_lt2 _ _).mpr z); simp only [if_neg e, mm_tg] at K
      exact K _ _ _ _ _ _ hl hs hh hq rfl rfl
  · cases hx
theorem mj_icge {off : Int} {tgt : Nat} (C : mm_C p s m args meth c y g) (hd : decode (mm_by y) pc = .ok (.if_icmp .ge off, 3)) (ht : (pc : Int) + off = (tgt : Int)) (hx : mm_j (49, a, k, d, ee) st = some z) (hl : mm_rl g lo ls (mm_mL y)) (hs : mm_rs g st vs) (hh : mm_hr g h H) (hq : ∀ q ∈ locs, g.1 ≤ q.base) (K : mm_K p l e R s m args below meth c Q y g (lo, z.2, h) h cells slots (mm_tg z.1 tgt (pc + 3))) : W p l e R s m args below meth c H locs cells slots Q (F0 m pc ls vs) := by
  simp only [mm_j] at hx
  split at hx
  · cases hx
    obtain ⟨w0, v0, rfl, ⟨u0, rfl, rfl⟩, w1, v1, rfl, ⟨u1, rfl, rfl⟩, hs⟩ := hs
    refine lv_icmp_ge C.1 C.2.1 hd ht (fun q => ?_) (fun q => ?_)
    · have e := (mm_le2 _ _).mp q; simp only [if_neg e, mm_tg] at K
      exact K _ _ _ _ _ _ hl hs hh hq rfl rfl
    · have e := Classical.byContradiction fun z => q ((mm_le2 _ _).mpr z); simp only [if_pos e, mm_tg] at K
      exact K _ _ _ _ _ _ hl hs hh hq rfl rfl
  · cases hx
theorem mj_icgt {off : Int} {tgt : Nat} (C : mm_C p s m args meth c y g) (hd : decode (mm_by y) pc = .ok (.if_icmp .gt off, 3)) (ht : (pc : Int) + off = (tgt : Int)) (hx : mm_j (50, a, k, d, ee) st = some z) (hl : mm_rl g lo ls (mm_mL y)) (hs : mm_rs g st vs) (hh : mm_hr g h H) (hq : ∀ q ∈ locs, g.1 ≤ q.base) (K : mm_K p l e R s m args below meth c Q y g (lo, z.2, h) h cells slots (mm_tg z.1 tgt (pc + 3))) : W p l e R s m args below meth c H locs cells slots Q (F0 m pc ls vs) := by
  simp only [mm_j] at hx
  split at hx
  · cases hx
    obtain ⟨w0, v0, rfl, ⟨u0, rfl, rfl⟩, w1, v1, rfl, ⟨u1, rfl, rfl⟩, hs⟩ := hs
    refine lv_icmp_gt C.1 C.2.1 hd ht (fun q => ?_) (fun q => ?_)
    · have e := (mm_lt2 _ _).mp q; simp only [if_pos e, mm_tg] at K
      exact K _ _ _ _ _ _ hl hs hh hq rfl rfl
    · have e := fun z => q ((mm_lt2 _ _).mpr z); simp only [if_neg e, mm_tg] at K
      exact K _ _ _ _ _ _ hl hs hh hq rfl rfl
  · cases hx
theorem mj_icle {off : Int} {tgt : Nat} (C : mm_C p s m args meth c y g) (hd : decode (mm_by y) pc = .ok (.if_icmp .le off, 3)) (ht : (pc : Int) + off = (tgt : Int)) (hx : mm_j (51, a, k, d, ee) st = some z) (hl : mm_rl g lo ls (mm_mL y)) (hs : mm_rs g st vs) (hh : mm_hr g h H) (hq : ∀ q ∈ locs, g.1 ≤ q.base) (K : mm_K p l e R s m args below meth c Q y g (lo, z.2, h) h cells slots (mm_tg z.1 tgt (pc + 3))) : W p l e R s m args below meth c H locs cells slots Q (F0 m pc ls vs) := by
  simp only [mm_j] at hx
  split at hx
  · cases hx
    obtain ⟨w0, v0, rfl, ⟨u0, rfl, rfl⟩, w1, v1, rfl, ⟨u1, rfl, rfl⟩, hs⟩ := hs
    refine lv_icmp_le C.1 C.2.1 hd ht (fun q => ?_) (fun q => ?_)
    · have e := (mm_le2 _ _).mp q; simp only [if_neg e, mm_tg] at K
      exact K _ _ _ _ _ _ hl hs hh hq rfl rfl
    · have e := Classical.byContradiction fun z => q ((mm_le2 _ _).mpr z); simp only [if_pos e, mm_tg] at K
      exact K _ _ _ _ _ _ hl hs hh hq rfl rfl
  · cases hx
theorem mm_rvR {g : mm_G} {x : mm_Id} {w : Value} (h : mm_rv g (zR x) w) : ∃ o : Option Nat, w = va_rf o ∧ (x = mm_nul ↔ o = none) ∧ (x ≠ mm_nul → o = some (mm_ad g x)) := by
  have h : if x = mm_nul then w = .null else w = .ref (mm_ad g x) := h
  split at h
  · rename_i e
    exact ⟨none, h, ⟨fun _ => rfl, fun _ => e⟩, fun q => absurd e q⟩
  · rename_i e
    exact ⟨some (mm_ad g x), h, ⟨fun q => absurd q e, fun q => (by cases q)⟩, fun _ => rfl⟩
theorem mm_acmp {g : mm_G} {x y : mm_Id} {ox oy : Option Nat} (hx : (x = mm_nul ↔ ox = none) ∧ (x ≠ mm_nul → ox = some (mm_ad g x))) (hy : (y = mm_nul ↔ oy = none) ∧ (y ≠ mm_nul → oy = some (mm_ad g y)))
    (vx : x = mm_nul ∨ mm_SH x ≠ (0, 0) ∧ x.1 < 90) (vy : y = mm_nul ∨ mm_SH y ≠ (0, 0) ∧ y.1 < 90) : ox = oy ↔ x = y := by
  by_cases a : x = mm_nul
  · rw [hx.1.mp a]
    constructor
    · intro q
      rw [a, hy.1.mpr q.symm]
    · intro q
      exact (hy.1.mp (q ▸ a)).symm
  · rw [hx.2 a]
    obtain ⟨x1, x2⟩ := vx.resolve_left a
    by_cases b : y = mm_nul
    · rw [hy.1.mp b]
      exact ⟨fun q => (by cases q), fun q => absurd (q.trans b) a⟩
    · rw [hy.2 b]
      obtain ⟨y1, y2⟩ := vy.resolve_left b
      exact ⟨fun q => mm_ad_inj g x1 y1 x2 y2 (Option.some.inj q), fun q => by rw [q]⟩
theorem mj_aceq {off : Int} {tgt : Nat} (C : mm_C p s m args meth c y g) (hd : decode (mm_by y) pc = .ok (.if_acmp .eq off, 3)) (ht : (pc : Int) + off = (tgt : Int)) (hx : mm_j (52, a, k, d, ee) st = some z) (hl : mm_rl g lo ls (mm_mL y)) (hs : mm_rs g st vs) (hh : mm_hr g h H) (hq : ∀ q ∈ locs, g.1 ≤ q.base) (K : mm_K p l e R s m args below meth c Q y g (lo, z.2, h) h cells slots (mm_tg z.1 tgt (pc + 3))) : W p l e R s m args below meth c H locs cells slots Q (F0 m pc ls vs) := by
  simp only [mm_j] at hx
  split at hx
  · split at hx
    · rename_i hv
      cases hx
      obtain ⟨w0, v0, rfl, q0, w1, v1, rfl, q1, hs⟩ := hs
      obtain ⟨o0, rfl, h0⟩ := mm_rvR q0
      obtain ⟨o1, rfl, h1⟩ := mm_rvR q1
      have he := mm_acmp h1 h0 hv.1 hv.2
      refine lv_acmp_eq C.1 C.2.1 hd ht (fun q => ?_) (fun q => ?_)
      · simp only [if_pos (he.mp q), mm_tg] at K
        exact K _ _ _ _ _ _ hl hs hh hq rfl rfl
      · simp only [if_neg (fun z => q (he.mpr z)), mm_tg] at K
        exact K _ _ _ _ _ _ hl hs hh hq rfl rfl
    · cases hx
  · cases hx
theorem mj_acne {off : Int} {tgt : Nat} (C : mm_C p s m args meth c y g) (hd : decode (mm_by y) pc = .ok (.if_acmp .ne off, 3)) (ht : (pc : Int) + off = (tgt : Int)) (hx : mm_j (53, a, k, d, ee) st = some z) (hl : mm_rl g lo ls (mm_mL y)) (hs : mm_rs g st vs) (hh : mm_hr g h H) (hq : ∀ q ∈ locs, g.1 ≤ q.base) (K : mm_K p l e R s m args below meth c Q y g (lo, z.2, h) h cells slots (mm_tg z.1 tgt (pc + 3))) : W p l e R s m args below meth c H locs cells slots Q (F0 m pc ls vs) := by
  simp only [mm_j] at hx
  split at hx
  · split at hx
    · rename_i hv
      cases hx
      obtain ⟨w0, v0, rfl, q0, w1, v1, rfl, q1, hs⟩ := hs
      obtain ⟨o0, rfl, h0⟩ := mm_rvR q0
      obtain ⟨o1, rfl, h1⟩ := mm_rvR q1
      have he := mm_acmp h1 h0 hv.1 hv.2
      refine lv_acmp_ne C.1 C.2.1 hd ht (fun q => ?_) (fun q => ?_)
      · simp only [if_neg (fun z => q (he.mpr z)), mm_tg] at K
        exact K _ _ _ _ _ _ hl hs hh hq rfl rfl
      · simp only [if_pos (he.mp q), mm_tg] at K
        exact K _ _ _ _ _ _ hl hs hh hq rfl rfl
    · cases hx
  · cases hx
theorem mj_ifnull {off : Int} {tgt : Nat} (C : mm_C p s m args meth c y g) (hd : decode (mm_by y) pc = .ok (.ifnull off, 3)) (ht : (pc : Int) + off = (tgt : Int)) (hx : mm_j (54, a, k, d, ee) st = some z) (hl : mm_rl g lo ls (mm_mL y)) (hs : mm_rs g st vs) (hh : mm_hr g h H) (hq : ∀ q ∈ locs, g.1 ≤ q.base) (K : mm_K p l e R s m args below meth c Q y g (lo, z.2, h) h cells slots (mm_tg z.1 tgt (pc + 3))) : W p l e R s m args below meth c H locs cells slots Q (F0 m pc ls vs) := by
  simp only [mm_j] at hx
  split at hx
  · rename_i x _
    cases hx
    obtain ⟨w0, v0, rfl, q0, hs⟩ := hs
    have q1 : if x = mm_nul then w0 = .null else w0 = .ref (mm_ad g x) := q0
    split at q1
    · rename_i hn
      subst q1
      simp only [if_pos hn, mm_tg] at K
      exact lv_ifnullN C.1 C.2.1 hd ht (K _ _ _ _ _ _ hl hs hh hq rfl rfl)
    · rename_i hn
      subst q1
      simp only [if_neg hn, mm_tg] at K
      exact lv_ifnull C.1 C.2.1 hd (K _ _ _ _ _ _ hl hs hh hq rfl rfl)
  · cases hx
theorem mj_ifnonnull {off : Int} {tgt : Nat} (C : mm_C p s m args meth c y g) (hd : decode (mm_by y) pc = .ok (.ifnonnull off, 3)) (ht : (pc : Int) + off = (tgt : Int)) (hx : mm_j (55, a, k, d, ee) st = some z) (hl : mm_rl g lo ls (mm_mL y)) (hs : mm_rs g st vs) (hh : mm_hr g h H) (hq : ∀ q ∈ locs, g.1 ≤ q.base) (K : mm_K p l e R s m args below meth c Q y g (lo, z.2, h) h cells slots (mm_tg z.1 tgt (pc + 3))) : W p l e R s m args below meth c H locs cells slots Q (F0 m pc ls vs) := by
  simp only [mm_j] at hx
  split at hx
  · rename_i x _
    cases hx
    obtain ⟨w0, v0, rfl, q0, hs⟩ := hs
    have q1 : if x = mm_nul then w0 = .null else w0 = .ref (mm_ad g x) := q0
    split at q1
    · rename_i hn
      subst q1
      simp only [if_pos hn, mm_tg] at K
      exact lv_ifnonnullN C.1 C.2.1 hd (K _ _ _ _ _ _ hl hs hh hq rfl rfl)
    · rename_i hn
      subst q1
      simp only [if_neg hn, mm_tg] at K
      exact lv_ifnonnull C.1 C.2.1 hd ht (K _ _ _ _ _ _ hl hs hh hq rfl rfl)
  · cases hx
theorem mj_goto {off : Int} {tgt : Nat} (C : mm_C p s m args meth c y g) (hd : decode (mm_by y) pc = .ok (.goto off, 3)) (ht : (pc : Int) + off = (tgt : Int)) (hx : mm_j (56, a, k, d, ee) st = some z) (hl : mm_rl g lo ls (mm_mL y)) (hs : mm_rs g st vs) (hh : mm_hr g h H) (hq : ∀ q ∈ locs, g.1 ≤ q.base) (K : mm_K p l e R s m args below meth c Q y g (lo, z.2, h) h cells slots (mm_tg z.1 tgt (pc + 3))) : W p l e R s m args below meth c H locs cells slots Q (F0 m pc ls vs) := by
  simp only [mm_j] at hx
  cases hx
  exact lv_goto C.1 C.2.1 hd ht (K _ _ _ _ _ _ hl hs hh hq rfl rfl)
theorem mj_switch {df lo0 hi0 : Int} {offs : Array Int} {len : Nat} {t : Int × List Nat × Nat} (C : mm_C p s m args meth c y g) (hd : decode (mm_by y) pc = .ok (.tableswitch df lo0 hi0 offs, len)) (ht : mm_swt[a]? = some t) (h1 : t.1 = lo0) (h2 : hi0 = lo0 + t.2.1.length - 1)
    (hdf : mm_stt y t.2.2 = some ((pc : Int) + df).toNat ∧ 0 ≤ (pc : Int) + df) (hof : ∀ j, j < t.2.1.length → ∃ o, offs[j]? = some o ∧ mm_stt y (t.2.1.getD j 0) = some ((pc : Int) + o).toNat ∧ 0 ≤ (pc : Int) + o)
    (hx : mm_j (57, a, k, d, ee) st = some z) (hl : mm_rl g lo ls (mm_mL y)) (hs : mm_rs g st vs) (hh : mm_hr g h H) (hq : ∀ q ∈ locs, g.1 ≤ q.base) (K : ∀ b pc', z.1 = some b → mm_stt y b = some pc' → mm_K p l e R s m args below meth c Q y g (lo, z.2, h) h cells slots pc') : W p l e R s m args below meth c H locs cells slots Q (F0 m pc ls vs) := by
  simp only [mm_j, ht] at hx
  split at hx
  · cases hx
    obtain ⟨w0, v0, rfl, ⟨u0, rfl, rfl⟩, hs⟩ := hs
    by_cases q : t.1 ≤ u0.toInt ∧ u0.toInt < t.1 + t.2.1.length
    · obtain ⟨o, e1, e2, e3⟩ := hof (u0.toInt - t.1).toNat (by omega)
      rw [h1] at e1
      refine lv_tableIn (tgt := ((pc : Int) + o).toNat) C.1 C.2.1 hd (by omega) (by omega) e1 (by omega) ?_
      exact K _ _ (by simp only [if_pos q]) e2 _ _ _ _ _ _ hl hs hh hq rfl rfl
    · refine lv_tableOut (tgt := ((pc : Int) + df).toNat) C.1 C.2.1 hd (by omega) (by omega) ?_
      exact K _ _ (by simp only [if_neg q]) hdf.1 _ _ _ _ _ _ hl hs hh hq rfl rfl
  · cases hx
end MT
