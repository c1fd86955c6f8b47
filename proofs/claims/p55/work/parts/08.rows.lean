/-! a row of the mini machine against the bytes -/
def lw_g : List Cond := lw_tbl.filter goodWord
def mm_wd0 (e : Nat) : Option Cond := match e / 1000 with
  | 0 => (k2_sels lw_privs)[e % 1000]?
  | 1 => tables_1_1[e % 1000]?
  | 2 => tables_1_2[e % 1000]?
  | 3 => tables_1_3[e % 1000]?
  | 4 => tables_1_4[e % 1000]?
  | _ => none
theorem mm_wd0_in {e : Nat} {w : Cond} (h : mm_wd0 e = some w) : w ∈ lw_tbl := by
  unfold mm_wd0 at h
  unfold lw_tbl tables_1
  simp only [List.mem_append]
  split at h
  · exact Or.inl (List.mem_of_getElem? h)
  · exact Or.inr (Or.inl (List.mem_of_getElem? h))
  · exact Or.inr (Or.inr (Or.inl (List.mem_of_getElem? h)))
  · exact Or.inr (Or.inr (Or.inr (Or.inl (List.mem_of_getElem? h))))
  · exact Or.inr (Or.inr (Or.inr (Or.inr (List.mem_of_getElem? h))))
  · cases h
def mm_wd (e : Nat) : Option Cond := match mm_wd0 e with
  | some w => if goodWord w then some w else none
  | none => none
theorem mm_wd_in {e : Nat} {w : Cond} (h : mm_wd e = some w) : w ∈ lw_g := by
  unfold mm_wd at h
  split at h
  · rename_i w' hw
    split at h
    · rename_i hg
      cases h
      exact List.mem_filter.mpr ⟨mm_wd0_in hw, hg⟩
    · cases h
  · cases h
theorem mm_gw {w : Cond} (h : w ∈ lw_tbl) (hg : goodWord w = true) : w ∈ lw_g := List.mem_filter.mpr ⟨h, hg⟩
def mm_nm (y : Nat) : MethodName := match mm_tab[y]? with | some q => q.1 | none => ⟨"", "", ""⟩
def mm_by (y : Nat) : ByteArray := match mm_tab[y]? with | some q => q.2.1 | none => ⟨#[]⟩
def mm_rt1 (y : Nat) : Option FieldType := match mm_tab[y]? with | some q => q.2.2.2.1 | none => none
def mm_fr (y : Nat) : Nat := match mm_tab[y]? with | some q => q.2.2.2.2.2.1 | none => 0
def mm_lo (y : Nat) : Nat := match mm_tab[y]? with | some q => q.2.2.2.2.2.2.1 | none => 0
def mm_sta (y : Nat) : Nat := match mm_tab[y]? with | some q => q.2.2.2.2.2.2.2 | none => 0
def mm_stt (y b : Nat) : Option Nat := ((mm_code.getD y [])[b]?).map (fun q => q.1)
def mm_Tc (c : Nat) : u_T := match mm_cls[c]? with | some q => q.2.1 | none => fun _ => ("", "", "", false)
def mm_Cn (c : Nat) : String := match mm_cls[c]? with | some q => q.1 | none => ""
def mm_Yc (c : Nat) : Nat → FieldType := match c with | 0 => mm_Y0 | 1 => mm_Y1 | 2 => mm_Y2 | 3 => mm_Y3 | 4 => mm_Y4 | 5 => mm_Y5 | 6 => mm_Y6 | 7 => mm_Y7 | 8 => mm_Y8 | 9 => mm_Y9 | _ => mm_Y10
def mm_aty (kd : Nat) : FieldType := match kd with | 2 => .int | 3 => .byte | 4 => .boolean | 5 => .long | 6 => .object "PoolHouse$Dataset" | 7 => .object "PoolHouse$Snapshot" | 8 => .object "PoolHouse$Handle" | 9 => .object "PoolHouse$Node" | _ => .int
/-- what the Statement says of the cells that were there ahead -/
def mm_bA (g : mm_G) : Nat → Prop := fun q => g.1 ≤ q
def mm_roS (g : mm_G) (U : State) : Prop := ∀ cell : Cell, g.2.2.2.1[g.2.2.2.2 (90, 0, 0)]? = some cell → U.isArrayOf cell .int ∧ cell.vm ≠ .unknown
def mm_ro0 (g : mm_G) (U : State) : Prop := g.2.2.2.2 (90, 0, 0) < g.1 ∧ g.2.2.2.1.size = g.1 ∧ mm_roS g U
theorem mm_ro0_moved {g : mm_G} {u U : State} (hvm : u.vm.Alike U.vm) (h : mm_ro0 g u) : mm_ro0 g U := by
  obtain ⟨h0, h1, h2⟩ := h
  exact ⟨h0, h1, fun cell hc => ⟨State.isArrayOf_alike hvm (h2 cell hc).1, (h2 cell hc).2⟩⟩
def mm_nest : List (String × Nat × MethodName) := [("PoolHouse", 29, ⟨"PoolHouse$Path", "<init>", "()V"⟩), ("PoolHouse", 36, ⟨"PoolHouse$Script", "<init>", "()V"⟩), ("PoolHouse", 61, ⟨"PoolHouse$Rows", "<init>", "()V"⟩), ("PoolHouse$Tree", 25, ⟨"PoolHouse$Node", "<init>", "()V"⟩), ("PoolHouse", 82, ⟨"PoolHouse$Handle", "<init>", "()V"⟩)]
def mm_nst (U : State) : Prop := (∀ q ∈ mm_nest, va_Nw (.methodLinkNest q.1 q.2.1 q.2.2 "PoolHouse") U) ∧ (va_AO "PoolHouse$Dataset" U ∧ va_AO "PoolHouse$Snapshot" U ∧ va_AO "PoolHouse$Handle" U ∧ va_AO "PoolHouse$Node" U)
def mm_kf (g : mm_G) (U : State) : Prop := va_K g.2.1 mm_cls [] U ∧ (∀ kd, 2 ≤ kd → kd ≤ 9 → ArrOfT U (g.2.2.1 kd) (mm_aty kd) ∧ va_RA U (g.2.2.1 kd) (mm_aty kd)) ∧ mm_ro0 g U ∧ mm_nst U
theorem mm_kf_warm {g : mm_G} {u U : State} (hW : u.WarmedH U.vm) (h : mm_kf g u) : mm_kf g U :=
  ⟨h.1.moved hW.alike, fun kd a b => ⟨arrOfT_moved hW.alike (h.2.1 kd a b).1, (h.2.1 kd a b).2.moved hW.alike⟩, mm_ro0_moved hW.alike h.2.2.1, fun q hq => (h.2.2.2.1 q hq).warmM hW, h.2.2.2.2.1.moved hW.alike, h.2.2.2.2.2.1.moved hW.alike, h.2.2.2.2.2.2.1.moved hW.alike, h.2.2.2.2.2.2.2.moved hW.alike⟩
theorem mm_kf_same {g : mm_G} {u U : State} (hv : u.vm = U.vm) (h : mm_kf g u) : mm_kf g U :=
  have ha : u.vm.Alike U.vm := by rw [← hv]; exact Vm.Alike.refl u.vm
  ⟨h.1.moved ha, fun kd a b => ⟨arrOfT_moved ha (h.2.1 kd a b).1, (h.2.1 kd a b).2.moved ha⟩, mm_ro0_moved ha h.2.2.1, fun q hq => (h.2.2.2.1 q hq).same rfl hv, h.2.2.2.2.1.moved ha, h.2.2.2.2.2.1.moved ha, h.2.2.2.2.2.2.1.moved ha, h.2.2.2.2.2.2.2.moved ha⟩
def mm_C (p : Program) (s : State) (m : MethodId) (args : Array Value) (meth : Method) (c : Code) (y : Nat) (g : mm_G) : Prop :=
  p.tables.exec = Jvm.exec ∧ c.code = mm_by y ∧ c.maxLocals = mm_mL y ∧ s.vm.findClass (mm_nm y).cls = some m.cls ∧ (∀ w ∈ lw_g, w.before args s = true) ∧ mm_kf g s ∧ ((mm_nm y).name = "<init>" → meth.name = "<init>")
def mm_la (ls : Array Slot) : List (Nat × Value) := (List.range ls.size).filterMap fun (k : Nat) => match (ls[k]? : Option Slot) with | some (Slot.val w) => some (k, w) | _ => none
theorem mm_la_mem {ls : Array Slot} {k : Nat} {w : Value} : (k, w) ∈ mm_la ls ↔ ls[k]? = some (.val w) := by
  unfold mm_la
  rw [List.mem_filterMap]
  constructor
  · rintro ⟨j, hj, e⟩
    split at e
    · rename_i w' hw'
      cases e
      exact hw'
    · cases e
  · intro hw
    refine ⟨k, List.mem_range.mpr (lv_lt hw), ?_⟩
    rw [hw]
theorem mm_la_has {g : mm_G} {lo : List mm_V} {ls : Array Slot} {nL : Nat} (h : mm_rl g lo ls nL) : lv_has ls nL (mm_la ls) := ⟨h.1, h.2.2.1, fun q hq => mm_la_mem.mp hq⟩
theorem mm_st_len (lo : List mm_V) (a : Nat) (v : mm_V) : (mm_st lo a v).length = lo.length := by
  unfold mm_st
  split
  · simp
  · split <;> simp
theorem mm_st_get {lo : List mm_V} {a k : Nat} {v u : mm_V} (h : (mm_st lo a v)[k]? = some u) (hu : u ≠ zU) : (k = a ∧ u = v) ∨ (k ≠ a ∧ lo[k]? = some u ∧ (k + 1 = a → ∀ x, u ≠ zL x)) := by
  unfold mm_st at h
  split at h
  · by_cases e : k = 0
    · subst e
      rw [List.getElem?_set_self'] at h
      cases hz : lo[0]? with
      | none => rw [hz] at h; cases h
      | some q => rw [hz] at h; cases h; exact Or.inl ⟨rfl, rfl⟩
    · rw [List.getElem?_set_ne (fun q => e q.symm)] at h
      exact Or.inr ⟨e, h, fun q => by omega⟩
  · rename_i j
    split at h
    · rename_i x hx
      by_cases e : k = j + 1
      · subst e
        rw [List.getElem?_set_self'] at h
        cases hz : (lo.set j zU)[j + 1]? with
        | none => rw [hz] at h; cases h
        | some q => rw [hz] at h; cases h; exact Or.inl ⟨rfl, rfl⟩
      · rw [List.getElem?_set_ne (fun q => e q.symm)] at h
        by_cases e2 : k = j
        · subst e2
          rw [List.getElem?_set_self', hx] at h
          cases h
          exact absurd rfl hu
        · rw [List.getElem?_set_ne (fun q => e2 q.symm)] at h
          exact Or.inr ⟨e, h, fun q => by omega⟩
    · rename_i hx
      by_cases e : k = j + 1
      · subst e
        rw [List.getElem?_set_self'] at h
        cases hz : lo[j + 1]? with
        | none => rw [hz] at h; cases h
        | some q => rw [hz] at h; cases h; exact Or.inl ⟨rfl, rfl⟩
      · rw [List.getElem?_set_ne (fun q => e q.symm)] at h
        refine Or.inr ⟨e, h, fun q x hq => ?_⟩
        have : k = j := by omega
        subst this
        subst hq
        exact hx x h
theorem mm_rv_cat {g : mm_G} {v : mm_V} {w : Value} (h : mm_rv g v w) (hu : v ≠ zU) (hl : ∀ x, v ≠ zL x) : w.category = 1 := by
  rcases v with (x | x) | (_ | x)
  · obtain ⟨u, rfl, -⟩ := h; rfl
  · exact absurd rfl (hl x)
  · exact absurd rfl hu
  · have h : if x = mm_nul then w = .null else w = .ref (mm_ad g x) := h
    split at h <;> (subst h; rfl)
theorem mm_rl_st1 {g : mm_G} {lo : List mm_V} {ls ls' : Array Slot} {nL a : Nat} {v : mm_V} {w : Value} (hl : mm_rl g lo ls nL) (hv : mm_rv g v w)
    (h' : lv_has ls' nL ((a, w) :: (mm_la ls).filter (fun q => !(q.1 == a) && !(q.1 + 1 == a && q.2.category == 2)))) : mm_rl g (mm_st lo a v) ls' nL := by
  refine ⟨h'.1, (mm_st_len _ _ _).trans hl.2.1, h'.2.1, fun k u hk hu => ?_⟩
  rcases mm_st_get hk hu with ⟨rfl, rfl⟩ | ⟨h1, h2, h3⟩
  · exact ⟨w, h'.2.2 _ List.mem_cons_self, hv⟩
  · obtain ⟨w', h4, h5⟩ := hl.2.2.2 k u h2 hu
    refine ⟨w', h'.2.2 (k, w') (List.mem_cons_of_mem _ (List.mem_filter.mpr ⟨mm_la_mem.mpr h4, ?_⟩)), h5⟩
    simp only [Bool.and_eq_true, Bool.not_eq_true', beq_eq_false_iff_ne, ne_eq, Bool.and_eq_false_iff]
    refine ⟨h1, ?_⟩
    by_cases e : k + 1 = a
    · right
      rw [mm_rv_cat h5 hu (h3 e)]
      decide
    · exact Or.inl e
theorem mm_rl_st2 {g : mm_G} {lo : List mm_V} {ls ls' : Array Slot} {nL a : Nat} {v : mm_V} {w : Value} (hl : mm_rl g lo ls nL) (hv : mm_rv g v w)
    (h' : lv_has ls' nL ((a, w) :: (mm_la ls).filter (fun q => !(q.1 == a) && (!(q.1 == a + 1) && !(q.1 + 1 == a && q.2.category == 2))))) : mm_rl g ((mm_st lo a v).set (a + 1) zU) ls' nL := by
  refine ⟨h'.1, by rw [List.length_set]; exact (mm_st_len _ _ _).trans hl.2.1, h'.2.1, fun k u hk hu => ?_⟩
  have hk1 : k ≠ a + 1 := fun e => by
    subst e
    rw [List.getElem?_set_self'] at hk
    cases hz : (mm_st lo a v)[a + 1]? with
    | none => rw [hz] at hk; cases hk
    | some q => rw [hz] at hk; cases hk; exact hu rfl
  rw [List.getElem?_set_ne (fun q => hk1 q.symm)] at hk
  rcases mm_st_get hk hu with ⟨rfl, rfl⟩ | ⟨h1, h2, h3⟩
  · exact ⟨w, h'.2.2 _ List.mem_cons_self, hv⟩
  · obtain ⟨w', h4, h5⟩ := hl.2.2.2 k u h2 hu
    refine ⟨w', h'.2.2 (k, w') (List.mem_cons_of_mem _ (List.mem_filter.mpr ⟨mm_la_mem.mpr h4, ?_⟩)), h5⟩
    simp only [Bool.and_eq_true, Bool.not_eq_true', beq_eq_false_iff_ne, ne_eq, Bool.and_eq_false_iff]
    refine ⟨h1, hk1, ?_⟩
    by_cases e : k + 1 = a
    · right
      rw [mm_rv_cat h5 hu (h3 e)]
      decide
    · exact Or.inl e
section MS
variable {p : Program} {l : Launch} {e : Env} {R : Room} {s : State} {m : MethodId} {args : Array Value} {below : List Frame} {meth : Method} {c : Code} {H : Heap} {locs : List Loc} {cells slots : Nat} {Q : State → Prop} {y pc : Nat} {g : mm_G} {h : mm_H} {lo st : List mm_V} {ls : Array Slot} {vs : List Value} {a d ee : Nat} {k : Int} {r : List mm_V × List mm_V × mm_H}
def mm_K (p : Program) (l : Launch) (e : Env) (R : Room) (s : State) (m : MethodId) (args : Array Value) (below : List Frame) (meth : Method) (c : Code) (Q : State → Prop) (y : Nat) (g : mm_G) (r : List mm_V × List mm_V × mm_H) (h : mm_H) (cells slots pc' : Nat) : Prop :=
  ∀ (ls' : Array Slot) (vs' : List Value) (H' : Heap) (locs' : List Loc) (cells' slots' : Nat), mm_rl g r.1 ls' (mm_mL y) → mm_rs g r.2.1 vs' → mm_hr g r.2.2 H' → (∀ q ∈ locs', g.1 ≤ q.base) → (cells' : Int) - r.2.2.2.2.1 = cells - h.2.2.1 → (slots' : Int) - r.2.2.2.2.2 = slots - h.2.2.2 →
    W p l e R s m args below meth c H' locs' cells' slots' Q (F0 m pc' ls' vs')
theorem ml_iadd (C : mm_C p s m args meth c y g) (hd : decode (mm_by y) pc = .ok (.iadd, 1)) (hx : mm_x2 (10, a, k, d, ee) lo st h = some r) (hl : mm_rl g lo ls (mm_mL y)) (hs : mm_rs g st vs) (hh : mm_hr g h H) (hq : ∀ q ∈ locs, g.1 ≤ q.base) (K : mm_K p l e R s m args below meth c Q y g r h cells slots (pc + 1)) : W p l e R s m args below meth c H locs cells slots Q (F0 m pc ls vs) := by
  simp only [mm_x2] at hx
  split at hx
  · cases hx
    obtain ⟨w0, v0, rfl, ⟨u0, rfl, rfl⟩, w1, v1, rfl, ⟨u1, rfl, rfl⟩, hs⟩ := hs
    exact lv_iadd C.1 C.2.1 hd (K _ _ _ _ _ _ hl ⟨_, _, rfl, ⟨_, rfl, mm_addT _ _⟩, hs⟩ hh hq rfl rfl)
  · cases hx
theorem ml_isub (C : mm_C p s m args meth c y g) (hd : decode (mm_by y) pc = .ok (.isub, 1)) (hx : mm_x2 (11, a, k, d, ee) lo st h = some r) (hl : mm_rl g lo ls (mm_mL y)) (hs : mm_rs g st vs) (hh : mm_hr g h H) (hq : ∀ q ∈ locs, g.1 ≤ q.base) (K : mm_K p l e R s m args below meth c Q y g r h cells slots (pc + 1)) : W p l e R s m args below meth c H locs cells slots Q (F0 m pc ls vs) := by
  simp only [mm_x2] at hx
  split at hx
  · cases hx
    obtain ⟨w0, v0, rfl, ⟨u0, rfl, rfl⟩, w1, v1, rfl, ⟨u1, rfl, rfl⟩, hs⟩ := hs
    exact lv_isub C.1 C.2.1 hd (K _ _ _ _ _ _ hl ⟨_, _, rfl, ⟨_, rfl, mm_subT _ _⟩, hs⟩ hh hq rfl rfl)
  · cases hx
theorem ml_imul (C : mm_C p s m args meth c y g) (hd : decode (mm_by y) pc = .ok (.imul, 1)) (hx : mm_x2 (12, a, k, d, ee) lo st h = some r) (hl : mm_rl g lo ls (mm_mL y)) (hs : mm_rs g st vs) (hh : mm_hr g h H) (hq : ∀ q ∈ locs, g.1 ≤ q.base) (K : mm_K p l e R s m args below meth c Q y g r h cells slots (pc + 1)) : W p l e R s m args below meth c H locs cells slots Q (F0 m pc ls vs) := by
  simp only [mm_x2] at hx
  split at hx
  · cases hx
    obtain ⟨w0, v0, rfl, ⟨u0, rfl, rfl⟩, w1, v1, rfl, ⟨u1, rfl, rfl⟩, hs⟩ := hs
    exact lv_imul C.1 C.2.1 hd (K _ _ _ _ _ _ hl ⟨_, _, rfl, ⟨_, rfl, mm_mulT _ _⟩, hs⟩ hh hq rfl rfl)
  · cases hx
theorem ml_ineg (C : mm_C p s m args meth c y g) (hd : decode (mm_by y) pc = .ok (.ineg, 1)) (hx : mm_x2 (15, a, k, d, ee) lo st h = some r) (hl : mm_rl g lo ls (mm_mL y)) (hs : mm_rs g st vs) (hh : mm_hr g h H) (hq : ∀ q ∈ locs, g.1 ≤ q.base) (K : mm_K p l e R s m args below meth c Q y g r h cells slots (pc + 1)) : W p l e R s m args below meth c H locs cells slots Q (F0 m pc ls vs) := by
  simp only [mm_x2] at hx
  split at hx
  · cases hx
    obtain ⟨w0, v0, rfl, ⟨u0, rfl, rfl⟩, hs⟩ := hs
    exact lv_ineg C.1 C.2.1 hd (K _ _ _ _ _ _ hl ⟨_, _, rfl, ⟨_, rfl, mm_negT _⟩, hs⟩ hh hq rfl rfl)
  · cases hx
theorem ml_iand (C : mm_C p s m args meth c y g) (hd : decode (mm_by y) pc = .ok (.iand, 1)) (hx : mm_x2 (16, a, k, d, ee) lo st h = some r) (hl : mm_rl g lo ls (mm_mL y)) (hs : mm_rs g st vs) (hh : mm_hr g h H) (hq : ∀ q ∈ locs, g.1 ≤ q.base) (K : mm_K p l e R s m args below meth c Q y g r h cells slots (pc + 1)) : W p l e R s m args below meth c H locs cells slots Q (F0 m pc ls vs) := by
  simp only [mm_x2] at hx
  split at hx
  · cases hx
    obtain ⟨w0, v0, rfl, ⟨u0, rfl, rfl⟩, w1, v1, rfl, ⟨u1, rfl, rfl⟩, hs⟩ := hs
    exact lv_iand C.1 C.2.1 hd (K _ _ _ _ _ _ hl ⟨_, _, rfl, ⟨_, rfl, mm_andT _ _⟩, hs⟩ hh hq rfl rfl)
  · cases hx
theorem ml_ishr (C : mm_C p s m args meth c y g) (hd : decode (mm_by y) pc = .ok (.ishr, 1)) (hx : mm_x2 (17, a, k, d, ee) lo st h = some r) (hl : mm_rl g lo ls (mm_mL y)) (hs : mm_rs g st vs) (hh : mm_hr g h H) (hq : ∀ q ∈ locs, g.1 ≤ q.base) (K : mm_K p l e R s m args below meth c Q y g r h cells slots (pc + 1)) : W p l e R s m args below meth c H locs cells slots Q (F0 m pc ls vs) := by
  simp only [mm_x2] at hx
  split at hx
  · cases hx
    obtain ⟨w0, v0, rfl, ⟨u0, rfl, rfl⟩, w1, v1, rfl, ⟨u1, rfl, rfl⟩, hs⟩ := hs
    exact lv_ishr C.1 C.2.1 hd (K _ _ _ _ _ _ hl ⟨_, _, rfl, ⟨_, rfl, mm_shrT _ _⟩, hs⟩ hh hq rfl rfl)
  · cases hx
theorem ml_ladd (C : mm_C p s m args meth c y g) (hd : decode (mm_by y) pc = .ok (.ladd, 1)) (hx : mm_x2 (20, a, k, d, ee) lo st h = some r) (hl : mm_rl g lo ls (mm_mL y)) (hs : mm_rs g st vs) (hh : mm_hr g h H) (hq : ∀ q ∈ locs, g.1 ≤ q.base) (K : mm_K p l e R s m args below meth c Q y g r h cells slots (pc + 1)) : W p l e R s m args below meth c H locs cells slots Q (F0 m pc ls vs) := by
  simp only [mm_x2] at hx
  split at hx
  · cases hx
    obtain ⟨w0, v0, rfl, ⟨u0, rfl, rfl⟩, w1, v1, rfl, ⟨u1, rfl, rfl⟩, hs⟩ := hs
    exact lv_ladd C.1 C.2.1 hd (K _ _ _ _ _ _ hl ⟨_, _, rfl, ⟨_, rfl, mm_LaddT _ _⟩, hs⟩ hh hq rfl rfl)
  · cases hx
theorem ml_lsub (C : mm_C p s m args meth c y g) (hd : decode (mm_by y) pc = .ok (.lsub, 1)) (hx : mm_x2 (21, a, k, d, ee) lo st h = some r) (hl : mm_rl g lo ls (mm_mL y)) (hs : mm_rs g st vs) (hh : mm_hr g h H) (hq : ∀ q ∈ locs, g.1 ≤ q.base) (K : mm_K p l e R s m args below meth c Q y g r h cells slots (pc + 1)) : W p l e R s m args below meth c H locs cells slots Q (F0 m pc ls vs) := by
  simp only [mm_x2] at hx
  split at hx
  · cases hx
    obtain ⟨w0, v0, rfl, ⟨u0, rfl, rfl⟩, w1, v1, rfl, ⟨u1, rfl, rfl⟩, hs⟩ := hs
    exact lv_lsub C.1 C.2.1 hd (K _ _ _ _ _ _ hl ⟨_, _, rfl, ⟨_, rfl, mm_LsubT _ _⟩, hs⟩ hh hq rfl rfl)
  · cases hx
theorem ml_lmul (C : mm_C p s m args meth c y g) (hd : decode (mm_by y) pc = .ok (.lmul, 1)) (hx : mm_x2 (22, a, k, d, ee) lo st h = some r) (hl : mm_rl g lo ls (mm_mL y)) (hs : mm_rs g st vs) (hh : mm_hr g h H) (hq : ∀ q ∈ locs, g.1 ≤ q.base) (K : mm_K p l e R s m args below meth c Q y g r h cells slots (pc + 1)) : W p l e R s m args below meth c H locs cells slots Q (F0 m pc ls vs) := by
  simp only [mm_x2] at hx
  split at hx
  · cases hx
    obtain ⟨w0, v0, rfl, ⟨u0, rfl, rfl⟩, w1, v1, rfl, ⟨u1, rfl, rfl⟩, hs⟩ := hs
    exact lv_lmul C.1 C.2.1 hd (K _ _ _ _ _ _ hl ⟨_, _, rfl, ⟨_, rfl, mm_LmulT _ _⟩, hs⟩ hh hq rfl rfl)
  · cases hx
theorem ml_lneg (C : mm_C p s m args meth c y g) (hd : decode (mm_by y) pc = .ok (.lneg, 1)) (hx : mm_x2 (25, a, k, d, ee) lo st h = some r) (hl : mm_rl g lo ls (mm_mL y)) (hs : mm_rs g st vs) (hh : mm_hr g h H) (hq : ∀ q ∈ locs, g.1 ≤ q.base) (K : mm_K p l e R s m args below meth c Q y g r h cells slots (pc + 1)) : W p l e R s m args below meth c H locs cells slots Q (F0 m pc ls vs) := by
  simp only [mm_x2] at hx
  split at hx
  · cases hx
    obtain ⟨w0, v0, rfl, ⟨u0, rfl, rfl⟩, hs⟩ := hs
    exact lv_lneg C.1 C.2.1 hd (K _ _ _ _ _ _ hl ⟨_, _, rfl, ⟨_, rfl, mm_LnegT _⟩, hs⟩ hh hq rfl rfl)
  · cases hx
theorem ml_land (C : mm_C p s m args meth c y g) (hd : decode (mm_by y) pc = .ok (.land, 1)) (hx : mm_x2 (26, a, k, d, ee) lo st h = some r) (hl : mm_rl g lo ls (mm_mL y)) (hs : mm_rs g st vs) (hh : mm_hr g h H) (hq : ∀ q ∈ locs, g.1 ≤ q.base) (K : mm_K p l e R s m args below meth c Q y g r h cells slots (pc + 1)) : W p l e R s m args below meth c H locs cells slots Q (F0 m pc ls vs) := by
  simp only [mm_x2] at hx
  split at hx
  · cases hx
    obtain ⟨w0, v0, rfl, ⟨u0, rfl, rfl⟩, w1, v1, rfl, ⟨u1, rfl, rfl⟩, hs⟩ := hs
    exact lv_land C.1 C.2.1 hd (K _ _ _ _ _ _ hl ⟨_, _, rfl, ⟨_, rfl, mm_landT _ _⟩, hs⟩ hh hq rfl rfl)
  · cases hx
theorem ml_lor (C : mm_C p s m args meth c y g) (hd : decode (mm_by y) pc = .ok (.lor, 1)) (hx : mm_x2 (27, a, k, d, ee) lo st h = some r) (hl : mm_rl g lo ls (mm_mL y)) (hs : mm_rs g st vs) (hh : mm_hr g h H) (hq : ∀ q ∈ locs, g.1 ≤ q.base) (K : mm_K p l e R s m args below meth c Q y g r h cells slots (pc + 1)) : W p l e R s m args below meth c H locs cells slots Q (F0 m pc ls vs) := by
  simp only [mm_x2] at hx
  split at hx
  · cases hx
    obtain ⟨w0, v0, rfl, ⟨u0, rfl, rfl⟩, w1, v1, rfl, ⟨u1, rfl, rfl⟩, hs⟩ := hs
    exact lv_lor C.1 C.2.1 hd (K _ _ _ _ _ _ hl ⟨_, _, rfl, ⟨_, rfl, mm_lorT _ _⟩, hs⟩ hh hq rfl rfl)
  · cases hx
theorem ml_lshl (C : mm_C p s m args meth c y g) (hd : decode (mm_by y) pc = .ok (.lshl, 1)) (hx : mm_x2 (28, a, k, d, ee) lo st h = some r) (hl : mm_rl g lo ls (mm_mL y)) (hs : mm_rs g st vs) (hh : mm_hr g h H) (hq : ∀ q ∈ locs, g.1 ≤ q.base) (K : mm_K p l e R s m args below meth c Q y g r h cells slots (pc + 1)) : W p l e R s m args below meth c H locs cells slots Q (F0 m pc ls vs) := by
  simp only [mm_x2] at hx
  split at hx
  · cases hx
    obtain ⟨w0, v0, rfl, ⟨u0, rfl, rfl⟩, w1, v1, rfl, ⟨u1, rfl, rfl⟩, hs⟩ := hs
    exact lv_lshl C.1 C.2.1 hd rfl (K _ _ _ _ _ _ hl ⟨_, _, rfl, ⟨_, rfl, mm_lshlT _ _⟩, hs⟩ hh hq rfl rfl)
  · cases hx
theorem ml_lshr (C : mm_C p s m args meth c y g) (hd : decode (mm_by y) pc = .ok (.lshr, 1)) (hx : mm_x2 (29, a, k, d, ee) lo st h = some r) (hl : mm_rl g lo ls (mm_mL y)) (hs : mm_rs g st vs) (hh : mm_hr g h H) (hq : ∀ q ∈ locs, g.1 ≤ q.base) (K : mm_K p l e R s m args below meth c Q y g r h cells slots (pc + 1)) : W p l e R s m args below meth c H locs cells slots Q (F0 m pc ls vs) := by
  simp only [mm_x2] at hx
  split at hx
  · cases hx
    obtain ⟨w0, v0, rfl, ⟨u0, rfl, rfl⟩, w1, v1, rfl, ⟨u1, rfl, rfl⟩, hs⟩ := hs
    exact lv_lshr C.1 C.2.1 hd rfl (K _ _ _ _ _ _ hl ⟨_, _, rfl, ⟨_, rfl, mm_lshrT _ _⟩, hs⟩ hh hq rfl rfl)
  · cases hx
theorem ml_lushr (C : mm_C p s m args meth c y g) (hd : decode (mm_by y) pc = .ok (.lushr, 1)) (hx : mm_x2 (30, a, k, d, ee) lo st h = some r) (hl : mm_rl g lo ls (mm_mL y)) (hs : mm_rs g st vs) (hh : mm_hr g h H) (hq : ∀ q ∈ locs, g.1 ≤ q.base) (K : mm_K p l e R s m args below meth c Q y g r h cells slots (pc + 1)) : W p l e R s m args below meth c H locs cells slots Q (F0 m pc ls vs) := by
  simp only [mm_x2] at hx
  split at hx
  · cases hx
    obtain ⟨w0, v0, rfl, ⟨u0, rfl, rfl⟩, w1, v1, rfl, ⟨u1, rfl, rfl⟩, hs⟩ := hs
    exact lv_lushr C.1 C.2.1 hd rfl (K _ _ _ _ _ _ hl ⟨_, _, rfl, ⟨_, rfl, mm_lushrT _ _⟩, hs⟩ hh hq rfl rfl)
  · cases hx
theorem ml_i2l (C : mm_C p s m args meth c y g) (hd : decode (mm_by y) pc = .ok (.i2l, 1)) (hx : mm_x2 (31, a, k, d, ee) lo st h = some r) (hl : mm_rl g lo ls (mm_mL y)) (hs : mm_rs g st vs) (hh : mm_hr g h H) (hq : ∀ q ∈ locs, g.1 ≤ q.base) (K : mm_K p l e R s m args below meth c Q y g r h cells slots (pc + 1)) : W p l e R s m args below meth c H locs cells slots Q (F0 m pc ls vs) := by
  simp only [mm_x2] at hx
  split at hx
  · cases hx
    obtain ⟨w0, v0, rfl, ⟨u0, rfl, rfl⟩, hs⟩ := hs
    exact lv_i2l C.1 C.2.1 hd rfl (K _ _ _ _ _ _ hl ⟨_, _, rfl, ⟨_, rfl, mm_i2lT _⟩, hs⟩ hh hq rfl rfl)
  · cases hx
theorem ml_l2i (C : mm_C p s m args meth c y g) (hd : decode (mm_by y) pc = .ok (.l2i, 1)) (hx : mm_x2 (32, a, k, d, ee) lo st h = some r) (hl : mm_rl g lo ls (mm_mL y)) (hs : mm_rs g st vs) (hh : mm_hr g h H) (hq : ∀ q ∈ locs, g.1 ≤ q.base) (K : mm_K p l e R s m args below meth c Q y g r h cells slots (pc + 1)) : W p l e R s m args below meth c H locs cells slots Q (F0 m pc ls vs) := by
  simp only [mm_x2] at hx
  split at hx
  · cases hx
    obtain ⟨w0, v0, rfl, ⟨u0, rfl, rfl⟩, hs⟩ := hs
    exact lv_l2i C.1 C.2.1 hd rfl (K _ _ _ _ _ _ hl ⟨_, _, rfl, ⟨_, rfl, mm_l2iT _⟩, hs⟩ hh hq rfl rfl)
  · cases hx
theorem ml_i2b (C : mm_C p s m args meth c y g) (hd : decode (mm_by y) pc = .ok (.i2b, 1)) (hx : mm_x2 (33, a, k, d, ee) lo st h = some r) (hl : mm_rl g lo ls (mm_mL y)) (hs : mm_rs g st vs) (hh : mm_hr g h H) (hq : ∀ q ∈ locs, g.1 ≤ q.base) (K : mm_K p l e R s m args below meth c Q y g r h cells slots (pc + 1)) : W p l e R s m args below meth c H locs cells slots Q (F0 m pc ls vs) := by
  simp only [mm_x2] at hx
  split at hx
  · cases hx
    obtain ⟨w0, v0, rfl, ⟨u0, rfl, rfl⟩, hs⟩ := hs
    exact lv_i2b C.1 C.2.1 hd rfl (K _ _ _ _ _ _ hl ⟨_, _, rfl, ⟨_, rfl, mm_i2bT _⟩, hs⟩ hh hq rfl rfl)
  · cases hx
theorem ml_lcmp (C : mm_C p s m args meth c y g) (hd : decode (mm_by y) pc = .ok (.lcmp, 1)) (hx : mm_x2 (34, a, k, d, ee) lo st h = some r) (hl : mm_rl g lo ls (mm_mL y)) (hs : mm_rs g st vs) (hh : mm_hr g h H) (hq : ∀ q ∈ locs, g.1 ≤ q.base) (K : mm_K p l e R s m args below meth c Q y g r h cells slots (pc + 1)) : W p l e R s m args below meth c H locs cells slots Q (F0 m pc ls vs) := by
  simp only [mm_x2] at hx
  split at hx
  · cases hx
    obtain ⟨w0, v0, rfl, ⟨u0, rfl, rfl⟩, w1, v1, rfl, ⟨u1, rfl, rfl⟩, hs⟩ := hs
    exact W.lcmp C.1 C.2.1 hd (K _ _ _ _ _ _ hl ⟨_, _, rfl, ⟨_, rfl, mm_cmpT _ _⟩, hs⟩ hh hq rfl rfl)
  · cases hx
theorem ml_idiv (C : mm_C p s m args meth c y g) (hd : decode (mm_by y) pc = .ok (.idiv, 1)) (hx : mm_x2 (13, a, k, d, ee) lo st h = some r) (hl : mm_rl g lo ls (mm_mL y)) (hs : mm_rs g st vs) (hh : mm_hr g h H) (hq : ∀ q ∈ locs, g.1 ≤ q.base) (K : mm_K p l e R s m args below meth c Q y g r h cells slots (pc + 1)) : W p l e R s m args below meth c H locs cells slots Q (F0 m pc ls vs) := by
  simp only [mm_x2] at hx
  split at hx
  · obtain ⟨w0, v0, rfl, ⟨u0, rfl, rfl⟩, w1, v1, rfl, ⟨u1, rfl, rfl⟩, hs⟩ := hs
    split at hx
    · cases hx
    · rename_i hne
      cases hx
      exact lv_idiv C.1 C.2.1 hd (fun q => hne ((mm_eq0 _).mp q)) (K _ _ _ _ _ _ hl ⟨_, _, rfl, ⟨_, rfl, mm_divT _ _⟩, hs⟩ hh hq rfl rfl)
  · cases hx
theorem ml_irem (C : mm_C p s m args meth c y g) (hd : decode (mm_by y) pc = .ok (.irem, 1)) (hx : mm_x2 (14, a, k, d, ee) lo st h = some r) (hl : mm_rl g lo ls (mm_mL y)) (hs : mm_rs g st vs) (hh : mm_hr g h H) (hq : ∀ q ∈ locs, g.1 ≤ q.base) (K : mm_K p l e R s m args below meth c Q y g r h cells slots (pc + 1)) : W p l e R s m args below meth c H locs cells slots Q (F0 m pc ls vs) := by
  simp only [mm_x2] at hx
  split at hx
  · obtain ⟨w0, v0, rfl, ⟨u0, rfl, rfl⟩, w1, v1, rfl, ⟨u1, rfl, rfl⟩, hs⟩ := hs
    split at hx
    · cases hx
    · rename_i hne
      cases hx
      exact lv_irem C.1 C.2.1 hd (fun q => hne ((mm_eq0 _).mp q)) (K _ _ _ _ _ _ hl ⟨_, _, rfl, ⟨_, rfl, mm_remT _ _ (by assumption)⟩, hs⟩ hh hq rfl rfl)
  · cases hx
theorem ml_ldiv (C : mm_C p s m args meth c y g) (hd : decode (mm_by y) pc = .ok (.ldiv, 1)) (hx : mm_x2 (23, a, k, d, ee) lo st h = some r) (hl : mm_rl g lo ls (mm_mL y)) (hs : mm_rs g st vs) (hh : mm_hr g h H) (hq : ∀ q ∈ locs, g.1 ≤ q.base) (K : mm_K p l e R s m args below meth c Q y g r h cells slots (pc + 1)) : W p l e R s m args below meth c H locs cells slots Q (F0 m pc ls vs) := by
  simp only [mm_x2] at hx
  split at hx
  · obtain ⟨w0, v0, rfl, ⟨u0, rfl, rfl⟩, w1, v1, rfl, ⟨u1, rfl, rfl⟩, hs⟩ := hs
    split at hx
    · cases hx
    · rename_i hne
      cases hx
      exact lv_ldiv C.1 C.2.1 hd (fun q => hne ((mm_eq64 _).mp q)) (K _ _ _ _ _ _ hl ⟨_, _, rfl, ⟨_, rfl, mm_LdivT _ _⟩, hs⟩ hh hq rfl rfl)
  · cases hx
theorem ml_lrem (C : mm_C p s m args meth c y g) (hd : decode (mm_by y) pc = .ok (.lrem, 1)) (hx : mm_x2 (24, a, k, d, ee) lo st h = some r) (hl : mm_rl g lo ls (mm_mL y)) (hs : mm_rs g st vs) (hh : mm_hr g h H) (hq : ∀ q ∈ locs, g.1 ≤ q.base) (K : mm_K p l e R s m args below meth c Q y g r h cells slots (pc + 1)) : W p l e R s m args below meth c H locs cells slots Q (F0 m pc ls vs) := by
  simp only [mm_x2] at hx
  split at hx
  · obtain ⟨w0, v0, rfl, ⟨u0, rfl, rfl⟩, w1, v1, rfl, ⟨u1, rfl, rfl⟩, hs⟩ := hs
    split at hx
    · cases hx
    · rename_i hne
      cases hx
      exact lv_lrem C.1 C.2.1 hd (fun q => hne ((mm_eq64 _).mp q)) (K _ _ _ _ _ _ hl ⟨_, _, rfl, ⟨_, rfl, mm_LremT _ _ (by assumption)⟩, hs⟩ hh hq rfl rfl)
  · cases hx
theorem ml_iconst (C : mm_C p s m args meth c y g) (hd : decode (mm_by y) pc = .ok (.iconst k, 1)) (hr : -32768 ≤ k ∧ k < 32768) (hx : mm_x1 (1, a, k, d, ee) lo st h = some r) (hl : mm_rl g lo ls (mm_mL y)) (hs : mm_rs g st vs) (hh : mm_hr g h H) (hq : ∀ q ∈ locs, g.1 ≤ q.base) (K : mm_K p l e R s m args below meth c Q y g r h cells slots (pc + 1)) : W p l e R s m args below meth c H locs cells slots Q (F0 m pc ls vs) := by
  simp only [mm_x1] at hx
  cases hx
  exact lv_iconst C.1 C.2.1 hd rfl (K _ _ _ _ _ _ hl ⟨_, _, rfl, ⟨_, rfl, mm_o32 (by omega)⟩, hs⟩ hh hq rfl rfl)
theorem ml_bipush (C : mm_C p s m args meth c y g) (hd : decode (mm_by y) pc = .ok (.bipush k, 2)) (hr : -128 ≤ k ∧ k < 128) (hx : mm_x1 (1, a, k, d, ee) lo st h = some r) (hl : mm_rl g lo ls (mm_mL y)) (hs : mm_rs g st vs) (hh : mm_hr g h H) (hq : ∀ q ∈ locs, g.1 ≤ q.base) (K : mm_K p l e R s m args below meth c Q y g r h cells slots (pc + 2)) : W p l e R s m args below meth c H locs cells slots Q (F0 m pc ls vs) := by
  simp only [mm_x1] at hx
  cases hx
  exact lv_bipush C.1 C.2.1 hd rfl (K _ _ _ _ _ _ hl ⟨_, _, rfl, ⟨_, rfl, by rw [Int8.toInt_toInt32, Int8.toInt_ofInt, show Int8.size = 2 ^ 8 from rfl, mm_bm8]; unfold mm_b; omega⟩, hs⟩ hh hq rfl rfl)
theorem mm_bm16 (z : Int) : z.bmod (2 ^ 16) = (z + 32768) % 65536 - 32768 := by
  rw [Int.bmod_def]
  have e : ((2 ^ 16 : Nat) : Int) = 65536 := by decide
  rw [e]
  split <;> omega
theorem ml_sipush (C : mm_C p s m args meth c y g) (hd : decode (mm_by y) pc = .ok (.sipush k, 3)) (hr : -32768 ≤ k ∧ k < 32768) (hx : mm_x1 (1, a, k, d, ee) lo st h = some r) (hl : mm_rl g lo ls (mm_mL y)) (hs : mm_rs g st vs) (hh : mm_hr g h H) (hq : ∀ q ∈ locs, g.1 ≤ q.base) (K : mm_K p l e R s m args below meth c Q y g r h cells slots (pc + 3)) : W p l e R s m args below meth c H locs cells slots Q (F0 m pc ls vs) := by
  simp only [mm_x1] at hx
  cases hx
  exact lv_sipush C.1 C.2.1 hd rfl (K _ _ _ _ _ _ hl ⟨_, _, rfl, ⟨_, rfl, by rw [Int16.toInt_toInt32, Int16.toInt_ofInt, show Int16.size = 2 ^ 16 from rfl, mm_bm16]; omega⟩, hs⟩ hh hq rfl rfl)
theorem ml_ldc (C : mm_C p s m args meth c y g) (hd : decode (mm_by y) pc = .ok (.ldc d, 2)) (hr : -2147483648 ≤ k ∧ k < 2147483648) (hw : Cond.constant (mm_nm y).cls d (Int32.ofInt k) ∈ lw_g) (hx : mm_x1 (1, a, k, d, ee) lo st h = some r) (hl : mm_rl g lo ls (mm_mL y)) (hs : mm_rs g st vs) (hh : mm_hr g h H) (hq : ∀ q ∈ locs, g.1 ≤ q.base) (K : mm_K p l e R s m args below meth c Q y g r h cells slots (pc + 2)) : W p l e R s m args below meth c H locs cells slots Q (F0 m pc ls vs) := by
  simp only [mm_x1] at hx
  cases hx
  exact lv_ldc C.1 C.2.1 C.2.2.2.1 (C.2.2.2.2.1 _ hw) hd (K _ _ _ _ _ _ hl ⟨_, _, rfl, ⟨_, rfl, mm_o32 hr⟩, hs⟩ hh hq rfl rfl)
theorem ml_ldcw (C : mm_C p s m args meth c y g) (hd : decode (mm_by y) pc = .ok (.ldc_w d, 3)) (hr : -2147483648 ≤ k ∧ k < 2147483648) (hw : Cond.constant (mm_nm y).cls d (Int32.ofInt k) ∈ lw_g) (hx : mm_x1 (1, a, k, d, ee) lo st h = some r) (hl : mm_rl g lo ls (mm_mL y)) (hs : mm_rs g st vs) (hh : mm_hr g h H) (hq : ∀ q ∈ locs, g.1 ≤ q.base) (K : mm_K p l e R s m args below meth c Q y g r h cells slots (pc + 3)) : W p l e R s m args below meth c H locs cells slots Q (F0 m pc ls vs) := by
  simp only [mm_x1] at hx
  cases hx
  exact lv_ldcw C.1 C.2.1 C.2.2.2.1 (C.2.2.2.2.1 _ hw) hd (K _ _ _ _ _ _ hl ⟨_, _, rfl, ⟨_, rfl, mm_o32 hr⟩, hs⟩ hh hq rfl rfl)
theorem ml_ldc2 (C : mm_C p s m args meth c y g) (hd : decode (mm_by y) pc = .ok (.ldc2_w d, 3)) (hr : -9223372036854775808 ≤ k ∧ k < 9223372036854775808) (hw : Cond.constantLong (mm_nm y).cls d (Int64.ofInt k) ∈ lw_g) (hx : mm_x1 (2, a, k, d, ee) lo st h = some r) (hl : mm_rl g lo ls (mm_mL y)) (hs : mm_rs g st vs) (hh : mm_hr g h H) (hq : ∀ q ∈ locs, g.1 ≤ q.base) (K : mm_K p l e R s m args below meth c Q y g r h cells slots (pc + 3)) : W p l e R s m args below meth c H locs cells slots Q (F0 m pc ls vs) := by
  simp only [mm_x1] at hx
  cases hx
  exact lv_ldc2 C.1 C.2.1 C.2.2.2.1 (C.2.2.2.2.1 _ hw) hd (K _ _ _ _ _ _ hl ⟨_, _, rfl, ⟨_, rfl, mm_o64 hr⟩, hs⟩ hh hq rfl rfl)
theorem ml_lconst {f : Fin 2} (C : mm_C p s m args meth c y g) (hd : decode (mm_by y) pc = .ok (.lconst f, 1)) (hr : k = (f : Nat)) (hx : mm_x1 (2, a, k, d, ee) lo st h = some r) (hl : mm_rl g lo ls (mm_mL y)) (hs : mm_rs g st vs) (hh : mm_hr g h H) (hq : ∀ q ∈ locs, g.1 ≤ q.base) (K : mm_K p l e R s m args below meth c Q y g r h cells slots (pc + 1)) : W p l e R s m args below meth c H locs cells slots Q (F0 m pc ls vs) := by
  simp only [mm_x1] at hx
  cases hx
  subst hr
  refine lv_lconst C.1 C.2.1 hd rfl (K _ _ _ _ _ _ hl ⟨_, _, rfl, ⟨_, rfl, ?_⟩, hs⟩ hh hq rfl rfl)
  match f with
  | 0 => decide
  | 1 => decide
theorem ml_iload (C : mm_C p s m args meth c y g) (hd : decode (mm_by y) pc = .ok (.iload a, 2)) (hx : mm_x1 (3, a, k, d, ee) lo st h = some r) (hl : mm_rl g lo ls (mm_mL y)) (hs : mm_rs g st vs) (hh : mm_hr g h H) (hq : ∀ q ∈ locs, g.1 ≤ q.base) (K : mm_K p l e R s m args below meth c Q y g r h cells slots (pc + 2)) : W p l e R s m args below meth c H locs cells slots Q (F0 m pc ls vs) := by
  simp only [mm_x1] at hx
  split at hx
  · rename_i x hv
    cases hx
    obtain ⟨w, e1, ⟨u, rfl, rfl⟩⟩ := hl.2.2.2 a _ hv (by intro q; cases q)
    exact lv_iload C.1 C.2.1 hd e1 (K _ _ _ _ _ _ hl ⟨_, _, rfl, ⟨_, rfl, rfl⟩, hs⟩ hh hq rfl rfl)
  · cases hx
theorem ml_iloadn {f : Fin 4} (C : mm_C p s m args meth c y g) (hd : decode (mm_by y) pc = .ok (.iload_n f, 1)) (hf : (f : Nat) = a) (hx : mm_x1 (3, a, k, d, ee) lo st h = some r) (hl : mm_rl g lo ls (mm_mL y)) (hs : mm_rs g st vs) (hh : mm_hr g h H) (hq : ∀ q ∈ locs, g.1 ≤ q.base) (K : mm_K p l e R s m args below meth c Q y g r h cells slots (pc + 1)) : W p l e R s m args below meth c H locs cells slots Q (F0 m pc ls vs) := by
  simp only [mm_x1] at hx
  split at hx
  · rename_i x hv
    cases hx
    obtain ⟨w, e1, ⟨u, rfl, rfl⟩⟩ := hl.2.2.2 a _ hv (by intro q; cases q)
    exact lv_iload_n C.1 C.2.1 hd hf e1 (K _ _ _ _ _ _ hl ⟨_, _, rfl, ⟨_, rfl, rfl⟩, hs⟩ hh hq rfl rfl)
  · cases hx
theorem ml_lload (C : mm_C p s m args meth c y g) (hd : decode (mm_by y) pc = .ok (.lload a, 2)) (hx : mm_x1 (4, a, k, d, ee) lo st h = some r) (hl : mm_rl g lo ls (mm_mL y)) (hs : mm_rs g st vs) (hh : mm_hr g h H) (hq : ∀ q ∈ locs, g.1 ≤ q.base) (K : mm_K p l e R s m args below meth c Q y g r h cells slots (pc + 2)) : W p l e R s m args below meth c H locs cells slots Q (F0 m pc ls vs) := by
  simp only [mm_x1] at hx
  split at hx
  · rename_i x hv
    cases hx
    obtain ⟨w, e1, ⟨u, rfl, rfl⟩⟩ := hl.2.2.2 a _ hv (by intro q; cases q)
    exact lv_lload C.1 C.2.1 hd e1 (K _ _ _ _ _ _ hl ⟨_, _, rfl, ⟨_, rfl, rfl⟩, hs⟩ hh hq rfl rfl)
  · cases hx
theorem ml_lloadn {f : Fin 4} (C : mm_C p s m args meth c y g) (hd : decode (mm_by y) pc = .ok (.lload_n f, 1)) (hf : (f : Nat) = a) (hx : mm_x1 (4, a, k, d, ee) lo st h = some r) (hl : mm_rl g lo ls (mm_mL y)) (hs : mm_rs g st vs) (hh : mm_hr g h H) (hq : ∀ q ∈ locs, g.1 ≤ q.base) (K : mm_K p l e R s m args below meth c Q y g r h cells slots (pc + 1)) : W p l e R s m args below meth c H locs cells slots Q (F0 m pc ls vs) := by
  simp only [mm_x1] at hx
  split at hx
  · rename_i x hv
    cases hx
    obtain ⟨w, e1, ⟨u, rfl, rfl⟩⟩ := hl.2.2.2 a _ hv (by intro q; cases q)
    exact lv_lload_n C.1 C.2.1 hd hf e1 (K _ _ _ _ _ _ hl ⟨_, _, rfl, ⟨_, rfl, rfl⟩, hs⟩ hh hq rfl rfl)
  · cases hx
theorem ml_aload (C : mm_C p s m args meth c y g) (hd : decode (mm_by y) pc = .ok (.aload a, 2)) (hx : mm_x1 (5, a, k, d, ee) lo st h = some r) (hl : mm_rl g lo ls (mm_mL y)) (hs : mm_rs g st vs) (hh : mm_hr g h H) (hq : ∀ q ∈ locs, g.1 ≤ q.base) (K : mm_K p l e R s m args below meth c Q y g r h cells slots (pc + 2)) : W p l e R s m args below meth c H locs cells slots Q (F0 m pc ls vs) := by
  simp only [mm_x1] at hx
  split at hx
  · rename_i x hv
    cases hx
    obtain ⟨w, e1, e2⟩ := hl.2.2.2 a _ hv (by intro q; cases q)
    have e3 : if x = mm_nul then w = .null else w = .ref (mm_ad g x) := e2
    split at e3
    · subst e3
      exact lv_aloadN C.1 C.2.1 hd e1 (K _ _ _ _ _ _ hl ⟨_, _, rfl, e2, hs⟩ hh hq rfl rfl)
    · subst e3
      exact lv_aload C.1 C.2.1 hd e1 (K _ _ _ _ _ _ hl ⟨_, _, rfl, e2, hs⟩ hh hq rfl rfl)
  · cases hx
theorem ml_aloadn {f : Fin 4} (C : mm_C p s m args meth c y g) (hd : decode (mm_by y) pc = .ok (.aload_n f, 1)) (hf : (f : Nat) = a) (hx : mm_x1 (5, a, k, d, ee) lo st h = some r) (hl : mm_rl g lo ls (mm_mL y)) (hs : mm_rs g st vs) (hh : mm_hr g h H) (hq : ∀ q ∈ locs, g.1 ≤ q.base) (K : mm_K p l e R s m args below meth c Q y g r h cells slots (pc + 1)) : W p l e R s m args below meth c H locs cells slots Q (F0 m pc ls vs) := by
  simp only [mm_x1] at hx
  split at hx
  · rename_i x hv
    cases hx
    obtain ⟨w, e1, e2⟩ := hl.2.2.2 a _ hv (by intro q; cases q)
    have e3 : if x = mm_nul then w = .null else w = .ref (mm_ad g x) := e2
    split at e3
    · subst e3
      exact lv_aload_nN C.1 C.2.1 hd hf e1 (K _ _ _ _ _ _ hl ⟨_, _, rfl, e2, hs⟩ hh hq rfl rfl)
    · subst e3
      exact lv_aload_n C.1 C.2.1 hd hf e1 (K _ _ _ _ _ _ hl ⟨_, _, rfl, e2, hs⟩ hh hq rfl rfl)
  · cases hx
theorem ml_istore (C : mm_C p s m args meth c y g) (hd : decode (mm_by y) pc = .ok (.istore a, 2)) (hx : mm_x1 (6, a, k, d, ee) lo st h = some r) (hl : mm_rl g lo ls (mm_mL y)) (hs : mm_rs g st vs) (hh : mm_hr g h H) (hq : ∀ q ∈ locs, g.1 ≤ q.base) (K : mm_K p l e R s m args below meth c Q y g r h cells slots (pc + 2)) : W p l e R s m args below meth c H locs cells slots Q (F0 m pc ls vs) := by
  simp only [mm_x1] at hx
  split at hx
  · obtain ⟨w, v, rfl, ⟨u, rfl, rfl⟩, hs⟩ := hs
    split at hx
    · rename_i hlt
      cases hx
      refine lv_istore C.1 C.2.1 hd (mm_la_has hl) (by rw [← hl.2.1]; exact hlt) rfl fun ls' hls' => ?_
      exact K _ _ _ _ _ _ (mm_rl_st1 hl ⟨u, rfl, rfl⟩ hls') hs hh hq rfl rfl
    · cases hx
  · cases hx
theorem ml_istoren {f : Fin 4} (C : mm_C p s m args meth c y g) (hd : decode (mm_by y) pc = .ok (.istore_n f, 1)) (hf : (f : Nat) = a) (hx : mm_x1 (6, a, k, d, ee) lo st h = some r) (hl : mm_rl g lo ls (mm_mL y)) (hs : mm_rs g st vs) (hh : mm_hr g h H) (hq : ∀ q ∈ locs, g.1 ≤ q.base) (K : mm_K p l e R s m args below meth c Q y g r h cells slots (pc + 1)) : W p l e R s m args below meth c H locs cells slots Q (F0 m pc ls vs) := by
  simp only [mm_x1] at hx
  split at hx
  · obtain ⟨w, v, rfl, ⟨u, rfl, rfl⟩, hs⟩ := hs
    split at hx
    · rename_i hlt
      cases hx
      refine lv_istore_n C.1 C.2.1 hd hf (mm_la_has hl) (by rw [← hl.2.1]; exact hlt) rfl fun ls' hls' => ?_
      exact K _ _ _ _ _ _ (mm_rl_st1 hl ⟨u, rfl, rfl⟩ hls') hs hh hq rfl rfl
    · cases hx
  · cases hx
theorem ml_lstore (C : mm_C p s m args meth c y g) (hd : decode (mm_by y) pc = .ok (.lstore a, 2)) (hx : mm_x1 (7, a, k, d, ee) lo st h = some r) (hl : mm_rl g lo ls (mm_mL y)) (hs : mm_rs g st vs) (hh : mm_hr g h H) (hq : ∀ q ∈ locs, g.1 ≤ q.base) (K : mm_K p l e R s m args below meth c Q y g r h cells slots (pc + 2)) : W p l e R s m args below meth c H locs cells slots Q (F0 m pc ls vs) := by
  simp only [mm_x1] at hx
  split at hx
  · obtain ⟨w, v, rfl, ⟨u, rfl, rfl⟩, hs⟩ := hs
    split at hx
    · rename_i hlt
      cases hx
      refine lv_lstore C.1 C.2.1 hd (mm_la_has hl) (by rw [← hl.2.1]; exact hlt) rfl fun ls' hls' => ?_
      exact K _ _ _ _ _ _ (mm_rl_st2 hl ⟨u, rfl, rfl⟩ hls') hs hh hq rfl rfl
    · cases hx
  · cases hx
theorem ml_lstoren {f : Fin 4} (C : mm_C p s m args meth c y g) (hd : decode (mm_by y) pc = .ok (.lstore_n f, 1)) (hf : (f : Nat) = a) (hx : mm_x1 (7, a, k, d, ee) lo st h = some r) (hl : mm_rl g lo ls (mm_mL y)) (hs : mm_rs g st vs) (hh : mm_hr g h H) (hq : ∀ q ∈ locs, g.1 ≤ q.base) (K : mm_K p l e R s m args below meth c Q y g r h cells slots (pc + 1)) : W p l e R s m args below meth c H locs cells slots Q (F0 m pc ls vs) := by
  simp only [mm_x1] at hx
  split at hx
  · obtain ⟨w, v, rfl, ⟨u, rfl, rfl⟩, hs⟩ := hs
    split at hx
    · rename_i hlt
      cases hx
      refine lv_lstore_n C.1 C.2.1 hd hf (mm_la_has hl) (by rw [← hl.2.1]; exact hlt) rfl fun ls' hls' => ?_
      exact K _ _ _ _ _ _ (mm_rl_st2 hl ⟨u, rfl, rfl⟩ hls') hs hh hq rfl rfl
    · cases hx
  · cases hx
theorem ml_astore (C : mm_C p s m args meth c y g) (hd : decode (mm_by y) pc = .ok (.astore a, 2)) (hx : mm_x1 (8, a, k, d, ee) lo st h = some r) (hl : mm_rl g lo ls (mm_mL y)) (hs : mm_rs g st vs) (hh : mm_hr g h H) (hq : ∀ q ∈ locs, g.1 ≤ q.base) (K : mm_K p l e R s m args below meth c Q y g r h cells slots (pc + 2)) : W p l e R s m args below meth c H locs cells slots Q (F0 m pc ls vs) := by
  simp only [mm_x1] at hx
  split at hx
  · rename_i x _
    obtain ⟨w, v, rfl, e2, hs⟩ := hs
    split at hx
    · rename_i hlt
      cases hx
      have e3 : if x = mm_nul then w = .null else w = .ref (mm_ad g x) := e2
      split at e3
      · subst e3
        refine lv_astoreN C.1 C.2.1 hd (mm_la_has hl) (by rw [← hl.2.1]; exact hlt) rfl fun ls' hls' => ?_
        exact K _ _ _ _ _ _ (mm_rl_st1 hl e2 hls') hs hh hq rfl rfl
      · subst e3
        refine lv_astore C.1 C.2.1 hd (mm_la_has hl) (by rw [← hl.2.1]; exact hlt) rfl fun ls' hls' => ?_
        exact K _ _ _ _ _ _ (mm_rl_st1 hl e2 hls') hs hh hq rfl rfl
    · cases hx
  · cases hx
theorem ml_astoren {f : Fin 4} (C : mm_C p s m args meth c y g) (hd : decode (mm_by y) pc = .ok (.astore_n f, 1)) (hf : (f : Nat) = a) (hx : mm_x1 (8, a, k, d, ee) lo st h = some r) (hl : mm_rl g lo ls (mm_mL y)) (hs : mm_rs g st vs) (hh : mm_hr g h H) (hq : ∀ q ∈ locs, g.1 ≤ q.base) (K : mm_K p l e R s m args below meth c Q y g r h cells slots (pc + 1)) : W p l e R s m args below meth c H locs cells slots Q (F0 m pc ls vs) := by
  simp only [mm_x1] at hx
  split at hx
  · rename_i x _
    obtain ⟨w, v, rfl, e2, hs⟩ := hs
    split at hx
    · rename_i hlt
      cases hx
      have e3 : if x = mm_nul then w = .null else w = .ref (mm_ad g x) := e2
      split at e3
      · subst e3
        refine lv_astore_nN C.1 C.2.1 hd hf (mm_la_has hl) (by rw [← hl.2.1]; exact hlt) rfl fun ls' hls' => ?_
        exact K _ _ _ _ _ _ (mm_rl_st1 hl e2 hls') hs hh hq rfl rfl
      · subst e3
        refine lv_astore_n C.1 C.2.1 hd hf (mm_la_has hl) (by rw [← hl.2.1]; exact hlt) rfl fun ls' hls' => ?_
        exact K _ _ _ _ _ _ (mm_rl_st1 hl e2 hls') hs hh hq rfl rfl
    · cases hx
  · cases hx
theorem ml_iinc (C : mm_C p s m args meth c y g) (hd : decode (mm_by y) pc = .ok (.iinc a k, 3)) (hr : -32768 ≤ k ∧ k < 32768) (hx : mm_x1 (9, a, k, d, ee) lo st h = some r) (hl : mm_rl g lo ls (mm_mL y)) (hs : mm_rs g st vs) (hh : mm_hr g h H) (hq : ∀ q ∈ locs, g.1 ≤ q.base) (K : mm_K p l e R s m args below meth c Q y g r h cells slots (pc + 3)) : W p l e R s m args below meth c H locs cells slots Q (F0 m pc ls vs) := by
  simp only [mm_x1] at hx
  split at hx
  · rename_i x hv
    cases hx
    obtain ⟨w, e1, ⟨u, rfl, rfl⟩⟩ := hl.2.2.2 a _ hv (by intro q; cases q)
    have hb := mm_la_has hl
    have hb2 : lv_has ls (mm_mL y) ((a, .int u) :: mm_la ls) := ⟨hb.1, hb.2.1, fun q hq => by
      rcases List.mem_cons.mp hq with rfl | hq
      · exact e1
      · exact hb.2.2 q hq⟩
    have hlt : a < mm_mL y := by rw [← hl.1]; exact lv_lt e1
    refine lv_iinc C.1 C.2.1 hd hb2 (k := 0) rfl rfl hlt rfl fun ls' hls' => ?_
    refine K _ _ _ _ _ _ ⟨hls'.1, by rw [List.length_set]; exact hl.2.1, hls'.2.1, fun j v hj hv' => ?_⟩ hs hh hq rfl rfl
    by_cases e : j = a
    · subst e
      rw [List.getElem?_set_self', hv] at hj
      cases hj
      exact ⟨_, hls'.2.2 _ List.mem_cons_self, _, rfl, by rw [mm_addT, mm_o32 (by omega)]⟩
    · rw [List.getElem?_set_ne (fun q => e q.symm)] at hj
      obtain ⟨w', h4, h5⟩ := hl.2.2.2 j v hj hv'
      refine ⟨w', hls'.2.2 (j, w') (List.mem_cons_of_mem _ (List.mem_filter.mpr ⟨List.mem_cons_of_mem _ (mm_la_mem.mpr h4), ?_⟩)), h5⟩
      simp only [Bool.and_eq_true, Bool.not_eq_true', beq_eq_false_iff_ne, ne_eq, Bool.and_eq_false_iff]
      refine ⟨e, ?_⟩
      by_cases e2 : j + 1 = a
      · right
        intro hc
        have := hl.2.2.1.1 j w' h4 hc
        rw [e2, e1] at this
        cases this
      · exact Or.inl e2
  · cases hx
theorem ml_dup (C : mm_C p s m args meth c y g) (hd : decode (mm_by y) pc = .ok (.dup, 1)) (hx : mm_x1 (35, a, k, d, ee) lo st h = some r) (hl : mm_rl g lo ls (mm_mL y)) (hs : mm_rs g st vs) (hh : mm_hr g h H) (hq : ∀ q ∈ locs, g.1 ≤ q.base) (K : mm_K p l e R s m args below meth c Q y g r h cells slots (pc + 1)) : W p l e R s m args below meth c H locs cells slots Q (F0 m pc ls vs) := by
  simp only [mm_x1] at hx
  split at hx
  · cases hx
    obtain ⟨w, v, rfl, ⟨u, rfl, rfl⟩, hs⟩ := hs
    exact lv_dup C.1 C.2.1 hd rfl (K _ _ _ _ _ _ hl ⟨_, _, rfl, ⟨_, rfl, rfl⟩, _, _, rfl, ⟨_, rfl, rfl⟩, hs⟩ hh hq rfl rfl)
  · cases hx
    obtain ⟨w, v, rfl, q, hs⟩ := hs
    exact lv_dup C.1 C.2.1 hd (mm_rv_cat q (by intro q; cases q) (by intro x q; cases q)) (K _ _ _ _ _ _ hl ⟨_, _, rfl, q, _, _, rfl, q, hs⟩ hh hq rfl rfl)
  · cases hx
theorem ml_pop (C : mm_C p s m args meth c y g) (hd : decode (mm_by y) pc = .ok (.pop, 1)) (hx : mm_x1 (36, a, k, d, ee) lo st h = some r) (hl : mm_rl g lo ls (mm_mL y)) (hs : mm_rs g st vs) (hh : mm_hr g h H) (hq : ∀ q ∈ locs, g.1 ≤ q.base) (K : mm_K p l e R s m args below meth c Q y g r h cells slots (pc + 1)) : W p l e R s m args below meth c H locs cells slots Q (F0 m pc ls vs) := by
  simp only [mm_x1] at hx
  split at hx
  · cases hx
    obtain ⟨w, v, rfl, ⟨u, rfl, rfl⟩, hs⟩ := hs
    exact lv_pop C.1 C.2.1 hd rfl (K _ _ _ _ _ _ hl hs hh hq rfl rfl)
  · cases hx
    obtain ⟨w, v, rfl, q, hs⟩ := hs
    exact lv_pop C.1 C.2.1 hd (mm_rv_cat q (by intro q; cases q) (by intro x q; cases q)) (K _ _ _ _ _ _ hl hs hh hq rfl rfl)
  · cases hx
theorem ml_dup2 (C : mm_C p s m args meth c y g) (hd : decode (mm_by y) pc = .ok (.dup2, 1)) (hx : mm_x1 (37, a, k, d, ee) lo st h = some r) (hl : mm_rl g lo ls (mm_mL y)) (hs : mm_rs g st vs) (hh : mm_hr g h H) (hq : ∀ q ∈ locs, g.1 ≤ q.base) (K : mm_K p l e R s m args below meth c Q y g r h cells slots (pc + 1)) : W p l e R s m args below meth c H locs cells slots Q (F0 m pc ls vs) := by
  simp only [mm_x1] at hx
  split at hx
  · cases hx
    obtain ⟨w, v, rfl, ⟨u, rfl, rfl⟩, w2, v2, rfl, q, hs⟩ := hs
    exact lv_dup2_11 C.1 C.2.1 hd rfl (mm_rv_cat q (by intro q; cases q) (by intro x q; cases q)) (K _ _ _ _ _ _ hl ⟨_, _, rfl, ⟨_, rfl, rfl⟩, _, _, rfl, q, _, _, rfl, ⟨_, rfl, rfl⟩, _, _, rfl, q, hs⟩ hh hq rfl rfl)
  · cases hx
theorem ml_null (C : mm_C p s m args meth c y g) (hd : decode (mm_by y) pc = .ok (.aconst_null, 1)) (hx : mm_x1 (38, a, k, d, ee) lo st h = some r) (hl : mm_rl g lo ls (mm_mL y)) (hs : mm_rs g st vs) (hh : mm_hr g h H) (hq : ∀ q ∈ locs, g.1 ≤ q.base) (K : mm_K p l e R s m args below meth c Q y g r h cells slots (pc + 1)) : W p l e R s m args below meth c H locs cells slots Q (F0 m pc ls vs) := by
  simp only [mm_x1] at hx
  cases hx
  exact lv_null C.1 C.2.1 hd (K _ _ _ _ _ _ hl ⟨_, _, rfl, by simp [mm_rv], hs⟩ hh hq rfl rfl)
end MS
