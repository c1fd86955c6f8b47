/-! the mini machine's run is the machine's -/
theorem mm_x_mono {i : mm_I} {lo st : List mm_V} {h : mm_H} {r : List mm_V × List mm_V × mm_H} (hx : mm_x i lo st h = some r) : h.2.2.1 ≤ r.2.2.2.2.1 ∧ h.2.2.2 ≤ r.2.2.2.2.2 := by
  have w1 : mm_x1 i lo st h = some r → h.2.2.1 ≤ r.2.2.2.2.1 ∧ h.2.2.2 ≤ r.2.2.2.2.2 := by
    intro hx
    unfold mm_x1 at hx
    (repeat' split at hx) <;> first | (cases hx; done) | (cases hx; exact ⟨Int.le_refl _, Int.le_refl _⟩)
  have w2 : mm_x2 i lo st h = some r → h.2.2.1 ≤ r.2.2.2.2.1 ∧ h.2.2.2 ≤ r.2.2.2.2.2 := by
    intro hx
    unfold mm_x2 at hx
    (repeat' split at hx) <;> first | (cases hx; done) | (cases hx; exact ⟨Int.le_refl _, Int.le_refl _⟩)
  have w3 : mm_x3 i lo st h = some r → h.2.2.1 ≤ r.2.2.2.2.1 ∧ h.2.2.2 ≤ r.2.2.2.2.2 := by
    intro hx
    unfold mm_x3 at hx
    (repeat' split at hx) <;> first | (cases hx; done) | (cases hx; exact ⟨Int.le_refl _, Int.le_refl _⟩)
  have w4 : mm_x4 i lo st h = some r → h.2.2.1 ≤ r.2.2.2.2.1 ∧ h.2.2.2 ≤ r.2.2.2.2.2 := by
    intro hx
    unfold mm_x4 at hx
    (repeat' split at hx) <;> first | (cases hx; done) | (cases hx; exact ⟨Int.le_refl _, Int.le_refl _⟩)
  have w5 : mm_x5 i lo st h = some r → h.2.2.1 ≤ r.2.2.2.2.1 ∧ h.2.2.2 ≤ r.2.2.2.2.2 := by
    intro hx
    unfold mm_x5 at hx
    (repeat' split at hx) <;> first
      | (cases hx; done)
      | (cases hx; exact ⟨Int.le_refl _, Int.le_refl _⟩)
      | (cases hx; exact ⟨by dsimp only; omega, by dsimp only; unfold mm_nf; omega⟩)
      | (cases hx; exact ⟨by dsimp only; omega, by dsimp only; omega⟩)
  unfold mm_x at hx
  (repeat' split at hx)
  · exact w1 hx
  · exact w2 hx
  · exact w1 hx
  · exact w3 hx
  · exact w4 hx
  · exact w5 hx
theorem mm_mono : ∀ (f y : Nat) (is : List mm_I) (lo st : List mm_V) (h : mm_H) (r : mm_V) (h1 : mm_H), mm_run f y is lo st h = some (r, h1) → h.2.2.1 ≤ h1.2.2.1 ∧ h.2.2.2 ≤ h1.2.2.2 := by
  intro f
  induction f with
  | zero => intro y is lo st h r h1 hr; cases hr
  | succ f ih =>
    intro y is lo st h r h1 hr
    cases is with
    | nil => cases hr
    | cons i is =>
      simp only [mm_run] at hr
      split at hr
      · split at hr
        · exact ih _ _ _ _ _ _ _ hr
        · exact ih _ _ _ _ _ _ _ hr
        · cases hr
      · split at hr
        · split at hr
          · split at hr
            · rename_i hc
              have a := ih _ _ _ _ _ _ _ hc
              have b := ih _ _ _ _ _ _ _ hr
              exact ⟨Int.le_trans a.1 b.1, Int.le_trans a.2 b.2⟩
            · cases hr
          · cases hr
        · split at hr
          · split at hr
            · cases hr; exact ⟨Int.le_refl _, Int.le_refl _⟩
            · cases hr
          · split at hr
            · rename_i hx
              have a := mm_x_mono hx
              have b := ih _ _ _ _ _ _ _ hr
              exact ⟨Int.le_trans a.1 b.1, Int.le_trans a.2 b.2⟩
            · cases hr
theorem mm_ent_args {g : mm_G} : ∀ (ma : List mm_V) (vs : List Value), mm_rs g ma vs → (mm_ent1 ma).length = (lg_sl vs).length ∧ ∀ (i j : Nat) (v : mm_V), (mm_ent1 ma)[j]? = some v → v ≠ zU → ∃ w, (i + j, w) ∈ lv_args i vs ∧ mm_rv g v w
  | [], vs, h => by
    have h : vs = [] := h
    subst h
    exact ⟨rfl, fun i j v hv => by cases hv⟩
  | v :: ma, vs, h => by
    obtain ⟨w, vs', rfl, hv, hs⟩ := h
    obtain ⟨e, f⟩ := mm_ent_args ma vs' hs
    have one : (∀ x, v ≠ zL x) → w.category = 1 → mm_ent1 (v :: ma) = v :: mm_ent1 ma → (mm_ent1 (v :: ma)).length = (lg_sl (w :: vs')).length ∧ ∀ (i j : Nat) (u : mm_V), (mm_ent1 (v :: ma))[j]? = some u → u ≠ zU → ∃ w', (i + j, w') ∈ lv_args i (w :: vs') ∧ mm_rv g u w' := by
      intro hnl hc he
      rw [he]
      have hsl : lg_sl (w :: vs') = .val w :: lg_sl vs' := by
        unfold lg_sl
        rw [List.flatMap_cons, if_neg (by omega)]
        rfl
      refine ⟨by rw [hsl, List.length_cons, List.length_cons, e], fun i j u hu hne => ?_⟩
      have hla : lv_args i (w :: vs') = (i, w) :: lv_args (i + 1) vs' := by
        show (i, w) :: lv_args (if w.category = 2 then i + 2 else i + 1) vs' = _
        rw [if_neg (by omega)]
      rw [hla]
      cases j with
      | zero =>
        rw [List.getElem?_cons_zero] at hu
        cases hu
        exact ⟨w, List.mem_cons_self, hv⟩
      | succ j =>
        rw [List.getElem?_cons_succ] at hu
        obtain ⟨w', h1, h2⟩ := f (i + 1) j u hu hne
        rw [show i + 1 + j = i + (j + 1) by omega] at h1
        exact ⟨w', List.mem_cons_of_mem _ h1, h2⟩
    rcases v with (x | x) | (_ | x)
    · exact one (fun _ q => by cases q) (by obtain ⟨u, rfl, -⟩ := hv; rfl) rfl
    · obtain ⟨u, rfl, hu⟩ := hv
      have hsl : lg_sl (.long u :: vs') = .val (.long u) :: .second :: lg_sl vs' := rfl
      refine ⟨by rw [hsl]; show (mm_ent1 ma).length + 1 + 1 = _; rw [e]; rfl, fun i j v hv hne => ?_⟩
      have hla : lv_args i (.long u :: vs') = (i, .long u) :: lv_args (i + 2) vs' := rfl
      rw [hla]
      have he : mm_ent1 (.inl (.inr x) :: ma) = zL x :: zU :: mm_ent1 ma := rfl
      rw [he] at hv
      match j, hv with
      | 0, hv =>
        cases hv
        exact ⟨_, List.mem_cons_self, u, rfl, hu⟩
      | 1, hv =>
        cases hv
        exact absurd rfl hne
      | j + 2, hv =>
        rw [List.getElem?_cons_succ, List.getElem?_cons_succ] at hv
        obtain ⟨w', h1, h2⟩ := f (i + 2) j v hv hne
        rw [show i + 2 + j = i + (j + 2) by omega] at h1
        exact ⟨w', List.mem_cons_of_mem _ h1, h2⟩
    · exact one (fun _ q => by cases q) hv rfl
    · exact one (fun _ q => by cases q) (mm_rv_cat hv (by intro z; cases z) (by intro z z'; cases z')) rfl
theorem mm_entR {g : mm_G} {a : Nat} {ma : List mm_V} {vs : List Value} (hs : mm_rs g ma vs) (hlen : (mm_ent1 ma).length ≤ mm_mL a) :
    mm_rl g (mm_ent a ma) ((lg_sl vs ++ List.replicate (mm_mL a - (lg_sl vs).length) Slot.unset).toArray) (mm_mL a) := by
  obtain ⟨e, f⟩ := mm_ent_args ma vs hs
  have hb := lv_entry vs (n := mm_mL a) (by omega)
  refine ⟨hb.1, by unfold mm_ent; rw [List.length_append, List.length_replicate]; omega, hb.2.1, fun k v hk hv => ?_⟩
  unfold mm_ent at hk
  by_cases hlt : k < (mm_ent1 ma).length
  · rw [List.getElem?_append_left hlt] at hk
    obtain ⟨w, h1, h2⟩ := f 0 k v hk hv
    rw [Nat.zero_add] at h1
    exact ⟨w, hb.2.2 _ h1, h2⟩
  · rw [List.getElem?_append_right (by omega), List.getElem?_replicate] at hk
    split at hk
    · cases hk; exact absurd rfl hv
    · cases hk
theorem mm_rs_len {g : mm_G} : ∀ {st : List mm_V} {vs : List Value}, mm_rs g st vs → vs.length = st.length
  | [], vs, h => by have h : vs = [] := h; subst h; rfl
  | v :: st, vs, h => by obtain ⟨w, v', rfl, -, hs⟩ := h; rw [List.length_cons, List.length_cons, mm_rs_len hs]
theorem mm_rs_take {g : mm_G} : ∀ (n : Nat) {st : List mm_V} {vs : List Value}, mm_rs g st vs → mm_rs g (st.take n) (vs.take n) ∧ mm_rs g (st.drop n) (vs.drop n)
  | 0, st, vs, h => ⟨rfl, h⟩
  | n + 1, [], vs, h => by have h : vs = [] := h; subst h; exact ⟨rfl, rfl⟩
  | n + 1, v :: st, vs, h => by
    obtain ⟨w, v', rfl, q, hs⟩ := h
    obtain ⟨a, b⟩ := mm_rs_take n hs
    exact ⟨⟨_, _, rfl, q, a⟩, b⟩
theorem mm_rs_app {g : mm_G} : ∀ {s1 : List mm_V} {v1 : List Value} {s2 : List mm_V} {v2 : List Value}, mm_rs g s1 v1 → mm_rs g s2 v2 → mm_rs g (s1 ++ s2) (v1 ++ v2)
  | [], v1, s2, v2, h, h2 => by have h : v1 = [] := h; subst h; exact h2
  | v :: s1, v1, s2, v2, h, h2 => by
    obtain ⟨w, v', rfl, q, hs⟩ := h
    exact ⟨_, _, rfl, q, mm_rs_app hs h2⟩
theorem mm_rs_rev {g : mm_G} : ∀ {st : List mm_V} {vs : List Value}, mm_rs g st vs → mm_rs g st.reverse vs.reverse
  | [], vs, h => by have h : vs = [] := h; subst h; exact rfl
  | v :: st, vs, h => by
    obtain ⟨w, v', rfl, q, hs⟩ := h
    rw [List.reverse_cons, List.reverse_cons]
    exact mm_rs_app (mm_rs_rev hs) ⟨_, _, rfl, q, rfl⟩
def mm_rr (g : mm_G) (r : mm_V) (v : Option Value) : Prop := match r with
  | .inr none => v = none
  | r => ∃ w, v = some w ∧ mm_rv g r w
def mm_isr (y : Nat) (g : mm_G) (v : mm_V) (ins : Instr) (vs : List Value) : Prop :=
  (ins = .ireturn ∧ ∃ (u : Int32) (ty : FieldType), vs = [.int u] ∧ v = zI u.toInt ∧ mm_rt1 y = some ty ∧ narrow ty (.int u) = .int u) ∨ (ins = .lreturn ∧ ∃ u : Int64, vs = [.long u] ∧ v = zL u.toInt ∧ mm_rt1 y = some .long) ∨
  (ins = .areturn ∧ ∃ (x : mm_Id) (w : Value) (ty : FieldType), vs = [w] ∧ v = zR x ∧ mm_rv g (zR x) w ∧ mm_rt1 y = some ty ∧ ((∃ n, ty = .object n) ∨ ∃ t, ty = .array t)) ∨ (ins = .return_ ∧ vs = [] ∧ v = zU ∧ mm_rt1 y = none)
def mm_ws (a : Nat) : List Cond := .code (mm_nm a) (mm_by a) (mm_mL a) (mm_rt1 a) :: lw_g
def mm_rm (a dc ds : Nat) : Room := { frames := mm_fr a, cells := dc, slots := ds, locals := mm_lo a }
def mm_Pc (g : mm_G) (ma : List mm_V) (h : mm_H) : Array Value → State → Prop := fun av U => (∃ vs : List Value, av = vs.toArray ∧ mm_rs g ma vs) ∧ mm_hr g h U.heap ∧ mm_kf g U
def mm_Qc (g : mm_G) (r : mm_V) (h1 : mm_H) : Array Value → State → Outcome → State → Prop := fun _ _ o t => ∃ v : Option Value, o = .returned v ∧ mm_rr g r v ∧ mm_hr g h1 t.heap
def mm_P (f : Nat) : Prop := ∀ (y : Nat) (is : List mm_I) (lo st : List mm_V) (h : mm_H) (r : mm_V) (h1 : mm_H), mm_run f y is lo st h = some (r, h1) → ∀ pc : Nat, mm_chk y pc is = true → mm_okM y = true →
  ∀ (p : Program) (l : Launch) (e : Env) (R : Room) (s : State) (m : MethodId) (args : Array Value) (below : List Frame) (meth : Method) (c : Code) (H : Heap) (locs : List Loc) (cells slots : Nat) (Q : State → Prop) (g : mm_G) (ls : Array Slot) (vs : List Value),
  mm_C p s m args meth c y g → mm_rl g lo ls (mm_mL y) → mm_rs g st vs → mm_hr g h H → (∀ q ∈ locs, g.1 ≤ q.base) → (cells : Int) + (h1.2.2.1 - h.2.2.1) ≤ R.cells ∧ (slots : Int) + (h1.2.2.2 - h.2.2.2) ≤ R.slots → mm_fr y ≤ R.frames ∧ mm_lo y ≤ R.locals →
  (∀ (H' : Heap) (locs' : List Loc) (cells' slots' pc' : Nat) (ls' : Array Slot) (ins : Instr) (vs' : List Value), decode (mm_by y) pc' = .ok (ins, 1) → mm_isr y g r ins vs' → mm_hr g h1 H' → (∀ q ∈ locs', g.1 ≤ q.base) → (cells' : Int) - h1.2.2.1 = cells - h.2.2.1 → (slots' : Int) - h1.2.2.2 = slots - h.2.2.2 →
    W p l e R s m args below meth c H' locs' cells' slots' Q (F0 m pc' ls' vs')) →
  W p l e R s m args below meth c H locs cells slots Q (F0 m pc ls vs)
theorem mm_blind (g : mm_G) (ma : List mm_V) (h : mm_H) : FrameBlind (mm_Pc g ma h) := fun a U g' mk q => ⟨q.1, q.2.1, mm_kf_same (u := U) (U := U.calling g' mk a) rfl q.2.2⟩
theorem mm_blkOk {y b pc : Nat} (h : mm_okM y = true) (hb : mm_stt y b = some pc) : mm_chk y pc (mm_blk y b) = true := by
  unfold mm_stt at hb
  unfold mm_okM at h
  rw [List.all_eq_true] at h
  cases hq : (mm_code.getD y [])[b]? with
  | none => rw [hq] at hb; cases hb
  | some q =>
    rw [hq] at hb
    have hb : some q.1 = some pc := hb
    cases hb
    have h2 := h q (List.mem_of_getElem? hq)
    have e : mm_blk y b = q.2 := by
      unfold mm_blk
      rw [List.getD_eq_getElem?_getD, List.getElem?_map, hq]
      rfl
    rw [e]
    exact h2
theorem mm_met {f a : Nat} (IH : mm_P f) (hM : mm_okM a = true) (h0 : mm_stt a 0 = some 0) (hc : mm_cP a) {ma : List mm_V} {h h1 : mm_H} {v : mm_V} (hrun : mm_run f a (mm_blk a 0) (mm_ent a ma) [] h = some (v, h1)) (hlen : (mm_ent1 ma).length ≤ mm_mL a) (l : Launch) (g : mm_G) :
    Met l (mm_nm a) (mm_ws a) (mm_rm a (h1.2.2.1 - h.2.2.1).toNat (h1.2.2.2 - h.2.2.2).toNat) (mm_Pc g ma h) (mm_Qc g v h1) (h1.2.2.1 - h.2.2.1).toNat (h1.2.2.2 - h.2.2.2).toNat (mm_bA g) := by
  obtain ⟨-, -, -, -, -, -, -, hplain, -⟩ := hc
  obtain ⟨mn1, mn2⟩ := mm_mono _ _ _ _ _ _ _ _ hrun
  refine Met.ofW (cc := mm_by a) (maxL := mm_mL a) (ret := mm_rt1 a) hplain rfl ?_
  intro p e s m args below meth c s₁ B hml hv
  obtain ⟨⟨vs, rfl, hs⟩, hh, hkf⟩ := hv
  have hts := atoms_spec (ws := mm_ws a) B.pre
  rw [lg_entry_eq]
  refine IH a _ _ _ h v h1 hrun 0 (mm_blkOk hM h0) hM p l e _ s m _ below meth c s.heap [] 0 0 _ g _ _ ⟨B.exec, B.bytes, hml, findClass_of_methodNamed B.named, fun w hw => hts w (List.mem_cons_of_mem _ hw), hkf, fun hn => by rw [← hn]; exact (name_of_methodNamed B.named B.method).1⟩ (mm_entR hs hlen) rfl hh (fun q hq => by cases hq) ⟨by show (0 : Int) + _ ≤ (((h1.2.2.1 - h.2.2.1).toNat : Nat) : Int); omega, by show (0 : Int) + _ ≤ (((h1.2.2.2 - h.2.2.2).toNat : Nat) : Int); omega⟩ ⟨Nat.le_refl _, Nat.le_refl _⟩ ?_
  intro H' locs' cells' slots' pc' ls' ins vs' hd hi hh1 hq e1 e2
  obtain rfl : cells' = (h1.2.2.1 - h.2.2.1).toNat := by omega
  obtain rfl : slots' = (h1.2.2.2 - h.2.2.2).toNat := by omega
  have hr : meth.sig.returnType = mm_rt1 a := B.returns
  rcases hi with ⟨rfl, u, ty, rfl, rfl, ht, hn⟩ | ⟨rfl, u, rfl, rfl, ht⟩ | ⟨rfl, x, w, ty, rfl, rfl, hw, ht, hty⟩ | ⟨rfl, rfl, rfl, ht⟩
  · exact W.zret B.exec B.bytes (hr.trans ht) hn (fun t ht' _ => ⟨_, rfl, ⟨_, rfl, u, rfl, rfl⟩, by rw [ht']; exact hh1⟩) hq hd
  · exact W.lret B.exec B.bytes (hr.trans ht) (fun t ht' _ => ⟨_, rfl, ⟨_, rfl, u, rfl, rfl⟩, by rw [ht']; exact hh1⟩) hq hd
  · obtain ⟨o, rfl, -⟩ := mm_rvR hw
    exact W.aret B.exec B.bytes (hr.trans ht) hty (by cases o with | none => exact Or.inl rfl | some z => exact Or.inr ⟨z, rfl⟩) (fun t ht' _ => ⟨_, rfl, ⟨_, rfl, hw⟩, by rw [ht']; exact hh1⟩) hq hd
  · exact W.vret B.exec B.bytes (hr.trans ht) (fun t ht' _ => ⟨_, rfl, rfl, by rw [ht']; exact hh1⟩) hq hd
