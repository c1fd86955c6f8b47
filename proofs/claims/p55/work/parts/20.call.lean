/-! calls, by what is known of runs with less fuel -/
theorem mm_SHocl {x : mm_Id} {c : Int} (h : mm_SHo x = (1, c)) : 0 ≤ c ∧ c < 11 := by
  have hne : ((1, c) : Nat × Int) ≠ (0, 0) := fun e => by have := congrArg Prod.fst e; dsimp only at this; omega
  have fin : ∀ w : Nat × Int, w = (1, c) → (w.1 ≠ 1 ∨ 0 ≤ w.2 ∧ w.2 < 11) → 0 ≤ c ∧ c < 11 := fun w e q => by
    subst e
    rcases q with q | q
    · exact absurd rfl q
    · exact q
  unfold mm_SHo at h
  split at h <;> first
    | exact fin _ (mm_SHn h hne).2.2 (by decide)
    | exact fin _ (mm_SHi h hne).2.2.2 (by decide)
    | exact fin _ (mm_SHt h hne).2.2 (by decide)
    | exact fin _ (mm_SHx h hne).2.2.2 (by decide)
    | exact absurd h.symm hne
theorem mm_SHcls {x : mm_Id} {c : Int} (h : mm_SH x = (1, c)) : 0 ≤ c ∧ c < 11 := mm_SHocl (x := mm_fl x) h
theorem mm_good {a c : Nat} (hw : mm_wd c = some (.code (mm_nm a) (mm_by a) (mm_mL a) (mm_rt1 a))) : GoodIn lw_g (mm_ws a) := fun w hw' => by
  have hin : w ∈ lw_g := by
    rcases List.mem_cons.mp hw' with e | h
    · subst e; exact mm_wd_in hw
    · exact h
  exact ⟨hin, good_of_word (List.mem_filter.mp hin).2⟩
section MCL
variable {p : Program} {l : Launch} {e : Env} {R : Room} {s : State} {m : MethodId} {args : Array Value} {below : List Frame} {meth : Method} {c : Code} {H : Heap} {locs : List Loc} {cells slots : Nat} {Q : State → Prop} {y pc : Nat} {g : mm_G} {h h1 : mm_H} {lo st s1 ma : List mm_V} {v : mm_V} {ls : Array Slot} {vs rest : List Value} {a d ee : Nat} {k : Int}
theorem mm_after {av : Array Value} (hRun : va_Run p l e R s m args below meth c H locs cells slots (h1.2.2.1 - h.2.2.1).toNat (h1.2.2.2 - h.2.2.2).toNat (F0 m pc ls vs) rest (mm_Qc g v h1 av) (mm_bA g)) (mn : h.2.2.1 ≤ h1.2.2.1 ∧ h.2.2.2 ≤ h1.2.2.2)
    (hl : mm_rl g lo ls (mm_mL y)) (hs : mm_rs g s1 rest) (hq : ∀ q ∈ locs, g.1 ≤ q.base) (K : mm_K p l e R s m args below meth c Q y g (lo, mm_push v s1, h1) h cells slots (pc + 3)) : W p l e R s m args below meth c H locs cells slots Q (F0 m pc ls vs) := by
  intro T hT X
  obtain ⟨w, st0, t, T', L, -, X', hL, e1, -, ⟨w', ho, hr, hh'⟩, gs⟩ := hRun T hT X
  have ho : w = w' := by injection ho
  subst ho
  have hs' : mm_rs g (mm_push v s1) (w.toList ++ rest) := by
    rcases v with (n | n) | (_ | x)
    · obtain ⟨u, rfl, hu⟩ := hr
      exact ⟨_, _, rfl, hu, hs⟩
    · obtain ⟨u, rfl, hu⟩ := hr
      exact ⟨_, _, rfl, hu, hs⟩
    · have hr : w = none := hr
      subst hr
      exact hs
    · obtain ⟨u, rfl, hu⟩ := hr
      exact ⟨_, _, rfl, hu, hs⟩
  refine W.then gs X' (K ls (w.toList ++ rest) T'.heap (locs ++ L) _ _ hl hs' (by rw [e1]; exact hh') (fun q hq' => ?_) ?_ ?_)
  · rcases List.mem_append.mp hq' with h | h
    · exact hq q h
    · exact hL q h
  · show ((cells + (h1.2.2.1 - h.2.2.1).toNat : Nat) : Int) - h1.2.2.1 = _
    omega
  · show ((slots + (h1.2.2.2 - h.2.2.2).toNat : Nat) : Int) - h1.2.2.2 = _
    omega
theorem mm_split {n : Nat} (hs : mm_rs g st vs) (hn : n ≤ st.length) : vs = (vs.take n).reverse.reverse ++ vs.drop n ∧ (vs.take n).reverse.length = n ∧ mm_rs g (st.take n).reverse (vs.take n).reverse ∧ mm_rs g (st.drop n) (vs.drop n) := by
  have h1 := mm_rs_take n hs
  refine ⟨by rw [List.reverse_reverse, List.take_append_drop], by rw [List.length_reverse, List.length_take, mm_rs_len hs]; omega, mm_rs_rev h1.1, h1.2⟩
theorem mm_clI {op : Nat} (hx : mm_cl (op, a, k, d, ee) st h = some (ma, s1)) : ((s1.map mm_wt).sum ≤ 8 ∧ mm_n a ≤ st.length ∧ (mm_ent1 ma).length ≤ mm_mL a) ∧ ma = (st.take (mm_n a)).reverse ∧ s1 = st.drop (mm_n a) ∧
    (op ≠ 85 → ∃ x r, ma = zR x :: r ∧ (mm_ok x h.2.2.1 1 k = true ∨ k = 20 ∧ mm_SH x = (14, 0) ∨ k = 21 ∧ mm_SH x = (13, 11))) := by
  unfold mm_cl at hx
  dsimp only at hx
  split at hx
  · rename_i hc
    split at hx
    · rename_i ho
      cases hx
      exact ⟨hc, rfl, rfl, fun q => absurd ho q⟩
    · split at hx
      · rename_i x r hr
        split at hx
        · rename_i hk
          cases hx
          rw [hr] at hc
          exact ⟨hc, hr.symm, rfl, fun _ => ⟨x, r, rfl, hk⟩⟩
        · cases hx
      · cases hx
  · cases hx
/-- the object that a call is made of: its cls is the call's -/
theorem mm_recv {x : mm_Id} {C0 : String} (C : mm_C p s m args meth c y g) (hh : mm_hr g h H) (hk : mm_ok x h.2.2.1 1 k = true ∨ k = 20 ∧ mm_SH x = (14, 0) ∨ k = 21 ∧ mm_SH x = (13, 11))
    (hc : 0 ≤ k ∧ k < 10 ∧ C0 = mm_Cn k.toNat) : x ≠ mm_nul ∧ ∃ cellB : Cell, H[mm_ad g x]? = some cellB ∧ cellB.vm.isStatics = false ∧ s.vm.findClass C0 = some cellB.cls := by
  have kf := C.2.2.2.2.2.1
  rcases hk with hk | ⟨rfl, hk⟩ | ⟨rfl, hk⟩
  · obtain ⟨h1, h2⟩ := mm_okI hk
    refine ⟨mm_nn (by rw [h1]; simp), ?_⟩
    obtain ⟨hc0, hc1, rfl⟩ := hc
    have e : k = ((k.toNat : Nat) : Int) := by omega
    obtain ⟨V, ⟨cell, p1, p2, p3, -⟩, -⟩ := hh.2.1 x k.toNat (by rw [← e]; exact h1) h2
    refine ⟨cell, p1, by rw [p3]; rfl, ?_⟩
    have hcl := (mm_cA k.toNat (by omega)).1
    rw [p2]
    exact (kf.1.1 _ _ hcl).2.1
  · exact (mm_SHno hk (by decide)).elim
  · exact (mm_SHno hk (by decide)).elim
theorem mm_sC {f op len : Nat} {ins : Instr} (IH : mm_P f) (HM : ∀ y, mm_rc y = true → mm_okM y = true) (H0 : ∀ y, mm_rc y = true → mm_stt y 0 = some 0) (HC : ∀ y, mm_rc y = true → mm_cP y)
    (C : mm_C p s m args meth c y g) (hd : decode (mm_by y) pc = .ok (ins, len)) (hf : mm_f y pc (op, a, k, d, ee) ins len = true) (ho : 85 ≤ op ∧ op < 89) (hx : mm_cl (op, a, k, d, ee) st h = some (ma, s1)) (hrun : mm_run f a (mm_blk a 0) (mm_ent a ma) [] h = some (v, h1))
    (hl : mm_rl g lo ls (mm_mL y)) (hs : mm_rs g st vs) (hh : mm_hr g h H) (hq : ∀ q ∈ locs, g.1 ≤ q.base) (hRc : (cells : Int) + (h1.2.2.1 - h.2.2.1) ≤ R.cells ∧ (slots : Int) + (h1.2.2.2 - h.2.2.2) ≤ R.slots) (hRf : mm_fr y ≤ R.frames ∧ mm_lo y ≤ R.locals)
    (K : mm_K p l e R s m args below meth c Q y g (lo, mm_push v s1, h1) h cells slots (pc + len)) : W p l e R s m args below meth c H locs cells slots Q (F0 m pc ls vs) := by
  have mn := mm_mono _ _ _ _ _ _ _ _ hrun
  obtain ⟨⟨c1, c2, c3⟩, ema, es1, hrecv⟩ := mm_clI hx
  obtain ⟨x1, x2, x3, x4⟩ := mm_split (n := mm_n a) hs c2
  rw [← ema] at x3
  rw [← es1] at x4
  have hW : 2 * (F0 m pc ls vs).monitorRoom + ((vs.drop (mm_n a)).map fun v => v.category).sum ≤ 8 := lv_room (Nat.le_trans (mm_wsum x4) c1)
  have Sx : CallFix p m c (mm_by y) (mm_mL y) s args lw_g (mm_nm y).cls := ⟨C.1, C.2.1, C.2.2.1, C.2.2.2.1, C.2.2.2.2.1⟩
  have hPc : ∀ U : State, U.heap = H → s.WarmedH U.vm → mm_Pc g ma h ((vs.take (mm_n a)).reverse).toArray U := fun U hU hWm => ⟨⟨_, rfl, x3⟩, by rw [hU]; exact hh, mm_kf_warm hWm C.2.2.2.2.2.1⟩
  have room : cells + (h1.2.2.1 - h.2.2.1).toNat ≤ R.cells ∧ slots + (h1.2.2.2 - h.2.2.2).toNat ≤ R.slots := by omega
  have asz : ls.size = mm_mL y := hl.1
  have met := fun hr : mm_rc a = true => mm_met IH (HM a hr) (H0 a hr) (HC a hr) hrun c3 l g
  cases ins
  case invokestatic n =>
    simp only [mm_f, Bool.and_eq_true, decide_eq_true_eq] at hf
    obtain ⟨⟨rfl, rfl⟩, hf⟩ := hf
    split at hf
    · rename_i h1'
      have h1' : op = 95 := h1'
      omega
    split at hf
    · rename_i h1'
      have h1' : op = 98 := h1'
      omega
    split at hf
    · rename_i h1'
      have h1' : op = 99 := h1'
      omega
    simp only [Bool.and_eq_true, decide_eq_true_eq, mm_rm1] at hf
    obtain ⟨⟨⟨⟨f1, f2⟩, f3⟩, f4, f5⟩, f6⟩ := hf
    obtain ⟨wc, wi, ws, wn, q1, q2, q3, q4, q5⟩ := HC a f6
    have f2 : mm_sta a = 1 := f2
    rw [if_pos f2] at q5
    have cb : CallB R s args (mm_nm y).cls d (mm_nm a) (mm_by a) (mm_mL a) (mm_rt1 a) (mm_ws a) (mm_rm a (h1.2.2.1 - h.2.2.1).toNat (h1.2.2.2 - h.2.2.2).toNat) (h1.2.2.1 - h.2.2.1).toNat (h1.2.2.2 - h.2.2.2).toNat (mm_n a) :=
      callB_of (mm_n a) C.2.2.2.2.1 (mm_good q1) rfl rfl rfl (C.2.2.2.2.1 _ (mm_wd_in q2)) (C.2.2.2.2.1 _ (mm_wd_in f3)) ⟨q3.1, q3.2, q5.2⟩ ⟨Nat.le_trans f4 hRf.1, Nat.le_trans f5 hRf.2⟩
    refine mm_after (va_runS Sx (met f6) ⟨cb, C.2.2.2.2.1 _ (mm_wd_in q5.1)⟩ ⟨mm_blind g ma h, hPc⟩ rfl x2 asz x1 hW hd room) mn hl x4 hq K
  case invokevirtual n =>
    simp only [mm_f, Bool.and_eq_true, decide_eq_true_eq] at hf
    obtain ⟨⟨rfl, rfl⟩, hf⟩ := hf
    split at hf
    · cases hf
    simp only [Bool.and_eq_true, decide_eq_true_eq, mm_rm1] at hf
    obtain ⟨⟨⟨⟨⟨f1, f2, f0⟩, fc⟩, f3⟩, f4, f5⟩, f6⟩ := hf
    obtain ⟨wc, wi, ws, wn, q1, q2, q3, q4, q5⟩ := HC a f6
    have f2 : mm_sta a = 0 := f2
    rw [if_neg (by omega)] at q5
    obtain ⟨x, r, em, hk⟩ := hrecv (by have f1 : op = 86 := f1; omega)
    obtain ⟨hxn, cellB, b1, b2, b3⟩ := mm_recv C hh hk fc
    have x3' := x3
    rw [em] at x3'
    obtain ⟨w, As, eAs, hw, hAs⟩ := x3'
    have hw := mm_rvN hw hxn
    subst hw
    rw [eAs] at x1 x2 hPc
    rcases q5 with ⟨q5, q6, q7⟩
    have q7 := q7.resolve_left f0
    have hlenA : As.length + 1 = mm_n a := by rw [← x2]; rfl
    have q6' : (parseMethodDescriptor (mm_nm a).desc).map (fun d => d.parameters.length) = some As.length := by
      cases hpd : parseMethodDescriptor (mm_nm a).desc with
      | none => rw [hpd] at q6; cases q6
      | some dd =>
        rw [hpd] at q6
        have q6 : dd.parameters.length + 1 = mm_n a := by simpa using q6
        show some dd.parameters.length = _
        congr 1
        omega
    have cb : CallB R s args (mm_nm y).cls d (mm_nm a) (mm_by a) (mm_mL a) (mm_rt1 a) (mm_ws a) (mm_rm a (h1.2.2.1 - h.2.2.1).toNat (h1.2.2.2 - h.2.2.2).toNat) (h1.2.2.1 - h.2.2.1).toNat (h1.2.2.2 - h.2.2.2).toNat As.length :=
      callB_of As.length C.2.2.2.2.1 (mm_good q1) rfl rfl rfl (C.2.2.2.2.1 _ (mm_wd_in q2)) (C.2.2.2.2.1 _ (mm_wd_in f3)) ⟨q3.1, q3.2, q6'⟩ ⟨Nat.le_trans f4 hRf.1, Nat.le_trans f5 hRf.2⟩
    refine mm_after (va_runV Sx (met f6) ⟨cb, C.2.2.2.2.1 _ (mm_wd_in q5), C.2.2.2.2.1 _ (mm_wd_in q7)⟩ ⟨mm_blind g ma h, ⟨cellB, b1, b2, b3⟩, hPc⟩ rfl rfl asz ?_ hW hd room) mn hl x4 hq K
    rw [List.reverse_cons, List.append_assoc] at x1
    exact x1
  case invokespecial n =>
    simp only [mm_f, Bool.and_eq_true, decide_eq_true_eq] at hf
    obtain ⟨⟨rfl, rfl⟩, hf⟩ := hf
    split at hf
    · rename_i h1'
      have h1' : op = 97 := h1'
      omega
    simp only [Bool.and_eq_true, Bool.or_eq_true, decide_eq_true_eq, mm_rm1] at hf
    obtain ⟨⟨⟨⟨⟨f1, f2, f0, fr⟩, fc⟩, f3⟩, f4, f5⟩, f6⟩ := hf
    obtain ⟨wc, wi, ws, wn, q1, q2, q3, q4, q5⟩ := HC a f6
    have f2 : mm_sta a = 0 := f2
    rw [if_neg (by omega)] at q5
    obtain ⟨x, r, em, hk⟩ := hrecv (by have f1 : op = 87 := f1; omega)
    have fc : 0 ≤ k ∧ k < 10 ∧ (mm_nm a).cls = mm_Cn k.toNat := fc
    obtain ⟨hxn, cellB, b1, b2, b3⟩ := mm_recv C hh hk fc
    have x3' := x3
    rw [em] at x3'
    obtain ⟨w, As, eAs, hw, hAs⟩ := x3'
    have hw := mm_rvN hw hxn
    subst hw
    rw [eAs] at x1 x2 hPc
    rcases q5 with ⟨q5, q6, -⟩
    have hlenA : As.length + 1 = mm_n a := by rw [← x2]; rfl
    have q6' : (parseMethodDescriptor (mm_nm a).desc).map (fun d => d.parameters.length) = some As.length := by
      cases hpd : parseMethodDescriptor (mm_nm a).desc with
      | none => rw [hpd] at q6; cases q6
      | some dd =>
        rw [hpd] at q6
        have q6 : dd.parameters.length + 1 = mm_n a := by simpa using q6
        show some dd.parameters.length = _
        congr 1
        omega
    have hst : vs = As.reverse ++ .ref (mm_ad g x) :: vs.drop (mm_n a) := by
      rw [List.reverse_cons, List.append_assoc] at x1
      exact x1
    have fr : mm_rt1 a = none := fr
    rw [fr] at q1
    have hG : GoodIn lw_g (mm_ws a) := mm_good (by rw [fr]; exact q1)
    have ews : mm_ws a = .code (mm_nm a) (mm_by a) (mm_mL a) none :: lw_g := by unfold mm_ws; rw [fr]
    have dsc : (mm_nm a).cls ≠ "java/lang/invoke/MethodHandle" ∧ (mm_nm a).cls ≠ "java/lang/invoke/VarHandle" ∧ (parseMethodDescriptor (mm_nm a).desc).map (fun d => d.parameters.length) = some As.length := ⟨q3.1, q3.2, q6'⟩
    rcases f3 with f3 | f3
    · have cb : CallB R s args (mm_nm y).cls d (mm_nm a) (mm_by a) (mm_mL a) none (mm_ws a) (mm_rm a (h1.2.2.1 - h.2.2.1).toNat (h1.2.2.2 - h.2.2.2).toNat) (h1.2.2.1 - h.2.2.1).toNat (h1.2.2.2 - h.2.2.2).toNat As.length :=
        callB_of As.length C.2.2.2.2.1 hG ews rfl rfl (C.2.2.2.2.1 _ (mm_wd_in q2)) (C.2.2.2.2.1 _ (mm_wd_in f3)) dsc ⟨Nat.le_trans f4 hRf.1, Nat.le_trans f5 hRf.2⟩
      exact mm_after (va_runI Sx (met f6) ⟨cb, f0, C.2.2.2.2.1 _ (mm_wd_in q5)⟩ ⟨mm_blind g ma h, hPc⟩ rfl rfl asz hst hW hd room) mn hl x4 hq K
    · have nst := C.2.2.2.2.2.1.2.2.2.1 _ f3
      have cb := va_cnB (R := R) (args := args) (rm := mm_rm a (h1.2.2.1 - h.2.2.1).toNat (h1.2.2.2 - h.2.2.2).toNat) As.length C.2.2.2.2.1 hG ews rfl rfl nst (C.2.2.2.2.1 _ (mm_wd_in q2)) dsc ⟨Nat.le_trans f4 hRf.1, Nat.le_trans f5 hRf.2⟩
      exact mm_after (va_runIN Sx (met f6) ⟨cb, f0, C.2.2.2.2.1 _ (mm_wd_in q5)⟩ ⟨mm_blind g ma h, hPc⟩ rfl rfl asz hst hW hd room) mn hl x4 hq K
  case getfield n =>
    exfalso
    simp only [mm_f, Bool.and_eq_true, decide_eq_true_eq] at hf
    obtain ⟨-, hf⟩ := hf
    (repeat' split at hf) <;> (try simp only [Bool.and_eq_true, Bool.or_eq_true, decide_eq_true_eq] at hf) <;> first
      | (cases hf; done)
      | omega
      | (have := hf.1; omega)
      | (have := hf.1.1; omega)
      | (have := hf.1.2; omega)
      | (have := hf.1.1.1; omega)
      | (have := hf.1.1.1.1; omega)
      | (have := hf.1.1.1.1.1; omega)
  case ifCond cn off =>
    exfalso
    simp only [mm_f, Bool.and_eq_true, decide_eq_true_eq] at hf
    have := hf.1.1
    cases cn <;> (dsimp only [mm_cc] at this; omega)
  case if_icmp cn off =>
    exfalso
    simp only [mm_f, Bool.and_eq_true, decide_eq_true_eq] at hf
    have := hf.1.1
    cases cn <;> (dsimp only [mm_cc] at this; omega)
  case if_acmp cn off =>
    exfalso
    simp only [mm_f, Bool.and_eq_true, decide_eq_true_eq] at hf
    have := hf.1.1
    cases cn <;> (dsimp only at this; omega)
  all_goals (exfalso; simp only [mm_f, Bool.and_eq_true, decide_eq_true_eq, Bool.false_eq_true] at hf)
  all_goals first
    | omega
    | (have := hf.1; omega)
    | (have := hf.1.1; omega)
    | (have := hf.1.1.1; omega)
    | (have := hf.1.2; omega)
    | (have := hf.2.1; omega)
    | (have := hf.1.1.2; omega)
    | (rcases hf.2 with ⟨q, -⟩ | ⟨q, -⟩ <;> omega)
end MCL
