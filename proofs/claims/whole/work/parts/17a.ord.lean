/-- Enum.ordinal: its frame is walked in place (its owner isn't among those that the tables call initialised) -/
def mr_oY : MethodName := ⟨"java/lang/Enum", "ordinal", "()I"⟩
def mr_oX : MethodName := ⟨"PoolHouse$Call", "ordinal", "()I"⟩
def mr_oW : List Cond := [.sameMethod "PoolHouse$Call" "java/lang/Enum" "ordinal" "()I", .selects "PoolHouse$Call" mr_oX mr_oY, .instanceMethod mr_oY, .code mr_oY prog_15_method_2_code 1 (some .int), .fieldLink "java/lang/Enum" 7 "java/lang/Enum" "ordinal" "I"]
theorem mr_oG : GoodIn lw_g mr_oW := goodIn_of mr_oW (by decide +kernel)
theorem mr_od0 : decode prog_15_method_2_code 0 = .ok (.aload_n 0, 1) := by decide +kernel
theorem mr_od1 : decode prog_15_method_2_code 1 = .ok (.getfield 7, 3) := by decide +kernel
theorem mr_od4 : decode prog_15_method_2_code 4 = .ok (.ireturn, 1) := by decide +kernel
theorem mr_weak {tb : Tables} {e : Env} {mid below : List Frame} {a b : State} (h : Steps tb e (mid ++ below) a b) : Steps tb e below a b := by
  obtain ⟨n, hn, w⟩ := h
  exact ⟨n, hn, fun k hk => Within.weaken (w k hk)⟩
section MRO
variable {p : Program} {l : Launch} {e : Env} {R : Room} {s : State} {m : MethodId} {args : Array Value} {below : List Frame} {meth : Method} {c : Code} {H : Heap} {locs : List Loc} {cells slots : Nat} {Q : State → Prop} {y pc : Nat} {g : mm_G} {h : mm_H} {lo st : List mm_V} {ls : Array Slot} {vs : List Value} {d : Nat}
theorem mr_oBack (hexec : p.tables.exec = Jvm.exec) (hR : 1 ≤ R.frames ∧ 20 ≤ R.locals) (hts : ∀ w ∈ lw_g, w.before args s = true) {b : Addr} {u : Int32} :
    Back l R p e below s args mr_oY 3 8 (fun A a => a = #[Value.ref b] ∧ A.cells ≤ R.cells ∧ A.slots ≤ R.slots ∧ va_OF "java/lang/Enum" "ordinal" "I" (.int u) b (fun _ => False) s A.U.heap) (fun A _ v B => v = some (.int u) ∧ B.U.heap = A.U.heap ∧ B.locs = A.locs ∧ B.cells = A.cells ∧ B.slots = A.slots) := by
  intro m meth c A g ig mk a X hg hsize hdg hW hn hp
  obtain ⟨U, Ls, c0, s0⟩ := A
  obtain ⟨rfl, hc, hs, hF⟩ := hp
  dsimp only [Pt.U, Pt.locs, Pt.cells, Pt.slots] at X hn hc hs hF ⊢
  have pay := pay_in hts mr_oG
  obtain ⟨methk, ck, hmk, hck, hbytes, hml, hret, hlk, -, -⟩ := Cond.code_spec hn (pay (.code mr_oY prog_15_method_2_code 1 (some .int)) (List.mem_of_getElem? (i := 3) rfl) #[Value.ref b] U X.warmed)
  have hpk : U.plainMethod mk := State.plainMethod.of_name (fun k hk => by
    obtain ⟨kY, hkY, hnm⟩ := className_of_methodNamed hn
    cases hkY.symm.trans hk
    rw [hnm]
    decide +kernel)
  obtain ⟨Y, hin⟩ := X.into hg hsize hdg (mk := mk) #[Value.ref b] (R' := ({ frames := 0, cells := 0, slots := 0, locals := 0 } : Room)) hmk hck hlk hpk (by show 0 + 1 ≤ R.frames; omega) (by rw [hml]; show _ + (1 + 11) + 0 ≤ R.locals; omega) (by show c0 + 0 ≤ R.cells; omega) (by show s0 + 0 ≤ R.slots; omega)
  have hal : s.vm.Alike (U.calling g mk #[Value.ref b]).vm := X.warmed.alike
  obtain ⟨cf, k, i, f, cell, z1, z2, z3, z4, z5, -⟩ := hF.moved hal
  have hown : (U.calling g mk #[Value.ref b]).vm.findClass "java/lang/Enum" = some mk.cls := findClass_of_methodNamed hn
  have hlink : (Cond.fieldLink "java/lang/Enum" 7 "java/lang/Enum" "ordinal" "I").before #[Value.ref b] (U.calling g mk #[Value.ref b]) = true := pay _ (List.mem_of_getElem? (i := 4) rfl) #[Value.ref b] (U.calling g mk #[Value.ref b]) X.warmed
  have w : W p l e ({ frames := 0, cells := 0, slots := 0, locals := 0 } : Room) (U.calling g mk #[Value.ref b]) mk #[Value.ref b] (.java g :: below) methk ck U.heap [] 0 0 (MQ (.java g :: below) (fun _ _ o t => o = .returned (some (.int u)) ∧ t.heap = U.heap) #[Value.ref b] (U.calling g mk #[Value.ref b]) 0 0 (fun _ => False)) (F0 mk 0 #[Slot.val (.ref b)] []) := by
    refine lv_aload_n hexec hbytes (x := b) mr_od0 rfl rfl ?_
    refine W.getf hexec hbytes hown hlink z1 z2 z3 z4 z5 rfl rfl mr_od1 ?_
    exact W.zret hexec hbytes hret rfl (fun t ht _ => ⟨rfl, ht⟩) (fun q h => by cases h) mr_od4 hlk
  obtain ⟨t, st, o, hrun, hend, ⟨rfl, hh⟩, L, ⟨-, hWt, hsame⟩, hL⟩ := w ((U.setTop g).pushFrame (.java (entryFrame mk #[Value.ref b] ck.maxLocals))) rfl Y
  obtain ⟨T', X', hW', hB', ht⟩ := X.outOf hg hdg hend hWt hsame
  obtain rfl : L = [] := List.eq_nil_iff_forall_not_mem.mpr (fun q hq => hL q hq)
  refine ⟨some (.int u), ⟨T', Ls ++ [], c0 + 0, s0 + 0⟩, X', ⟨rfl, by rw [ht] at hh; exact hh, List.append_nil _, rfl, rfl⟩, ?_⟩
  show Steps p.tables e below _ (T'.setTop { g with pc := g.pc + 3, stack := (some (Value.int u)).toList ++ g.stack })
  rw [hin [], ← ht]
  refine mr_weak (mid := [.java g]) ?_
  have he : entryFrame mk #[Value.ref b] ck.maxLocals = F0 mk 0 #[Slot.val (.ref b)] [] := by rw [hml]; rfl
  rw [← he] at st
  exact st
theorem mr_ord {x : mm_Id} (C : mm_C p s m args meth c y g) (hd : decode (mm_by y) pc = .ok (.invokevirtual d, 3)) (hw : Cond.methodLink (mm_nm y).cls d ⟨"PoolHouse$Call", "ordinal", "()I"⟩ ∈ lw_g) (hR : 1 ≤ R.frames ∧ 20 ≤ R.locals) (hcs : cells ≤ R.cells ∧ slots ≤ R.slots) (hx : mm_SH x = (13, 11)) (hsum : (st.map mm_wt).sum ≤ 8) (hl : mm_rl g lo ls (mm_mL y)) (hs : mm_rs g (zR x :: st) vs) (hh : mm_hr g h H) (hq : ∀ q ∈ locs, g.1 ≤ q.base) (K : mm_K p l e R s m args below meth c Q y g (lo, zI x.2.1 :: st, h) h cells slots (pc + 3)) : W p l e R s m args below meth c H locs cells slots Q (F0 m pc ls vs) := by
  obtain ⟨w0, v0, rfl, q0, hs⟩ := hs
  obtain ⟨i, hi, rfl⟩ : ∃ i : Nat, i < 47 ∧ x = (92, (i : Int), 0) := by
    rcases mm_SHhi hx (by decide) with ⟨h, -⟩ | ⟨h, -⟩ | ⟨-, h⟩ | ⟨h, -⟩ | ⟨h, -⟩ | ⟨h, -⟩
    · exact absurd h (by decide)
    · exact absurd h (by decide)
    · exact h
    · exact absurd h (by decide)
    · exact absurd h (by decide)
    · exact absurd h (by decide)
  have e0 := mm_rvO q0 (by show 90 ≤ 92; decide)
  subst e0
  obtain ⟨⟨cellB, o1, o2, o3, o4⟩, ⟨cf, k, j, f, cell, z1, z2, z3, z4, z5, z6⟩, -, -⟩ := C.2.2.2.2.2.1.2.2.1.2.2.2.2.2.1 i hi
  have hts := C.2.2.2.2.1
  have hin : ∀ w ∈ mr_oW, w.before args s = true := fun w hw => hts w (mr_oG w hw).1
  have hsm := mm_wsum hs
  intro T hT X
  obtain ⟨v, vm₁, ⟨U', l2, c2, s2⟩, hW₁, X', ⟨hv, h1, h2, h3, h4⟩, gs⟩ := va_callVU X C.1 (own := (mm_nm y).cls) (C := "PoolHouse$Call") (owner := "java/lang/Enum") (index := d) (x := mr_oX) (y := mr_oY) (bytes := prog_15_method_2_code) (maxL := 1) (ret := some .int)
    C.2.2.2.1 (hts _ hw) (hin _ (List.mem_of_getElem? (i := 0) rfl)) (va_Decl.of (x := mr_oY) (hin _ (List.mem_of_getElem? (i := 2) rfl)) (hin _ (List.mem_of_getElem? (i := 3) rfl))) (by decide) (hin _ (List.mem_of_getElem? (i := 1) rfl)) (hin _ (List.mem_of_getElem? (i := 2) rfl)) (hin _ (List.mem_of_getElem? (i := 3) rfl))
    (mr_oBack C.1 hR hts (b := g.2.2.2.2 (92, (i : Int), 0)) (u := Int32.ofInt (i : Int))) (by rw [hT, mm_H0 hh o4]; exact o1) o2 o3 (g := F0 m pc ls (.ref (g.2.2.2.2 (92, (i : Int), 0)) :: v0)) rfl (hl.1.trans C.2.2.1.symm) (argsL := []) (rest := v0)
    (fun sig h => by
      have e : (parseMethodDescriptor mr_oX.desc).map (fun d => d.parameters.length) = some 0 := by decide +kernel
      rw [h] at e
      exact (Option.some.inj e).symm) rfl (lv_room (by omega)) (by rw [C.2.1]; exact hd)
    (fun vm₁ _ => ⟨rfl, hcs.1, hcs.2, cf, k, j, f, cell, z1, z2, by show T.heap[_]? = _; rw [hT, mm_H0 hh z6]; exact z3, z4, z5, fun h => h⟩)
  dsimp only [Pt.U, Pt.locs, Pt.cells, Pt.slots] at X' h1 h2 h3 h4 gs
  subst hv
  subst h2
  subst h3
  subst h4
  refine W.then gs X' (K ls _ _ _ _ _ hl ⟨_, _, rfl, ⟨_, rfl, ?_⟩, hs⟩ ?_ hq rfl rfl)
  · rw [mm_o32 (by omega)]
  · rw [h1]
    show mm_hr g h T.heap
    rw [hT]
    exact hh
end MRO
