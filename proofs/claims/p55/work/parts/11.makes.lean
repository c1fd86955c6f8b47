/-! rows on the heap: references stored, lengths, makings, copies -/
theorem mm_i0 : Cond.instantiable (mm_Cn 0) (mm_nc 0) ∈ lw_g ∧ Cond.initialized (mm_Cn 0) ∈ lw_g := by decide +kernel
theorem mm_i1 : Cond.instantiable (mm_Cn 1) (mm_nc 1) ∈ lw_g ∧ Cond.initialized (mm_Cn 1) ∈ lw_g := by decide +kernel
theorem mm_i2 : Cond.instantiable (mm_Cn 2) (mm_nc 2) ∈ lw_g ∧ Cond.initialized (mm_Cn 2) ∈ lw_g := by decide +kernel
theorem mm_i3 : Cond.instantiable (mm_Cn 3) (mm_nc 3) ∈ lw_g ∧ Cond.initialized (mm_Cn 3) ∈ lw_g := by decide +kernel
theorem mm_i4 : Cond.instantiable (mm_Cn 4) (mm_nc 4) ∈ lw_g ∧ Cond.initialized (mm_Cn 4) ∈ lw_g := by decide +kernel
theorem mm_i5 : Cond.instantiable (mm_Cn 5) (mm_nc 5) ∈ lw_g ∧ Cond.initialized (mm_Cn 5) ∈ lw_g := by decide +kernel
theorem mm_i6 : Cond.instantiable (mm_Cn 6) (mm_nc 6) ∈ lw_g ∧ Cond.initialized (mm_Cn 6) ∈ lw_g := by decide +kernel
theorem mm_i7 : Cond.instantiable (mm_Cn 7) (mm_nc 7) ∈ lw_g ∧ Cond.initialized (mm_Cn 7) ∈ lw_g := by decide +kernel
theorem mm_i8 : Cond.instantiable (mm_Cn 8) (mm_nc 8) ∈ lw_g ∧ Cond.initialized (mm_Cn 8) ∈ lw_g := by decide +kernel
theorem mm_i9 : Cond.instantiable (mm_Cn 9) (mm_nc 9) ∈ lw_g ∧ Cond.initialized (mm_Cn 9) ∈ lw_g := by decide +kernel
theorem mm_iA : ∀ c, c < 10 → Cond.instantiable (mm_Cn c) (mm_nc c) ∈ lw_g ∧ Cond.initialized (mm_Cn c) ∈ lw_g
  | 0, _ => mm_i0
  | 1, _ => mm_i1
  | 2, _ => mm_i2
  | 3, _ => mm_i3
  | 4, _ => mm_i4
  | 5, _ => mm_i5
  | 6, _ => mm_i6
  | 7, _ => mm_i7
  | 8, _ => mm_i8
  | 9, _ => mm_i9
  | c + 10, h => absurd h (by omega)
theorem mm_ac : Cond.arrayClass .int ∈ lw_g ∧ Cond.arrayClass .byte ∈ lw_g ∧ Cond.arrayClass .boolean ∈ lw_g ∧ Cond.arrayClass .long ∈ lw_g := by decide +kernel
theorem mm_cpw : Cond.native arraycopyName ∈ lw_g ∧ Cond.static arraycopyName ∈ lw_g ∧ Cond.initialized "java/lang/System" ∈ lw_g := by decide +kernel
theorem mm_obw : Cond.instanceMethod Lib.objectInit ∈ lw_g ∧ Cond.code Lib.objectInit ⟨#[0xb1]⟩ 1 none ∈ lw_g := by decide +kernel
theorem mm_ecN : ∀ kd, 6 ≤ kd → kd ≤ 9 → mm_aty kd = .object (mm_Cn (mm_ec kd)) ∧ mm_ec kd < 10 := by
  intro kd h6 h9
  have q : kd = 6 ∨ kd = 7 ∨ kd = 8 ∨ kd = 9 := by omega
  rcases q with q | q | q | q <;> (rw [q]; exact ⟨rfl, by decide⟩)
section MB
variable {p : Program} {l : Launch} {e : Env} {R : Room} {s : State} {m : MethodId} {args : Array Value} {below : List Frame} {meth : Method} {c : Code} {H : Heap} {locs : List Loc} {cells slots : Nat} {Q : State → Prop} {y pc : Nat} {g : mm_G} {h : mm_H} {lo st : List mm_V} {ls : Array Slot} {vs : List Value} {a d ee : Nat} {k : Int} {r : List mm_V × List mm_V × mm_H}
theorem mh_aast {x v : mm_Id} {j : Int} (C : mm_C p s m args meth c y g) (hd : decode (mm_by y) pc = .ok (.aastore, 1)) (h6 : 6 ≤ (mm_SH x).1) (h9 : (mm_SH x).1 ≤ 9) (hin : mm_in x h.2.2.1 (mm_SH x).1 j = true) (hok : mm_ok v h.2.2.1 1 (mm_ec (mm_SH x).1 : Int) = true) (hl : mm_rl g lo ls (mm_mL y)) (hs : mm_rs g (zR v :: zI j :: zR x :: st) vs) (hh : mm_hr g h H) (hq : ∀ q ∈ locs, g.1 ≤ q.base)
    (K : mm_K p l e R s m args below meth c Q y g (lo, st, (h.1, mm_up h.2.1 x j v, h.2.2)) h cells slots (pc + 1)) : W p l e R s m args below meth c H locs cells slots Q (F0 m pc ls vs) := by
  obtain ⟨w2, v2, rfl, q2, w1, v1, rfl, ⟨u, rfl, hu⟩, w0, v0, rfl, q0, hs⟩ := hs
  obtain ⟨n, z, a1, a2, a3, a4, a5, a6, a7, a8, a9, a10⟩ := mm_arr hin (by omega) h9 hh hu
  have ew := mm_rvN q0 a3
  subst ew
  obtain ⟨o1, o2⟩ := mm_okI hok
  have ev := mm_rvN q2 (mm_nn (mm_ne0 o1 (by omega)))
  subst ev
  generalize hkd : (mm_SH x).1 = kd at *
  obtain ⟨t1, t2⟩ := mm_ecN kd h6 h9
  obtain ⟨V, ⟨cv, g1, g2, g3, -⟩, -⟩ := hh.2.1 v _ o1 o2
  obtain ⟨-, hfc, kC, hkC, hkind⟩ := C.2.2.2.2.2.1.1.1 _ _ (mm_cA _ t2).1
  have hra := (C.2.2.2.2.2.1.2.1 kd (by omega) h9).2
  rw [t1] at hra
  obtain ⟨kA, comp, k1, k2, k3, -⟩ := hra
  have hcomp : comp = g.2.1.1 (mm_ec kd) := Option.some.inj (k3.symm.trans hfc)
  subst hcomp
  refine W.aast C.1 C.2.1 a4 (fun q h => by cases h) (fun h => by cases h) k1 k2 rfl hkC ⟨fun q => a7 (Or.inl q), by rw [arrV_size]; omega⟩ g1 (fun q h => by rw [g3] at h; cases h) (by rw [g2]; exact hkC) (by rw [g2]; exact va_assign ⟨hfc, kC, hkC, hkind⟩) rfl rfl hd fun H1 f1 f2 f3 => ?_
  rw [a6, arrV_store] at f1
  refine K _ _ _ _ _ _ hl hs (mm_hr_putA hh a1 (by omega) h9 a2 (mm_stA (w := .ref (mm_ad g v)) a5 a9 ?_ fun i hi => ⟨rfl, mm_upN _ _ fun q => hi q.2⟩) rfl (fun y hy => ⟨rfl, mm_upO _ _ hy⟩) f2 f3 f1 (fun q => by omega)) (fun q hq' => mm_qs hq a1 (by omega) h9 hq') rfl rfl
  unfold mm_ev
  rw [a9, if_neg (by omega), if_neg (by omega)]
  dsimp only
  rw [mm_upS]
  exact q2
theorem mh_alen {x : mm_Id} (C : mm_C p s m args meth c y g) (hd : decode (mm_by y) pc = .ok (.arraylength, 1)) (h2 : 2 ≤ (mm_SH x).1) (h9 : (mm_SH x).1 ≤ 9) (hlv : mm_lv x h.2.2.1 = true) (h0 : 0 ≤ (mm_SH x).2 ∧ (mm_SH x).2 < 2147483648) (hl : mm_rl g lo ls (mm_mL y)) (hs : mm_rs g (zR x :: st) vs) (hh : mm_hr g h H) (hq : ∀ q ∈ locs, g.1 ≤ q.base)
    (K : mm_K p l e R s m args below meth c Q y g (lo, zI (mm_SH x).2 :: st, h) h cells slots (pc + 1)) : W p l e R s m args below meth c H locs cells slots Q (F0 m pc ls vs) := by
  obtain ⟨w0, v0, rfl, q0, hs⟩ := hs
  have e : mm_SH x = ((mm_SH x).1, (((mm_SH x).2.toNat : Nat) : Int)) := by
    have : (((mm_SH x).2.toNat : Nat) : Int) = (mm_SH x).2 := by omega
    rw [this]
  have ew := mm_rvN q0 (mm_nn (mm_ne0 e (by omega)))
  subst ew
  obtain ⟨z, p1, p2⟩ := hh.2.2.1 x _ _ e h2 h9 hlv
  refine W.alen (n := Int32.ofNat (mm_SH x).2.toNat) C.1 C.2.1 p1 ((C.2.2.2.2.2.1.2.1 _ h2 h9).1 _ z) (by rw [arrV_size]) rfl rfl hd ?_
  exact K _ _ _ _ _ _ hl ⟨_, _, rfl, ⟨_, rfl, by rw [Int32.toInt_ofNat_small (by omega)]; omega⟩, hs⟩ hh hq rfl rfl
/-- what a new object's fields hold -/
theorem mm_new0 {cc : Nat} (hcc : cc < 10) {x : mm_Id} {h : mm_H} (h0 : ∀ k, h.1 x k = 0 ∧ h.2.1 x k = mm_nul) {k : Nat} (hk : k < mm_nc cc) : mm_rv g (mm_fv h x cc k) (defaultValue (mm_Yc cc k)) := by
  have ht := (mm_cA cc hcc).2.2.2 k hk
  unfold mm_tyOk at ht
  split at ht
  · rename_i q
    rw [mm_fvI (by left; simpa using ht), q, (h0 k).1]
    exact ⟨0, rfl, by decide⟩
  · rename_i q
    rw [mm_fvL (by simpa using ht), q, (h0 k).1]
    exact ⟨0, rfl, by decide⟩
  · rename_i q
    rw [mm_fvR (by simpa using ht), q, (h0 k).2]
    simp [mm_rv, defaultValue]
  · rename_i q
    rw [mm_fvR (by simpa using ht), q, (h0 k).2]
    simp [mm_rv, defaultValue]
  · rename_i q
    rw [mm_fvI (by right; simpa using ht), q, (h0 k).1]
    exact ⟨0, rfl, by decide⟩
  · cases ht
theorem mh_new {cc : Nat} (C : mm_C p s m args meth c y g) (hd : decode (mm_by y) pc = .ok (.new d, 3)) (hcc : cc < 10) (hw : Cond.classLink (mm_nm y).cls d (mm_Cn cc) ∈ lw_g) (hsh : mm_SH (mm_be h.2.2.1) = (1, (cc : Int))) (hR : cells + 1 ≤ R.cells ∧ slots + mm_nc cc ≤ R.slots) (hl : mm_rl g lo ls (mm_mL y)) (hs : mm_rs g st vs) (hh : mm_hr g h H) (hq : ∀ q ∈ locs, g.1 ≤ q.base)
    (K : mm_K p l e R s m args below meth c Q y g (lo, zR (mm_be h.2.2.1) :: st, (h.1, h.2.1, h.2.2.1 + 1, h.2.2.2 + mm_nf cc)) h cells slots (pc + 3)) : W p l e R s m args below meth c H locs cells slots Q (F0 m pc ls vs) := by
  have hKn := C.2.2.2.2.2.1.1.1 cc _ (mm_cA cc hcc).1
  obtain ⟨i1, i2⟩ := mm_iA cc hcc
  refine W.newcK C.1 C.2.1 C.2.2.2.1 (C.2.2.2.2.1 _ hw) (C.2.2.2.2.1 _ i1) (C.2.2.2.2.1 _ i2) rfl hd hR.1 hR.2 hKn.2.1 rfl fun H1 kC hkC e1 z1 o1 => ?_
  have x9 := mm_kd90 hsh (by omega) (by omega)
  have f0 := hh.2.2.2.1 (mm_be h.2.2.1) (mm_ne0 hsh (by omega)) x9 (by rw [mm_off_be hh.1.2.1]; omega)
  have had : mm_ad g (mm_be h.2.2.1) = H.size := by rw [mm_adO g x9, mm_off_be hh.1.2.1, hh.1.1]
  obtain ⟨hr1, -⟩ := mm_hr_new hh hsh (by omega) (by omega) (k := mm_nf cc) (by unfold mm_nf; omega) z1 o1 (fun c' hc' => by
    obtain ⟨-, e⟩ := mm_SH1 hsh hc'
    have e : cc = c' := by omega
    subst e
    refine ⟨fun k => defaultValue (mm_Yc cc k), ?_, fun k hk => mm_new0 hcc f0 hk⟩
    rw [had]
    exact u_born (mm_Yc cc) C.2.2.2.2.1 (mm_uA cc hcc) hKn hkC e1 (mm_cA cc hcc).2.2.1) (fun kd n hkd h2 => by
    obtain ⟨e, -⟩ := mm_SH1 hsh hkd
    omega)
  refine K _ _ _ _ _ _ hl ⟨_, _, rfl, ?_, hs⟩ hr1 hq (by show ((cells + 1 : Nat) : Int) - (h.2.2.1 + 1) = _; omega) (by show ((slots + mm_nc cc : Nat) : Int) - (h.2.2.2 + mm_nf cc) = _; unfold mm_nf mm_nc; omega)
  show if _ then _ else _
  rw [if_neg (mm_nn (mm_ne0 hsh (by omega))), had]
theorem mh_newa {kd n : Nat} {at_ : ArrayType} (C : mm_C p s m args meth c y g) (hd : decode (mm_by y) pc = .ok (.newarray at_, 2)) (hk2 : 2 ≤ kd) (hk5 : kd ≤ 5) (hat : newarray.typeOf at_ = mm_aty kd) (hsh : mm_SH (mm_be h.2.2.1) = (kd, (n : Int))) (hn : n < 60000000) (hR : cells + 1 ≤ R.cells ∧ slots + n ≤ R.slots) (hl : mm_rl g lo ls (mm_mL y)) (hs : mm_rs g (zI (n : Int) :: st) vs) (hh : mm_hr g h H) (hq : ∀ q ∈ locs, g.1 ≤ q.base)
    (K : mm_K p l e R s m args below meth c Q y g (lo, zR (mm_be h.2.2.1) :: st, (h.1, h.2.1, h.2.2.1 + 1, h.2.2.2 + n)) h cells slots (pc + 2)) : W p l e R s m args below meth c H locs cells slots Q (F0 m pc ls vs) := by
  obtain ⟨w0, v0, rfl, ⟨u, rfl, hu⟩, hs⟩ := hs
  have q : kd = 2 ∨ kd = 3 ∨ kd = 4 ∨ kd = 5 := by omega
  have hc : Cond.arrayClass (newarray.typeOf at_) ∈ lw_g := by
    rw [hat]
    rcases q with q | q | q | q <;> rw [q]
    · exact mm_ac.1
    · exact mm_ac.2.1
    · exact mm_ac.2.2.1
    · exact mm_ac.2.2.2
  have hby : componentBytes (newarray.typeOf at_) ≤ 8 := by
    rw [hat]
    rcases q with q | q | q | q <;> (rw [q]; decide)
  refine va_newaK (N := n) C.1 C.2.1 (C.2.2.2.2.1 _ hc) rfl hd rfl (by rw [mm_lt0, hu]; omega) (by show u.toInt.toNat = n; omega) (Nat.le_trans (Nat.mul_le_mul_left n hby) (by omega)) hR.1 hR.2 rfl fun H1 cA e1 z1 o1 _ hfc => ?_
  have hcA : cA = g.2.2.1 kd := by
    have h4 := (C.2.2.2.2.2.1.2.1 kd hk2 (by omega)).2
    rw [hat] at hfc
    rcases q with q | q | q | q <;> (subst q; exact Option.some.inj (hfc.symm.trans h4))
  subst hcA
  have x9 := mm_kd90 hsh (by omega) (by omega)
  have f0 := hh.2.2.2.1 (mm_be h.2.2.1) (mm_ne0 hsh (by omega)) x9 (by rw [mm_off_be hh.1.2.1]; omega)
  have had : mm_ad g (mm_be h.2.2.1) = H.size := by rw [mm_adO g x9, mm_off_be hh.1.2.1, hh.1.1]
  obtain ⟨hr1, -⟩ := mm_hr_new hh hsh (by omega) (by omega) (k := (n : Int)) (by omega) z1 o1 (fun c' hc' => by
    obtain ⟨e, -⟩ := mm_SH1 hsh hc'
    omega) (fun kd' n' hkd h2 => by
    obtain ⟨e, e'⟩ := mm_SH1 hsh hkd
    have e' : n = n' := by omega
    subst e; subst e'
    refine ⟨_, by rw [had]; exact e1, fun j hj => ?_, fun e3 j hj => by rw [hat, e3]; rfl⟩
    unfold mm_ev
    rw [hat]
    dsimp only
    rw [(f0 j).1]
    rcases q with q | q | q | q <;> subst q
    · exact ⟨0, rfl, by decide⟩
    · exact ⟨0, rfl, by decide⟩
    · exact ⟨0, rfl, by decide⟩
    · exact ⟨0, rfl, by decide⟩)
  refine K _ _ _ _ _ _ hl ⟨_, _, rfl, ?_, hs⟩ hr1 hq (by show ((cells + 1 : Nat) : Int) - (h.2.2.1 + 1) = _; omega) (by show ((slots + n : Nat) : Int) - (h.2.2.2 + n) = _; omega)
  show if _ then _ else _
  rw [if_neg (mm_nn (mm_ne0 hsh (by omega))), had]
theorem mh_anew {kd n : Nat} (C : mm_C p s m args meth c y g) (hd : decode (mm_by y) pc = .ok (.anewarray d, 3)) (hk6 : 6 ≤ kd) (hk9 : kd ≤ 9) (hw : Cond.classLink (mm_nm y).cls d (mm_Cn (mm_ec kd)) ∈ lw_g) (hsh : mm_SH (mm_be h.2.2.1) = (kd, (n : Int))) (hn : n < 60000000) (hR : cells + 1 ≤ R.cells ∧ slots + n ≤ R.slots) (hl : mm_rl g lo ls (mm_mL y)) (hs : mm_rs g (zI (n : Int) :: st) vs) (hh : mm_hr g h H) (hq : ∀ q ∈ locs, g.1 ≤ q.base)
    (K : mm_K p l e R s m args below meth c Q y g (lo, zR (mm_be h.2.2.1) :: st, (h.1, h.2.1, h.2.2.1 + 1, h.2.2.2 + n)) h cells slots (pc + 3)) : W p l e R s m args below meth c H locs cells slots Q (F0 m pc ls vs) := by
  obtain ⟨w0, v0, rfl, ⟨u, rfl, hu⟩, hs⟩ := hs
  obtain ⟨t1, t2⟩ := mm_ecN kd hk6 hk9
  have hc : (Cond.arrayOver (.object (mm_Cn (mm_ec kd)))).before args s = true := by
    have q : kd = 6 ∨ kd = 7 ∨ kd = 8 ∨ kd = 9 := by omega
    rcases q with q | q | q | q <;> subst q
    · exact va_AO.use C.2.2.2.2.2.1.2.2.2.2.1
    · exact va_AO.use C.2.2.2.2.2.1.2.2.2.2.2.1
    · exact va_AO.use C.2.2.2.2.2.1.2.2.2.2.2.2.1
    · exact va_AO.use C.2.2.2.2.2.1.2.2.2.2.2.2.2
  have hun : u.toNatClampNeg = n := by show u.toInt.toNat = n; omega
  refine W.anew C.1 C.2.1 C.2.2.2.1 (C.2.2.2.2.1 _ hw) hc rfl hd rfl (by rw [mm_lt0, hu]; omega) (by rw [hun]; omega) hR.1 (by rw [hun]; exact hR.2) fun cA kA comp h1 h2 h3 h4 => ?_
  have hra := (C.2.2.2.2.2.1.2.1 kd (by omega) hk9).2
  rw [t1] at hra
  obtain ⟨kA', comp', k1, k2, k3, k4⟩ := hra
  have hcA : cA = g.2.2.1 kd := Option.some.inj (h1.symm.trans k4)
  subst hcA
  rw [hun, arrV_new]
  have x9 := mm_kd90 hsh (by omega) (by omega)
  have f0 := hh.2.2.2.1 (mm_be h.2.2.1) (mm_ne0 hsh (by omega)) x9 (by rw [mm_off_be hh.1.2.1]; omega)
  have had : mm_ad g (mm_be h.2.2.1) = H.size := by rw [mm_adO g x9, mm_off_be hh.1.2.1, hh.1.1]
  obtain ⟨hr1, -⟩ := mm_hr_new (H' := H.push (arrV (g.2.2.1 kd) n fun _ => .null)) hh hsh (by omega) (by omega) (k := (n : Int)) (by omega) (by simp) (fun q hq => by rw [Array.getElem?_push, if_neg (Nat.ne_of_lt hq)]) (fun c' hc' => by
    obtain ⟨e, -⟩ := mm_SH1 hsh hc'
    omega) (fun kd' n' hkd h2 => by
    obtain ⟨e, e'⟩ := mm_SH1 hsh hkd
    have e' : n = n' := by omega
    subst e; subst e'
    refine ⟨fun _ => .null, by rw [had]; simp, fun j hj => ?_, fun e3 j hj => by omega⟩
    unfold mm_ev
    rw [if_neg (by omega), if_neg (by omega)]
    dsimp only
    rw [(f0 j).2]
    simp [mm_rv])
  refine K _ _ _ _ _ _ hl ⟨_, _, rfl, ?_, hs⟩ hr1 hq (by show ((cells + 1 : Nat) : Int) - (h.2.2.1 + 1) = _; omega) (by show ((slots + n : Nat) : Int) - (h.2.2.2 + n) = _; omega)
  show if _ then _ else _
  rw [if_neg (mm_nn (mm_ne0 hsh (by omega))), had]
theorem mh_oinit {x : mm_Id} (C : mm_C p s m args meth c y g) (hd : decode (mm_by y) pc = .ok (.invokespecial d, 3)) (hx : x ≠ mm_nul) (hw : Cond.methodLink (mm_nm y).cls d Lib.objectInit ∈ lw_g) (hR : 1 ≤ R.frames ∧ 12 ≤ R.locals) (hl : mm_rl g lo ls (mm_mL y)) (hs : mm_rs g [zR x] vs) (hh : mm_hr g h H) (hq : ∀ q ∈ locs, g.1 ≤ q.base)
    (K : mm_K p l e R s m args below meth c Q y g (lo, [], h) h cells slots (pc + 3)) : W p l e R s m args below meth c H locs cells slots Q (F0 m pc ls vs) := by
  obtain ⟨w0, v0, rfl, q0, hs⟩ := hs
  have hs : v0 = [] := hs
  subst hs
  have ew := mm_rvN q0 hx
  subst ew
  refine W.objInit C.1 C.2.1 C.2.2.2.1 (C.2.2.2.2.1 _ hw) (C.2.2.2.2.1 _ mm_obw.1) (C.2.2.2.2.1 _ mm_obw.2) rfl (hl.1.trans C.2.2.1.symm) rfl hd hR.1 (by show 2 * 0 + 0 + 12 ≤ _; omega) ?_
  exact K _ _ _ _ _ _ hl rfl hh hq rfl rfl
end MB
