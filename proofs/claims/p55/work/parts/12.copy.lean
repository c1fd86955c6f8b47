/-! System.arraycopy between two arrays of ints, or of bytes -/
theorem mm_cpS {f : mm_Id → Int → Int} {x y : mm_Id} {sp dp n k : Int} (h : dp ≤ k ∧ k < dp + n) : mm_cp f x sp y dp n y k = f x (sp + (k - dp)) := by unfold mm_cp; rw [if_pos ⟨rfl, h.1, h.2⟩]
theorem mm_cpN {f : mm_Id → Int → Int} {x y : mm_Id} {sp dp n k : Int} (h : ¬ (dp ≤ k ∧ k < dp + n)) : mm_cp f x sp y dp n y k = f y k := by unfold mm_cp; rw [if_neg (fun q => h q.2)]
theorem mm_cpO {f : mm_Id → Int → Int} {x y z : mm_Id} {sp dp n : Int} (h : z ≠ y) : mm_cp f x sp y dp n z = f z := by funext k; unfold mm_cp; rw [if_neg (fun q => h q.1)]
section MY
variable {p : Program} {l : Launch} {e : Env} {R : Room} {s : State} {m : MethodId} {args : Array Value} {below : List Frame} {meth : Method} {c : Code} {H : Heap} {locs : List Loc} {cells slots : Nat} {Q : State → Prop} {y pc : Nat} {g : mm_G} {h : mm_H} {lo st : List mm_V} {ls : Array Slot} {vs : List Value} {a d ee : Nat} {k : Int} {r : List mm_V × List mm_V × mm_H}
theorem mh_copy {x z : mm_Id} {sp dp n : Int} (C : mm_C p s m args meth c y g) (hd : decode (mm_by y) pc = .ok (.invokestatic d, 3)) (hw : Cond.methodLink (mm_nm y).cls d arraycopyName ∈ lw_g) (hkx : (mm_SH x).1 = 2 ∨ (mm_SH x).1 = 3) (hkz : (mm_SH z).1 = (mm_SH x).1) (lx : mm_lv x h.2.2.1 = true) (lz : mm_lv z h.2.2.1 = true)
    (n0 : 0 ≤ n) (s0 : 0 ≤ sp) (d0 : 0 ≤ dp) (s1 : sp + n ≤ (mm_SH x).2) (d1 : dp + n ≤ (mm_SH z).2) (hR : 1 ≤ R.frames ∧ nativeFrameWords "java/lang/System" "arraycopy" 5 + 11 ≤ R.locals) (hl : mm_rl g lo ls (mm_mL y)) (hs : mm_rs g [zI n, zI dp, zR z, zI sp, zR x] vs) (hh : mm_hr g h H) (hq : ∀ q ∈ locs, g.1 ≤ q.base)
    (K : mm_K p l e R s m args below meth c Q y g (lo, [], (mm_cp h.1 x sp z dp n, h.2)) h cells slots (pc + 3)) : W p l e R s m args below meth c H locs cells slots Q (F0 m pc ls vs) := by
  obtain ⟨w4, v4, rfl, ⟨un, rfl, hn⟩, w3, v3, rfl, ⟨ud, rfl, hdp⟩, w2, v2, rfl, q2, w1, v1, rfl, ⟨us, rfl, hsp⟩, w0, v0, rfl, q0, hs⟩ := hs
  have hs : v0 = [] := hs
  subst hs
  generalize hkd : (mm_SH x).1 = kd at *
  have h2 : 2 ≤ kd := by omega
  have h9 : kd ≤ 9 := by omega
  have ex : mm_SH x = (kd, (((mm_SH x).2.toNat : Nat) : Int)) := by
    have : (((mm_SH x).2.toNat : Nat) : Int) = (mm_SH x).2 := by omega
    rw [this, ← hkd]
  have ez : mm_SH z = (kd, (((mm_SH z).2.toNat : Nat) : Int)) := by
    have : (((mm_SH z).2.toNat : Nat) : Int) = (mm_SH z).2 := by omega
    rw [this, ← hkz]
  have e0 := mm_rvN q0 (mm_nn (mm_ne0 ex (by omega)))
  have e2 := mm_rvN q2 (mm_nn (mm_ne0 ez (by omega)))
  subst e0; subst e2
  generalize hNx : (mm_SH x).2.toNat = Nx at ex
  generalize hNz : (mm_SH z).2.toNat = Nz at ez
  obtain ⟨zx, p1, p2, p3⟩ := hh.2.2.1 x kd Nx ex h2 h9 lx
  obtain ⟨zz, r1, r2, r3⟩ := hh.2.2.1 z kd Nz ez h2 h9 lz
  have nn : ∀ {u : Int32} {j : Int}, u.toInt = j → 0 ≤ j → ¬ u < 0 ∧ u.toNatClampNeg = j.toNat := by
    intro u j hu hj
    exact ⟨by rw [mm_lt0, hu]; omega, by show u.toInt.toNat = _; rw [hu]⟩
  obtain ⟨a1, a2⟩ := nn hn n0
  obtain ⟨b1, b2⟩ := nn hdp d0
  obtain ⟨c1, c2⟩ := nn hsp s0
  obtain ⟨-, k0, hk0, cm0, hkk0⟩ := (C.2.2.2.2.2.1.2.1 kd h2 h9).1 Nx zx
  obtain ⟨-, k1, hk1, cm1, hkk1⟩ := (C.2.2.2.2.2.1.2.1 kd h2 h9).1 Nz zz
  have hprim : refKind (mm_aty kd) = false := by rcases hkx with q | q <;> (rw [q]; rfl)
  have hfit : ∀ i, i < Nx → fits (mm_aty kd) (zx i) = true := by
    intro i hi
    rcases hkx with q | q
    · subst q
      obtain ⟨u, hu, -⟩ := p2 i hi
      rw [hu]; rfl
    · rw [q]; exact p3 q i hi
  intro T hT X
  obtain ⟨vm', X', step⟩ := X.arraycopy C.1 C.2.2.2.1 (C.2.2.2.2.1 _ hw) (C.2.2.2.2.1 _ mm_cpw.1) (C.2.2.2.2.1 _ mm_cpw.2.1) (C.2.2.2.2.1 _ mm_cpw.2.2) (src := mm_ad g x) (dst := mm_ad g z) (cs := arrV (g.2.2.1 kd) Nx zx) (cd := arrV (g.2.2.1 kd) Nz zz) (srcPos := us) (destPos := ud) (n := un) (by rw [hT]; exact p1) (by rw [hT]; exact r1)
    (fun _ h => by cases h) (fun _ h => by cases h) (fun h => by cases h) (fun h => by cases h) hk0 hk1 hkk0 hkk1 (by simp [hprim]) c1 b1 a1
    (by rw [hsp, hn]; show ¬ _ > ((arrV _ Nx zx).slots.size : Int); rw [arrV_size]; omega)
    (by rw [hdp, hn]; show ¬ _ > ((arrV _ Nz zz).slots.size : Int); rw [arrV_size]; omega)
    (fun vm₁ _ i hi => by
      have e : (arrV (g.2.2.1 kd) Nx zx).slots.getD (us.toNatClampNeg + i) .null = zx (us.toNatClampNeg + i) := by
        rw [Array.getD_eq_getD_getElem?, arrV_read _ _ (by omega)]
        rfl
      have hlt : us.toNatClampNeg + i < Nx := by omega
      refine ⟨?_, ?_⟩
      · rw [e]
        exact hfit _ hlt
      · rw [e]
        have hz := p2 _ hlt
        unfold mm_ev at hz
        rw [if_pos (by omega)] at hz
        obtain ⟨u, hu, -⟩ := hz
        rw [hu]
        exact trivial)
    (g := F0 m pc ls [.int un, .int ud, .ref (mm_ad g z), .int us, .ref (mm_ad g x)]) rfl (hl.1.trans C.2.2.1.symm) (rest := []) rfl (by rw [C.2.1]; exact hd) hR.1 (by show 2 * 0 + 0 + _ ≤ _; omega)
  have e1 : copied (arrV (g.2.2.1 kd) Nx zx) (arrV (g.2.2.1 kd) Nz zz) us ud un = arrV (g.2.2.1 kd) Nz (va_cpy zx zz us.toNatClampNeg ud.toNatClampNeg un.toNatClampNeg) := va_copied (fun z => z) _ _ zx zz (by omega)
  rw [e1] at X' step
  have hl' : mm_ad g z < H.size := (Array.getElem?_eq_some_iff.mp r1).1
  have hheap : ((T.setVm vm').setCell (mm_ad g z) (arrV (g.2.2.1 kd) Nz (va_cpy zx zz us.toNatClampNeg ud.toNatClampNeg un.toNatClampNeg))).heap = H.setIfInBounds (mm_ad g z) (arrV (g.2.2.1 kd) Nz (va_cpy zx zz us.toNatClampNeg ud.toNatClampNeg un.toNatClampNeg)) := by rw [← hT]; rfl
  have oq : ∀ q : Nat, q ≠ mm_ad g z → (H.setIfInBounds (mm_ad g z) (arrV (g.2.2.1 kd) Nz (va_cpy zx zz us.toNatClampNeg ud.toNatClampNeg un.toNatClampNeg)))[q]? = H[q]? := fun q hq => by simp [Array.getElem?_setIfInBounds, Ne.symm hq]
  have hr1 : mm_hr g (mm_cp h.1 x sp z dp n, h.2) (H.setIfInBounds (mm_ad g z) (arrV (g.2.2.1 kd) Nz (va_cpy zx zz us.toNatClampNeg ud.toNatClampNeg un.toNatClampNeg))) := by
    refine mm_hr_putA hh ez h2 h9 lz (z := va_cpy zx zz us.toNatClampNeg ud.toNatClampNeg un.toNatClampNeg) (fun j hj => ?_) rfl (fun y hy => ⟨mm_cpO hy, rfl⟩) (by simp) oq (by simp [Array.getElem?_setIfInBounds, hl']) (fun e3 j hj => ?_)
    · unfold va_cpy mm_ev
      rw [if_pos (by omega)]
      dsimp only
      by_cases q : ud.toNatClampNeg ≤ j ∧ j < ud.toNatClampNeg + un.toNatClampNeg
      · rw [if_pos q, mm_cpS (by omega)]
        have hz := p2 (us.toNatClampNeg + (j - ud.toNatClampNeg)) (by omega)
        unfold mm_ev at hz
        rw [if_pos (by omega)] at hz
        have e : sp + ((j : Int) - dp) = ((us.toNatClampNeg + (j - ud.toNatClampNeg) : Nat) : Int) := by omega
        rw [e]
        exact hz
      · rw [if_neg q, mm_cpN (by omega)]
        have hz := r2 j hj
        unfold mm_ev at hz
        rw [if_pos (by omega)] at hz
        exact hz
    · unfold va_cpy
      split
      · exact p3 e3 _ (by omega)
      · exact r3 e3 j hj
  obtain ⟨t, a1, b1⟩ := K ls [] _ _ cells slots hl rfl hr1 (fun q hq' => by
      rcases List.mem_append.mp hq' with h | h
      · exact hq q h
      · obtain ⟨z', -, hz⟩ := List.mem_map.mp h
        rw [← hz]
        show g.1 ≤ mm_ad g z
        rw [mm_adO g (mm_kd90 ez (by omega) h9)]
        omega) rfl rfl _ hheap X'
  exact ⟨t, step t a1, b1⟩
end MY
