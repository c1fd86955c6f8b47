/-! rows on the script -/
section MR
variable {p : Program} {l : Launch} {e : Env} {R : Room} {s : State} {m : MethodId} {args : Array Value} {below : List Frame} {meth : Method} {c : Code} {H : Heap} {locs : List Loc} {cells slots : Nat} {Q : State → Prop} {y pc : Nat} {g : mm_G} {h : mm_H} {lo st : List mm_V} {ls : Array Slot} {vs : List Value} {a d ee : Nat} {k : Int} {r : List mm_V × List mm_V × mm_H}
theorem mm_H0 (hh : mm_hr g h H) {q : Nat} (hq : ¬ mm_bA g q) : H[q]? = g.2.2.2.1[q]? := hh.1.2.2.2 q (by unfold mm_bA at hq; omega)
theorem mm_rvO {x : mm_Id} {w : Value} (h : mm_rv g (zR x) w) (hn : 90 ≤ x.1) : w = .ref (g.2.2.2.2 x) := by
  have hne : x ≠ mm_nul := fun e => by rw [e] at hn; exact absurd hn (by decide)
  have h2 := mm_rvN h hne
  unfold mm_ad at h2
  rwa [if_pos hn] at h2
theorem mm_rvO' {x : mm_Id} (hn : 90 ≤ x.1) : mm_rv g (zR x) (.ref (g.2.2.2.2 x)) := by
  have hne : x ≠ mm_nul := fun e => by rw [e] at hn; exact absurd hn (by decide)
  show if _ then _ else _
  rw [if_neg hne]
  unfold mm_ad
  rw [if_pos hn]
/-- the script -/
theorem mr_slen {x : mm_Id} (C : mm_C p s m args meth c y g) (hd : decode (mm_by y) pc = .ok (.arraylength, 1)) (hx : x = (90, 0, 0)) (hl : mm_rl g lo ls (mm_mL y)) (hs : mm_rs g (zR x :: st) vs) (hh : mm_hr g h H) (hq : ∀ q ∈ locs, g.1 ≤ q.base)
    (K : mm_K p l e R s m args below meth c Q y g (lo, zI (h.1 x (-1)) :: st, h) h cells slots (pc + 1)) : W p l e R s m args below meth c H locs cells slots Q (F0 m pc ls vs) := by
  subst hx
  obtain ⟨w0, v0, rfl, q0, hs⟩ := hs
  have e0 := mm_rvO q0 (Nat.le_refl _)
  subst e0
  obtain ⟨L, cell, l1, l2, l3, l4, l5⟩ := hh.2.2.2.2
  obtain ⟨r0, r1, r2⟩ := C.2.2.2.2.2.1.2.2.1
  refine W.alen (n := Int32.ofNat L) C.1 C.2.1 (by rw [hh.1.2.2.2 _ r0]; exact l1) (r2 cell l1).1 (by rw [l2]) rfl rfl hd (K _ _ _ _ _ _ hl ⟨_, _, rfl, ⟨_, rfl, ?_⟩, hs⟩ hh hq rfl rfl)
  rw [Int32.toInt_ofNat_small (by omega), l4]
theorem mr_sld {x : mm_Id} {j : Int} (C : mm_C p s m args meth c y g) (hd : decode (mm_by y) pc = .ok (.iaload, 1)) (hx : x = (90, 0, 0)) (h0 : 0 ≤ j) (h1 : j < h.1 x (-1)) (hl : mm_rl g lo ls (mm_mL y)) (hs : mm_rs g (zI j :: zR x :: st) vs) (hh : mm_hr g h H) (hq : ∀ q ∈ locs, g.1 ≤ q.base)
    (K : mm_K p l e R s m args below meth c Q y g (lo, zI (h.1 x j) :: st, h) h cells slots (pc + 1)) : W p l e R s m args below meth c H locs cells slots Q (F0 m pc ls vs) := by
  subst hx
  obtain ⟨w1, v1, rfl, ⟨u, rfl, hu⟩, w0, v0, rfl, q0, hs⟩ := hs
  have e0 := mm_rvO q0 (Nat.le_refl _)
  subst e0
  obtain ⟨L, cell, l1, l2, l3, l4, l5⟩ := hh.2.2.2.2
  obtain ⟨r0, r1, r2⟩ := C.2.2.2.2.2.1.2.2.1
  have e : u.toNatClampNeg = j.toNat := by show u.toInt.toNat = _; rw [hu]
  obtain ⟨xv, x1, x2⟩ := l5 j.toNat (by omega)
  refine W.iald (v := .int xv) C.1 C.2.1 (by rw [hh.1.2.2.2 _ r0]; exact l1) (r2 cell l1).1 (r2 cell l1).2 (by rw [e, mm_lt0, hu, l2]; omega) (by rw [e]; exact x1) rfl rfl hd (K _ _ _ _ _ _ hl ⟨_, _, rfl, ⟨_, rfl, ?_⟩, hs⟩ hh hq rfl rfl)
  have e2 : ((j.toNat : Nat) : Int) = j := by omega
  rw [e2] at x2
  exact x2.symm
end MR
