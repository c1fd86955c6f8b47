/-! rows on the heap -/
def mm_tyOk (c k : Nat) : Bool := match mm_Yc c k with
  | .int => (mm_ft.getD c []).getD k 0 == 0
  | .long => (mm_ft.getD c []).getD k 0 == 1
  | .object _ => (mm_ft.getD c []).getD k 0 == 2
  | .array _ => (mm_ft.getD c []).getD k 0 == 2
  | .boolean => (mm_ft.getD c []).getD k 0 == 3
  | _ => false
def mm_cOk (c : Nat) : Prop := mm_cls[c]? = some (mm_Cn c, mm_Tc c, mm_nc c) ∧ (∀ a, a < mm_nc c → ∀ b, b < mm_nc c → a ≠ b → (mm_Tc c a).2.1 ≠ (mm_Tc c b).2.1) ∧
  (∀ k, k < mm_nc c → parseFieldDescriptor (mm_Tc c k).2.2.1 = some (mm_Yc c k)) ∧ (∀ k, k < mm_nc c → mm_tyOk c k = true)
theorem mm_c0 : mm_cOk 0 := ⟨rfl, by decide +kernel, by decide +kernel, by decide +kernel⟩
theorem mm_c1 : mm_cOk 1 := ⟨rfl, by decide +kernel, by decide +kernel, by decide +kernel⟩
theorem mm_c2 : mm_cOk 2 := ⟨rfl, by decide +kernel, by decide +kernel, by decide +kernel⟩
theorem mm_c3 : mm_cOk 3 := ⟨rfl, by decide +kernel, by decide +kernel, by decide +kernel⟩
theorem mm_c4 : mm_cOk 4 := ⟨rfl, by decide +kernel, by decide +kernel, by decide +kernel⟩
theorem mm_c5 : mm_cOk 5 := ⟨rfl, by decide +kernel, by decide +kernel, by decide +kernel⟩
theorem mm_c6 : mm_cOk 6 := ⟨rfl, by decide +kernel, by decide +kernel, by decide +kernel⟩
theorem mm_c7 : mm_cOk 7 := ⟨rfl, by decide +kernel, by decide +kernel, by decide +kernel⟩
theorem mm_c8 : mm_cOk 8 := ⟨rfl, by decide +kernel, by decide +kernel, by decide +kernel⟩
theorem mm_c9 : mm_cOk 9 := ⟨rfl, by decide +kernel, by decide +kernel, by decide +kernel⟩
theorem mm_cA : ∀ c, c < 10 → mm_cOk c
  | 0, _ => mm_c0
  | 1, _ => mm_c1
  | 2, _ => mm_c2
  | 3, _ => mm_c3
  | 4, _ => mm_c4
  | 5, _ => mm_c5
  | 6, _ => mm_c6
  | 7, _ => mm_c7
  | 8, _ => mm_c8
  | 9, _ => mm_c9
  | c + 10, h => absurd h (by omega)
theorem mm_u0 : ∀ w ∈ u_ws (mm_Cn 0) (mm_Tc 0) (mm_nc 0), w ∈ lw_g := by decide +kernel
theorem mm_u1 : ∀ w ∈ u_ws (mm_Cn 1) (mm_Tc 1) (mm_nc 1), w ∈ lw_g := by decide +kernel
theorem mm_u2 : ∀ w ∈ u_ws (mm_Cn 2) (mm_Tc 2) (mm_nc 2), w ∈ lw_g := by decide +kernel
theorem mm_u3 : ∀ w ∈ u_ws (mm_Cn 3) (mm_Tc 3) (mm_nc 3), w ∈ lw_g := by decide +kernel
theorem mm_u4 : ∀ w ∈ u_ws (mm_Cn 4) (mm_Tc 4) (mm_nc 4), w ∈ lw_g := by decide +kernel
theorem mm_u5 : ∀ w ∈ u_ws (mm_Cn 5) (mm_Tc 5) (mm_nc 5), w ∈ lw_g := by decide +kernel
theorem mm_u6 : ∀ w ∈ u_ws (mm_Cn 6) (mm_Tc 6) (mm_nc 6), w ∈ lw_g := by decide +kernel
theorem mm_u7 : ∀ w ∈ u_ws (mm_Cn 7) (mm_Tc 7) (mm_nc 7), w ∈ lw_g := by decide +kernel
theorem mm_u8 : ∀ w ∈ u_ws (mm_Cn 8) (mm_Tc 8) (mm_nc 8), w ∈ lw_g := by decide +kernel
theorem mm_u9 : ∀ w ∈ u_ws (mm_Cn 9) (mm_Tc 9) (mm_nc 9), w ∈ lw_g := by decide +kernel
theorem mm_uA : ∀ c, c < 10 → ∀ w ∈ u_ws (mm_Cn c) (mm_Tc c) (mm_nc c), w ∈ lw_g
  | 0, _ => mm_u0
  | 1, _ => mm_u1
  | 2, _ => mm_u2
  | 3, _ => mm_u3
  | 4, _ => mm_u4
  | 5, _ => mm_u5
  | 6, _ => mm_u6
  | 7, _ => mm_u7
  | 8, _ => mm_u8
  | 9, _ => mm_u9
  | c + 10, h => absurd h (by omega)
theorem mm_okI {x : mm_Id} {n : Int} {kd : Nat} {c : Int} (h : mm_ok x n kd c = true) : mm_SH x = (kd, c) ∧ mm_lv x n = true := by
  unfold mm_ok at h
  rw [Bool.and_eq_true, decide_eq_true_iff] at h
  exact h
theorem mm_inI {x : mm_Id} {n : Int} {kd : Nat} {j : Int} (h : mm_in x n kd j = true) : (mm_SH x).1 = kd ∧ mm_lv x n = true ∧ 0 ≤ j ∧ j < (mm_SH x).2 := by
  unfold mm_in at h
  rw [Bool.and_eq_true, Bool.and_eq_true, Bool.and_eq_true, decide_eq_true_iff, decide_eq_true_iff, decide_eq_true_iff] at h
  exact ⟨h.1.1.1, h.1.1.2, h.1.2, h.2⟩
theorem mm_nn {x : mm_Id} (h : mm_SH x ≠ (0, 0)) : x ≠ mm_nul := fun e => h (by rw [e]; decide)
theorem mm_rvN {g : mm_G} {x : mm_Id} {w : Value} (h : mm_rv g (zR x) w) (hn : x ≠ mm_nul) : w = .ref (mm_ad g x) := by
  have h : if x = mm_nul then w = .null else w = .ref (mm_ad g x) := h
  rwa [if_neg hn] at h
theorem mm_fvI {h : mm_H} {x : mm_Id} {c k : Nat} (q : (mm_ft.getD c []).getD k 0 = 0 ∨ (mm_ft.getD c []).getD k 0 = 3) : mm_fv h x c k = zI (h.1 x k) := by
  unfold mm_fv
  rw [if_neg (by omega), if_neg (by omega)]
theorem mm_fvL {h : mm_H} {x : mm_Id} {c k : Nat} (q : (mm_ft.getD c []).getD k 0 = 1) : mm_fv h x c k = zL (h.1 x k) := by
  unfold mm_fv
  rw [if_pos q]
theorem mm_fvR {h : mm_H} {x : mm_Id} {c k : Nat} (q : (mm_ft.getD c []).getD k 0 = 2) : mm_fv h x c k = zR (h.2.1 x k) := by
  unfold mm_fv
  rw [if_neg (by omega), if_pos q]
section MH
variable {p : Program} {l : Launch} {e : Env} {R : Room} {s : State} {m : MethodId} {args : Array Value} {below : List Frame} {meth : Method} {c : Code} {H : Heap} {locs : List Loc} {cells slots : Nat} {Q : State → Prop} {y pc : Nat} {g : mm_G} {h : mm_H} {lo st : List mm_V} {ls : Array Slot} {vs : List Value} {a d ee : Nat} {k : Int} {r : List mm_V × List mm_V × mm_H}
/-- a field is read -/
theorem mh_get {cc : Nat} {x : mm_Id} (C : mm_C p s m args meth c y g) (hd : decode (mm_by y) pc = .ok (.getfield d, 3)) (hcc : cc < 10) (ha : a < mm_nc cc)
    (hw : Cond.fieldLink (mm_nm y).cls d (mm_Tc cc a).1 (mm_Tc cc a).2.1 (mm_Tc cc a).2.2.1 ∈ lw_g) (hok : mm_ok x h.2.2.1 1 (cc : Int) = true) (hl : mm_rl g lo ls (mm_mL y)) (hs : mm_rs g (zR x :: st) vs) (hh : mm_hr g h H) (hq : ∀ q ∈ locs, g.1 ≤ q.base)
    (K : mm_K p l e R s m args below meth c Q y g (lo, mm_fv h x cc a :: st, h) h cells slots (pc + 3)) : W p l e R s m args below meth c H locs cells slots Q (F0 m pc ls vs) := by
  obtain ⟨o1, o2⟩ := mm_okI hok
  obtain ⟨w0, v0, rfl, q0, hs⟩ := hs
  have e0 := mm_rvN q0 (mm_nn (mm_ne0 o1 (by omega)))
  subst e0
  obtain ⟨V, ⟨cell, g1, g2, g3, g4⟩, hV⟩ := hh.2.1 x cc o1 o2
  obtain ⟨hS, hfc, kC, hkC, -⟩ := C.2.2.2.2.2.1.1.1 cc _ (mm_cA cc hcc).1
  obtain ⟨cf, kf, fi, f, hi, hsl⟩ := hS a ha
  refine W.getf C.1 C.2.1 C.2.2.2.1 (C.2.2.2.2.1 _ hw) hi (u_facts hfc hkC (u_lays C.2.2.2.2.1 (mm_uA cc hcc) ha) hi).1 g1 (by rw [g3]; exact fun h => by cases h) (v := V a) (by rw [hsl]; exact g4 a ha) rfl rfl hd ?_
  exact K _ _ _ _ _ _ hl ⟨_, _, rfl, hV a ha, hs⟩ hh hq rfl rfl
/-- a field is stored -/
theorem mh_put {cc : Nat} {x : mm_Id} {v : mm_V} {h' : mm_H} (C : mm_C p s m args meth c y g) (hd : decode (mm_by y) pc = .ok (.putfield d, 3)) (hcc : cc < 10) (ha : a < mm_nc cc)
    (hw : Cond.fieldLink (mm_nm y).cls d (mm_Tc cc a).1 (mm_Tc cc a).2.1 (mm_Tc cc a).2.2.1 ∈ lw_g) (hfin : (mm_Tc cc a).2.2.2 = false ∨ (mm_nm y).name = "<init>" ∧ (mm_Tc cc a).1 = (mm_nm y).cls) (hok : mm_ok x h.2.2.1 1 (cc : Int) = true)
    (hv : ∀ w, mm_rv g v w → mm_rv g (mm_fv h' x cc a) w ∧ narrow (mm_Yc cc a) w = w ∧ fits (mm_Yc cc a) w = true) (e0 : h'.2.2 = h.2.2) (e1 : ∀ (y : mm_Id) (j : Int), ¬ (y = x ∧ j = a) → h'.1 y j = h.1 y j ∧ h'.2.1 y j = h.2.1 y j)
    (hl : mm_rl g lo ls (mm_mL y)) (hs : mm_rs g (v :: zR x :: st) vs) (hh : mm_hr g h H) (hq : ∀ q ∈ locs, g.1 ≤ q.base)
    (K : mm_K p l e R s m args below meth c Q y g (lo, st, h') h cells slots (pc + 3)) : W p l e R s m args below meth c H locs cells slots Q (F0 m pc ls vs) := by
  obtain ⟨o1, o2⟩ := mm_okI hok
  obtain ⟨w1, v1, rfl, q1, w0, v0, rfl, q0, hs⟩ := hs
  have ew := mm_rvN q0 (mm_nn (mm_ne0 o1 (by omega)))
  subst ew
  obtain ⟨hv1, hn, hfit⟩ := hv _ q1
  obtain ⟨V, ⟨cell, g1, g2, g3, g4⟩, hV⟩ := hh.2.1 x cc o1 o2
  have hK := C.2.2.2.2.2.1.1
  obtain ⟨k1, k2, k3, -⟩ := mm_cA cc hcc
  have hap := va_apart (own := (mm_nm y).cls) C.2.2.2.2.1 (mm_uA cc hcc) (mm_Yc cc) k3 k2 hK k1
  obtain ⟨hS, hfc, kC, hkC, hkind⟩ := hK.1 cc _ k1
  obtain ⟨cf, kf, fi, f, hi, hsl⟩ := hS a ha
  have hlay := C.2.2.2.2.1 _ (mm_uA cc hcc _ (u_in_lay ha))
  have hst := (u_facts hfc hkC (u_lays C.2.2.2.2.1 (mm_uA cc hcc) ha) hi).1
  have go : ∀ H' : Heap, H'[mm_ad g x]? = some (cell.setSlot f.slot w1) → H'.size = H.size → (∀ q, q ≠ mm_ad g x → H'[q]? = H[q]?) → W p l e R s m args below meth c H' (locs ++ [⟨mm_ad g x, f.slot⟩]) cells slots Q (F0 m (pc + 3) ls v0) := by
    intro H' f1 f2 f3
    rw [hsl] at f1
    refine K _ _ _ _ _ _ hl hs (mm_hr_putO hh o1 o2 hV g2 g3 g4 (fun a b ha hb => hap a b ha hb) ha hv1 e0 e1 f2 f3 f1) ?_ (by rw [e0]) (by rw [e0])
    intro q hq'
    rcases List.mem_append.mp hq' with z | z
    · exact hq q z
    · rw [List.mem_singleton] at z
      subst z
      show g.1 ≤ mm_ad g x
      rw [mm_adO g (mm_kd90 o1 (by omega) (by omega))]
      omega
  unfold u_lay at hlay
  by_cases hf : (mm_Tc cc a).2.2.2 = true
  · rw [if_pos hf] at hlay
    obtain ⟨hin, hdecl⟩ := hfin.resolve_left (by rw [hf]; decide)
    have hcf : m.cls = cf := by
      obtain ⟨_, _, c', _, _, _, -, -, hf', -, -, -, hown2, -⟩ := Cond.laysFinal_spec hlay
      have e1 : c' = cf := by have := hi.symm.trans hf'; simp at this; exact this.1.symm
      rw [hdecl] at hown2
      rw [← e1]; exact Option.some.inj (C.2.2.2.1.symm.trans hown2)
    have h6 := u_fits hfc hkC hkind (Or.inr hlay) hi (k3 a ha) hn hfit
    exact W.putFinK C.1 C.2.1 C.2.2.2.1 (C.2.2.2.2.1 _ hw) hi hst hcf (C.2.2.2.2.2.2 hin) (by rw [g2]; exact h6) g1 g3 (by rw [hsl]; exact k2_hasslot (g4 a ha)) rfl rfl hd go
  · rw [if_neg hf] at hlay
    have h6 := u_store hfc hkC hkind hlay hi (k3 a ha) hn hfit
    exact W.putK C.1 C.2.1 (f := f) ⟨C.2.2.2.1, C.2.2.2.2.1 _ hw, ⟨_, _, _, hi⟩, hst⟩ (by rw [g2]; exact h6) g1 g3 (by rw [hsl]; exact k2_hasslot (g4 a ha)) rfl rfl hd go
theorem mm_arr {x : mm_Id} {kd : Nat} {j : Int} (hin : mm_in x h.2.2.1 kd j = true) (h2 : 2 ≤ kd) (h9 : kd ≤ 9) (hh : mm_hr g h H) {u : Int32} (hu : u.toInt = j) :
    ∃ (n : Nat) (z : Nat → Value), mm_SH x = (kd, (n : Int)) ∧ mm_lv x h.2.2.1 = true ∧ x ≠ mm_nul ∧ H[mm_ad g x]? = some (arrV (g.2.2.1 kd) n z) ∧ (∀ j, j < n → mm_rv g (mm_ev h x kd j) (z j)) ∧ u.toNatClampNeg = j.toNat ∧ ¬ (u < 0 ∨ n ≤ u.toNatClampNeg) ∧ j.toNat < n ∧ ((j.toNat : Nat) : Int) = j ∧ (kd = 3 → ∀ j, j < n → fits .byte (z j) = true) := by
  obtain ⟨i1, i2, i3, i4⟩ := mm_inI hin
  have e : mm_SH x = (kd, (((mm_SH x).2.toNat : Nat) : Int)) := by
    have : (((mm_SH x).2.toNat : Nat) : Int) = (mm_SH x).2 := by omega
    rw [this, ← i1]
  obtain ⟨z, p1, p2⟩ := hh.2.2.1 x kd _ e h2 h9 i2
  obtain ⟨c1, c2, c3⟩ := mm_clamp (x := u) (n := (mm_SH x).2.toNat) (by omega) (by omega)
  exact ⟨_, z, e, i2, mm_nn (mm_ne0 e (by omega)), p1, p2.1, by rw [c1, hu], c2, by omega, by omega, p2.2⟩
theorem mh_iald {x : mm_Id} {j : Int} (C : mm_C p s m args meth c y g) (hd : decode (mm_by y) pc = .ok (.iaload, 1)) (hin : mm_in x h.2.2.1 2 j = true) (hl : mm_rl g lo ls (mm_mL y)) (hs : mm_rs g (zI j :: zR x :: st) vs) (hh : mm_hr g h H) (hq : ∀ q ∈ locs, g.1 ≤ q.base)
    (K : mm_K p l e R s m args below meth c Q y g (lo, zI (h.1 x j) :: st, h) h cells slots (pc + 1)) : W p l e R s m args below meth c H locs cells slots Q (F0 m pc ls vs) := by
  obtain ⟨w1, v1, rfl, ⟨u, rfl, hu⟩, w0, v0, rfl, q0, hs⟩ := hs
  obtain ⟨n, z, a1, a2, a3, a4, a5, a6, a7, a8, a9, a10⟩ := mm_arr hin (by omega) (by omega) hh hu
  have ew := mm_rvN q0 a3
  subst ew
  refine W.iald (v := z j.toNat) C.1 C.2.1 a4 ((C.2.2.2.2.2.1.2.1 2 (by omega) (by omega)).1 n z) (fun q => by cases q) (by rw [arrV_size]; exact a7) (by rw [a6]; exact arrV_read _ _ a8) rfl rfl hd ?_
  have hz := a5 _ a8
  unfold mm_ev at hz
  rw [a9] at hz
  exact K _ _ _ _ _ _ hl ⟨_, _, rfl, hz, hs⟩ hh hq rfl rfl
theorem mh_bald {x : mm_Id} {j : Int} (C : mm_C p s m args meth c y g) (hd : decode (mm_by y) pc = .ok (.baload, 1)) (hin : mm_in x h.2.2.1 3 j = true) (hl : mm_rl g lo ls (mm_mL y)) (hs : mm_rs g (zI j :: zR x :: st) vs) (hh : mm_hr g h H) (hq : ∀ q ∈ locs, g.1 ≤ q.base)
    (K : mm_K p l e R s m args below meth c Q y g (lo, zI (h.1 x j) :: st, h) h cells slots (pc + 1)) : W p l e R s m args below meth c H locs cells slots Q (F0 m pc ls vs) := by
  obtain ⟨w1, v1, rfl, ⟨u, rfl, hu⟩, w0, v0, rfl, q0, hs⟩ := hs
  obtain ⟨n, z, a1, a2, a3, a4, a5, a6, a7, a8, a9, a10⟩ := mm_arr hin (by omega) (by omega) hh hu
  have ew := mm_rvN q0 a3
  subst ew
  refine W.bald (v := z j.toNat) C.1 C.2.1 a4 ((C.2.2.2.2.2.1.2.1 3 (by omega) (by omega)).1 n z) (fun q => by cases q) (by rw [arrV_size]; exact a7) (by rw [a6]; exact arrV_read _ _ a8) rfl rfl hd ?_
  have hz := a5 _ a8
  unfold mm_ev at hz
  rw [a9] at hz
  exact K _ _ _ _ _ _ hl ⟨_, _, rfl, hz, hs⟩ hh hq rfl rfl
theorem mh_zald {x : mm_Id} {j : Int} (C : mm_C p s m args meth c y g) (hd : decode (mm_by y) pc = .ok (.baload, 1)) (hin : mm_in x h.2.2.1 4 j = true) (hl : mm_rl g lo ls (mm_mL y)) (hs : mm_rs g (zI j :: zR x :: st) vs) (hh : mm_hr g h H) (hq : ∀ q ∈ locs, g.1 ≤ q.base)
    (K : mm_K p l e R s m args below meth c Q y g (lo, zI (h.1 x j) :: st, h) h cells slots (pc + 1)) : W p l e R s m args below meth c H locs cells slots Q (F0 m pc ls vs) := by
  obtain ⟨w1, v1, rfl, ⟨u, rfl, hu⟩, w0, v0, rfl, q0, hs⟩ := hs
  obtain ⟨n, z, a1, a2, a3, a4, a5, a6, a7, a8, a9, a10⟩ := mm_arr hin (by omega) (by omega) hh hu
  have ew := mm_rvN q0 a3
  subst ew
  refine W.zald (v := z j.toNat) C.1 C.2.1 a4 ((C.2.2.2.2.2.1.2.1 4 (by omega) (by omega)).1 n z) (fun q => by cases q) (by rw [arrV_size]; exact a7) (by rw [a6]; exact arrV_read _ _ a8) rfl rfl hd ?_
  have hz := a5 _ a8
  unfold mm_ev at hz
  rw [a9] at hz
  exact K _ _ _ _ _ _ hl ⟨_, _, rfl, hz, hs⟩ hh hq rfl rfl
theorem mh_lald {x : mm_Id} {j : Int} (C : mm_C p s m args meth c y g) (hd : decode (mm_by y) pc = .ok (.laload, 1)) (hin : mm_in x h.2.2.1 5 j = true) (hl : mm_rl g lo ls (mm_mL y)) (hs : mm_rs g (zI j :: zR x :: st) vs) (hh : mm_hr g h H) (hq : ∀ q ∈ locs, g.1 ≤ q.base)
    (K : mm_K p l e R s m args below meth c Q y g (lo, zL (h.1 x j) :: st, h) h cells slots (pc + 1)) : W p l e R s m args below meth c H locs cells slots Q (F0 m pc ls vs) := by
  obtain ⟨w1, v1, rfl, ⟨u, rfl, hu⟩, w0, v0, rfl, q0, hs⟩ := hs
  obtain ⟨n, z, a1, a2, a3, a4, a5, a6, a7, a8, a9, a10⟩ := mm_arr hin (by omega) (by omega) hh hu
  have ew := mm_rvN q0 a3
  subst ew
  refine W.lald (v := z j.toNat) C.1 C.2.1 a4 ((C.2.2.2.2.2.1.2.1 5 (by omega) (by omega)).1 n z) (fun q => by cases q) (by rw [arrV_size]; exact a7) (by rw [a6]; exact arrV_read _ _ a8) rfl rfl hd ?_
  have hz := a5 _ a8
  unfold mm_ev at hz
  rw [a9] at hz
  exact K _ _ _ _ _ _ hl ⟨_, _, rfl, hz, hs⟩ hh hq rfl rfl
theorem mh_aald {x : mm_Id} {j : Int} (C : mm_C p s m args meth c y g) (hd : decode (mm_by y) pc = .ok (.aaload, 1)) (h6 : 6 ≤ (mm_SH x).1) (h9 : (mm_SH x).1 ≤ 9) (hin : mm_in x h.2.2.1 (mm_SH x).1 j = true) (hl : mm_rl g lo ls (mm_mL y)) (hs : mm_rs g (zI j :: zR x :: st) vs) (hh : mm_hr g h H) (hq : ∀ q ∈ locs, g.1 ≤ q.base)
    (K : mm_K p l e R s m args below meth c Q y g (lo, zR (h.2.1 x j) :: st, h) h cells slots (pc + 1)) : W p l e R s m args below meth c H locs cells slots Q (F0 m pc ls vs) := by
  obtain ⟨w1, v1, rfl, ⟨u, rfl, hu⟩, w0, v0, rfl, q0, hs⟩ := hs
  obtain ⟨n, z, a1, a2, a3, a4, a5, a6, a7, a8, a9, a10⟩ := mm_arr hin (by omega) h9 hh hu
  have ew := mm_rvN q0 a3
  subst ew
  have hty : (mm_aty (mm_SH x).1).isReference = true := by
    have q : (mm_SH x).1 = 6 ∨ (mm_SH x).1 = 7 ∨ (mm_SH x).1 = 8 ∨ (mm_SH x).1 = 9 := by omega
    rcases q with q | q | q | q <;> (rw [q]; rfl)
  refine W.aald (v := z j.toNat) C.1 C.2.1 a4 ((C.2.2.2.2.2.1.2.1 _ (by omega) h9).1 n z) hty (fun q => by cases q) (by rw [arrV_size]; exact a7) (by rw [a6]; exact arrV_read _ _ a8) rfl rfl hd ?_
  have hz := a5 _ a8
  unfold mm_ev at hz
  rw [a9, if_neg (by omega), if_neg (by omega)] at hz
  exact K _ _ _ _ _ _ hl ⟨_, _, rfl, hz, hs⟩ hh hq rfl rfl
theorem mm_upS {α : Type} (f : mm_Id → Int → α) (x : mm_Id) (j : Int) (v : α) : mm_up f x j v x j = v := by unfold mm_up; rw [if_pos ⟨rfl, rfl⟩]
theorem mm_upN {α : Type} (f : mm_Id → Int → α) {x y : mm_Id} {j k : Int} (v : α) (h : ¬ (y = x ∧ k = j)) : mm_up f x j v y k = f y k := by unfold mm_up; rw [if_neg h]
theorem mm_upO {α : Type} (f : mm_Id → Int → α) {x y : mm_Id} {j : Int} (v : α) (h : y ≠ x) : mm_up f x j v y = f y := by funext k; exact mm_upN f v (fun q => h q.1)
theorem mm_qs {q : Loc} {x : mm_Id} {i kd : Nat} {n : Int} (hq : ∀ q ∈ locs, g.1 ≤ q.base) (o1 : mm_SH x = (kd, n)) (h1 : 1 ≤ kd) (h9 : kd ≤ 9) (h : q ∈ locs ++ [⟨mm_ad g x, i⟩]) : g.1 ≤ q.base := by
  rcases List.mem_append.mp h with z | z
  · exact hq q z
  · rw [List.mem_singleton] at z
    subst z
    show g.1 ≤ mm_ad g x
    rw [mm_adO g (mm_kd90 o1 h1 h9)]
    omega
/-- what an array's place holds behind a store -/
theorem mm_stA {h' : mm_H} {x : mm_Id} {kd n : Nat} {z : Nat → Value} {j : Int} {w : Value} (hz : ∀ i, i < n → mm_rv g (mm_ev h x kd i) (z i)) (hj : ((j.toNat : Nat) : Int) = j) (hw : mm_rv g (mm_ev h' x kd j.toNat) w) (he : ∀ i : Int, i ≠ j → h'.1 x i = h.1 x i ∧ h'.2.1 x i = h.2.1 x i) :
    ∀ i, i < n → mm_rv g (mm_ev h' x kd i) (updV z j.toNat w i) := by
  intro i hi
  by_cases q : i = j.toNat
  · subst q
    simp only [updV, if_true]
    exact hw
  · simp only [updV, if_neg q]
    have : mm_ev h' x kd i = mm_ev h x kd i := by
      obtain ⟨q1, q2⟩ := he i (by omega)
      unfold mm_ev
      rw [q1, q2]
    rw [this]
    exact hz i hi
theorem mh_iast {x : mm_Id} {j v : Int} (C : mm_C p s m args meth c y g) (hd : decode (mm_by y) pc = .ok (.iastore, 1)) (hin : mm_in x h.2.2.1 2 j = true) (hl : mm_rl g lo ls (mm_mL y)) (hs : mm_rs g (zI v :: zI j :: zR x :: st) vs) (hh : mm_hr g h H) (hq : ∀ q ∈ locs, g.1 ≤ q.base)
    (K : mm_K p l e R s m args below meth c Q y g (lo, st, (mm_up h.1 x j v, h.2)) h cells slots (pc + 1)) : W p l e R s m args below meth c H locs cells slots Q (F0 m pc ls vs) := by
  obtain ⟨w2, v2, rfl, ⟨uv, rfl, hv⟩, w1, v1, rfl, ⟨u, rfl, hu⟩, w0, v0, rfl, q0, hs⟩ := hs
  obtain ⟨n, z, a1, a2, a3, a4, a5, a6, a7, a8, a9, a10⟩ := mm_arr hin (by omega) (by omega) hh hu
  have ew := mm_rvN q0 a3
  subst ew
  refine W.iast C.1 C.2.1 a4 ((C.2.2.2.2.2.1.2.1 2 (by omega) (by omega)).1 n z) (fun q => by cases q) (by rw [arrV_size]; exact a7) rfl rfl hd fun H1 f1 f2 f3 => ?_
  rw [a6, arrV_store] at f1
  refine K _ _ _ _ _ _ hl hs (mm_hr_putA hh a1 (by omega) (by omega) a2 (mm_stA (w := (Value.int uv)) a5 a9 ?_ fun i hi => ⟨mm_upN _ _ fun q => hi q.2, rfl⟩) rfl (fun y hy => ⟨mm_upO _ _ hy, rfl⟩) f2 f3 f1 (fun q => absurd q (by decide))) (fun q hq' => mm_qs hq a1 (by omega) (by omega) hq') rfl rfl
  unfold mm_ev
  rw [a9]
  dsimp only
  rw [mm_upS]
  exact ⟨uv, rfl, hv⟩
theorem mh_bast {x : mm_Id} {j v : Int} (C : mm_C p s m args meth c y g) (hd : decode (mm_by y) pc = .ok (.bastore, 1)) (hin : mm_in x h.2.2.1 3 j = true) (hl : mm_rl g lo ls (mm_mL y)) (hs : mm_rs g (zI v :: zI j :: zR x :: st) vs) (hh : mm_hr g h H) (hq : ∀ q ∈ locs, g.1 ≤ q.base)
    (K : mm_K p l e R s m args below meth c Q y g (lo, st, (mm_up h.1 x j (mm_b v), h.2)) h cells slots (pc + 1)) : W p l e R s m args below meth c H locs cells slots Q (F0 m pc ls vs) := by
  obtain ⟨w2, v2, rfl, ⟨uv, rfl, hv⟩, w1, v1, rfl, ⟨u, rfl, hu⟩, w0, v0, rfl, q0, hs⟩ := hs
  obtain ⟨n, z, a1, a2, a3, a4, a5, a6, a7, a8, a9, a10⟩ := mm_arr hin (by omega) (by omega) hh hu
  have ew := mm_rvN q0 a3
  subst ew
  refine W.bast C.1 C.2.1 a4 ((C.2.2.2.2.2.1.2.1 3 (by omega) (by omega)).1 n z) (fun q => by cases q) (by rw [arrV_size]; exact a7) rfl rfl hd fun H1 f1 f2 f3 => ?_
  rw [a6, arrV_store] at f1
  refine K _ _ _ _ _ _ hl hs (mm_hr_putA hh a1 (by omega) (by omega) a2 (mm_stA (w := (narrow .byte (.int uv))) a5 a9 ?_ fun i hi => ⟨mm_upN _ _ fun q => hi q.2, rfl⟩) rfl (fun y hy => ⟨mm_upO _ _ hy, rfl⟩) f2 f3 f1 (fun _ i hi => by simp only [updV]; split; exact pk_fb uv; exact a10 rfl i hi)) (fun q hq' => mm_qs hq a1 (by omega) (by omega) hq') rfl rfl
  unfold mm_ev
  rw [a9]
  dsimp only
  rw [mm_upS]
  exact ⟨uv.toInt8.toInt32, rfl, by rw [mm_i2bT, hv]⟩
theorem mh_zast {x : mm_Id} {j v : Int} (C : mm_C p s m args meth c y g) (hd : decode (mm_by y) pc = .ok (.bastore, 1)) (hin : mm_in x h.2.2.1 4 j = true) (hb : v = 0 ∨ v = 1) (hl : mm_rl g lo ls (mm_mL y)) (hs : mm_rs g (zI v :: zI j :: zR x :: st) vs) (hh : mm_hr g h H) (hq : ∀ q ∈ locs, g.1 ≤ q.base)
    (K : mm_K p l e R s m args below meth c Q y g (lo, st, (mm_up h.1 x j v, h.2)) h cells slots (pc + 1)) : W p l e R s m args below meth c H locs cells slots Q (F0 m pc ls vs) := by
  obtain ⟨w2, v2, rfl, ⟨uv, rfl, hv⟩, w1, v1, rfl, ⟨u, rfl, hu⟩, w0, v0, rfl, q0, hs⟩ := hs
  obtain ⟨n, z, a1, a2, a3, a4, a5, a6, a7, a8, a9, a10⟩ := mm_arr hin (by omega) (by omega) hh hu
  have ew := mm_rvN q0 a3
  subst ew
  have hnar : ∃ x : Int32, narrow .boolean (.int uv) = .int x ∧ x.toInt = v := by
    rcases hb with q | q
    · have : uv = 0 := (mm_eq0 uv).mpr (hv.trans q)
      subst this
      exact ⟨0, rfl, by rw [q]; decide⟩
    · have : uv = 1 := by rw [mm_eq32, hv, q]; decide
      subst this
      exact ⟨1, rfl, by rw [q]; decide⟩
  refine W.zast C.1 C.2.1 a4 ((C.2.2.2.2.2.1.2.1 4 (by omega) (by omega)).1 n z) (fun q => by cases q) (by rw [arrV_size]; exact a7) rfl rfl hd fun H1 f1 f2 f3 => ?_
  rw [a6, arrV_store] at f1
  refine K _ _ _ _ _ _ hl hs (mm_hr_putA hh a1 (by omega) (by omega) a2 (mm_stA (w := (narrow .boolean (.int uv))) a5 a9 ?_ fun i hi => ⟨mm_upN _ _ fun q => hi q.2, rfl⟩) rfl (fun y hy => ⟨mm_upO _ _ hy, rfl⟩) f2 f3 f1 (fun q => absurd q (by decide))) (fun q hq' => mm_qs hq a1 (by omega) (by omega) hq') rfl rfl
  unfold mm_ev
  rw [a9]
  dsimp only
  rw [mm_upS]
  exact hnar
theorem mh_last {x : mm_Id} {j v : Int} (C : mm_C p s m args meth c y g) (hd : decode (mm_by y) pc = .ok (.lastore, 1)) (hin : mm_in x h.2.2.1 5 j = true) (hl : mm_rl g lo ls (mm_mL y)) (hs : mm_rs g (zL v :: zI j :: zR x :: st) vs) (hh : mm_hr g h H) (hq : ∀ q ∈ locs, g.1 ≤ q.base)
    (K : mm_K p l e R s m args below meth c Q y g (lo, st, (mm_up h.1 x j v, h.2)) h cells slots (pc + 1)) : W p l e R s m args below meth c H locs cells slots Q (F0 m pc ls vs) := by
  obtain ⟨w2, v2, rfl, ⟨uv, rfl, hv⟩, w1, v1, rfl, ⟨u, rfl, hu⟩, w0, v0, rfl, q0, hs⟩ := hs
  obtain ⟨n, z, a1, a2, a3, a4, a5, a6, a7, a8, a9, a10⟩ := mm_arr hin (by omega) (by omega) hh hu
  have ew := mm_rvN q0 a3
  subst ew
  refine W.last C.1 C.2.1 a4 ((C.2.2.2.2.2.1.2.1 5 (by omega) (by omega)).1 n z) (fun q => by cases q) (by rw [arrV_size]; exact a7) rfl rfl hd fun H1 f1 f2 f3 => ?_
  rw [a6, arrV_store] at f1
  refine K _ _ _ _ _ _ hl hs (mm_hr_putA hh a1 (by omega) (by omega) a2 (mm_stA (w := (Value.long uv)) a5 a9 ?_ fun i hi => ⟨mm_upN _ _ fun q => hi q.2, rfl⟩) rfl (fun y hy => ⟨mm_upO _ _ hy, rfl⟩) f2 f3 f1 (fun q => absurd q (by decide))) (fun q hq' => mm_qs hq a1 (by omega) (by omega) hq') rfl rfl
  unfold mm_ev
  rw [a9]
  dsimp only
  rw [mm_upS]
  exact ⟨uv, rfl, hv⟩
end MH
