/-! jumps of any kind, returns -/
theorem mm_jA {op a d ee : Nat} {k : Int} {st : List mm_V} {z : Option Nat × List mm_V} (hne : op ≠ 57) (hx : mm_j (op, a, k, d, ee) st = some z) : ∀ b, z.1 = some b → b = a := by
  intro b hb
  simp only [mm_j] at hx
  (repeat' split at hx) <;> first | (cases hx; cases hb; rfl) | (cases hx; cases hb; done) | (cases hx; done) | exact absurd rfl hne
theorem mm_tgS {y tgt f a : Nat} {z : Option Nat × List mm_V} (hA : ∀ b, z.1 = some b → b = a) (hg : mm_stt y a = some tgt) : (∀ b, z.1 = some b → mm_stt y b = some (mm_tg z.1 tgt f)) ∧ (z.1 = none → mm_tg z.1 tgt f = f) := by
  constructor
  · intro b hb
    have e := hA b hb
    subst e
    rw [hb]
    exact hg
  · intro hz
    rw [hz]
    rfl
theorem mm_goI {y pc b : Nat} {off : Int} (h : mm_go y pc b off = true) : mm_stt y b = some ((pc : Int) + off).toNat ∧ (pc : Int) + off = ((((pc : Int) + off).toNat : Nat) : Int) := by
  unfold mm_go at h
  rw [Bool.and_eq_true, decide_eq_true_iff, decide_eq_true_iff] at h
  exact ⟨h.1, by omega⟩
section MJ
variable {p : Program} {l : Launch} {e : Env} {R : Room} {s : State} {m : MethodId} {args : Array Value} {below : List Frame} {meth : Method} {c : Code} {H : Heap} {locs : List Loc} {cells slots : Nat} {Q : State → Prop} {y pc len : Nat} {g : mm_G} {h : mm_H} {lo st : List mm_V} {ls : Array Slot} {vs : List Value} {op a d ee : Nat} {k : Int} {z : Option Nat × List mm_V} {ins : Instr}
theorem mm_sJ (C : mm_C p s m args meth c y g) (hd : decode (mm_by y) pc = .ok (ins, len)) (hf : mm_f y pc (op, a, k, d, ee) ins len = true) (ho : 40 ≤ op ∧ op < 60) (hx : mm_j (op, a, k, d, ee) st = some z)
    (hl : mm_rl g lo ls (mm_mL y)) (hs : mm_rs g st vs) (hh : mm_hr g h H) (hq : ∀ q ∈ locs, g.1 ≤ q.base)
    (K : ∀ pc', (∀ b, z.1 = some b → mm_stt y b = some pc') → (z.1 = none → pc' = pc + len) → mm_K p l e R s m args below meth c Q y g (lo, z.2, h) h cells slots pc') : W p l e R s m args below meth c H locs cells slots Q (F0 m pc ls vs) := by
  cases ins
  case ifCond cn off =>
    simp only [mm_f, Bool.and_eq_true, decide_eq_true_eq] at hf
    obtain ⟨⟨h1, rfl⟩, h2⟩ := hf
    obtain ⟨g1, g2⟩ := mm_goI h2
    cases cn
    · have h1 : op = 40 := h1
      subst h1
      obtain ⟨k1, k2⟩ := mm_tgS (f := pc + 3) (mm_jA (by decide) hx) g1
      exact mj_ifeq C hd g2 hx hl hs hh hq (K _ k1 k2)
    · have h1 : op = 41 := h1
      subst h1
      obtain ⟨k1, k2⟩ := mm_tgS (f := pc + 3) (mm_jA (by decide) hx) g1
      exact mj_ifne C hd g2 hx hl hs hh hq (K _ k1 k2)
    · have h1 : op = 42 := h1
      subst h1
      obtain ⟨k1, k2⟩ := mm_tgS (f := pc + 3) (mm_jA (by decide) hx) g1
      exact mj_iflt C hd g2 hx hl hs hh hq (K _ k1 k2)
    · have h1 : op = 43 := h1
      subst h1
      obtain ⟨k1, k2⟩ := mm_tgS (f := pc + 3) (mm_jA (by decide) hx) g1
      exact mj_ifge C hd g2 hx hl hs hh hq (K _ k1 k2)
    · have h1 : op = 44 := h1
      subst h1
      obtain ⟨k1, k2⟩ := mm_tgS (f := pc + 3) (mm_jA (by decide) hx) g1
      exact mj_ifgt C hd g2 hx hl hs hh hq (K _ k1 k2)
    · have h1 : op = 45 := h1
      subst h1
      obtain ⟨k1, k2⟩ := mm_tgS (f := pc + 3) (mm_jA (by decide) hx) g1
      exact mj_ifle C hd g2 hx hl hs hh hq (K _ k1 k2)
  case if_icmp cn off =>
    simp only [mm_f, Bool.and_eq_true, decide_eq_true_eq] at hf
    obtain ⟨⟨h1, rfl⟩, h2⟩ := hf
    obtain ⟨g1, g2⟩ := mm_goI h2
    cases cn
    · have h1 : op = 46 := h1
      subst h1
      obtain ⟨k1, k2⟩ := mm_tgS (f := pc + 3) (mm_jA (by decide) hx) g1
      exact mj_iceq C hd g2 hx hl hs hh hq (K _ k1 k2)
    · have h1 : op = 47 := h1
      subst h1
      obtain ⟨k1, k2⟩ := mm_tgS (f := pc + 3) (mm_jA (by decide) hx) g1
      exact mj_icne C hd g2 hx hl hs hh hq (K _ k1 k2)
    · have h1 : op = 48 := h1
      subst h1
      obtain ⟨k1, k2⟩ := mm_tgS (f := pc + 3) (mm_jA (by decide) hx) g1
      exact mj_iclt C hd g2 hx hl hs hh hq (K _ k1 k2)
    · have h1 : op = 49 := h1
      subst h1
      obtain ⟨k1, k2⟩ := mm_tgS (f := pc + 3) (mm_jA (by decide) hx) g1
      exact mj_icge C hd g2 hx hl hs hh hq (K _ k1 k2)
    · have h1 : op = 50 := h1
      subst h1
      obtain ⟨k1, k2⟩ := mm_tgS (f := pc + 3) (mm_jA (by decide) hx) g1
      exact mj_icgt C hd g2 hx hl hs hh hq (K _ k1 k2)
    · have h1 : op = 51 := h1
      subst h1
      obtain ⟨k1, k2⟩ := mm_tgS (f := pc + 3) (mm_jA (by decide) hx) g1
      exact mj_icle C hd g2 hx hl hs hh hq (K _ k1 k2)
  case if_acmp cn off =>
    simp only [mm_f, Bool.and_eq_true, decide_eq_true_eq] at hf
    obtain ⟨⟨h1, rfl⟩, h2⟩ := hf
    obtain ⟨g1, g2⟩ := mm_goI h2
    cases cn
    · have h1 : op = 52 := h1
      subst h1
      obtain ⟨k1, k2⟩ := mm_tgS (f := pc + 3) (mm_jA (by decide) hx) g1
      exact mj_aceq C hd g2 hx hl hs hh hq (K _ k1 k2)
    · have h1 : op = 53 := h1
      subst h1
      obtain ⟨k1, k2⟩ := mm_tgS (f := pc + 3) (mm_jA (by decide) hx) g1
      exact mj_acne C hd g2 hx hl hs hh hq (K _ k1 k2)
  case ifnull off =>
    simp only [mm_f, Bool.and_eq_true, decide_eq_true_eq] at hf
    obtain ⟨⟨rfl, rfl⟩, h2⟩ := hf
    obtain ⟨g1, g2⟩ := mm_goI h2
    obtain ⟨k1, k2⟩ := mm_tgS (f := pc + 3) (mm_jA (by decide) hx) g1
    exact mj_ifnull C hd g2 hx hl hs hh hq (K _ k1 k2)
  case ifnonnull off =>
    simp only [mm_f, Bool.and_eq_true, decide_eq_true_eq] at hf
    obtain ⟨⟨rfl, rfl⟩, h2⟩ := hf
    obtain ⟨g1, g2⟩ := mm_goI h2
    obtain ⟨k1, k2⟩ := mm_tgS (f := pc + 3) (mm_jA (by decide) hx) g1
    exact mj_ifnonnull C hd g2 hx hl hs hh hq (K _ k1 k2)
  case goto off =>
    simp only [mm_f, Bool.and_eq_true, decide_eq_true_eq] at hf
    obtain ⟨⟨rfl, rfl⟩, h2⟩ := hf
    obtain ⟨g1, g2⟩ := mm_goI h2
    obtain ⟨k1, k2⟩ := mm_tgS (f := pc + 3) (mm_jA (by decide) hx) g1
    exact mj_goto C hd g2 hx hl hs hh hq (K _ k1 k2)
  case tableswitch df lw hw offs =>
    simp only [mm_f, Bool.and_eq_true, decide_eq_true_eq] at hf
    obtain ⟨rfl, hf⟩ := hf
    split at hf
    · rename_i t ht
      simp only [Bool.and_eq_true, decide_eq_true_eq, List.all_eq_true, List.mem_range] at hf
      obtain ⟨⟨⟨h1, h2⟩, h3⟩, h4⟩ := hf
      obtain ⟨g1, g2⟩ := mm_goI h3
      refine mj_switch C hd ht h1 h2 ⟨g1, by omega⟩ (fun j hj => ?_) hx hl hs hh hq (fun b pc' hb hb2 => K pc' (fun b' hb' => ?_) (fun hz => ?_))
      · have h5 := h4 j hj
        split at h5
        · rename_i o ho2
          obtain ⟨g3, g4⟩ := mm_goI h5
          exact ⟨o, ho2, g3, by omega⟩
        · cases h5
      · rw [hb] at hb'
        cases hb'
        exact hb2
      · rw [hb] at hz
        cases hz
    · cases hf
  case getfield n =>
    exfalso
    simp only [mm_f, Bool.and_eq_true, decide_eq_true_eq] at hf
    obtain ⟨-, hf⟩ := hf
    (repeat' split at hf) <;> (try simp only [Bool.and_eq_true, Bool.or_eq_true, decide_eq_true_eq] at hf) <;> first
      | (cases hf; done)
      | omega
      | (have := hf.1; omega)
      | (have := hf.1.1; omega)
      | (have := hf.1.2; omega)
      | (have := hf.1.1.1; omega)
      | (have := hf.1.1.1.1; omega)
      | (have := hf.1.1.1.1.1; omega)
  case invokestatic n =>
    exfalso
    simp only [mm_f, Bool.and_eq_true, decide_eq_true_eq] at hf
    obtain ⟨-, hf⟩ := hf
    (repeat' split at hf) <;> (try simp only [Bool.and_eq_true, Bool.or_eq_true, decide_eq_true_eq] at hf) <;> first
      | (cases hf; done)
      | omega
      | (have := hf.1; omega)
      | (have := hf.1.1; omega)
      | (have := hf.1.2; omega)
      | (have := hf.1.1.1; omega)
      | (have := hf.1.1.1.1; omega)
      | (have := hf.1.1.1.1.1; omega)
  case invokevirtual n =>
    exfalso
    simp only [mm_f, Bool.and_eq_true, decide_eq_true_eq] at hf
    obtain ⟨-, hf⟩ := hf
    (repeat' split at hf) <;> (try simp only [Bool.and_eq_true, Bool.or_eq_true, decide_eq_true_eq] at hf) <;> first
      | (cases hf; done)
      | omega
      | (have := hf.1; omega)
      | (have := hf.1.1; omega)
      | (have := hf.1.2; omega)
      | (have := hf.1.1.1; omega)
      | (have := hf.1.1.1.1; omega)
      | (have := hf.1.1.1.1.1; omega)
  case invokespecial n =>
    exfalso
    simp only [mm_f, Bool.and_eq_true, decide_eq_true_eq] at hf
    obtain ⟨-, hf⟩ := hf
    (repeat' split at hf) <;> (try simp only [Bool.and_eq_true, Bool.or_eq_true, decide_eq_true_eq] at hf) <;> first
      | (cases hf; done)
      | omega
      | (have := hf.1; omega)
      | (have := hf.1.1; omega)
      | (have := hf.1.2; omega)
      | (have := hf.1.1.1; omega)
      | (have := hf.1.1.1.1; omega)
      | (have := hf.1.1.1.1.1; omega)
  all_goals (exfalso; simp only [mm_f, Bool.and_eq_true, decide_eq_true_eq, Bool.false_eq_true] at hf)
  all_goals first
    | omega
    | (have := hf.1; omega)
    | (have := hf.1.1; omega)
    | (have := hf.1.1.1; omega)
    | (have := hf.2.1; omega)
    | (rcases hf.2 with ⟨q, -⟩ | ⟨q, -⟩ <;> omega)
end MJ
