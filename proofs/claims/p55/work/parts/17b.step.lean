/-! a row that goes straight on, of any kind: the rest -/
section MX
variable {p : Program} {l : Launch} {e : Env} {R : Room} {s : State} {m : MethodId} {args : Array Value} {below : List Frame} {meth : Method} {c : Code} {H : Heap} {locs : List Loc} {cells slots : Nat} {Q : State → Prop} {y pc len : Nat} {g : mm_G} {h : mm_H} {lo st : List mm_V} {ls : Array Slot} {vs : List Value} {op a d ee : Nat} {k : Int} {r : List mm_V × List mm_V × mm_H} {ins : Instr}
theorem mm_sL (C : mm_C p s m args meth c y g) (hd : decode (mm_by y) pc = .ok (ins, len)) (hf : mm_f y pc (op, a, k, d, ee) ins len = true) (hne : ¬ (op = 0 ∨ 40 ≤ op ∧ op < 60) ∧ ¬ (85 ≤ op ∧ op < 89) ∧ ¬ (90 ≤ op ∧ op < 95)) (hx : mm_x (op, a, k, d, ee) lo st h = some r)
    (hl : mm_rl g lo ls (mm_mL y)) (hs : mm_rs g st vs) (hh : mm_hr g h H) (hq : ∀ q ∈ locs, g.1 ≤ q.base) (hRc : (cells : Int) + (r.2.2.2.2.1 - h.2.2.1) ≤ R.cells ∧ (slots : Int) + (r.2.2.2.2.2 - h.2.2.2) ≤ R.slots) (hRf : mm_fr y ≤ R.frames ∧ mm_lo y ≤ R.locals)
    (K : mm_K p l e R s m args below meth c Q y g r h cells slots (pc + len)) : W p l e R s m args below meth c H locs cells slots Q (F0 m pc ls vs) := by
  cases ins
  case iconst n =>
    simp only [mm_f, Bool.and_eq_true, decide_eq_true_eq] at hf
    obtain ⟨rfl, rfl, h1, h2, rfl⟩ := hf
    have hx : mm_x1 (1, a, k, d, ee) lo st h = some r := hx
    exact ml_iconst C hd ⟨h1, h2⟩ hx hl hs hh hq K
  case bipush n =>
    simp only [mm_f, Bool.and_eq_true, decide_eq_true_eq] at hf
    obtain ⟨rfl, rfl, h1, h2, rfl⟩ := hf
    have hx : mm_x1 (1, a, k, d, ee) lo st h = some r := hx
    exact ml_bipush C hd ⟨h1, h2⟩ hx hl hs hh hq K
  case sipush n =>
    simp only [mm_f, Bool.and_eq_true, decide_eq_true_eq] at hf
    obtain ⟨rfl, rfl, h1, h2, rfl⟩ := hf
    have hx : mm_x1 (1, a, k, d, ee) lo st h = some r := hx
    exact ml_sipush C hd ⟨h1, h2⟩ hx hl hs hh hq K
  case ldc n =>
    simp only [mm_f, Bool.and_eq_true, decide_eq_true_eq] at hf
    obtain ⟨⟨rfl, rfl, h1, h2, rfl⟩, h3⟩ := hf
    have hx : mm_x1 (1, a, k, d, ee) lo st h = some r := hx
    exact ml_ldc C hd ⟨h1, h2⟩ (mm_wd_in h3) hx hl hs hh hq K
  case ldc_w n =>
    simp only [mm_f, Bool.and_eq_true, decide_eq_true_eq] at hf
    obtain ⟨⟨rfl, rfl, h1, h2, rfl⟩, h3⟩ := hf
    have hx : mm_x1 (1, a, k, d, ee) lo st h = some r := hx
    exact ml_ldcw C hd ⟨h1, h2⟩ (mm_wd_in h3) hx hl hs hh hq K
  case ldc2_w n =>
    simp only [mm_f, Bool.and_eq_true, decide_eq_true_eq] at hf
    obtain ⟨⟨rfl, rfl, h1, h2, rfl⟩, h3⟩ := hf
    have hx : mm_x1 (2, a, k, d, ee) lo st h = some r := hx
    exact ml_ldc2 C hd ⟨h1, h2⟩ (mm_wd_in h3) hx hl hs hh hq K
  case lconst n =>
    simp only [mm_f, Bool.and_eq_true, decide_eq_true_eq] at hf
    obtain ⟨rfl, h1, rfl⟩ := hf
    have hx : mm_x1 (2, a, k, d, ee) lo st h = some r := hx
    exact ml_lconst C hd h1 hx hl hs hh hq K
  case iload n =>
    simp only [mm_f, Bool.and_eq_true, decide_eq_true_eq] at hf
    obtain ⟨rfl, rfl, rfl⟩ := hf
    have hx : mm_x1 (3, a, k, d, ee) lo st h = some r := hx
    exact ml_iload C hd hx hl hs hh hq K
  case iload_n n =>
    simp only [mm_f, Bool.and_eq_true, decide_eq_true_eq] at hf
    obtain ⟨rfl, h1, rfl⟩ := hf
    have hx : mm_x1 (3, a, k, d, ee) lo st h = some r := hx
    exact ml_iloadn C hd h1.symm hx hl hs hh hq K
  case lload n =>
    simp only [mm_f, Bool.and_eq_true, decide_eq_true_eq] at hf
    obtain ⟨rfl, rfl, rfl⟩ := hf
    have hx : mm_x1 (4, a, k, d, ee) lo st h = some r := hx
    exact ml_lload C hd hx hl hs hh hq K
  case lload_n n =>
    simp only [mm_f, Bool.and_eq_true, decide_eq_true_eq] at hf
    obtain ⟨rfl, h1, rfl⟩ := hf
    have hx : mm_x1 (4, a, k, d, ee) lo st h = some r := hx
    exact ml_lloadn C hd h1.symm hx hl hs hh hq K
  case aload n =>
    simp only [mm_f, Bool.and_eq_true, decide_eq_true_eq] at hf
    obtain ⟨rfl, rfl, rfl⟩ := hf
    have hx : mm_x1 (5, a, k, d, ee) lo st h = some r := hx
    exact ml_aload C hd hx hl hs hh hq K
  case aload_n n =>
    simp only [mm_f, Bool.and_eq_true, decide_eq_true_eq] at hf
    obtain ⟨rfl, h1, rfl⟩ := hf
    have hx : mm_x1 (5, a, k, d, ee) lo st h = some r := hx
    exact ml_aloadn C hd h1.symm hx hl hs hh hq K
  case istore n =>
    simp only [mm_f, Bool.and_eq_true, decide_eq_true_eq] at hf
    obtain ⟨rfl, rfl, rfl⟩ := hf
    have hx : mm_x1 (6, a, k, d, ee) lo st h = some r := hx
    exact ml_istore C hd hx hl hs hh hq K
  case istore_n n =>
    simp only [mm_f, Bool.and_eq_true, decide_eq_true_eq] at hf
    obtain ⟨rfl, h1, rfl⟩ := hf
    have hx : mm_x1 (6, a, k, d, ee) lo st h = some r := hx
    exact ml_istoren C hd h1.symm hx hl hs hh hq K
  case lstore n =>
    simp only [mm_f, Bool.and_eq_true, decide_eq_true_eq] at hf
    obtain ⟨rfl, rfl, rfl⟩ := hf
    have hx : mm_x1 (7, a, k, d, ee) lo st h = some r := hx
    exact ml_lstore C hd hx hl hs hh hq K
  case lstore_n n =>
    simp only [mm_f, Bool.and_eq_true, decide_eq_true_eq] at hf
    obtain ⟨rfl, h1, rfl⟩ := hf
    have hx : mm_x1 (7, a, k, d, ee) lo st h = some r := hx
    exact ml_lstoren C hd h1.symm hx hl hs hh hq K
  case astore n =>
    simp only [mm_f, Bool.and_eq_true, decide_eq_true_eq] at hf
    obtain ⟨rfl, rfl, rfl⟩ := hf
    have hx : mm_x1 (8, a, k, d, ee) lo st h = some r := hx
    exact ml_astore C hd hx hl hs hh hq K
  case astore_n n =>
    simp only [mm_f, Bool.and_eq_true, decide_eq_true_eq] at hf
    obtain ⟨rfl, h1, rfl⟩ := hf
    have hx : mm_x1 (8, a, k, d, ee) lo st h = some r := hx
    exact ml_astoren C hd h1.symm hx hl hs hh hq K
  case iinc n z =>
    simp only [mm_f, Bool.and_eq_true, decide_eq_true_eq] at hf
    obtain ⟨rfl, rfl, rfl, h1, h2, rfl⟩ := hf
    have hx : mm_x1 (9, a, k, d, ee) lo st h = some r := hx
    exact ml_iinc C hd ⟨h1, h2⟩ hx hl hs hh hq K
  case iadd =>
    simp only [mm_f, Bool.and_eq_true, decide_eq_true_eq] at hf
    obtain ⟨rfl, rfl⟩ := hf
    have hx : mm_x2 (10, a, k, d, ee) lo st h = some r := hx
    exact ml_iadd C hd hx hl hs hh hq K
  case isub =>
    simp only [mm_f, Bool.and_eq_true, decide_eq_true_eq] at hf
    obtain ⟨rfl, rfl⟩ := hf
    have hx : mm_x2 (11, a, k, d, ee) lo st h = some r := hx
    exact ml_isub C hd hx hl hs hh hq K
  case imul =>
    simp only [mm_f, Bool.and_eq_true, decide_eq_true_eq] at hf
    obtain ⟨rfl, rfl⟩ := hf
    have hx : mm_x2 (12, a, k, d, ee) lo st h = some r := hx
    exact ml_imul C hd hx hl hs hh hq K
  case idiv =>
    simp only [mm_f, Bool.and_eq_true, decide_eq_true_eq] at hf
    obtain ⟨rfl, rfl⟩ := hf
    have hx : mm_x2 (13, a, k, d, ee) lo st h = some r := hx
    exact ml_idiv C hd hx hl hs hh hq K
  case irem =>
    simp only [mm_f, Bool.and_eq_true, decide_eq_true_eq] at hf
    obtain ⟨rfl, rfl⟩ := hf
    have hx : mm_x2 (14, a, k, d, ee) lo st h = some r := hx
    exact ml_irem C hd hx hl hs hh hq K
  case ineg =>
    simp only [mm_f, Bool.and_eq_true, decide_eq_true_eq] at hf
    obtain ⟨rfl, rfl⟩ := hf
    have hx : mm_x2 (15, a, k, d, ee) lo st h = some r := hx
    exact ml_ineg C hd hx hl hs hh hq K
  case iand =>
    simp only [mm_f, Bool.and_eq_true, decide_eq_true_eq] at hf
    obtain ⟨rfl, rfl⟩ := hf
    have hx : mm_x2 (16, a, k, d, ee) lo st h = some r := hx
    exact ml_iand C hd hx hl hs hh hq K
  case ishr =>
    simp only [mm_f, Bool.and_eq_true, decide_eq_true_eq] at hf
    obtain ⟨rfl, rfl⟩ := hf
    have hx : mm_x2 (17, a, k, d, ee) lo st h = some r := hx
    exact ml_ishr C hd hx hl hs hh hq K
  case ladd =>
    simp only [mm_f, Bool.and_eq_true, decide_eq_true_eq] at hf
    obtain ⟨rfl, rfl⟩ := hf
    have hx : mm_x2 (20, a, k, d, ee) lo st h = some r := hx
    exact ml_ladd C hd hx hl hs hh hq K
  case lsub =>
    simp only [mm_f, Bool.and_eq_true, decide_eq_true_eq] at hf
    obtain ⟨rfl, rfl⟩ := hf
    have hx : mm_x2 (21, a, k, d, ee) lo st h = some r := hx
    exact ml_lsub C hd hx hl hs hh hq K
  case lmul =>
    simp only [mm_f, Bool.and_eq_true, decide_eq_true_eq] at hf
    obtain ⟨rfl, rfl⟩ := hf
    have hx : mm_x2 (22, a, k, d, ee) lo st h = some r := hx
    exact ml_lmul C hd hx hl hs hh hq K
  case ldiv =>
    simp only [mm_f, Bool.and_eq_true, decide_eq_true_eq] at hf
    obtain ⟨rfl, rfl⟩ := hf
    have hx : mm_x2 (23, a, k, d, ee) lo st h = some r := hx
    exact ml_ldiv C hd hx hl hs hh hq K
  case lrem =>
    simp only [mm_f, Bool.and_eq_true, decide_eq_true_eq] at hf
    obtain ⟨rfl, rfl⟩ := hf
    have hx : mm_x2 (24, a, k, d, ee) lo st h = some r := hx
    exact ml_lrem C hd hx hl hs hh hq K
  case lneg =>
    simp only [mm_f, Bool.and_eq_true, decide_eq_true_eq] at hf
    obtain ⟨rfl, rfl⟩ := hf
    have hx : mm_x2 (25, a, k, d, ee) lo st h = some r := hx
    exact ml_lneg C hd hx hl hs hh hq K
  case land =>
    simp only [mm_f, Bool.and_eq_true, decide_eq_true_eq] at hf
    obtain ⟨rfl, rfl⟩ := hf
    have hx : mm_x2 (26, a, k, d, ee) lo st h = some r := hx
    exact ml_land C hd hx hl hs hh hq K
  case lor =>
    simp only [mm_f, Bool.and_eq_true, decide_eq_true_eq] at hf
    obtain ⟨rfl, rfl⟩ := hf
    have hx : mm_x2 (27, a, k, d, ee) lo st h = some r := hx
    exact ml_lor C hd hx hl hs hh hq K
  case lshl =>
    simp only [mm_f, Bool.and_eq_true, decide_eq_true_eq] at hf
    obtain ⟨rfl, rfl⟩ := hf
    have hx : mm_x2 (28, a, k, d, ee) lo st h = some r := hx
    exact ml_lshl C hd hx hl hs hh hq K
  case lshr =>
    simp only [mm_f, Bool.and_eq_true, decide_eq_true_eq] at hf
    obtain ⟨rfl, rfl⟩ := hf
    have hx : mm_x2 (29, a, k, d, ee) lo st h = some r := hx
    exact ml_lshr C hd hx hl hs hh hq K
  case lushr =>
    simp only [mm_f, Bool.and_eq_true, decide_eq_true_eq] at hf
    obtain ⟨rfl, rfl⟩ := hf
    have hx : mm_x2 (30, a, k, d, ee) lo st h = some r := hx
    exact ml_lushr C hd hx hl hs hh hq K
  case i2l =>
    simp only [mm_f, Bool.and_eq_true, decide_eq_true_eq] at hf
    obtain ⟨rfl, rfl⟩ := hf
    have hx : mm_x2 (31, a, k, d, ee) lo st h = some r := hx
    exact ml_i2l C hd hx hl hs hh hq K
  case l2i =>
    simp only [mm_f, Bool.and_eq_true, decide_eq_true_eq] at hf
    obtain ⟨rfl, rfl⟩ := hf
    have hx : mm_x2 (32, a, k, d, ee) lo st h = some r := hx
    exact ml_l2i C hd hx hl hs hh hq K
  case i2b =>
    simp only [mm_f, Bool.and_eq_true, decide_eq_true_eq] at hf
    obtain ⟨rfl, rfl⟩ := hf
    have hx : mm_x2 (33, a, k, d, ee) lo st h = some r := hx
    exact ml_i2b C hd hx hl hs hh hq K
  case lcmp =>
    simp only [mm_f, Bool.and_eq_true, decide_eq_true_eq] at hf
    obtain ⟨rfl, rfl⟩ := hf
    have hx : mm_x2 (34, a, k, d, ee) lo st h = some r := hx
    exact ml_lcmp C hd hx hl hs hh hq K
  case dup =>
    simp only [mm_f, Bool.and_eq_true, decide_eq_true_eq] at hf
    obtain ⟨rfl, rfl⟩ := hf
    have hx : mm_x1 (35, a, k, d, ee) lo st h = some r := hx
    exact ml_dup C hd hx hl hs hh hq K
  case pop =>
    simp only [mm_f, Bool.and_eq_true, decide_eq_true_eq] at hf
    obtain ⟨rfl, rfl⟩ := hf
    have hx : mm_x1 (36, a, k, d, ee) lo st h = some r := hx
    exact ml_pop C hd hx hl hs hh hq K
  case dup2 =>
    simp only [mm_f, Bool.and_eq_true, decide_eq_true_eq] at hf
    obtain ⟨rfl, rfl⟩ := hf
    have hx : mm_x1 (37, a, k, d, ee) lo st h = some r := hx
    exact ml_dup2 C hd hx hl hs hh hq K
  case i2c =>
    simp only [mm_f, Bool.and_eq_true, decide_eq_true_eq] at hf
    obtain ⟨rfl, rfl⟩ := hf
    have hx : mm_x1 (39, a, k, d, ee) lo st h = some r := hx
    exact ml_i2c C hd hx hl hs hh hq K
  case aconst_null =>
    simp only [mm_f, Bool.and_eq_true, decide_eq_true_eq] at hf
    obtain ⟨rfl, rfl⟩ := hf
    have hx : mm_x1 (38, a, k, d, ee) lo st h = some r := hx
    exact ml_null C hd hx hl hs hh hq K
  case iaload =>
    simp only [mm_f, Bool.and_eq_true, decide_eq_true_eq] at hf
    obtain ⟨rfl, rfl⟩ := hf
    have hx : mm_x4 (70, a, k, d, ee) lo st h = some r := hx
    simp only [mm_x4] at hx
    split at hx
    · split at hx
      · rename_i q
        cases hx
        exact mh_iald C hd q hl hs hh hq K
      · split at hx
        · rename_i q
          cases hx
          have e := mm_SH10 (by rw [q.1])
          exact mr_sld C hd e q.2.1 q.2.2 hl hs hh hq K
        · split at hx
          · rename_i q
            cases hx
            exact (mm_SHno q.1 (by decide)).elim
          · cases hx
    · cases hx
  case baload =>
    simp only [mm_f, Bool.and_eq_true, decide_eq_true_eq] at hf
    obtain ⟨rfl, rfl⟩ := hf
    have hx : mm_x4 (71, a, k, d, ee) lo st h = some r := hx
    simp only [mm_x4] at hx
    split at hx
    · split at hx
      · rename_i q
        cases hx
        rcases q with q | q
        · exact mh_bald C hd q hl hs hh hq K
        · exact mh_zald C hd q hl hs hh hq K
      · split at hx
        · rename_i q
          cases hx
          exact (mm_SHno q.1 (by decide)).elim
        · cases hx
    · cases hx
  case laload =>
    simp only [mm_f, Bool.and_eq_true, decide_eq_true_eq] at hf
    obtain ⟨rfl, rfl⟩ := hf
    have hx : mm_x4 (72, a, k, d, ee) lo st h = some r := hx
    simp only [mm_x4] at hx
    split at hx
    · split at hx
      · rename_i q
        cases hx
        exact mh_lald C hd q hl hs hh hq K
      · cases hx
    · cases hx
  case aaload =>
    simp only [mm_f, Bool.and_eq_true, decide_eq_true_eq] at hf
    obtain ⟨rfl, rfl⟩ := hf
    have hx : mm_x4 (73, a, k, d, ee) lo st h = some r := hx
    simp only [mm_x4] at hx
    split at hx
    · split at hx
      · rename_i q
        cases hx
        exact (mm_SHno q.1 (by decide)).elim
      · split at hx
        · rename_i q
          cases hx
          exact mh_aald C hd q.1 q.2.1 q.2.2 hl hs hh hq K
        · cases hx
    · cases hx
  case iastore =>
    simp only [mm_f, Bool.and_eq_true, decide_eq_true_eq] at hf
    obtain ⟨rfl, rfl⟩ := hf
    have hx : mm_x4 (74, a, k, d, ee) lo st h = some r := hx
    simp only [mm_x4] at hx
    split at hx
    · split at hx
      · rename_i q
        cases hx
        exact mh_iast C hd q hl hs hh hq K
      · cases hx
    · cases hx
  case lastore =>
    simp only [mm_f, Bool.and_eq_true, decide_eq_true_eq] at hf
    obtain ⟨rfl, rfl⟩ := hf
    have hx : mm_x4 (76, a, k, d, ee) lo st h = some r := hx
    simp only [mm_x4] at hx
    split at hx
    · split at hx
      · rename_i q
        cases hx
        exact mh_last C hd q hl hs hh hq K
      · cases hx
    · cases hx
  case bastore =>
    simp only [mm_f, Bool.and_eq_true, decide_eq_true_eq] at hf
    obtain ⟨rfl, rfl⟩ := hf
    have hx : mm_x4 (75, a, k, d, ee) lo st h = some r := hx
    simp only [mm_x4] at hx
    split at hx
    · split at hx
      · rename_i q
        cases hx
        exact mh_bast C hd q hl hs hh hq K
      · split at hx
        · rename_i q
          cases hx
          exact mh_zast C hd q.1 q.2 hl hs hh hq K
        · cases hx
    · cases hx
  case aastore =>
    simp only [mm_f, Bool.and_eq_true, decide_eq_true_eq] at hf
    obtain ⟨rfl, rfl⟩ := hf
    have hx : mm_x4 (77, a, k, d, ee) lo st h = some r := hx
    simp only [mm_x4] at hx
    split at hx
    · split at hx
      · rename_i q
        cases hx
        exact mh_aast C hd q.1 q.2.1 q.2.2.1 q.2.2.2 hl hs hh hq K
      · cases hx
    · cases hx
  case arraylength =>
    simp only [mm_f, Bool.and_eq_true, decide_eq_true_eq] at hf
    obtain ⟨rfl, rfl⟩ := hf
    have hx : mm_x4 (78, a, k, d, ee) lo st h = some r := hx
    simp only [mm_x4] at hx
    split at hx
    · split at hx
      · rename_i q
        cases hx
        exact mr_slen C hd (mm_SH10 q) hl hs hh hq K
      · split at hx
        · rename_i q
          cases hx
          exact (mm_SHno q (by decide)).elim
        · split at hx
          · rename_i x _ q1 q2 q
            cases hx
            rcases q with q | q
            · exact mh_alen C hd q.1 q.2.1 q.2.2 ⟨(mm_SHb _).1, Int.lt_trans (mm_SHb _).2 (by decide)⟩ hl hs hh hq K
            · exact (mm_SHno q (by decide)).elim
          · cases hx
    · cases hx
  case getfield n =>
    simp only [mm_f, Bool.and_eq_true, decide_eq_true_eq] at hf
    obtain ⟨⟨rfl, rfl⟩, hf⟩ := hf
    have hx : (60 ≤ op ∧ op < 63) → mm_x3 (op, a, k, d, ee) lo st h = some r := fun q => by
      unfold mm_x at hx
      dsimp only at hx
      rw [if_neg (by omega), if_neg (by omega), if_neg (by omega), if_pos (by omega)] at hx
      exact hx
    split at hf
    · cases hf
    · rename_i hkk
      have hk1 : ¬ k = 11 := fun q => hkk (Or.inl q)
      have hk2 : ¬ k = 20 := fun q => hkk (Or.inr (Or.inl q))
      have hk3 : ¬ k = 21 := fun q => hkk (Or.inr (Or.inr q))
      simp only [Bool.and_eq_true, decide_eq_true_eq] at hf
      obtain ⟨⟨⟨k0, k1, k2⟩, ho⟩, hf⟩ := hf
      have ek : ((k.toNat : Nat) : Int) = k := by omega
      rcases ho with ⟨rfl, ht⟩ | ⟨rfl, ht⟩ | ⟨rfl, ht⟩
      · have hx := hx (by omega)
        simp only [mm_x3, if_neg hk2, if_neg hk3] at hx
        split at hx
        · split at hx
          · rename_i q
            cases hx
            refine mh_get (cc := k.toNat) C hd (by omega) k2 (mm_wd_in hf) (by rw [ek]; exact q) hl hs hh hq ?_
            rw [mm_fvI ht]
            exact K
          · cases hx
        · cases hx
      · have hx := hx (by omega)
        simp only [mm_x3] at hx
        split at hx
        · split at hx
          · rename_i q
            cases hx
            refine mh_get (cc := k.toNat) C hd (by omega) k2 (mm_wd_in hf) (by rw [ek]; exact q) hl hs hh hq ?_
            rw [mm_fvL ht]
            exact K
          · cases hx
        · cases hx
      · have hx := hx (by omega)
        simp only [mm_x3, if_neg hk1, if_neg hk2] at hx
        split at hx
        · split at hx
          · rename_i q
            cases hx
            refine mh_get (cc := k.toNat) C hd (by omega) k2 (mm_wd_in hf) (by rw [ek]; exact q) hl hs hh hq ?_
            rw [mm_fvR ht]
            exact K
          · cases hx
        · cases hx
  case putfield n =>
    simp only [mm_f, Bool.and_eq_true, decide_eq_true_eq] at hf
    obtain ⟨⟨⟨⟨⟨rfl, rfl⟩, k0, k1, k2⟩, ho⟩, hfin⟩, hf⟩ := hf
    have ek : ((k.toNat : Nat) : Int) = k := by omega
    obtain ⟨t0, t1, t3, t2⟩ := mm_tyI (cc := k.toNat) (by omega) k2
    rcases ho with ⟨rfl, ht⟩ | ⟨rfl, ht⟩ | ⟨rfl, ht⟩ | ⟨rfl, ht⟩
    · have hx : mm_x3 (63, a, k, d, ee) lo st h = some r := hx
      simp only [mm_x3] at hx
      split at hx
      · split at hx
        · rename_i q
          cases hx
          refine mh_put (cc := k.toNat) (h := h) (h' := (mm_up h.1 _ (a : Int) _, h.2)) C hd (by omega) k2 (mm_wd_in hf) hfin (by rw [ek]; exact q) (fun w hw => ?_) rfl (fun y j hj => ⟨mm_upN _ _ hj, rfl⟩) hl hs hh hq K
          obtain ⟨u, rfl, hu⟩ := hw
          rw [mm_fvI (Or.inl ht), t0 ht]
          exact ⟨⟨u, rfl, by dsimp only; rw [mm_upS, hu]⟩, rfl, rfl⟩
        · cases hx
      · cases hx
    · have hx : mm_x3 (64, a, k, d, ee) lo st h = some r := hx
      simp only [mm_x3] at hx
      split at hx
      · split at hx
        · rename_i q
          cases hx
          refine mh_put (cc := k.toNat) (h := h) (h' := (mm_up h.1 _ (a : Int) _, h.2)) C hd (by omega) k2 (mm_wd_in hf) hfin (by rw [ek]; exact q.1) (fun w hw => ?_) rfl (fun y j hj => ⟨mm_upN _ _ hj, rfl⟩) hl hs hh hq K
          obtain ⟨u, rfl, hu⟩ := hw
          rw [mm_fvI (Or.inr ht), t3 ht]
          refine ⟨⟨u, rfl, by dsimp only; rw [mm_upS, hu]⟩, ?_⟩
          rcases q.2 with z | z
          · have : u = 0 := (mm_eq0 u).mpr (hu.trans z)
            subst this
            exact ⟨rfl, rfl⟩
          · have : u = 1 := by rw [mm_eq32, hu, z]; decide
            subst this
            exact ⟨rfl, rfl⟩
        · cases hx
      · cases hx
    · have hx : mm_x3 (65, a, k, d, ee) lo st h = some r := hx
      simp only [mm_x3] at hx
      split at hx
      · split at hx
        · rename_i q
          cases hx
          refine mh_put (cc := k.toNat) (h := h) (h' := (mm_up h.1 _ (a : Int) _, h.2)) C hd (by omega) k2 (mm_wd_in hf) hfin (by rw [ek]; exact q) (fun w hw => ?_) rfl (fun y j hj => ⟨mm_upN _ _ hj, rfl⟩) hl hs hh hq K
          obtain ⟨u, rfl, hu⟩ := hw
          rw [mm_fvL ht, t1 ht]
          exact ⟨⟨u, rfl, by dsimp only; rw [mm_upS, hu]⟩, rfl, rfl⟩
        · cases hx
      · cases hx
    · have hx : mm_x3 (66, a, k, d, ee) lo st h = some r := hx
      simp only [mm_x3] at hx
      split at hx
      · split at hx
        · rename_i q
          cases hx
          refine mh_put (cc := k.toNat) (h := h) (h' := (h.1, mm_up h.2.1 _ (a : Int) _, h.2.2)) C hd (by omega) k2 (mm_wd_in hf) hfin (by rw [ek]; exact q) (fun w hw => ?_) rfl (fun y j hj => ⟨rfl, mm_upN _ _ hj⟩) hl hs hh hq K
          rw [mm_fvR ht]
          dsimp only
          rw [mm_upS]
          refine ⟨hw, ?_⟩
          obtain ⟨o, rfl, -⟩ := mm_rvR hw
          rcases t2 ht with ⟨n, e⟩ | ⟨n, e⟩ <;> rw [e] <;> cases o <;> exact ⟨rfl, rfl⟩
        · cases hx
      · cases hx
  case new n =>
    simp only [mm_f, Bool.and_eq_true, decide_eq_true_eq] at hf
    obtain ⟨⟨rfl, rfl, rfl⟩, hf⟩ := hf
    have hx : mm_x5 (80, a, k, d, ee) lo st h = some r := hx
    simp only [mm_x5] at hx
    split at hx
    · rename_i q
      cases hx
      dsimp only at hRc
      exact mh_new C hd q.2 (mm_wd_in hf) q.1 ⟨by omega, by have e : mm_nf a = (mm_nc a : Int) := rfl; omega⟩ hl hs hh hq K
    · cases hx
  case newarray n =>
    simp only [mm_f, Bool.and_eq_true, decide_eq_true_eq] at hf
    obtain ⟨⟨rfl, rfl⟩, hf⟩ := hf
    have hx : mm_x5 (81, a, k, d, ee) lo st h = some r := hx
    simp only [mm_x5] at hx
    split at hx
    · split at hx
      · rename_i n' _ q
        cases hx
        dsimp only at hRc
        obtain ⟨j, rfl⟩ := Int.eq_ofNat_of_zero_le q.2.2.2
        have := (mm_SHb (mm_be h.2.2.1)).2
        rw [q.1] at this
        dsimp only at this
        exact mh_newa C hd q.2.1 q.2.2.1 hf q.1 (by omega) ⟨by omega, by omega⟩ hl hs hh hq K
      · cases hx
    · cases hx
  case anewarray n =>
    simp only [mm_f, Bool.and_eq_true, decide_eq_true_eq] at hf
    obtain ⟨⟨rfl, rfl, rfl⟩, hf⟩ := hf
    have hx : mm_x5 (82, a, k, d, ee) lo st h = some r := hx
    simp only [mm_x5] at hx
    split at hx
    · split at hx
      · rename_i n' _ q
        cases hx
        dsimp only at hRc
        obtain ⟨j, rfl⟩ := Int.eq_ofNat_of_zero_le q.2.2.2
        have := (mm_SHb (mm_be h.2.2.1)).2
        rw [q.1] at this
        dsimp only at this
        exact mh_anew C hd q.2.1 q.2.2.1 (mm_wd_in hf) q.1 (by omega) ⟨by omega, by omega⟩ hl hs hh hq K
      · cases hx
    · cases hx
  case invokestatic n =>
    simp only [mm_f, Bool.and_eq_true, decide_eq_true_eq] at hf
    obtain ⟨⟨rfl, rfl⟩, hf⟩ := hf
    split at hf
    · rename_i ho
      subst ho
      simp only [Bool.and_eq_true, decide_eq_true_eq] at hf
      obtain ⟨h1, h2, h3⟩ := hf
      have hx : mm_x5 (95, a, k, d, ee) lo st h = some r := hx
      simp only [mm_x5] at hx
      split at hx
      · split at hx
        · rename_i q
          cases hx
          obtain ⟨q1, q2, q3, q4, q5, q6, q7, q8, q9⟩ := q
          exact mh_copy C hd (mm_wd_in h1) q1 q2 q3 q4 q5 q6 q7 q8 q9 ⟨by omega, by omega⟩ hl hs hh hq K
        · cases hx
      · cases hx
    · split at hf
      · rename_i ho
        subst ho
        simp only [Bool.and_eq_true, decide_eq_true_eq] at hf
        obtain ⟨h1, h2, h3⟩ := hf
        have hx : mm_x5 (98, a, k, d, ee) lo st h = some r := hx
        exact ml_max C hd (mm_wd_in h1) ⟨by omega, by omega⟩ (mm_x5room (Or.inl rfl) hx hRc) hx hl hs hh hq K
      · split at hf
        · rename_i ho
          subst ho
          simp only [Bool.and_eq_true, decide_eq_true_eq] at hf
          obtain ⟨h1, h2, h3⟩ := hf
          have hx : mm_x5 (99, a, k, d, ee) lo st h = some r := hx
          exact ml_min C hd (mm_wd_in h1) ⟨by omega, by omega⟩ (mm_x5room (Or.inr rfl) hx hRc) hx hl hs hh hq K
        · simp only [Bool.and_eq_true, decide_eq_true_eq] at hf
          exfalso
          obtain ⟨⟨⟨⟨h1, -⟩, -⟩, -⟩, -⟩ := hf
          omega
  case invokevirtual n =>
    simp only [mm_f, Bool.and_eq_true, decide_eq_true_eq] at hf
    obtain ⟨⟨rfl, rfl⟩, hf⟩ := hf
    split at hf
    · cases hf
    · simp only [Bool.and_eq_true, decide_eq_true_eq] at hf
      exfalso
      obtain ⟨⟨⟨⟨⟨h1, -⟩, -⟩, -⟩, -⟩, -⟩ := hf
      omega
  case invokespecial n =>
    simp only [mm_f, Bool.and_eq_true, decide_eq_true_eq] at hf
    obtain ⟨⟨rfl, rfl⟩, hf⟩ := hf
    split at hf
    · rename_i ho
      subst ho
      simp only [Bool.and_eq_true, decide_eq_true_eq] at hf
      obtain ⟨h1, h2, h3⟩ := hf
      have hx : mm_x5 (97, a, k, d, ee) lo st h = some r := hx
      simp only [mm_x5] at hx
      split at hx
      · split at hx
        · cases hx
        · rename_i q
          cases hx
          exact mh_oinit C hd q (mm_wd_in h1) ⟨by omega, by omega⟩ hl hs hh hq K
      · cases hx
    · simp only [Bool.and_eq_true, decide_eq_true_eq] at hf
      exfalso
      obtain ⟨⟨⟨⟨⟨h1, -⟩, -⟩, -⟩, -⟩, -⟩ := hf
      omega
  case ifCond cn off =>
    simp only [mm_f, Bool.and_eq_true, decide_eq_true_eq] at hf
    exfalso
    have := hf.1.1
    have : mm_cc cn ≤ 5 := by cases cn <;> decide
    omega
  case if_icmp cn off =>
    simp only [mm_f, Bool.and_eq_true, decide_eq_true_eq] at hf
    exfalso
    have := hf.1.1
    have : mm_cc cn ≤ 5 := by cases cn <;> decide
    omega
  case if_acmp cn off =>
    simp only [mm_f, Bool.and_eq_true, decide_eq_true_eq] at hf
    exfalso
    have := hf.1.1
    cases cn <;> (dsimp only at this; omega)
  case ifnull off =>
    simp only [mm_f, Bool.and_eq_true, decide_eq_true_eq] at hf
    exfalso
    have := hf.1.1
    omega
  case ifnonnull off =>
    simp only [mm_f, Bool.and_eq_true, decide_eq_true_eq] at hf
    exfalso
    have := hf.1.1
    omega
  case goto off =>
    simp only [mm_f, Bool.and_eq_true, decide_eq_true_eq] at hf
    exfalso
    have := hf.1.1
    omega
  case tableswitch df lw hw offs =>
    simp only [mm_f, Bool.and_eq_true, decide_eq_true_eq] at hf
    exfalso
    have := hf.1
    omega
  case ireturn =>
    simp only [mm_f, Bool.and_eq_true, decide_eq_true_eq] at hf
    exfalso
    rcases hf.2 with ⟨z, -⟩ | ⟨z, -⟩ <;> omega
  case lreturn =>
    simp only [mm_f, Bool.and_eq_true, decide_eq_true_eq] at hf
    exfalso
    have := hf.2.1
    omega
  case return_ =>
    simp only [mm_f, Bool.and_eq_true, decide_eq_true_eq] at hf
    exfalso
    have := hf.2.1
    omega
  case areturn =>
    simp only [mm_f, Bool.and_eq_true, decide_eq_true_eq] at hf
    exfalso
    have := hf.1.2
    omega
  all_goals exact absurd hf (by simp [mm_f])
end MX
