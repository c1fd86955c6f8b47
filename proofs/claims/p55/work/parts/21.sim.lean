/-! returns, and the induction -/
theorem mm_rtI90 {q : Nat × Int × Nat × Nat} {st : List mm_V} {v : mm_V} (h : mm_rt (90, q) st = some v) : ∃ x, st = [zI x] ∧ v = zI x := by
  have h : (match (generalizing := false) st with | [.inl (.inl x)] => some (zI x) | _ => none) = some v := h
  split at h
  · cases h; exact ⟨_, rfl, rfl⟩
  · cases h
theorem mm_rtI91 {q : Nat × Int × Nat × Nat} {st : List mm_V} {v : mm_V} (h : mm_rt (91, q) st = some v) : ∃ x, st = [zL x] ∧ v = zL x := by
  have h : (match (generalizing := false) st with | [.inl (.inr x)] => some (zL x) | _ => none) = some v := h
  split at h
  · cases h; exact ⟨_, rfl, rfl⟩
  · cases h
theorem mm_rtI92 {q : Nat × Int × Nat × Nat} {st : List mm_V} {v : mm_V} (h : mm_rt (92, q) st = some v) : ∃ x, st = [zR x] ∧ v = zR x := by
  have h : (match (generalizing := false) st with | [.inr (some x)] => some (zR x) | _ => none) = some v := h
  split at h
  · cases h; exact ⟨_, rfl, rfl⟩
  · cases h
theorem mm_rtI93 {q : Nat × Int × Nat × Nat} {st : List mm_V} {v : mm_V} (h : mm_rt (93, q) st = some v) : st = [] ∧ v = zU := by
  have h : (match (generalizing := false) st with | [] => some zU | _ => none) = some v := h
  split at h
  · cases h; exact ⟨rfl, rfl⟩
  · cases h
theorem mm_rtI94 {a : Nat} {q : Int × Nat × Nat} {st : List mm_V} {v : mm_V} (h : mm_rt (94, a, q) st = some v) : ∃ x, st = [zI x] ∧ v = zI x ∧ (a = 0 ∧ (x = 0 ∨ x = 1) ∨ a = 1 ∧ -128 ≤ x ∧ x < 128 ∨ a = 2 ∧ 0 ≤ x ∧ x < 65536) := by
  have h : (match (generalizing := false) st with | [.inl (.inl x)] => if a = 0 ∧ (x = 0 ∨ x = 1) ∨ a = 1 ∧ -128 ≤ x ∧ x < 128 ∨ a = 2 ∧ 0 ≤ x ∧ x < 65536 then some (zI x) else none | _ => none) = some v := h
  split at h
  · split at h
    · rename_i hc
      cases h; exact ⟨_, rfl, rfl, hc⟩
    · cases h
  · cases h
section MRT
variable {y pc len : Nat} {g : mm_G} {st : List mm_V} {v : mm_V} {vs : List Value} {op a d ee : Nat} {k : Int} {ins : Instr}
theorem mm_rt1I {st : List mm_V} {x : Int} {vs : List Value} (h : st = [zI x]) (hs : mm_rs g st vs) : ∃ u : Int32, vs = [.int u] ∧ u.toInt = x := by
  subst h
  obtain ⟨w, v', rfl, ⟨u, rfl, hu⟩, hn⟩ := hs
  have hn : v' = [] := hn
  subst hn
  exact ⟨u, rfl, hu⟩
theorem mm_sR (hf : mm_f y pc (op, a, k, d, ee) ins len = true) (ho : 90 ≤ op ∧ op < 95) (hx : mm_rt (op, a, k, d, ee) st = some v) (hs : mm_rs g st vs) : len = 1 ∧ mm_isr y g v ins vs := by
  cases ins
  case ireturn =>
    simp only [mm_f, Bool.and_eq_true, decide_eq_true_eq] at hf
    obtain ⟨rfl, hf⟩ := hf
    refine ⟨rfl, Or.inl ⟨rfl, ?_⟩⟩
    rcases hf with ⟨h1, h2⟩ | ⟨h1, h2⟩
    · have h1 : op = 90 := h1
      subst h1
      obtain ⟨x, rfl, rfl⟩ := mm_rtI90 hx
      obtain ⟨u, rfl, hu⟩ := mm_rt1I rfl hs
      exact ⟨u, .int, rfl, by rw [hu], h2, rfl⟩
    · have h1 : op = 94 := h1
      subst h1
      obtain ⟨x, rfl, rfl, hc⟩ := mm_rtI94 hx
      obtain ⟨u, rfl, hu⟩ := mm_rt1I rfl hs
      have h2 : a = 0 ∧ mm_rt1 y = some .boolean ∨ a = 1 ∧ mm_rt1 y = some .byte ∨ a = 2 ∧ mm_rt1 y = some .char := h2
      rcases h2 with ⟨e, h2⟩ | ⟨e, h2⟩ | ⟨e, h2⟩
      · refine ⟨u, .boolean, rfl, by rw [hu], h2, ?_⟩
        rcases hc with ⟨-, hc⟩ | ⟨h0, -⟩ | ⟨h0, -⟩
        · rcases hc with hc | hc
          · have : u = 0 := by rw [mm_eq0, hu, hc]
            subst this; rfl
          · have : u = 1 := by rw [mm_eq32, hu, hc]; rfl
            subst this; rfl
        · omega
        · omega
      · refine ⟨u, .byte, rfl, by rw [hu], h2, ?_⟩
        have hb : -128 ≤ u.toInt ∧ u.toInt < 128 := by omega
        show Value.int u.toInt8.toInt32 = _
        congr 1
        rw [mm_eq32, mm_i2bT]
        unfold mm_b
        omega
      · refine ⟨u, .char, rfl, by rw [hu], h2, ?_⟩
        have hb : 0 ≤ u.toInt ∧ u.toInt < 65536 := by omega
        have e2 : u = nI u.toInt.toNat := by
          rw [mm_eq32, nI_toInt (by omega)]
          omega
        rw [e2]
        exact (pk_charN (by omega)).1
  case lreturn =>
    simp only [mm_f, Bool.and_eq_true, decide_eq_true_eq] at hf
    obtain ⟨rfl, h1, h2⟩ := hf
    have h1 : op = 91 := h1
    subst h1
    obtain ⟨x, rfl, rfl⟩ := mm_rtI91 hx
    obtain ⟨w, v', rfl, ⟨u, rfl, hu⟩, hn⟩ := hs
    have hn : v' = [] := hn
    subst hn
    exact ⟨rfl, Or.inr (Or.inl ⟨rfl, u, rfl, by rw [hu], h2⟩)⟩
  case areturn =>
    simp only [mm_f, Bool.and_eq_true, decide_eq_true_eq] at hf
    obtain ⟨⟨rfl, h1⟩, h2⟩ := hf
    have h1 : op = 92 := h1
    subst h1
    obtain ⟨x, rfl, rfl⟩ := mm_rtI92 hx
    obtain ⟨w, v', rfl, hw, hn⟩ := hs
    have hn : v' = [] := hn
    subst hn
    split at h2
    · rename_i n hn
      exact ⟨rfl, Or.inr (Or.inr (Or.inl ⟨rfl, _, w, _, rfl, rfl, hw, hn, Or.inl ⟨_, rfl⟩⟩))⟩
    · rename_i n hn
      exact ⟨rfl, Or.inr (Or.inr (Or.inl ⟨rfl, _, w, _, rfl, rfl, hw, hn, Or.inr ⟨_, rfl⟩⟩))⟩
    · cases h2
  case return_ =>
    simp only [mm_f, Bool.and_eq_true, decide_eq_true_eq] at hf
    obtain ⟨rfl, h1, h2⟩ := hf
    have h1 : op = 93 := h1
    subst h1
    obtain ⟨rfl, rfl⟩ := mm_rtI93 hx
    have hs : vs = [] := hs
    exact ⟨rfl, Or.inr (Or.inr (Or.inr ⟨rfl, hs, rfl, h2⟩))⟩
  case getfield n =>
    exfalso
    simp only [mm_f, Bool.and_eq_true, decide_eq_true_eq] at hf
    obtain ⟨-, hf⟩ := hf
    (repeat' split at hf) <;> (try simp only [Bool.and_eq_true, Bool.or_eq_true, decide_eq_true_eq] at hf) <;> first
      | (cases hf; done)
      | omega
      | (have := hf.1; omega)
      | (have := hf.1.1; omega)
      | (have := hf.1.2; omega)
      | (have := hf.1.1.1; omega)
      | (have := hf.1.1.1.1; omega)
      | (have := hf.1.1.1.1.1; omega)
  case invokestatic n =>
    exfalso
    simp only [mm_f, Bool.and_eq_true, decide_eq_true_eq] at hf
    obtain ⟨-, hf⟩ := hf
    (repeat' split at hf) <;> (try simp only [Bool.and_eq_true, Bool.or_eq_true, decide_eq_true_eq] at hf) <;> first
      | (cases hf; done)
      | omega
      | (have := hf.1; omega)
      | (have := hf.1.1; omega)
      | (have := hf.1.2; omega)
      | (have := hf.1.1.1; omega)
      | (have := hf.1.1.1.1; omega)
      | (have := hf.1.1.1.1.1; omega)
  case invokevirtual n =>
    exfalso
    simp only [mm_f, Bool.and_eq_true, decide_eq_true_eq] at hf
    obtain ⟨-, hf⟩ := hf
    (repeat' split at hf) <;> (try simp only [Bool.and_eq_true, Bool.or_eq_true, decide_eq_true_eq] at hf) <;> first
      | (cases hf; done)
      | omega
      | (have := hf.1; omega)
      | (have := hf.1.1; omega)
      | (have := hf.1.2; omega)
      | (have := hf.1.1.1; omega)
      | (have := hf.1.1.1.1; omega)
      | (have := hf.1.1.1.1.1; omega)
  case invokespecial n =>
    exfalso
    simp only [mm_f, Bool.and_eq_true, decide_eq_true_eq] at hf
    obtain ⟨-, hf⟩ := hf
    (repeat' split at hf) <;> (try simp only [Bool.and_eq_true, Bool.or_eq_true, decide_eq_true_eq] at hf) <;> first
      | (cases hf; done)
      | omega
      | (have := hf.1; omega)
      | (have := hf.1.1; omega)
      | (have := hf.1.2; omega)
      | (have := hf.1.1.1; omega)
      | (have := hf.1.1.1.1; omega)
      | (have := hf.1.1.1.1.1; omega)
  case ifCond cn off =>
    exfalso
    simp only [mm_f, Bool.and_eq_true, decide_eq_true_eq] at hf
    have := hf.1.1
    cases cn <;> (dsimp only [mm_cc] at this; omega)
  case if_icmp cn off =>
    exfalso
    simp only [mm_f, Bool.and_eq_true, decide_eq_true_eq] at hf
    have := hf.1.1
    cases cn <;> (dsimp only [mm_cc] at this; omega)
  case if_acmp cn off =>
    exfalso
    simp only [mm_f, Bool.and_eq_true, decide_eq_true_eq] at hf
    have := hf.1.1
    cases cn <;> (dsimp only at this; omega)
  all_goals (exfalso; simp only [mm_f, Bool.and_eq_true, decide_eq_true_eq, Bool.false_eq_true] at hf)
  all_goals first
    | omega
    | (have := hf.1; omega)
    | (have := hf.1.1; omega)
    | (have := hf.1.1.1; omega)
    | (have := hf.1.2; omega)
    | (have := hf.2.1; omega)
    | (have := hf.1.1.2; omega)
    | (rcases hf.2 with ⟨q, -⟩ | ⟨q, -⟩ <;> omega)
end MRT
theorem mm_jN {op a d ee : Nat} {k : Int} {st : List mm_V} {z : Option Nat × List mm_V} (hx : mm_j (op, a, k, d, ee) st = some z) : (op = 56 ∨ op = 57) → z.1 ≠ none := by
  rintro (rfl | rfl) e
  · have hx : some (some a, st) = some z := hx
    cases hx; cases e
  · have hx : (match (generalizing := false) st with | .inl (.inl x) :: s => (match mm_swt[a]? with | some t => some (some (if t.1 ≤ x ∧ x < t.1 + t.2.1.length then t.2.1.getD (x - t.1).toNat 0 else t.2.2), s) | none => none) | _ => none) = some z := hx
    split at hx
    · split at hx
      · cases hx; cases e
      · cases hx
    · cases hx
theorem mm_sim (HM : ∀ y, mm_rc y = true → mm_okM y = true) (H0 : ∀ y, mm_rc y = true → mm_stt y 0 = some 0) (HC : ∀ y, mm_rc y = true → mm_cP y) : ∀ f, mm_P f := by
  intro f
  induction f with
  | zero => intro y is lo st h r h1 hr; cases hr
  | succ f IH =>
    intro y is lo st h r h1 hr pc hck hY p l e R s m args below meth c H locs cells slots Q g ls vs C hl hs hh hq hRc hRf K
    cases is with
    | nil => cases hr
    | cons i is =>
      obtain ⟨op, a, k, d, ee⟩ := i
      have mn := mm_mono _ _ _ _ _ _ _ _ hr
      simp only [mm_run] at hr
      by_cases h0 : op = 0
      · subst h0
        rw [if_pos (Or.inl rfl)] at hr
        have hr : mm_run f y (mm_blk y a) lo st h = some (r, h1) := hr
        simp only [mm_chk] at hck
        have hck : mm_stt y a = some pc := by simpa using hck
        exact IH y _ lo st h r h1 hr pc (mm_blkOk hY hck) hY p l e R s m args below meth c H locs cells slots Q g ls vs C hl hs hh hq hRc hRf K
      · have hck2 : (match decode (mm_by y) pc with | .ok (ins, len) => mm_f y pc (op, a, k, d, ee) ins len && (mm_end op || mm_chk y (pc + len) is) | .error _ => false) = true := by
          unfold mm_chk at hck
          rw [if_neg h0] at hck
          exact hck
        cases hd : decode (mm_by y) pc with
        | error er => rw [hd] at hck2; cases hck2
        | ok il =>
          obtain ⟨ins, len⟩ := il
          rw [hd] at hck2
          have hck2 : (mm_f y pc (op, a, k, d, ee) ins len && (mm_end op || mm_chk y (pc + len) is)) = true := hck2
          rw [Bool.and_eq_true, Bool.or_eq_true] at hck2
          obtain ⟨hf, hgo⟩ := hck2
          by_cases hj : 40 ≤ op ∧ op < 60
          · rw [if_pos (Or.inr hj)] at hr
            cases hx : mm_j (op, a, k, d, ee) st with
            | none => rw [hx] at hr; cases hr
            | some z =>
              rw [hx] at hr
              refine mm_sJ C hd hf hj hx hl hs hh hq (fun pc' k1 k2 ls' vs' H' locs' cells' slots' hl' hs' hh' hq' e1 e2 => ?_)
              have e1 : (cells' : Int) - h.2.2.1 = cells - h.2.2.1 := e1
              have e2 : (slots' : Int) - h.2.2.2 = slots - h.2.2.2 := e2
              obtain ⟨z1, z2⟩ := z
              cases z1 with
              | some b =>
                have hr : mm_run f y (mm_blk y b) lo z2 h = some (r, h1) := hr
                exact IH y _ lo z2 h r h1 hr pc' (mm_blkOk hY (k1 b rfl)) hY p l e R s m args below meth c H' locs' cells' slots' Q g ls' vs' C hl' hs' hh' hq' ⟨by omega, by omega⟩ hRf
                  (fun H2 l2 c2 s2 pc2 ls2 ins2 vs2 a1 a2 a3 a4 a5 a6 => K H2 l2 c2 s2 pc2 ls2 ins2 vs2 a1 a2 a3 a4 (by omega) (by omega))
              | none =>
                have hr : mm_run f y is lo z2 h = some (r, h1) := hr
                have e := k2 rfl
                subst e
                have hgo2 : mm_chk y (pc + len) is = true := by
                  rcases hgo with q | q
                  · exfalso
                    have q : op = 56 ∨ op = 57 ∨ 90 ≤ op ∧ op < 95 := of_decide_eq_true q
                    exact mm_jN hx (by omega) rfl
                  · exact q
                exact IH y _ lo z2 h r h1 hr _ hgo2 hY p l e R s m args below meth c H' locs' cells' slots' Q g ls' vs' C hl' hs' hh' hq' ⟨by omega, by omega⟩ hRf
                  (fun H2 l2 c2 s2 pc2 ls2 ins2 vs2 a1 a2 a3 a4 a5 a6 => K H2 l2 c2 s2 pc2 ls2 ins2 vs2 a1 a2 a3 a4 (by omega) (by omega))
          · rw [if_neg (by omega)] at hr
            by_cases hc : 85 ≤ op ∧ op < 89
            · rw [if_pos hc] at hr
              have hgo2 : mm_chk y (pc + len) is = true := by
                rcases hgo with q | q
                · exfalso
                  have q : op = 56 ∨ op = 57 ∨ 90 ≤ op ∧ op < 95 := of_decide_eq_true q
                  omega
                · exact q
              cases hx : mm_cl (op, a, k, d, ee) st h with
              | none => rw [hx] at hr; cases hr
              | some q =>
                obtain ⟨ma, s1⟩ := q
                rw [hx] at hr
                cases hrun : mm_run f a (mm_blk a 0) (mm_ent a ma) [] h with
                | none => simp only [hrun] at hr; cases hr
                | some vh =>
                  obtain ⟨v, h2⟩ := vh
                  simp only [hrun] at hr
                  have hr : mm_run f y is lo (mm_push v s1) h2 = some (r, h1) := hr
                  have m1 := mm_mono _ _ _ _ _ _ _ _ hrun
                  have m2 := mm_mono _ _ _ _ _ _ _ _ hr
                  refine mm_sC IH HM H0 HC C hd hf hc hx hrun hl hs hh hq ⟨by omega, by omega⟩ hRf (fun ls' vs' H' locs' cells' slots' hl' hs' hh' hq' e1 e2 => ?_)
                  have e1 : (cells' : Int) - h2.2.2.1 = cells - h.2.2.1 := e1
                  have e2 : (slots' : Int) - h2.2.2.2 = slots - h.2.2.2 := e2
                  exact IH y is lo (mm_push v s1) h2 r h1 hr _ hgo2 hY p l e R s m args below meth c H' locs' cells' slots' Q g ls' vs' C hl' hs' hh' hq' ⟨by omega, by omega⟩ hRf
                    (fun H3 l2 c2 s2 pc2 ls2 ins2 vs2 a1 a2 a3 a4 a5 a6 => K H3 l2 c2 s2 pc2 ls2 ins2 vs2 a1 a2 a3 a4 (by omega) (by omega))
            · rw [if_neg hc] at hr
              by_cases hr9 : 90 ≤ op ∧ op < 95
              · rw [if_pos hr9] at hr
                cases hx : mm_rt (op, a, k, d, ee) st with
                | none => rw [hx] at hr; cases hr
                | some v =>
                  rw [hx] at hr
                  have hr : some (v, h) = some (r, h1) := hr
                  cases hr
                  obtain ⟨rfl, hi⟩ := mm_sR hf hr9 hx hs
                  exact K H locs cells slots pc ls ins vs hd hi hh hq rfl rfl
              · rw [if_neg hr9] at hr
                have hgo2 : mm_chk y (pc + len) is = true := by
                  rcases hgo with q | q
                  · exfalso
                    have q : op = 56 ∨ op = 57 ∨ 90 ≤ op ∧ op < 95 := of_decide_eq_true q
                    omega
                  · exact q
                cases hx : mm_x (op, a, k, d, ee) lo st h with
                | none => rw [hx] at hr; cases hr
                | some q =>
                  rw [hx] at hr
                  have hr : mm_run f y is q.1 q.2.1 q.2.2 = some (r, h1) := hr
                  have m1 := mm_x_mono hx
                  have m2 := mm_mono _ _ _ _ _ _ _ _ hr
                  refine mm_sL C hd hf ⟨by omega, hc, hr9⟩ hx hl hs hh hq ⟨by omega, by omega⟩ hRf (fun ls' vs' H' locs' cells' slots' hl' hs' hh' hq' e1 e2 => ?_)
                  exact IH y is q.1 q.2.1 q.2.2 r h1 hr _ hgo2 hY p l e R s m args below meth c H' locs' cells' slots' Q g ls' vs' C hl' hs' hh' hq' ⟨by omega, by omega⟩ hRf
                    (fun H3 l2 c2 s2 pc2 ls2 ins2 vs2 a1 a2 a3 a4 a5 a6 => K H3 l2 c2 s2 pc2 ls2 ins2 vs2 a1 a2 a3 a4 (by omega) (by omega))
