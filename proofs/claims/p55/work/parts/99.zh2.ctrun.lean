/-! two constructors that differ in their disks alone: the rest of the run is the same -/
def dk_i (i : mm_I) : Bool := decide ((i.1 = 3 ∨ i.1 = 6 ∨ i.1 = 9) ∧ i.2.1 = 3 ∨ i.1 = 5 ∧ (i.2.1 = 0 ∨ i.2.1 = 2) ∨ i.1 = 1 ∨ i.1 = 35 ∨ i.1 = 62 ∨ i.1 = 63 ∨ i.1 = 73 ∨ i.1 = 77 ∨ i.1 = 80)
section
variable {a b : Int} {v0 v2 v3 : mm_V} {i : mm_I} {s l : List mm_V} {h : mm_H} {r : List mm_V × List mm_V × mm_H}
theorem dk_L (hk : i.1 = 1 ∨ i.1 = 35 ∨ i.1 = 62 ∨ i.1 = 63 ∨ i.1 = 73 ∨ i.1 = 77 ∨ i.1 = 80) (e : mm_x i l s h = some r) : r.1 = l ∧ ∀ l', mm_x i l' s h = some (l', r.2) := by
  obtain ⟨o, p, q, u, w⟩ := i
  have hk : o = 1 ∨ o = 35 ∨ o = 62 ∨ o = 63 ∨ o = 73 ∨ o = 77 ∨ o = 80 := hk
  rcases hk with rfl | rfl | rfl | rfl | rfl | rfl | rfl
  · have e : some (l, zI q :: s, h) = some r := e
    cases e
    exact ⟨rfl, fun _ => rfl⟩
  · have e : mm_x1 (35, p, q, u, w) l s h = some r := e
    show r.1 = l ∧ ∀ l', mm_x1 (35, p, q, u, w) l' s h = some (l', r.2)
    unfold mm_x1 at e ⊢
    simp only at e ⊢
    split at e
    · cases e; exact ⟨rfl, fun _ => rfl⟩
    · cases e; exact ⟨rfl, fun _ => rfl⟩
    · cases e
  · have e : mm_x3 (62, p, q, u, w) l s h = some r := e
    show r.1 = l ∧ ∀ l', mm_x3 (62, p, q, u, w) l' s h = some (l', r.2)
    unfold mm_x3 at e ⊢
    simp only at e ⊢
    split at e
    · repeat' split at e
      all_goals first
        | (cases e; done)
        | (cases e; exact ⟨rfl, fun _ => by simp [*]⟩)
    · cases e
  · have e : mm_x3 (63, p, q, u, w) l s h = some r := e
    show r.1 = l ∧ ∀ l', mm_x3 (63, p, q, u, w) l' s h = some (l', r.2)
    unfold mm_x3 at e ⊢
    simp only at e ⊢
    split at e
    · split at e
      · cases e; exact ⟨rfl, fun _ => by simp [*]⟩
      · cases e
    · cases e
  · have e : mm_x4 (73, p, q, u, w) l s h = some r := e
    show r.1 = l ∧ ∀ l', mm_x4 (73, p, q, u, w) l' s h = some (l', r.2)
    unfold mm_x4 at e ⊢
    simp only at e ⊢
    split at e
    · repeat' split at e
      all_goals first
        | (cases e; done)
        | (cases e; exact ⟨rfl, fun _ => by simp [*]⟩)
    · cases e
  · have e : mm_x4 (77, p, q, u, w) l s h = some r := e
    show r.1 = l ∧ ∀ l', mm_x4 (77, p, q, u, w) l' s h = some (l', r.2)
    unfold mm_x4 at e ⊢
    simp only at e ⊢
    split at e
    · split at e
      · cases e; exact ⟨rfl, fun _ => by simp [*]⟩
      · cases e
    · cases e
  · have e : mm_x5 (80, p, q, u, w) l s h = some r := e
    show r.1 = l ∧ ∀ l', mm_x5 (80, p, q, u, w) l' s h = some (l', r.2)
    unfold mm_x5 at e ⊢
    simp only at e ⊢
    split at e
    · cases e; exact ⟨rfl, fun _ => by simp [*]⟩
    · cases e
theorem dk_x (hk : dk_i i = true) (e : mm_x i [v0, zI a, v2, v3] s h = some r) : ∃ w0 w2 w3, r.1 = [w0, zI a, w2, w3] ∧ mm_x i [v0, zI b, v2, v3] s h = some ([w0, zI b, w2, w3], r.2) := by
  unfold dk_i at hk
  rw [decide_eq_true_iff] at hk
  rcases hk with ⟨hk, h3⟩ | ⟨h5, h0⟩ | hk
  · obtain ⟨o, p, q, u, w⟩ := i
    have hk : o = 3 ∨ o = 6 ∨ o = 9 := hk
    have h3 : p = 3 := h3
    subst h3
    rcases hk with rfl | rfl | rfl
    · rcases v3 with (x | x) | (_ | x)
      · have e : some ([v0, zI a, v2, zI x], zI x :: s, h) = some r := e
        cases e; exact ⟨v0, v2, zI x, rfl, rfl⟩
      all_goals (have e : (none : mm_R) = some r := e; cases e)
    · rcases s with _ | ⟨(x | x) | (_ | x), s⟩
      · have e : (none : mm_R) = some r := e; cases e
      · rcases v2 with (y | y) | (_ | y)
        · have e : some ([v0, zI a, zI y, zI x], s, h) = some r := e
          cases e; exact ⟨v0, zI y, zI x, rfl, rfl⟩
        · have e : some ([v0, zI a, zU, zI x], s, h) = some r := e
          cases e; exact ⟨v0, zU, zI x, rfl, rfl⟩
        · have e : some ([v0, zI a, zU, zI x], s, h) = some r := e
          cases e; exact ⟨v0, zU, zI x, rfl, rfl⟩
        · have e : some ([v0, zI a, zR y, zI x], s, h) = some r := e
          cases e; exact ⟨v0, zR y, zI x, rfl, rfl⟩
      all_goals (have e : (none : mm_R) = some r := e; cases e)
    · rcases v3 with (x | x) | (_ | x)
      · have e : some ([v0, zI a, v2, zI (mm_w (x + q))], s, h) = some r := e
        cases e; exact ⟨v0, v2, zI (mm_w (x + q)), rfl, rfl⟩
      all_goals (have e : (none : mm_R) = some r := e; cases e)
  · obtain ⟨o, p, q, u, w⟩ := i
    have h5 : o = 5 := h5
    have h0 : p = 0 ∨ p = 2 := h0
    subst h5
    rcases h0 with rfl | rfl
    · rcases v0 with (x | x) | (_ | x)
      · have e : (none : mm_R) = some r := e; cases e
      · have e : (none : mm_R) = some r := e; cases e
      · have e : (none : mm_R) = some r := e; cases e
      · have e : some ([zR x, zI a, v2, v3], zR x :: s, h) = some r := e
        cases e; exact ⟨zR x, v2, v3, rfl, rfl⟩
    · rcases v2 with (x | x) | (_ | x)
      · have e : (none : mm_R) = some r := e; cases e
      · have e : (none : mm_R) = some r := e; cases e
      · have e : (none : mm_R) = some r := e; cases e
      · have e : some ([v0, zI a, zR x, v3], zR x :: s, h) = some r := e
        cases e; exact ⟨v0, zR x, v3, rfl, rfl⟩
  · obtain ⟨q1, q2⟩ := dk_L hk e
    exact ⟨v0, v2, v3, q1, q2 _⟩
end
def dk_ok (i : mm_I) : Bool := tt_n true tt_D i && (if i.1 = 0 ∨ 40 ≤ i.1 ∧ i.1 < 60 then decide ((i.1 = 0 ∨ i.1 = 49 ∨ i.1 = 56) ∧ 1 ≤ i.2.1 ∧ i.2.1 ≤ 6) else (decide (85 ≤ i.1 ∧ i.1 < 89) || decide (90 ≤ i.1 ∧ i.1 < 95) || dk_i i))
theorem dk_b {b : Nat} (h : 1 ≤ b ∧ b ≤ 6) : ∀ i ∈ mm_blk 0 b, dk_ok i = true := by
  have e : ∀ b ∈ [1, 2, 3, 4, 5, 6], (mm_blk 0 b).all dk_ok = true := by decide +kernel
  have := e b (by simp; omega)
  rw [List.all_eq_true] at this
  exact this
theorem ct_run {a b c dn ds N : Int} {P : Int → Prop} (K : tt_K c dn N P) : ∀ (f : Nat) (is : List mm_I) (v0 v2 v3 : mm_V) (s : List mm_V) (h : mm_H) (v : mm_V) (h1 : mm_H), mm_run f 0 is [v0, zI a, v2, v3] s h = some (v, h1) → (∀ i ∈ is, dk_ok i = true) → mm_SLs tt_S [v0, zI a, v2, v3] → mm_SLs tt_S s → tt_C P h → h1.2.2.1 ≤ N →
    ∀ k, mm_run f 0 is [tt_V c v0, zI b, tt_V c v2, tt_V c v3] (s.map (tt_V c)) (tt_m c true dn ds h k) = some (tt_V c v, tt_m c true dn ds h1 k) := by
  intro f
  induction f with
  | zero => intro is v0 v2 v3 s h v h1 e; simp [mm_run] at e
  | succ f ih =>
    intro is v0 v2 v3 s h v h1 e hi hl hs hc hN k
    cases is with
    | nil => simp [mm_run] at e
    | cons i is =>
      have hi0 := hi i List.mem_cons_self
      have hi2 : ∀ j ∈ is, dk_ok j = true := fun j q => hi j (List.mem_cons_of_mem _ q)
      unfold dk_ok at hi0
      rw [Bool.and_eq_true] at hi0
      obtain ⟨hi1, hi3⟩ := hi0
      unfold mm_run at e
      by_cases c1 : i.1 = 0 ∨ 40 ≤ i.1 ∧ i.1 < 60
      · rw [if_pos c1] at e
        rw [if_pos c1, decide_eq_true_iff] at hi3
        cases hj : mm_j i s with
        | none => simp only [hj] at e; cases e
        | some w =>
          have hjk := fun o s1 (w : mm_j i s = some (o, s1)) => tt_j K.1 hs w
          rcases w with ⟨_ | b2, s1⟩ <;> simp only [hj] at e
          · have q3 := ih is v0 v2 v3 s1 h v h1 e hi2 hl (mm_jS hs hj) hc hN k
            unfold mm_run; rw [if_pos c1]; simp only [hjk _ _ hj]; exact q3
          · have eb : b2 = i.2.1 := by
              obtain ⟨o, p, q, u, w⟩ := i
              have hi3 : (o = 0 ∨ o = 49 ∨ o = 56) ∧ _ := hi3
              rcases hi3.1 with rfl | rfl | rfl
              · have hj : some (some p, s) = some (some b2, s1) := hj
                cases hj; rfl
              · unfold mm_j at hj
                simp only at hj
                split at hj
                · have h1 := congrArg Prod.fst (Option.some.inj hj)
                  simp only at h1
                  split at h1
                  · cases h1
                  · cases h1; rfl
                · cases hj
              · have hj : some (some p, s) = some (some b2, s1) := hj
                cases hj; rfl
            have q3 := ih _ v0 v2 v3 s1 h v h1 e (dk_b (by rw [eb]; exact hi3.2)) hl (mm_jS hs hj) hc hN k
            unfold mm_run; rw [if_pos c1]; simp only [hjk _ _ hj]; exact q3
      · rw [if_neg c1] at e hi3
        by_cases c2 : 85 ≤ i.1 ∧ i.1 < 89
        · rw [if_pos c2] at e
          cases hcl : mm_cl i s h with
          | none => simp only [hcl] at e; cases e
          | some w =>
            rcases w with ⟨a2, s1⟩
            simp only [hcl] at e
            obtain ⟨ha, hs1⟩ := mm_clS hs hcl
            cases hr : mm_run f i.2.1 (mm_blk i.2.1 0) (mm_ent i.2.1 a2) [] h with
            | none => simp only [hr] at e; cases e
            | some b2 =>
              rcases b2 with ⟨w, h2⟩
              simp only [hr] at e
              have hRi := (tt_nI hi1).2.2 c2.1 c2.2
              obtain ⟨p1, p2, p3⟩ := tt_run (ds := ds) K tt_RD f _ _ _ _ h w h2 hr hRi (tt_RD _ hRi 0) (mm_SLE ha) mm_SLn hc (by have := mm_mono _ _ _ _ _ _ _ _ e; omega)
              have q3 := ih is v0 v2 v3 _ h2 v h1 e hi2 hl (mm_SLp p1 hs1) p2 hN k
              have hcl2 : mm_cl i (s.map (tt_V c)) (tt_m c true dn ds h k) = some (a2.map (tt_V c), s1.map (tt_V c)) := tt_cl K hs hc hcl
              have p3k : mm_run f i.2.1 (mm_blk i.2.1 0) (mm_ent i.2.1 (a2.map (tt_V c))) [] (tt_m c true dn ds h k) = some (tt_V c w, tt_m c true dn ds h2 k) := by
                rw [tt_en]
                exact p3 k
              unfold mm_run
              rw [if_neg c1, if_pos c2]
              simp only [hcl2, p3k, tt_pu]
              exact q3
        · rw [if_neg c2] at e
          by_cases c3 : 90 ≤ i.1 ∧ i.1 < 95
          · rw [if_pos c3] at e
            cases hr : mm_rt i s with
            | none => simp only [hr] at e; cases e
            | some w =>
              simp only [hr] at e
              cases e
              unfold mm_run
              rw [if_neg c1, if_neg c2, if_pos c3]
              simp only [tt_rt hr]
          · rw [if_neg c3] at e
            have hd : dk_i i = true := by
              rw [decide_eq_false c2, decide_eq_false c3] at hi3
              exact hi3
            cases hx : mm_x i [v0, zI a, v2, v3] s h with
            | none => simp only [hx] at e; cases e
            | some r =>
              simp only [hx] at e
              obtain ⟨p1, p2, p3, p4⟩ := tt_x (ds := ds) K hi1 (by have := mm_mono _ _ _ _ _ _ _ _ e; omega) hl hs hc hx
              obtain ⟨w0, w2, w3, er, -⟩ := dk_x (b := b) hd hx
              obtain ⟨r1, r2⟩ := r
              have er : r1 = [w0, zI a, w2, w3] := er
              subst er
              obtain ⟨u0, u2, u3, eu, p5⟩ := dk_x (b := b) hd (p4 k)
              have eu : [tt_V c w0, zI a, tt_V c w2, tt_V c w3] = [u0, zI a, u2, u3] := eu
              simp only [List.cons.injEq] at eu
              obtain ⟨z0, -, z2, z3, -⟩ := eu
              subst z0 z2 z3
              have q3 := ih is _ _ _ _ _ v h1 e hi2 p1 p2 p3 hN k
              unfold mm_run
              rw [if_neg c1, if_neg c2, if_neg c3]
              simp only [p5]
              exact q3
