/-! counting: rows here and blocks there -/
theorem sm_cgI {f g : Int → Int} (k : Nat) (h : ∀ i : Int, 0 ≤ i → i < k → f i = g i) : mm_sm f k = mm_sm g k := sm_congr k (fun i a b => h i (by omega) (by omega))
theorem sm_1I {f g : Int → Int} (k : Nat) (j : Int) (h0 : 0 ≤ j) (hj : j < k) (h : ∀ i : Int, 0 ≤ i → i < k → i ≠ j → g i = f i) : mm_sm g k = mm_sm f k + (g j - f j) := sm_one k j h0 hj (fun i a b c => h i (by omega) (by omega) c)
theorem sm_0I {f : Int → Int} (k : Nat) (h : ∀ i : Int, 0 ≤ i → i < k → f i = 0) : mm_sm f k = 0 := sm_zero k (fun i a b => h i (by omega) (by omega))
noncomputable def kk_cm (P : Int → Prop) (N : Nat) : Int := mm_sm (fun b => kk_b (1 ≤ b ∧ P b)) N
theorem kk_cmnn (P : Int → Prop) (N : Nat) : 0 ≤ kk_cm P N := sm_nn _ (fun _ _ _ => (kk_bb _).1)
theorem kk_bc {P R : Prop} (h : P ↔ R) : kk_b P = kk_b R := by rw [propext h]
theorem kk_cmc {P R : Int → Prop} {N : Nat} (h : ∀ b : Int, 1 ≤ b → b < N → (P b ↔ R b)) : kk_cm P N = kk_cm R N := sm_cgI _ (fun b _ b2 => kk_bc ⟨fun q => ⟨q.1, (h b q.1 b2).1 q.2⟩, fun q => ⟨q.1, (h b q.1 b2).2 q.2⟩⟩)
theorem kk_cmrem {P : Int → Prop} {N : Nat} {v : Int} (hv : 1 ≤ v ∧ v < N) (hp : P v) : kk_cm P N = kk_cm (fun b => P b ∧ b ≠ v) N + 1 := by
  have e := sm_1I (f := fun b => kk_b (1 ≤ b ∧ P b ∧ b ≠ v)) (g := fun b => kk_b (1 ≤ b ∧ P b)) N v (by omega) (by omega) (fun b b1 b2 b3 => kk_bc ⟨fun q => ⟨q.1, q.2, b3⟩, fun q => ⟨q.1, q.2.1⟩⟩)
  have e2 : kk_b (1 ≤ v ∧ P v) = 1 := kk_b1 ⟨hv.1, hp⟩
  have e3 : kk_b (1 ≤ v ∧ P v ∧ v ≠ v) = 0 := kk_b0 (fun q => q.2.2 rfl)
  simp only [e2, e3] at e
  exact e
/-- what goes into another without meeting is at most as much -/
theorem kk_cmle (M : Nat) (R : Int → Int → Prop) (hR : ∀ r r2 b, R r b → R r2 b → r = r2) : ∀ (N : Nat) (P Q : Int → Prop), (∀ r : Int, 1 ≤ r → r < N → P r → ∃ b : Int, (1 ≤ b ∧ b < M) ∧ Q b ∧ R r b) → kk_cm P N ≤ kk_cm Q M := by
  intro N
  induction N with
  | zero => intro P Q _; exact kk_cmnn Q M
  | succ N ih =>
    intro P Q h
    by_cases c : 1 ≤ (N : Int) ∧ P N
    · obtain ⟨b, b1, b2, b3⟩ := h N c.1 (by omega) c.2
      have i := ih P (fun x => Q x ∧ x ≠ b) (fun r r1 r2 r3 => by
        obtain ⟨b', q1, q2, q3⟩ := h r r1 (by omega) r3
        refine ⟨b', q1, ⟨q2, ?_⟩, q3⟩
        rintro rfl
        have := hR _ _ _ q3 b3
        omega)
      have e := kk_cmrem (P := Q) (N := M) b1 b2
      have e2 : kk_cm P (N + 1) = kk_cm P N + 1 := by
        show kk_cm P N + kk_b (1 ≤ (N : Int) ∧ P N) = _
        rw [kk_b1 c]
      omega
    · have e2 : kk_cm P (N + 1) = kk_cm P N := by
        show kk_cm P N + kk_b (1 ≤ (N : Int) ∧ P N) = _
        rw [kk_b0 c]; omega
      rw [e2]
      exact ih P Q (fun r r1 r2 r3 => h r r1 (by omega) r3)
theorem kk_cmeq {N M : Nat} {P Q : Int → Prop} {R : Int → Int → Prop} (h1 : ∀ r : Int, 1 ≤ r → r < N → P r → ∃ b : Int, (1 ≤ b ∧ b < M) ∧ Q b ∧ R r b) (h2 : ∀ b : Int, 1 ≤ b → b < M → Q b → ∃ r : Int, (1 ≤ r ∧ r < N) ∧ P r ∧ R r b) (i1 : ∀ r r2 b, R r b → R r2 b → r = r2) (i2 : ∀ r b b2, R r b → R r b2 → b = b2) : kk_cm P N = kk_cm Q M :=
  Int.le_antisymm (kk_cmle M R i1 N P Q h1) (kk_cmle N (fun b r => R r b) (fun b b2 r q1 q2 => i2 r b b2 q1 q2) M Q P h2)
theorem kk_cntm (P : Int → Prop) : kk_cnt P = kk_cm P 3001 := rfl
theorem kk_cntd {P Q : Int → Prop} : kk_cnt (fun b => P b ∨ Q b) - kk_cnt P = kk_cnt (fun b => Q b ∧ ¬ P b) := by
  have e := sm_add (fun b => kk_b (1 ≤ b ∧ P b)) (fun b => kk_b (1 ≤ b ∧ Q b ∧ ¬ P b)) 3001
  have e2 : kk_cnt (fun b => P b ∨ Q b) = mm_sm (fun b => kk_b (1 ≤ b ∧ P b) + kk_b (1 ≤ b ∧ Q b ∧ ¬ P b)) 3001 := sm_cgI _ (fun b _ _ => by
    by_cases c : 1 ≤ b
    · by_cases d : P b
      · rw [kk_b1 ⟨c, Or.inl d⟩, kk_b1 ⟨c, d⟩, kk_b0 (fun q => q.2.2 d)]; rfl
      · by_cases g : Q b
        · rw [kk_b1 ⟨c, Or.inr g⟩, kk_b0 (fun q => d q.2), kk_b1 ⟨c, g, d⟩]; rfl
        · rw [kk_b0 (fun q => by rcases q.2 with w | w; exact d w; exact g w), kk_b0 (fun q => d q.2), kk_b0 (fun q => g q.2.1)]; rfl
    · rw [kk_b0 (fun q => c q.1), kk_b0 (fun q => c q.1), kk_b0 (fun q => c q.1)]; rfl)
  rw [e2, e]
  show (mm_sm (fun b => kk_b (1 ≤ b ∧ P b)) 3001 + mm_sm (fun b => kk_b (1 ≤ b ∧ Q b ∧ ¬ P b)) 3001) - mm_sm (fun b => kk_b (1 ≤ b ∧ P b)) 3001 = mm_sm (fun b => kk_b (1 ≤ b ∧ Q b ∧ ¬ P b)) 3001
  omega
/-- at most one of them -/
theorem sm_uni {P : Int → Prop} (k : Nat) (hu : ∀ i j : Int, 0 ≤ i → i < k → 0 ≤ j → j < k → P i → P j → i = j) : mm_sm (fun i => kk_b (P i)) k = kk_b (∃ i : Int, (0 ≤ i ∧ i < k) ∧ P i) := by
  by_cases c : ∃ i : Int, (0 ≤ i ∧ i < k) ∧ P i
  · obtain ⟨j, j1, j2⟩ := c
    have e := sm_1I (f := fun _ => 0) (g := fun i => kk_b (P i)) k j j1.1 j1.2 (fun i i1 i2 i3 => kk_b0 (fun q => i3 (hu i j i1 i2 j1.1 j1.2 q j2)))
    have e2 : kk_b (P j) = 1 := kk_b1 j2
    rw [e, e2, sm_0I k (fun _ _ _ => rfl), kk_b1 ⟨j, j1, j2⟩]; omega
  · rw [kk_b0 c, sm_0I k (fun i i1 i2 => kk_b0 (fun q => c ⟨i, ⟨i1, i2⟩, q⟩))]
/-- places with names that don't meet are as many as the names -/
theorem kk_lab {F : Int → Int → Prop} {lab : Int → Int → Int} (hl : ∀ n p, 1 ≤ n → n < 37 → 0 ≤ p → p < 36 → F n p → 1 ≤ lab n p ∧ lab n p ≤ 3000) (hu : ∀ n p n2 p2, (1 ≤ n ∧ n < 37) → (0 ≤ p ∧ p < 36) → (1 ≤ n2 ∧ n2 < 37) → (0 ≤ p2 ∧ p2 < 36) → F n p → F n2 p2 → lab n p = lab n2 p2 → n = n2 ∧ p = p2) :
    kk_S (fun n => mm_sm (fun p => kk_b (F n p)) 36) 36 = kk_cnt (fun b => ∃ n p, (1 ≤ n ∧ n < 37) ∧ (0 ≤ p ∧ p < 36) ∧ F n p ∧ lab n p = b) := by
  have a1 : ∀ b, kk_b (1 ≤ b ∧ ∃ n p, (1 ≤ n ∧ n < 37) ∧ (0 ≤ p ∧ p < 36) ∧ F n p ∧ lab n p = b) = mm_sm (fun n => mm_sm (fun p => kk_b (1 ≤ b ∧ F (n + 1) p ∧ lab (n + 1) p = b)) 36) 36 := fun b => by
    have e1 : ∀ n : Int, 0 ≤ n → n < (36 : Nat) → mm_sm (fun p => kk_b (1 ≤ b ∧ F (n + 1) p ∧ lab (n + 1) p = b)) 36 = kk_b (∃ p : Int, (0 ≤ p ∧ p < (36 : Nat)) ∧ 1 ≤ b ∧ F (n + 1) p ∧ lab (n + 1) p = b) := fun n n1 n2 =>
      sm_uni 36 (fun i j i1 i2 j1 j2 q1 q2 => (hu (n + 1) i (n + 1) j (by omega) (by omega) (by omega) (by omega) q1.2.1 q2.2.1 (by rw [q1.2.2, q2.2.2])).2)
    rw [sm_cgI 36 e1, sm_uni 36 (fun i j i1 i2 j1 j2 q1 q2 => by
      obtain ⟨p, p1, p2, p3, p4⟩ := q1
      obtain ⟨q, q1, q2, q3, q4⟩ := q2
      have := (hu (i + 1) p (j + 1) q (by omega) (by omega) (by omega) (by omega) p3 q3 (by rw [p4, q4])).1
      omega)]
    refine kk_bc ⟨?_, ?_⟩
    · rintro ⟨b1, n, p, n1, p1, f, l⟩
      exact ⟨n - 1, by omega, p, by omega, b1, by rw [show n - 1 + 1 = n by omega]; exact f, by rw [show n - 1 + 1 = n by omega]; exact l⟩
    · rintro ⟨n, n1, p, p1, b1, f, l⟩
      exact ⟨b1, n + 1, p, by omega, by omega, f, l⟩
  have a2 : kk_cnt (fun b => ∃ n p, (1 ≤ n ∧ n < 37) ∧ (0 ≤ p ∧ p < 36) ∧ F n p ∧ lab n p = b) = mm_sm (fun b => mm_sm (fun n => mm_sm (fun p => kk_b (1 ≤ b ∧ F (n + 1) p ∧ lab (n + 1) p = b)) 36) 36) 3001 := sm_cgI _ (fun b _ _ => a1 b)
  rw [a2, sm_swap]
  refine sm_cgI 36 (fun n n1 n2 => ?_)
  rw [sm_swap]
  refine sm_cgI 36 (fun p p1 p2 => ?_)
  rw [sm_uni (P := fun b => 1 ≤ b ∧ F (n + 1) p ∧ lab (n + 1) p = b) 3001 (fun i j _ _ _ _ q1 q2 => by rw [← q1.2.2, ← q2.2.2])]
  refine kk_bc ⟨fun f => ?_, fun ⟨b, _, _, f, _⟩ => f⟩
  have := hl (n + 1) p (by omega) (by omega) p1 p2 f
  exact ⟨lab (n + 1) p, by omega, by omega, f, rfl⟩
/-- entries are counted alike -/
theorem kk_ecf {h : mm_Id → Int → Int} {t : Int} (hn : ∀ n, 1 ≤ n → n < 37 → kk_NR h t n) (hw : ∀ n, 1 ≤ n → n < 37 → 0 ≤ h (24, t, n) 6) (m : Int) : kk_ec h t m = kk_ef h t m := by
  refine sm_cgI 36 (fun i i1 i2 => ?_)
  have N := hn (i + 1) (by omega) (by omega)
  have W := hw (i + 1) (by omega) (by omega)
  show mm_sm _ _ = mm_sm _ _
  rw [N.2.1]
  refine sm_cgI _ (fun e e1 e2 => ?_)
  rw [(N.2.2.2.2.1 e e1 (by have := N.2.1; omega)).2]
/-- blocks of a node -/
theorem kk_nzm {h : mm_Id → Int → Int} {t n : Int} (N : kk_NR h t n) (hb : ∀ p, 0 ≤ p → p < 36 → 0 ≤ h (43, 0, 0) (36 * (36 * t + n - 1) + p)) : kk_nz (h (27, t, n)) = mm_sm (fun p => if 0 < h (43, 0, 0) (36 * (36 * t + n - 1) + p) then 1 else 0) 36 := by
  refine sm_cgI 36 (fun p p1 p2 => ?_)
  have a := (N.2.2.2.2.2.2.2 p p1 p2).1
  have b := hb p p1 p2
  by_cases c : h (27, t, n) p = 0
  · rw [if_pos c, if_neg (by have := a.1 c; omega)]
  · rw [if_neg c, if_pos (by
      have : h (43, 0, 0) (36 * (36 * t + n - 1) + p) ≠ 0 := fun q => c (a.2 q)
      omega)]
/-- a piece with bytes lies in a file, here and there -/
theorem kk_pcf {b : Int} {h : mm_Id → Int → Int} {dh : Int → Int} (hW : kk_W b h dh) {t n p : Int} (ht : 0 ≤ t ∧ t < 13) (hn : 1 ≤ n ∧ n < 37) (hp : 0 ≤ p ∧ p < 36) (h0 : h (27, t, n) p ≠ 0) : h (24, t, n) 0 = 1 ∧ h (41, 0, 0) (36 * t + n - 1) = 1 ∧ h (43, 0, 0) (36 * (36 * t + n - 1) + p) ≠ 0 := by
  have N := hW.1.1 t n ht.1 ht.2 hn.1 hn.2
  have W := hW.1.2.1 t n (mm_T13 ht) hn.1 hn.2
  have a : h (24, t, n) 0 = 1 := Classical.byContradiction (fun q => h0 (W.2.2.2.2.2.2.2.1 q p hp.1 hp.2))
  exact ⟨a, by rw [← N.1]; exact a, fun q => h0 ((N.2.2.2.2.2.2.2 p hp.1 hp.2).1.2 q)⟩
theorem kk_pcb {b : Int} {h : mm_Id → Int → Int} {dh : Int → Int} (hW : kk_W b h dh) {t n p : Int} (ht : 0 ≤ t ∧ t < 13) (hn : 1 ≤ n ∧ n < 37) (hp : 0 ≤ p ∧ p < 36) (h0 : h (43, 0, 0) (36 * (36 * t + n - 1) + p) ≠ 0) : h (27, t, n) p ≠ 0 ∧ 1 ≤ h (27, t, n) p ∧ h (27, t, n) p < 1701 := by
  have N := hW.1.1 t n ht.1 ht.2 hn.1 hn.2
  have a : h (27, t, n) p ≠ 0 := fun q => h0 ((N.2.2.2.2.2.2.2 p hp.1 hp.2).1.1 q)
  have r := hW.1.2.2.2.2.2.2.2.1.1 t n p (mm_T13 ht) ⟨by omega, hn.2⟩ hp.1 hp.2
  exact ⟨a, by omega, r.2⟩
theorem kk_bru {b : Int} {h : mm_Id → Int → Int} {dh : Int → Int} (hW : kk_W b h dh) {s : Int} (hs : 0 ≤ s ∧ s < 29) : kk_br h s := fun n p n1 n2 p1 p2 => ((hW.1.2.2.2.2.1 s n hs.1 hs.2 n1 n2).2.2.2 p p1 p2).1
/-- where a row stands among the live ones -/
theorem kk_Aex {h : mm_Id → Int → Int} {r : Int} (hz : ∀ t p, mm_isT t → 0 ≤ p → p < 36 → h (27, t, 0) p = 0) (h1 : 1 ≤ r) (ha : 0 < kc_A h r) : ∃ t n p, (0 ≤ t ∧ t < 13) ∧ (1 ≤ n ∧ n < 37) ∧ (0 ≤ p ∧ p < 36) ∧ h (27, t, n) p = r := by
  obtain ⟨t, t0, t1, t2⟩ := sm_pos 13 ha
  obtain ⟨n, n0, n1, n2⟩ := sm_pos 37 t2
  obtain ⟨p, p0, p1, p2⟩ := sm_pos 36 n2
  have e : h (27, t, n) p = r := by
    by_cases c : h (27, t, n) p = r
    · exact c
    · simp only [if_neg c] at p2; omega
  refine ⟨t, n, p, ⟨by omega, by omega⟩, ⟨?_, by omega⟩, ⟨by omega, by omega⟩, e⟩
  by_cases c : (n : Int) = 0
  · rw [c] at e
    have := hz t p (mm_T13 ⟨by omega, by omega⟩) (by omega) (by omega)
    omega
  · omega
/-- blocks held, here and there -/
theorem kk_lbh {b : Int} {h : mm_Id → Int → Int} {dh : Int → Int} (hW : kk_W b h dh) : h (15, 0, 0) 7 = kk_cnt (kk_lb h (-1)) := by
  have hR := hW.1.2.2.2.2.2.2.2.1
  have hN := hW.2.2.1.2.2.2.1
  have e : kk_hd h = kk_cm (fun r => 0 < kc_A h r) 1701 := sm_cgI _ (fun r r1 r2 => by
    by_cases c : 1 ≤ r ∧ 0 < kc_A h r
    · rw [if_pos c, kk_b1 c]
    · rw [if_neg c, kk_b0 c])
  rw [hR.2.2.1, e, kk_cntm]
  refine kk_cmeq (R := fun r b => ∃ t n p, (0 ≤ t ∧ t < 13) ∧ (1 ≤ n ∧ n < 37) ∧ (0 ≤ p ∧ p < 36) ∧ h (27, t, n) p = r ∧ h (43, 0, 0) (36 * (36 * t + n - 1) + p) = b ∧ r ≠ 0) (fun r r1 r2 r3 => ?_) (fun c c1 c2 c3 => ?_) ?_ ?_
  · obtain ⟨t, n, p, ht, hn, hp, q⟩ := kk_Aex hW.1.2.2.2.2.2.2.2.2.2.2 r1 r3
    have q2 := kk_pcf hW ht hn hp (by omega)
    have q3 := kk_bru hW (s := t) (by omega) n p hn.1 hn.2 hp.1 hp.2
    refine ⟨_, ⟨by omega, by omega⟩, ⟨t, ht, ?_, by omega, n, p, hn, hp, q2.2.1, rfl⟩, t, n, p, ht, hn, hp, q, rfl, by omega⟩
    rw [hN t ht.1 ht.2]
    have nn := kk_nmW hW t ht.1 ht.2
    have d := hW.2.2.1.2.2.2.2.2.2.2.2.2.2.1 t ht.1 ht.2
    by_cases z : kk_no h t = 0
    · have := d z n hn.1 hn.2
      omega
    · omega
  · obtain ⟨t, ht, _, _, n, p, hn, hp, k1, k2⟩ := c3
    have q := kk_pcb hW ht hn hp (by omega)
    refine ⟨h (27, t, n) p, ⟨q.2.1, q.2.2⟩, ?_, t, n, p, ht, hn, hp, rfl, k2, q.1⟩
    have := kc_Age (hi := h) ht (n := n) ⟨by omega, hn.2⟩ hp
    omega
  · rintro r r2 c ⟨t, n, p, ht, hn, hp, q1, q2, q3⟩ ⟨t2, n2, p2, ht2, hn2, hp2, q4, q5, q6⟩
    have := (hW.1.2.2.2.2.2.1 t n p t2 n2 p2 (mm_T13 ht) hn hp (mm_T13 ht2) hn2 hp2 (by omega) (by omega)).2 (by omega)
    omega
  · rintro r c c2 ⟨t, n, p, ht, hn, hp, q1, q2, q3⟩ ⟨t2, n2, p2, ht2, hn2, hp2, q4, q5, q6⟩
    have := (hW.1.2.2.2.2.2.1 t n p t2 n2 p2 (mm_T13 ht) hn hp (mm_T13 ht2) hn2 hp2 (by omega) (by omega)).1 (by omega)
    omega
/-- places of a tree and its blocks -/
theorem kk_pl1 {b : Int} {h : mm_Id → Int → Int} {dh : Int → Int} (hW : kk_W b h dh) {t : Int} (ht : 0 ≤ t ∧ t < 13) (F : Int → Prop) :
    kk_S (fun n => mm_sm (fun p => kk_b (h (27, t, n) p ≠ 0 ∧ F (h (27, t, n) p))) 36) 36 = kk_cnt (fun b => ∃ n p, (1 ≤ n ∧ n < 37) ∧ (0 ≤ p ∧ p < 36) ∧ (h (27, t, n) p ≠ 0 ∧ F (h (27, t, n) p)) ∧ h (43, 0, 0) (36 * (36 * t + n - 1) + p) = b) := by
  refine kk_lab (F := fun n p => h (27, t, n) p ≠ 0 ∧ F (h (27, t, n) p)) (lab := fun n p => h (43, 0, 0) (36 * (36 * t + n - 1) + p)) (fun n p n1 n2 p1 p2 f => ?_) (fun n p n2 p2 hn hp hn2 hp2 f f2 e => ?_)
  · have q2 := kk_pcf hW ht ⟨n1, n2⟩ ⟨p1, p2⟩ f.1
    have q3 := kk_bru hW (s := t) (by omega) n p n1 n2 p1 p2
    show 1 ≤ h (43, 0, 0) _ ∧ _
    omega
  · have := (hW.1.2.2.2.2.2.1 t n p t n2 p2 (mm_T13 ht) hn hp (mm_T13 ht) hn2 hp2 f.1 f2.1).2 e
    exact hW.1.2.2.2.2.2.2.1 t n p n2 p2 (mm_T13 ht) hn hp hn2 hp2 f.1 this
theorem kk_tbl {b : Int} {h : mm_Id → Int → Int} {dh : Int → Int} (hW : kk_W b h dh) {t : Int} (ht : 0 ≤ t ∧ t < 13) : kk_S (fun n => h (24, t, n) 9) 36 = kk_cnt (kk_bs h t) := by
  have e : kk_S (fun n => h (24, t, n) 9) 36 = kk_S (fun n => mm_sm (fun p => kk_b (h (27, t, n) p ≠ 0 ∧ True)) 36) 36 := sm_cgI 36 (fun i i1 i2 => by
    show h (24, t, i + 1) 9 = mm_sm (fun p => kk_b (h (27, t, i + 1) p ≠ 0 ∧ True)) 36
    rw [(hW.1.2.1 t (i + 1) (mm_T13 ht) (by omega) (by omega)).2.2.2.2.2.2.1]
    exact sm_cgI 36 (fun p p1 p2 => by
      by_cases c : h (27, t, i + 1) p = 0
      · rw [if_pos c, kk_b0 (fun q => q.1 c)]
      · rw [if_neg c, kk_b1 ⟨c, trivial⟩]))
  rw [e, kk_pl1 hW ht (fun _ => True)]
  refine kk_cntc (fun c c1 c2 => ⟨?_, ?_⟩)
  · rintro ⟨n, p, hn, hp, f, q⟩
    exact ⟨n, p, hn, hp, (kk_pcf hW ht hn hp f.1).2.1, q⟩
  · rintro ⟨n, p, hn, hp, k, q⟩
    exact ⟨n, p, hn, hp, ⟨(kk_pcb hW ht hn hp (by omega)).1, trivial⟩, q⟩
/-- blocks that a tree has alone -/
theorem kk_aln {b : Int} {h : mm_Id → Int → Int} {dh : Int → Int} (hW : kk_W b h dh) {t : Int} (ht : 0 ≤ t ∧ t < 13) : kk_S (fun n => mm_sm (fun p => if (1 ≤ h (27, t, n) p ∧ h (27, t, n) p < 1701) ∧ h (17, 0, 0) (h (27, t, n) p) = 1 then 1 else 0) 36) 36 = kk_cnt (fun b => kk_bs h t b ∧ ¬ kk_lb h t b) := by
  have hR := hW.1.2.2.2.2.2.2.2.1
  have hN := hW.2.2.1.2.2.2.1
  have e : kk_S (fun n => mm_sm (fun p => if (1 ≤ h (27, t, n) p ∧ h (27, t, n) p < 1701) ∧ h (17, 0, 0) (h (27, t, n) p) = 1 then 1 else 0) 36) 36 = kk_S (fun n => mm_sm (fun p => kk_b (h (27, t, n) p ≠ 0 ∧ kc_A h (h (27, t, n) p) = 1)) 36) 36 := sm_cgI 36 (fun i i1 i2 => sm_cgI 36 (fun p p1 p2 => by
      have r := hR.1 t (i + 1) p (mm_T13 ht) ⟨by omega, by omega⟩ p1 p2
      by_cases c : h (27, t, i + 1) p = 0
      · rw [if_neg (by omega), kk_b0 (fun q => q.1 c)]
      · have a := (hR.2.1 (h (27, t, i + 1) p) (by omega) r.2).1
        by_cases d : kc_A h (h (27, t, i + 1) p) = 1
        · rw [if_pos ⟨⟨by omega, r.2⟩, by omega⟩, kk_b1 ⟨c, d⟩]
        · rw [if_neg (by omega), kk_b0 (fun q => d q.2)]))
  rw [e, kk_pl1 hW ht (fun r => kc_A h r = 1)]
  refine kk_cntc (fun c c1 c2 => ⟨?_, ?_⟩)
  · rintro ⟨n, p, hn, hp, f, q⟩
    refine ⟨⟨n, p, hn, hp, (kk_pcf hW ht hn hp f.1).2.1, q⟩, ?_⟩
    rintro ⟨t2, ht2, _, hne, n2, p2, hn2, hp2, k, q2⟩
    have w := kk_pcb hW ht2 hn2 hp2 (by omega)
    have e2 := (hW.1.2.2.2.2.2.1 t n p t2 n2 p2 (mm_T13 ht) hn hp (mm_T13 ht2) hn2 hp2 f.1 w.1).2 (by omega)
    have g1 := kc_Nge (hi := h) (t := t) (n := n) (p := p) ⟨by omega, hn.2⟩ hp
    have g2 := kc_Nge (hi := h) (t := t2) (n := n2) (p := p2) ⟨by omega, hn2.2⟩ hp2
    rw [← e2] at g2
    have s2 : 2 ≤ kc_A h (h (27, t, n) p) := by
      by_cases l : t < t2
      · have := sm_two (f := fun t => kc_N h t (h (27, t, n) p)) 13 (fun _ _ _ => kc_Nnn _ _ _) (i := t) (j := t2) ht.1 l ht2.2
        have s3 := sm_two (f := fun u => kc_N h u (h (27, t, n) p)) 13 (fun _ _ _ => kc_Nnn _ _ _) (i := t) (j := t2) ht.1 l ht2.2
        unfold kc_A
        omega
      · have s3 := sm_two (f := fun u => kc_N h u (h (27, t, n) p)) 13 (fun _ _ _ => kc_Nnn _ _ _) (i := t2) (j := t) ht2.1 (by omega) ht.2
        unfold kc_A
        omega
    have := f.2
    omega
  · rintro ⟨⟨n, p, hn, hp, k, q⟩, nl⟩
    have w := kk_pcb hW ht hn hp (by omega)
    refine ⟨n, p, hn, hp, ⟨w.1, ?_⟩, q⟩
    have g1 := kc_Nge (hi := h) (t := t) (n := n) (p := p) ⟨by omega, hn.2⟩ hp
    -- none in the others
    have o : ∀ u : Int, 0 ≤ u → u < (13 : Nat) → u ≠ t → kc_N h u (h (27, t, n) p) = 0 := fun u u0 u1 u2 => by
      by_cases z : kc_N h u (h (27, t, n) p) = 0
      · exact z
      · have nn := kc_Nnn h u (h (27, t, n) p)
        obtain ⟨m, m0, m1, m2⟩ := sm_pos (f := fun m => kc_P (h (27, u, m)) (h (27, t, n) p)) 37 (show 0 < kc_N h u (h (27, t, n) p) by omega)
        obtain ⟨x, x0, x1, x2⟩ := sm_pos (f := fun x => if h (27, u, m) x = h (27, t, n) p then 1 else 0) 36 m2
        have ee : h (27, u, m) x = h (27, t, n) p := by
          by_cases c : h (27, u, m) x = h (27, t, n) p
          · exact c
          · simp only [if_neg c] at x2; omega
        have hu : 0 ≤ u ∧ u < 13 := ⟨u0, by omega⟩
        have m3 : (m : Int) ≠ 0 := fun c => by
          rw [c] at ee
          have := hW.1.2.2.2.2.2.2.2.2.2.2 u x (mm_T13 hu) (by omega) (by omega)
          omega
        have pf := kk_pcf hW hu (n := m) (p := x) ⟨by omega, by omega⟩ ⟨by omega, by omega⟩ (by omega)
        have pq := (hW.1.2.2.2.2.2.1 t n p u m x (mm_T13 ht) hn hp (mm_T13 hu) ⟨by omega, by omega⟩ ⟨by omega, by omega⟩ w.1 (by omega)).1 (by omega)
        refine absurd ⟨u, hu, ?_, u2, m, x, ⟨by omega, by omega⟩, ⟨by omega, by omega⟩, pf.2.1, by omega⟩ nl
        rw [hN u hu.1 hu.2]
        have nn := kk_nmW hW u hu.1 hu.2
        have d := hW.2.2.1.2.2.2.2.2.2.2.2.2.2.1 u hu.1 hu.2
        by_cases z : kk_no h u = 0
        · have := d z m (by omega) (by omega)
          omega
        · omega
    have e1 := sm_1I (f := fun _ => 0) (g := fun u => kc_N h u (h (27, t, n) p)) 13 t ht.1 ht.2 o
    rw [sm_0I 13 (fun _ _ _ => rfl)] at e1
    have e2 : kc_N h t (h (27, t, n) p) = 1 := by
      have u1 : kc_N h t (h (27, t, n) p) = mm_sm (fun m => kk_b (∃ x : Int, (0 ≤ x ∧ x < (36 : Nat)) ∧ h (27, t, m) x = h (27, t, n) p)) 37 := sm_cgI 37 (fun m m0 m1 => by
        rw [← sm_uni (P := fun x => h (27, t, m) x = h (27, t, n) p) 36 (fun i j i1 i2 j1 j2 q1 q2 => by
          have m3 : m ≠ 0 := fun c => by
            rw [c] at q1
            have := hW.1.2.2.2.2.2.2.2.2.2.2 t i (mm_T13 ht) (by omega) (by omega)
            omega
          exact (hW.1.2.2.2.2.2.2.1 t m i m j (mm_T13 ht) ⟨by omega, by omega⟩ ⟨by omega, by omega⟩ ⟨by omega, by omega⟩ ⟨by omega, by omega⟩ (by omega) (by omega)).2)]
        exact sm_cgI 36 (fun x x0 x1 => by
          by_cases c : h (27, t, m) x = h (27, t, n) p
          · rw [if_pos c, kk_b1 c]
          · rw [if_neg c, kk_b0 c]))
      rw [u1, sm_uni 37 (fun i j i1 i2 j1 j2 q1 q2 => by
        obtain ⟨x, x1, x2⟩ := q1
        obtain ⟨y, y1, y2⟩ := q2
        have i3 : i ≠ 0 := fun c => by
          rw [c] at x2
          have := hW.1.2.2.2.2.2.2.2.2.2.2 t x (mm_T13 ht) (by omega) (by omega)
          omega
        have j3 : j ≠ 0 := fun c => by
          rw [c] at y2
          have := hW.1.2.2.2.2.2.2.2.2.2.2 t y (mm_T13 ht) (by omega) (by omega)
          omega
        exact (hW.1.2.2.2.2.2.2.1 t i x j y (mm_T13 ht) ⟨by omega, by omega⟩ ⟨by omega, by omega⟩ ⟨by omega, by omega⟩ ⟨by omega, by omega⟩ (by omega) (by omega)).1)]
      exact kk_b1 ⟨n, ⟨by omega, by omega⟩, p, ⟨by omega, by omega⟩, rfl⟩
    show kc_A h _ = 1
    unfold kc_A
    omega

