/-! blocks counted where a piece of a file is changed -/
theorem kk_cnx {P R : Int → Prop} {o v : Int} {A : Prop} (hq : ∀ c, 1 ≤ c → c ≤ 3000 → (R c ↔ (P c ∧ ¬ (c = o ∧ A)) ∨ c = v)) (hv : v = 0 ∨ ((1 ≤ v ∧ v ≤ 3000) ∧ ¬ P v)) (hA : A → (1 ≤ o ∧ o ≤ 3000) ∧ P o) : kk_cnt R = kk_cnt P + (if v = 0 then 0 else 1) - kk_b A := by
  have e1 : kk_cnt P = kk_cnt (fun c => P c ∧ ¬ (c = o ∧ A)) + kk_b A := by
    by_cases a : A
    · rw [kk_cntm, kk_cntm, kk_b1 a, kk_cmrem (v := o) ⟨(hA a).1.1, by have := (hA a).1.2; omega⟩ (hA a).2, kk_cmc (P := fun c => P c ∧ c ≠ o) (R := fun c => P c ∧ ¬ (c = o ∧ A)) (fun c _ _ => ⟨fun q => ⟨q.1, fun w => q.2 w.1⟩, fun q => ⟨q.1, fun w => q.2 ⟨w, a⟩⟩⟩)]
    · rw [kk_b0 a, kk_cntc (P := P) (R := fun c => P c ∧ ¬ (c = o ∧ A)) (fun c _ _ => ⟨fun q => ⟨q, fun w => a w.2⟩, fun q => q.1⟩)]
      omega
  have e2 : kk_cnt R = kk_cnt (fun c => P c ∧ ¬ (c = o ∧ A)) + (if v = 0 then 0 else 1) := by
    by_cases z : v = 0
    · rw [if_pos z, kk_cntc (P := R) (R := fun c => P c ∧ ¬ (c = o ∧ A)) (fun c c0 c1 => ?_)]
      · omega
      · rw [hq c c0 c1]
        exact ⟨fun q => q.resolve_right (by omega), Or.inl⟩
    · obtain ⟨v1, v2⟩ := hv.resolve_left z
      rw [if_neg z, kk_cntm, kk_cntm, kk_cmrem (v := v) ⟨v1.1, by have := v1.2; omega⟩ ((hq v v1.1 v1.2).2 (Or.inr rfl)), kk_cmc (fun c c0 c1 => ?_)]
      rw [hq c c0 (by omega)]
      exact ⟨fun q => q.1.resolve_right q.2, fun q => ⟨Or.inl q, fun w => v2 (by rw [← w]; exact q.1)⟩⟩
  omega
/-- pieces of a tree are blocks that don't meet -/
def kk_Dm (h : mm_Id → Int → Int) (t : Int) : Prop := ∀ n p n2 p2, (1 ≤ n ∧ n < 37) → (0 ≤ p ∧ p < 36) → (1 ≤ n2 ∧ n2 < 37) → (0 ≤ p2 ∧ p2 < 36) → h (43, 0, 0) (36 * (36 * t + n - 1) + p) ≠ 0 → h (43, 0, 0) (36 * (36 * t + n - 1) + p) = h (43, 0, 0) (36 * (36 * t + n2 - 1) + p2) → n = n2 ∧ p = p2
/-- only files have pieces -/
def kk_fo (h : mm_Id → Int → Int) (t : Int) : Prop := ∀ n p, 1 ≤ n → n < 37 → 0 ≤ p → p < 36 → h (43, 0, 0) (36 * (36 * t + n - 1) + p) ≠ 0 → h (41, 0, 0) (36 * t + n - 1) = 1
/-- one piece is another -/
def kk_st (t m p v : Int) (h g : mm_Id → Int → Int) : Prop := g (43, 0, 0) (36 * (36 * t + m - 1) + p) = v ∧ (∀ j, j ≠ 36 * (36 * t + m - 1) + p → g (43, 0, 0) j = h (43, 0, 0) j) ∧ (∀ j, g (41, 0, 0) j = h (41, 0, 0) j) ∧ (∀ j, g (47, 0, 0) j = h (47, 0, 0) j) ∧ (∀ j, g (57, 0, 0) j = h (57, 0, 0) j)
section
variable {t m p v : Int} {h g : mm_Id → Int → Int}
theorem kk_DmW {b : Int} {dh : Int → Int} (hc : kk_core b h dh) (ht : 0 ≤ t ∧ t < 13) : kk_Dm h t := fun n p n2 p2 hn hp hn2 hp2 z e => by
  have w1 := kk_pcb hc.1 ht hn hp z
  have w2 := kk_pcb hc.1 ht hn2 hp2 (by rw [← e]; exact z)
  have := (hc.1.1.2.2.2.2.2.1 t n p t n2 p2 (mm_T13 ht) hn hp (mm_T13 ht) hn2 hp2 w1.1 w2.1).2 e
  exact hc.1.1.2.2.2.2.2.2.1 t n p n2 p2 (mm_T13 ht) hn hp hn2 hp2 w1.1 this
theorem kk_foW {b s : Int} {dh : Int → Int} (hc : kk_core b h dh) (hs : 0 ≤ s ∧ s < 29) : kk_fo h s := fun n p n0 n1 p0 p1 z => Classical.byContradiction (fun q => z (((kk_MWC hc hs ⟨n0, n1⟩).2.2.2 p p0 p1).2 q))
theorem kk_stp (s : kk_st t m p v h g) {n q : Int} (hp : 0 ≤ p ∧ p < 36) (hq : 0 ≤ q ∧ q < 36) (w : ¬ (n = m ∧ q = p)) : g (43, 0, 0) (36 * (36 * t + n - 1) + q) = h (43, 0, 0) (36 * (36 * t + n - 1) + q) := s.2.1 _ (by omega)
theorem kk_sto (s : kk_st t m p v h g) {a n q : Int} (hm : 1 ≤ m ∧ m < 37) (hn : 1 ≤ n ∧ n < 37) (hp : 0 ≤ p ∧ p < 36) (hq : 0 ≤ q ∧ q < 36) (w : a ≠ t) : g (43, 0, 0) (36 * (36 * a + n - 1) + q) = h (43, 0, 0) (36 * (36 * a + n - 1) + q) := s.2.1 _ (by omega)
theorem kk_stD (s : kk_st t m p v h g) (hm : 1 ≤ m ∧ m < 37) (hp : 0 ≤ p ∧ p < 36) (hv : v = 0 ∨ ∀ n q, 1 ≤ n → n < 37 → 0 ≤ q → q < 36 → h (43, 0, 0) (36 * (36 * t + n - 1) + q) ≠ v) (D : kk_Dm h t) : kk_Dm g t := fun n q n2 q2 hn hq hn2 hq2 z e => by
  by_cases a : n = m ∧ q = p <;> by_cases c : n2 = m ∧ q2 = p
  · omega
  · rw [kk_stp s hp hq2 c, a.1, a.2, s.1] at e
    rw [a.1, a.2, s.1] at z
    exact absurd e.symm (hv.resolve_left z n2 q2 hn2.1 hn2.2 hq2.1 hq2.2)
  · rw [kk_stp s hp hq a] at e z
    rw [c.1, c.2, s.1] at e
    exact absurd e (hv.resolve_left (by rw [← e]; exact z) n q hn.1 hn.2 hq.1 hq.2)
  · rw [kk_stp s hp hq a] at e z
    rw [kk_stp s hp hq2 c] at e
    exact D n q n2 q2 hn hq hn2 hq2 z e
theorem kk_stF (s : kk_st t m p v h g) (hp : 0 ≤ p ∧ p < 36) (hk : h (41, 0, 0) (36 * t + m - 1) = 1) (F : kk_fo h t) : kk_fo g t := fun n q n0 n1 q0 q1 z => by
  rw [s.2.2.1]
  by_cases a : n = m ∧ q = p
  · rw [a.1]; exact hk
  · rw [kk_stp s hp ⟨q0, q1⟩ a] at z
    exact F n q n0 n1 q0 q1 z
/-- blocks of other trees -/
theorem kk_stO (s : kk_st t m p v h g) (hm : 1 ≤ m ∧ m < 37) (hp : 0 ≤ p ∧ p < 36) {a c : Int} (w : a ≠ t) : kk_bs g a c ↔ kk_bs h a c := by
  constructor
  · rintro ⟨n, q, hn, hq, k, e⟩
    rw [s.2.2.1] at k
    rw [kk_sto s hm hn hp hq w] at e
    exact ⟨n, q, hn, hq, k, e⟩
  · rintro ⟨n, q, hn, hq, k, e⟩
    exact ⟨n, q, hn, hq, by rw [s.2.2.1]; exact k, by rw [kk_sto s hm hn hp hq w]; exact e⟩
theorem kk_stlo (s : kk_st t m p v h g) (hm : 1 ≤ m ∧ m < 37) (hp : 0 ≤ p ∧ p < 36) (c : Int) : kk_lb g t c ↔ kk_lb h t c := by
  constructor
  · rintro ⟨k, hk, z, w, q⟩
    rw [s.2.2.2.2] at z
    exact ⟨k, hk, z, w, (kk_stO s hm hp w).1 q⟩
  · rintro ⟨k, hk, z, w, q⟩
    exact ⟨k, hk, by rw [s.2.2.2.2]; exact z, w, (kk_stO s hm hp w).2 q⟩
/-- blocks of the tree -/
theorem kk_stT (s : kk_st t m p v h g) (hm : 1 ≤ m ∧ m < 37) (hp : 0 ≤ p ∧ p < 36) (hk : h (41, 0, 0) (36 * t + m - 1) = 1) (D : kk_Dm h t) {c : Int} (c0 : 1 ≤ c) : kk_bs g t c ↔ (kk_bs h t c ∧ ¬ (c = h (43, 0, 0) (36 * (36 * t + m - 1) + p) ∧ h (43, 0, 0) (36 * (36 * t + m - 1) + p) ≠ 0)) ∨ c = v := by
  constructor
  · rintro ⟨n, q, hn, hq, k, e⟩
    by_cases a : n = m ∧ q = p
    · rw [a.1, a.2, s.1] at e
      exact Or.inr e.symm
    · rw [kk_stp s hp hq a] at e
      rw [s.2.2.1] at k
      refine Or.inl ⟨⟨n, q, hn, hq, k, e⟩, fun w => a ?_⟩
      exact D n q m p hn hq hm hp (by omega) (by omega)
  · rintro (⟨⟨n, q, hn, hq, k, e⟩, w⟩ | w)
    · refine ⟨n, q, hn, hq, by rw [s.2.2.1]; exact k, ?_⟩
      rw [kk_stp s hp hq (fun a => w (by rw [← a.1, ← a.2]; omega))]; exact e
    · exact ⟨m, p, hm, hp, by rw [s.2.2.1]; exact hk, by rw [s.1, w]⟩
theorem kk_stB (s : kk_st t m p v h g) (hm : 1 ≤ m ∧ m < 37) (hp : 0 ≤ p ∧ p < 36) (hk : h (41, 0, 0) (36 * t + m - 1) = 1) (D : kk_Dm h t) (br : kk_br h t) (hv : v = 0 ∨ ((1 ≤ v ∧ v ≤ 3000) ∧ ¬ kk_bs h t v)) : kk_cnt (kk_bs g t) = kk_cnt (kk_bs h t) + (if v = 0 then 0 else 1) - kk_b (h (43, 0, 0) (36 * (36 * t + m - 1) + p) ≠ 0) := by
  have r := br m p hm.1 hm.2 hp.1 hp.2
  exact kk_cnx (fun c c0 _ => kk_stT s hm hp hk D c0) hv (fun a => ⟨by omega, m, p, hm, hp, hk, rfl⟩)
theorem kk_stL (s : kk_st t m p v h g) (ht : 0 ≤ t ∧ t < 13) (h57 : 0 < h (57, 0, 0) t) (hm : 1 ≤ m ∧ m < 37) (hp : 0 ≤ p ∧ p < 36) (hk : h (41, 0, 0) (36 * t + m - 1) = 1) (D : kk_Dm h t) (br : kk_br h t) (hv : v = 0 ∨ ((1 ≤ v ∧ v ≤ 3000) ∧ ¬ kk_lb h (-1) v)) : kk_cnt (kk_lb g (-1)) = kk_cnt (kk_lb h (-1)) + (if v = 0 then 0 else 1) - kk_b (h (43, 0, 0) (36 * (36 * t + m - 1) + p) ≠ 0 ∧ ¬ kk_lb h t (h (43, 0, 0) (36 * (36 * t + m - 1) + p))) := by
  have r := br m p hm.1 hm.2 hp.1 hp.2
  refine kk_cnx (o := h (43, 0, 0) (36 * (36 * t + m - 1) + p)) (fun c c0 _ => ?_) hv (fun a => ⟨by omega, t, ht, h57, by omega, m, p, hm, hp, hk, rfl⟩)
  have T := kk_stT s hm hp hk D c0
  constructor
  · rintro ⟨k, hk2, z, w, q⟩
    rw [s.2.2.2.2] at z
    by_cases a : k = t
    · rw [a] at q
      rcases T.1 q with q | q
      · exact Or.inl ⟨⟨t, ht, h57, by omega, q.1⟩, fun y => q.2 ⟨y.1, y.2.1⟩⟩
      · exact Or.inr q
    · refine Or.inl ⟨⟨k, hk2, z, w, (kk_stO s hm hp a).1 q⟩, fun y => y.2.2 ?_⟩
      rw [← y.1]
      exact ⟨k, hk2, z, a, (kk_stO s hm hp a).1 q⟩
  · rintro (⟨⟨k, hk2, z, w, q⟩, y⟩ | q)
    · by_cases a : k = t
      · rw [a] at q
        by_cases e : c = h (43, 0, 0) (36 * (36 * t + m - 1) + p) ∧ h (43, 0, 0) (36 * (36 * t + m - 1) + p) ≠ 0
        · have l : kk_lb h t (h (43, 0, 0) (36 * (36 * t + m - 1) + p)) := Classical.byContradiction (fun nl => y ⟨e.1, e.2, nl⟩)
          obtain ⟨k3, hk3, z3, w3, q3⟩ := l
          rw [← e.1] at q3
          exact ⟨k3, hk3, by rw [s.2.2.2.2]; exact z3, by omega, (kk_stO s hm hp w3).2 q3⟩
        · exact ⟨t, ht, by rw [s.2.2.2.2]; exact h57, by omega, T.2 (Or.inl ⟨q, e⟩)⟩
      · exact ⟨k, hk2, by rw [s.2.2.2.2]; exact z, w, (kk_stO s hm hp a).2 q⟩
    · exact ⟨t, ht, by rw [s.2.2.2.2]; exact h57, by omega, T.2 (Or.inr q)⟩
theorem kk_stA (s : kk_st t m p v h g) (ht : 0 ≤ t ∧ t < 29) (hm : 1 ≤ m ∧ m < 37) (hp : 0 ≤ p ∧ p < 36) {c : Int} (q : kk_any g c) : kk_any h c ∨ c = v := by
  obtain ⟨k, hk, n, q, hn, hq, k1, e⟩ := q
  rw [s.2.2.1] at k1
  by_cases a : k = t
  · rw [a] at e k1
    by_cases c : n = m ∧ q = p
    · rw [c.1, c.2, s.1] at e; exact Or.inr e.symm
    · rw [kk_stp s hp hq c] at e
      exact Or.inl ⟨t, ht, n, q, hn, hq, k1, e⟩
  · rw [kk_sto s hm hn hp hq a] at e
    exact Or.inl ⟨k, hk, n, q, hn, hq, k1, e⟩
/-- blocks of a user -/
theorem kk_stU (s : kk_st t m p v h g) (hm : 1 ≤ m ∧ m < 37) (hp : 0 ≤ p ∧ p < 36) (hk : h (41, 0, 0) (36 * t + m - 1) = 1) (br : kk_br h t) (v0 : 0 ≤ v) {u : Int} (hu : h (47, 0, 0) (36 * t + m - 1) = u) : kk_ub g t u = kk_ub h t u + (if v = 0 then 0 else 1) - kk_b (h (43, 0, 0) (36 * (36 * t + m - 1) + p) ≠ 0) := by
  have r := br m p hm.1 hm.2 hp.1 hp.2
  obtain ⟨F, hF⟩ : ∃ F : Int → Int, F = fun i => mm_sm (fun q => if (h (41, 0, 0) (36 * t + (i + 1) - 1) = 1 ∧ h (47, 0, 0) (36 * t + (i + 1) - 1) = u) ∧ 0 < h (43, 0, 0) (36 * (36 * t + (i + 1) - 1) + q) then 1 else 0) 36 := ⟨_, rfl⟩
  obtain ⟨G, hG⟩ : ∃ F : Int → Int, F = fun i => mm_sm (fun q => if (g (41, 0, 0) (36 * t + (i + 1) - 1) = 1 ∧ g (47, 0, 0) (36 * t + (i + 1) - 1) = u) ∧ 0 < g (43, 0, 0) (36 * (36 * t + (i + 1) - 1) + q) then 1 else 0) 36 := ⟨_, rfl⟩
  have e := sm_1I (f := F) (g := G) 36 (m - 1) (by omega) (by omega) (fun i i0 i1 ne => by
    rw [hF, hG]
    exact sm_cgI 36 (fun q q0 q1 => by rw [s.2.2.1, s.2.2.2.1, kk_stp s hp ⟨q0, by omega⟩ (by omega)]))
  have e2 : G (m - 1) = F (m - 1) + ((if v = 0 then 0 else 1) - kk_b (h (43, 0, 0) (36 * (36 * t + m - 1) + p) ≠ 0)) := by
    obtain ⟨f2, hf2⟩ : ∃ f : Int → Int, f = fun q => if (h (41, 0, 0) (36 * t + (m - 1 + 1) - 1) = 1 ∧ h (47, 0, 0) (36 * t + (m - 1 + 1) - 1) = u) ∧ 0 < h (43, 0, 0) (36 * (36 * t + (m - 1 + 1) - 1) + q) then 1 else 0 := ⟨_, rfl⟩
    obtain ⟨g2, hg2⟩ : ∃ f : Int → Int, f = fun q => if (g (41, 0, 0) (36 * t + (m - 1 + 1) - 1) = 1 ∧ g (47, 0, 0) (36 * t + (m - 1 + 1) - 1) = u) ∧ 0 < g (43, 0, 0) (36 * (36 * t + (m - 1 + 1) - 1) + q) then 1 else 0 := ⟨_, rfl⟩
    have k := sm_1I (f := f2) (g := g2) 36 p hp.1 (by omega) (fun q q0 q1 ne => by
      rw [hf2, hg2]
      show (if _ then _ else _) = (if _ then _ else _)
      rw [s.2.2.1, s.2.2.2.1, kk_stp s hp ⟨q0, by omega⟩ (by omega)])
    have d1 : g2 p = if v = 0 then 0 else 1 := by
      rw [hg2]
      show (if (g (41, 0, 0) (36 * t + (m - 1 + 1) - 1) = 1 ∧ g (47, 0, 0) (36 * t + (m - 1 + 1) - 1) = u) ∧ 0 < g (43, 0, 0) (36 * (36 * t + (m - 1 + 1) - 1) + p) then (1 : Int) else 0) = _
      rw [show m - 1 + 1 = m by omega, s.2.2.1, s.2.2.2.1, s.1]
      by_cases z : v = 0
      · rw [if_neg (by omega), if_pos z]
      · rw [if_pos ⟨⟨hk, hu⟩, by omega⟩, if_neg z]
    have d2 : f2 p = kk_b (h (43, 0, 0) (36 * (36 * t + m - 1) + p) ≠ 0) := by
      rw [hf2]
      show (if (h (41, 0, 0) (36 * t + (m - 1 + 1) - 1) = 1 ∧ h (47, 0, 0) (36 * t + (m - 1 + 1) - 1) = u) ∧ 0 < h (43, 0, 0) (36 * (36 * t + (m - 1 + 1) - 1) + p) then (1 : Int) else 0) = _
      rw [show m - 1 + 1 = m by omega]
      by_cases z : h (43, 0, 0) (36 * (36 * t + m - 1) + p) = 0
      · rw [if_neg (by omega), kk_b0 (fun q => q z)]
      · rw [if_pos ⟨⟨hk, hu⟩, by omega⟩, kk_b1 z]
    have k1 : G (m - 1) = mm_sm g2 36 := by rw [hG, hg2]
    have k2 : F (m - 1) = mm_sm f2 36 := by rw [hF, hf2]
    rw [k1, k2, k, d1, d2]
  have k3 : kk_ub g t u = mm_sm G 36 := by rw [hG]; rfl
  have k4 : kk_ub h t u = mm_sm F 36 := by rw [hF]; rfl
  rw [k3, k4, e, e2]
  omega
end
/-- whether a piece is a tree's alone -/
theorem kk_al1 {b : Int} {h : mm_Id → Int → Int} {dh : Int → Int} (hW : kk_W b h dh) {t n p : Int} (ht : 0 ≤ t ∧ t < 13) (hn : 1 ≤ n ∧ n < 37) (hp : 0 ≤ p ∧ p < 36) : ((1 ≤ h (27, t, n) p ∧ h (27, t, n) p < 1701) ∧ h (17, 0, 0) (h (27, t, n) p) = 1) ↔ (h (43, 0, 0) (36 * (36 * t + n - 1) + p) ≠ 0 ∧ ¬ kk_lb h t (h (43, 0, 0) (36 * (36 * t + n - 1) + p))) := by
  have hR := hW.1.2.2.2.2.2.2.2.1
  have hN := hW.2.2.1.2.2.2.1
  constructor
  · rintro ⟨r, a⟩
    have f : h (27, t, n) p ≠ 0 ∧ kc_A h (h (27, t, n) p) = 1 := ⟨by omega, by rw [← (hR.2.1 _ r.1 r.2).1]; exact a⟩
    refine ⟨(kk_pcf hW ht hn hp f.1).2.2, ?_⟩
    have q : h (43, 0, 0) (36 * (36 * t + n - 1) + p) = h (43, 0, 0) (36 * (36 * t + n - 1) + p) := rfl
    have c1 := (hW.1.2.2.2.2.1 t n ht.1 (by omega) hn.1 hn.2).2.2.2 p hp.1 hp.2
    have c2 := (kk_pcf hW ht hn hp f.1).2.2
    rintro ⟨t2, ht2, _, hne, n2, p2, hn2, hp2, k, q2⟩
    have w := kk_pcb hW ht2 hn2 hp2 (by omega)
    have e2 := (hW.1.2.2.2.2.2.1 t n p t2 n2 p2 (mm_T13 ht) hn hp (mm_T13 ht2) hn2 hp2 f.1 w.1).2 (by omega)
    have g1 := kc_Nge (hi := h) (t := t) (n := n) (p := p) ⟨by omega, hn.2⟩ hp
    have g2 := kc_Nge (hi := h) (t := t2) (n := n2) (p := p2) ⟨by omega, hn2.2⟩ hp2
    rw [← e2] at g2
    have s2 : 2 ≤ kc_A h (h (27, t, n) p) := by
      by_cases l : t < t2
      · have := sm_two (f := fun t => kc_N h t (h (27, t, n) p)) 13 (fun _ _ _ => kc_Nnn _ _ _) (i := t) (j := t2) ht.1 l ht2.2
        have s3 := sm_two (f := fun u => kc_N h u (h (27, t, n) p)) 13 (fun _ _ _ => kc_Nnn _ _ _) (i := t) (j := t2) ht.1 l ht2.2
        unfold kc_A
        omega
      · have s3 := sm_two (f := fun u => kc_N h u (h (27, t, n) p)) 13 (fun _ _ _ => kc_Nnn _ _ _) (i := t2) (j := t) ht2.1 (by omega) ht.2
        unfold kc_A
        omega
    have := f.2
    omega
  · rintro ⟨z, nl⟩
    have w := kk_pcb hW ht hn hp z
    have q : h (43, 0, 0) (36 * (36 * t + n - 1) + p) = h (43, 0, 0) (36 * (36 * t + n - 1) + p) := rfl
    refine ⟨w.2, ?_⟩
    rw [(hR.2.1 _ w.2.1 w.2.2).1]
    have g1 := kc_Nge (hi := h) (t := t) (n := n) (p := p) ⟨by omega, hn.2⟩ hp
    -- none in the others
    have o : ∀ u : Int, 0 ≤ u → u < (13 : Nat) → u ≠ t → kc_N h u (h (27, t, n) p) = 0 := fun u u0 u1 u2 => by
      by_cases z : kc_N h u (h (27, t, n) p) = 0
      · exact z
      · have nn := kc_Nnn h u (h (27, t, n) p)
        obtain ⟨m, m0, m1, m2⟩ := sm_pos (f := fun m => kc_P (h (27, u, m)) (h (27, t, n) p)) 37 (show 0 < kc_N h u (h (27, t, n) p) by omega)
        obtain ⟨x, x0, x1, x2⟩ := sm_pos (f := fun x => if h (27, u, m) x = h (27, t, n) p then 1 else 0) 36 m2
        have ee : h (27, u, m) x = h (27, t, n) p := by
          by_cases c : h (27, u, m) x = h (27, t, n) p
          · exact c
          · simp only [if_neg c] at x2; omega
        have hu : 0 ≤ u ∧ u < 13 := ⟨u0, by omega⟩
        have m3 : (m : Int) ≠ 0 := fun c => by
          rw [c] at ee
          have := hW.1.2.2.2.2.2.2.2.2.2.2 u x (mm_T13 hu) (by omega) (by omega)
          omega
        have pf := kk_pcf hW hu (n := m) (p := x) ⟨by omega, by omega⟩ ⟨by omega, by omega⟩ (by omega)
        have pq := (hW.1.2.2.2.2.2.1 t n p u m x (mm_T13 ht) hn hp (mm_T13 hu) ⟨by omega, by omega⟩ ⟨by omega, by omega⟩ w.1 (by omega)).1 (by omega)
        refine absurd ⟨u, hu, ?_, u2, m, x, ⟨by omega, by omega⟩, ⟨by omega, by omega⟩, pf.2.1, by omega⟩ nl
        rw [hN u hu.1 hu.2]
        have nn := kk_nmW hW u hu.1 hu.2
        have d := hW.2.2.1.2.2.2.2.2.2.2.2.2.2.1 u hu.1 hu.2
        by_cases z : kk_no h u = 0
        · have := d z m (by omega) (by omega)
          omega
        · omega
    have e1 := sm_1I (f := fun _ => 0) (g := fun u => kc_N h u (h (27, t, n) p)) 13 t ht.1 ht.2 o
    rw [sm_0I 13 (fun _ _ _ => rfl)] at e1
    have e2 : kc_N h t (h (27, t, n) p) = 1 := by
      have u1 : kc_N h t (h (27, t, n) p) = mm_sm (fun m => kk_b (∃ x : Int, (0 ≤ x ∧ x < (36 : Nat)) ∧ h (27, t, m) x = h (27, t, n) p)) 37 := sm_cgI 37 (fun m m0 m1 => by
        rw [← sm_uni (P := fun x => h (27, t, m) x = h (27, t, n) p) 36 (fun i j i1 i2 j1 j2 q1 q2 => by
          have m3 : m ≠ 0 := fun c => by
            rw [c] at q1
            have := hW.1.2.2.2.2.2.2.2.2.2.2 t i (mm_T13 ht) (by omega) (by omega)
            omega
          exact (hW.1.2.2.2.2.2.2.1 t m i m j (mm_T13 ht) ⟨by omega, by omega⟩ ⟨by omega, by omega⟩ ⟨by omega, by omega⟩ ⟨by omega, by omega⟩ (by omega) (by omega)).2)]
        exact sm_cgI 36 (fun x x0 x1 => by
          by_cases c : h (27, t, m) x = h (27, t, n) p
          · rw [if_pos c, kk_b1 c]
          · rw [if_neg c, kk_b0 c]))
      rw [u1, sm_uni 37 (fun i j i1 i2 j1 j2 q1 q2 => by
        obtain ⟨x, x1, x2⟩ := q1
        obtain ⟨y, y1, y2⟩ := q2
        have i3 : i ≠ 0 := fun c => by
          rw [c] at x2
          have := hW.1.2.2.2.2.2.2.2.2.2.2 t x (mm_T13 ht) (by omega) (by omega)
          omega
        have j3 : j ≠ 0 := fun c => by
          rw [c] at y2
          have := hW.1.2.2.2.2.2.2.2.2.2.2 t y (mm_T13 ht) (by omega) (by omega)
          omega
        exact (hW.1.2.2.2.2.2.2.1 t i x j y (mm_T13 ht) ⟨by omega, by omega⟩ ⟨by omega, by omega⟩ ⟨by omega, by omega⟩ ⟨by omega, by omega⟩ (by omega) (by omega)).1)]
      exact kk_b1 ⟨n, ⟨by omega, by omega⟩, p, ⟨by omega, by omega⟩, rfl⟩
    show kc_A h _ = 1
    unfold kc_A
    omega

/-- blocks that stand anywhere -/
theorem kk_cnor {P R : Int → Prop} : kk_cnt (fun c => P c ∨ R c) ≤ kk_cnt P + kk_cnt R := by
  have e := kk_cntd (P := P) (Q := R)
  have := kk_cntle (P := fun c => R c ∧ ¬ P c) (R := R) (fun _ _ _ q => q.1)
  omega
theorem kk_anyle {b : Int} {h G : mm_Id → Int → Int} {dh : Int → Int} (hc : kk_core b h dh) (e : ∀ s c, 0 ≤ s → s < 29 → 1 ≤ c → kk_bs G s c → ∃ s2, (0 ≤ s2 ∧ s2 < 28) ∧ kk_bs h s2 c) : kk_cnt (kk_any G) ≤ 1200 := by
  have B := hc.1.2.1
  have a : kk_cnt (fun c => kk_lb h (-1) c ∨ (∃ s, (13 ≤ s ∧ s < 26) ∧ kk_bs h s c) ∨ (kk_bs h 26 c ∨ kk_bs h 27 c)) ≤ kk_cnt (kk_lb h (-1)) + kk_cnt (fun c => (∃ s, (13 ≤ s ∧ s < 26) ∧ kk_bs h s c) ∨ (kk_bs h 26 c ∨ kk_bs h 27 c)) := kk_cnor
  have a2 : kk_cnt (fun c => (∃ s, (13 ≤ s ∧ s < 26) ∧ kk_bs h s c) ∨ (kk_bs h 26 c ∨ kk_bs h 27 c)) ≤ kk_cnt (fun c => ∃ s, (13 ≤ s ∧ s < 26) ∧ kk_bs h s c) + kk_cnt (fun c => kk_bs h 26 c ∨ kk_bs h 27 c) := kk_cnor
  have l : kk_cnt (kk_any G) ≤ kk_cnt (fun c => kk_lb h (-1) c ∨ (∃ s, (13 ≤ s ∧ s < 26) ∧ kk_bs h s c) ∨ (kk_bs h 26 c ∨ kk_bs h 27 c)) := kk_cntle (fun c c0 _ q => by
    obtain ⟨s, hs, q⟩ := q
    obtain ⟨s2, hs2, q2⟩ := e s c hs.1 hs.2 c0 q
    by_cases k : s2 < 13
    · refine Or.inl ⟨s2, ⟨hs2.1, k⟩, ?_, by omega, q2⟩
      rw [kk_NC hc s2 hs2.1 k]
      have nn := kk_nmW hc.1 s2 hs2.1 k
      have d := hc.1.2.2.1.2.2.2.2.2.2.2.2.2.2.1 s2 hs2.1 k
      obtain ⟨n, p, hn, hp, k1, _⟩ := q2
      have := (kk_NRC hc (t := s2) (n := n) ⟨hs2.1, by omega⟩ hn).1
      by_cases z : kk_no h s2 = 0
      · have := d z n hn.1 hn.2
        omega
      · omega
    · by_cases k2 : s2 < 26
      · exact Or.inr (Or.inl ⟨s2, ⟨by omega, k2⟩, q2⟩)
      · by_cases k3 : s2 = 26
        · rw [k3] at q2; exact Or.inr (Or.inr (Or.inl q2))
        · rw [show s2 = 27 by omega] at q2; exact Or.inr (Or.inr (Or.inr q2)))
  have b3 := B.2.2.1
  have b4 := B.2.2.2.1
  have b5 := B.2.2.2.2.1
  omega
/-- a row that stands anywhere, and its block -/
theorem kk_rcT {b : Int} {h : mm_Id → Int → Int} {dh : Int → Int} (hc : kk_core b h dh) {t n p : Int} (hT : mm_isT t) (hn : 1 ≤ n ∧ n < 37) (hp : 0 ≤ p ∧ p < 36) (z : h (27, t, n) p ≠ 0) : h (41, 0, 0) (36 * t + n - 1) = 1 ∧ h (43, 0, 0) (36 * (36 * t + n - 1) + p) ≠ 0 := by
  have W := hc.1.1.2.1 t n hT hn.1 hn.2
  have a : h (24, t, n) 0 = 1 := Classical.byContradiction (fun q => z (W.2.2.2.2.2.2.2.1 q p hp.1 hp.2))
  have N : kk_NR h t n := by
    by_cases q : t < 18
    · exact kk_NRC hc ⟨by unfold mm_isT at hT; omega, q⟩ hn
    · have s := hc.1.1.2.2.2.1 t (by unfold mm_isT at hT; omega) n hn.1 hn.2
      by_cases w : kk_ctn2 h t n
      · exact s.1 w
      · have := s.2 w
        omega
  exact ⟨by rw [← N.1]; exact a, fun q => z ((N.2.2.2.2.2.2.2 p hp.1 hp.2).1.2 q)⟩
theorem kk_usle {b : Int} {h : mm_Id → Int → Int} {dh : Int → Int} (hc : kk_core b h dh) : kk_us h ≤ 1200 := by
  have z0 := hc.1.1.2.2.2.2.2.2.2.2.2.2
  refine Int.le_trans ?_ (kk_anyle (G := fun x j => if 36 * (36 * 28) ≤ j ∧ x = (43, 0, 0) then 0 else h x j) hc (fun s c s0 s1 c0 q => ?_))
  · have e : kk_us h = kk_cm (fun r => 0 < kc_A h r ∨ 0 < kc_K h r) 1701 := sm_cgI _ (fun r r1 r2 => by
      by_cases c : 1 ≤ r ∧ (0 < kc_A h r ∨ 0 < kc_K h r)
      · rw [if_pos c, kk_b1 c]
      · rw [if_neg c, kk_b0 c])
    rw [e, kk_cntm]
    refine kk_cmle 3001 (fun r c => ∃ t n p, mm_isT t ∧ (1 ≤ n ∧ n < 37) ∧ (0 ≤ p ∧ p < 36) ∧ h (27, t, n) p = r ∧ h (43, 0, 0) (36 * (36 * t + n - 1) + p) = c ∧ r ≠ 0) ?_ 1701 _ _ (fun r r1 r2 r3 => ?_)
    · rintro r r2 c ⟨t, n, p, ht, hn, hp, q1, q2, q3⟩ ⟨t2, n2, p2, ht2, hn2, hp2, q4, q5, q6⟩
      have := (hc.1.1.2.2.2.2.2.1 t n p t2 n2 p2 ht hn hp ht2 hn2 hp2 (by omega) (by omega)).2 (by omega)
      omega
    · have ex : ∃ t n p, mm_isT t ∧ (1 ≤ n ∧ n < 37) ∧ (0 ≤ p ∧ p < 36) ∧ h (27, t, n) p = r := by
        rcases r3 with r3 | r3
        · obtain ⟨t, n, p, ht, q⟩ := kk_Aex z0 r1 r3
          exact ⟨t, n, p, mm_T13 ht, q⟩
        · have in1 : ∀ t, mm_isT t → 0 < kc_N h t r → ∃ t n p, mm_isT t ∧ (1 ≤ n ∧ n < 37) ∧ (0 ≤ p ∧ p < 36) ∧ h (27, t, n) p = r := fun t hT y => by
            obtain ⟨n, n0, n1, n2⟩ := sm_pos 37 y
            obtain ⟨p, p0, p1, p2⟩ := sm_pos 36 n2
            have e : h (27, t, n) p = r := by
              by_cases c : h (27, t, n) p = r
              · exact c
              · simp only [if_neg c] at p2; omega
            refine ⟨t, n, p, hT, ⟨?_, by omega⟩, ⟨by omega, by omega⟩, e⟩
            by_cases c : (n : Int) = 0
            · rw [c] at e
              have := z0 t p hT (by omega) (by omega)
              omega
            · omega
          unfold kc_K at r3
          have n1 := kc_Nnn h 26 r
          have n2 := kc_Nnn h 27 r
          by_cases y : 0 < mm_sm (fun t => kc_N h (13 + t) r) 5
          · obtain ⟨t, t0, t1, t2⟩ := sm_pos 5 y
            exact in1 (13 + t) (by unfold mm_isT; omega) t2
          · by_cases y2 : 0 < kc_N h 26 r
            · exact in1 26 (by unfold mm_isT; omega) y2
            · exact in1 27 (by unfold mm_isT; omega) (by omega)
      obtain ⟨t, n, p, hT, hn, hp, q⟩ := ex
      have w := kk_rcT hc hT hn hp (by omega)
      have t28 : 0 ≤ t ∧ t < 28 := by unfold mm_isT at hT; omega
      have br := kk_brC hc (s := t) ⟨t28.1, by omega⟩ n p hn.1 hn.2 hp.1 hp.2
      refine ⟨_, ⟨by omega, by omega⟩, ⟨t, ⟨t28.1, by omega⟩, n, p, hn, hp, ?_, ?_⟩, t, n, p, hT, hn, hp, q, rfl, by omega⟩
      · show (if _ then _ else _) = (1 : Int)
        rw [if_neg (by rintro ⟨_, y⟩; simp at y)]; exact w.1
      · show (if _ then _ else _) = _
        rw [if_neg (by rintro ⟨y, _⟩; omega)]
  · obtain ⟨n, p, hn, hp, k, e⟩ := q
    have e : (if 36 * (36 * 28) ≤ 36 * (36 * s + n - 1) + p ∧ ((43, 0, 0) : mm_Id) = (43, 0, 0) then 0 else h (43, 0, 0) (36 * (36 * s + n - 1) + p)) = c := e
    have k : (if 36 * (36 * 28) ≤ 36 * s + n - 1 ∧ ((41, 0, 0) : mm_Id) = (43, 0, 0) then 0 else h (41, 0, 0) (36 * s + n - 1)) = 1 := k
    rw [if_neg (by rintro ⟨_, y⟩; simp at y)] at k
    by_cases y : 36 * (36 * 28) ≤ 36 * (36 * s + n - 1) + p
    · rw [if_pos ⟨y, rfl⟩] at e; omega
    · rw [if_neg (fun w => y w.1)] at e
      exact ⟨s, ⟨s0, by omega⟩, n, p, hn, hp, k, e⟩

