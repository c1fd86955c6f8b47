/-! the heap by the mini machine's: what is read, what a store and a making leave -/
def mm_fv (h : mm_H) (x : mm_Id) (c k : Nat) : mm_V := if (mm_ft.getD c []).getD k 0 = 1 then zL (h.1 x k) else if (mm_ft.getD c []).getD k 0 = 2 then zR (h.2.1 x k) else zI (h.1 x k)
def mm_ev (h : mm_H) (x : mm_Id) (kd j : Nat) : mm_V := if kd < 5 then zI (h.1 x j) else if kd = 5 then zL (h.1 x j) else zR (h.2.1 x j)
def mm_nc (c : Nat) : Nat := (mm_ft.getD c []).length
def mm_scr (g : mm_G) (h : mm_H) : Prop := ∃ (L : Nat) (cell : Cell), g.2.2.2.1[g.2.2.2.2 (90, 0, 0)]? = some cell ∧ cell.slots.size = L ∧ L < 2147483648 ∧ h.1 (90, 0, 0) (-1) = L ∧
  ∀ j : Nat, j < L → ∃ x : Int32, cell.slots[j]? = some (.int x) ∧ h.1 (90, 0, 0) j = x.toInt
def mm_isO (g : mm_G) (h : mm_H) (x : mm_Id) (c : Nat) (H : Heap) : Prop := ∃ V : Nat → Value, t_OB (mm_ad g x) (g.2.1.1 c) (mm_nc c) (g.2.1.2 c) H V ∧ ∀ k, k < mm_nc c → mm_rv g (mm_fv h x c k) (V k)
def mm_isA (g : mm_G) (h : mm_H) (x : mm_Id) (kd n : Nat) (H : Heap) : Prop := ∃ z : Nat → Value, H[mm_ad g x]? = some (arrV (g.2.2.1 kd) n z) ∧ (∀ j, j < n → mm_rv g (mm_ev h x kd j) (z j)) ∧ (kd = 3 → ∀ j, j < n → fits .byte (z j) = true)
def mm_hr (g : mm_G) (h : mm_H) (H : Heap) : Prop :=
  (H.size = g.1 + h.2.2.1.toNat ∧ 0 ≤ h.2.2.1 ∧ 0 ≤ h.2.2.2 ∧ (∀ q : Nat, q < g.1 → H[q]? = g.2.2.2.1[q]?)) ∧
  (∀ (x : mm_Id) (c : Nat), mm_SH x = (1, (c : Int)) → mm_lv x h.2.2.1 = true → mm_isO g h x c H) ∧
  (∀ (x : mm_Id) (kd n : Nat), mm_SH x = (kd, (n : Int)) → 2 ≤ kd → kd ≤ 9 → mm_lv x h.2.2.1 = true → mm_isA g h x kd n H) ∧
  (∀ x : mm_Id, mm_SH x ≠ (0, 0) → x.1 < 90 → h.2.2.1 ≤ mm_off x → ∀ k, h.1 x k = 0 ∧ h.2.1 x k = mm_nul) ∧ mm_scr g h
theorem mm_lvI {x : mm_Id} {n : Int} : mm_lv x n = true ↔ mm_off x < n := by unfold mm_lv; exact decide_eq_true_iff
theorem mm_ne0 {x : mm_Id} {kd : Nat} {n : Int} (h : mm_SH x = (kd, n)) (h1 : 1 ≤ kd) : mm_SH x ≠ (0, 0) := fun e => by
  have := congrArg Prod.fst (h.symm.trans e)
  dsimp only at this
  omega
theorem mm_adO (g : mm_G) {x : mm_Id} (h : x.1 < 90) : mm_ad g x = g.1 + (mm_off x).toNat := by unfold mm_ad; rw [if_neg (by omega)]
/-- two cells of the law's making have two addresses -/
theorem mm_ad_inj (g : mm_G) {x y : mm_Id} (hx : mm_SH x ≠ (0, 0)) (hy : mm_SH y ≠ (0, 0)) (x9 : x.1 < 90) (y9 : y.1 < 90) (h : mm_ad g x = mm_ad g y) : x = y := by
  rw [mm_adO g x9, mm_adO g y9] at h
  exact mm_off_inj hx hy x9 y9 (by omega)
theorem mm_fv_off {h h' : mm_H} {x : mm_Id} {c k : Nat} (e1 : h'.1 x = h.1 x) (e2 : h'.2.1 x = h.2.1 x) : mm_fv h' x c k = mm_fv h x c k := by unfold mm_fv; rw [e1, e2]
theorem mm_ev_off {h h' : mm_H} {x : mm_Id} {kd k : Nat} (e1 : h'.1 x = h.1 x) (e2 : h'.2.1 x = h.2.1 x) : mm_ev h' x kd k = mm_ev h x kd k := by unfold mm_ev; rw [e1, e2]
/-- a cell is changed, and all else stays -/
theorem mm_hr_set {g : mm_G} {h h' : mm_H} {H H' : Heap} (hh : mm_hr g h H) {x : mm_Id} {kd : Nat} {n : Int} (hx : mm_SH x = (kd, n)) (h1 : 1 ≤ kd) (h9 : kd ≤ 9) (hl : mm_lv x h.2.2.1 = true)
    (e0 : h'.2.2 = h.2.2) (e1 : ∀ y, y ≠ x → h'.1 y = h.1 y ∧ h'.2.1 y = h.2.1 y) (hz : H'.size = H.size) (ho : ∀ q, q ≠ mm_ad g x → H'[q]? = H[q]?)
    (hO : ∀ c : Nat, mm_SH x = (1, (c : Int)) → mm_isO g h' x c H') (hA : ∀ kd n : Nat, mm_SH x = (kd, (n : Int)) → 2 ≤ kd → mm_isA g h' x kd n H') : mm_hr g h' H' := by
  obtain ⟨⟨s1, s2, s3, s4⟩, hO0, hA0, hF, L, cell, l1, l2, l3, l4, l5⟩ := hh
  have x9 := mm_kd90 hx h1 h9
  have xn := mm_ne0 hx h1
  have far : ∀ (y : mm_Id) (kd' : Nat) (n' : Int), mm_SH y = (kd', n') → 1 ≤ kd' → kd' ≤ 9 → y ≠ x → mm_ad g y ≠ mm_ad g x := fun y kd' n' hy a b hne e => hne (mm_ad_inj g (mm_ne0 hy a) xn (mm_kd90 hy a b) x9 e)
  refine ⟨⟨by rw [hz, s1, e0], by rw [e0]; exact s2, by rw [e0]; exact s3, fun q hq => ?_⟩, fun y c hy hly => ?_, fun y kd' n' hy a b hly => ?_, fun y hy y9 hoff k => ?_, L, cell, l1, l2, l3, ?_, fun j hj => ?_⟩
  · rw [ho q (by rw [mm_adO g x9]; omega)]
    exact s4 q hq
  · by_cases e : y = x
    · subst e; exact hO c hy
    · obtain ⟨V, p1, p2⟩ := hO0 y c hy (by rw [e0] at hly; exact hly)
      obtain ⟨q1, q2⟩ := e1 y e
      exact ⟨V, p1.kept (ho _ (far y 1 _ hy (by omega) (by omega) e)), fun k hk => by rw [mm_fv_off q1 q2]; exact p2 k hk⟩
  · by_cases e : y = x
    · subst e; exact hA kd' n' hy a
    · obtain ⟨z, p1, p2⟩ := hA0 y kd' n' hy a b (by rw [e0] at hly; exact hly)
      obtain ⟨q1, q2⟩ := e1 y e
      exact ⟨z, by rw [ho _ (far y kd' _ hy (by omega) b e)]; exact p1, fun j hj => by rw [mm_ev_off q1 q2]; exact p2.1 j hj, p2.2⟩
  · have hne : y ≠ x := fun e => by
      subst e
      rw [e0] at hoff
      have := mm_lvI.mp hl
      omega
    obtain ⟨q1, q2⟩ := e1 y hne
    rw [q1, q2]
    rw [e0] at hoff
    exact hF y hy y9 hoff k
  · have hne : ((90, 0, 0) : mm_Id) ≠ x := fun e => by rw [← e] at x9; exact absurd x9 (by decide)
    rw [(e1 _ hne).1]; exact l4
  · have hne : ((90, 0, 0) : mm_Id) ≠ x := fun e => by rw [← e] at x9; exact absurd x9 (by decide)
    rw [(e1 _ hne).1]; exact l5 j hj
theorem mm_SH1 {x : mm_Id} {a b : Nat} {c d : Int} (h1 : mm_SH x = (a, c)) (h2 : mm_SH x = (b, d)) : a = b ∧ c = d := by
  have := h1.symm.trans h2
  exact ⟨congrArg Prod.fst this, congrArg Prod.snd this⟩
/-- a field is stored -/
theorem mm_hr_putO {g : mm_G} {h h' : mm_H} {H H' : Heap} (hh : mm_hr g h H) {x : mm_Id} {c : Nat} (hx : mm_SH x = (1, (c : Int))) (hl : mm_lv x h.2.2.1 = true)
    {cell : Cell} {V : Nat → Value} (hV : ∀ k, k < mm_nc c → mm_rv g (mm_fv h x c k) (V k)) (c2 : cell.cls = g.2.1.1 c) (c3 : cell.vm = .none) (c4 : ∀ k, k < mm_nc c → cell.slots[g.2.1.2 c k]? = some (V k))
    (hap : ∀ a b, a < mm_nc c → b < mm_nc c → a ≠ b → g.2.1.2 c a ≠ g.2.1.2 c b) {k : Nat} (hk : k < mm_nc c) {w : Value} (hw : mm_rv g (mm_fv h' x c k) w)
    (e0 : h'.2.2 = h.2.2) (e1 : ∀ (y : mm_Id) (j : Int), ¬ (y = x ∧ j = k) → h'.1 y j = h.1 y j ∧ h'.2.1 y j = h.2.1 y j) (hz : H'.size = H.size) (ho : ∀ q, q ≠ mm_ad g x → H'[q]? = H[q]?)
    (hn : H'[mm_ad g x]? = some (cell.setSlot (g.2.1.2 c k) w)) : mm_hr g h' H' := by
  refine mm_hr_set hh hx (by omega) (by omega) hl e0 (fun y hy => ⟨funext fun j => (e1 y j (fun q => hy q.1)).1, funext fun j => (e1 y j (fun q => hy q.1)).2⟩) hz ho (fun c' hc' => ?_) (fun kd n hq h2 => ?_)
  · obtain ⟨-, e⟩ := mm_SH1 hx hc'
    have e : c = c' := by omega
    subst e
    refine ⟨updV V k w, ⟨_, hn, c2, c3, t_set c4 hap hk w⟩, fun j hj => ?_⟩
    by_cases a : j = k
    · subst a
      simp only [updV, if_true]
      exact hw
    · have hq : ¬ (x = x ∧ (j : Int) = (k : Int)) := fun q => a (by omega)
      have : mm_fv h' x c j = mm_fv h x c j := by unfold mm_fv; rw [(e1 x j hq).1, (e1 x j hq).2]
      rw [this]
      simp only [updV, if_neg a]
      exact hV j hj
  · obtain ⟨e, -⟩ := mm_SH1 hx hq
    omega
/-- an array's places are stored -/
theorem mm_hr_putA {g : mm_G} {h h' : mm_H} {H H' : Heap} (hh : mm_hr g h H) {x : mm_Id} {kd n : Nat} (hx : mm_SH x = (kd, (n : Int))) (h2 : 2 ≤ kd) (h9 : kd ≤ 9) (hl : mm_lv x h.2.2.1 = true)
    {z : Nat → Value} (hz : ∀ j, j < n → mm_rv g (mm_ev h' x kd j) (z j)) (e0 : h'.2.2 = h.2.2) (e1 : ∀ y, y ≠ x → h'.1 y = h.1 y ∧ h'.2.1 y = h.2.1 y) (hs : H'.size = H.size) (ho : ∀ q, q ≠ mm_ad g x → H'[q]? = H[q]?)
    (hn : H'[mm_ad g x]? = some (arrV (g.2.2.1 kd) n z)) (hf : kd = 3 → ∀ j, j < n → fits .byte (z j) = true) : mm_hr g h' H' := by
  refine mm_hr_set hh hx (by omega) h9 hl e0 e1 hs ho (fun c hc => ?_) (fun kd' n' hq h2' => ?_)
  · obtain ⟨e, -⟩ := mm_SH1 hx hc
    omega
  · obtain ⟨e, e'⟩ := mm_SH1 hx hq
    have e' : n = n' := by omega
    subst e; subst e'
    exact ⟨z, hn, hz, hf⟩
/-- a cell is made -/
theorem mm_hr_new {g : mm_G} {h : mm_H} {H H' : Heap} (hh : mm_hr g h H) {kd : Nat} {n : Int} (hx : mm_SH (mm_be h.2.2.1) = (kd, n)) (h1 : 1 ≤ kd) (h9 : kd ≤ 9) {k : Int} (hk : 0 ≤ k)
    (hz : H'.size = H.size + 1) (ho : ∀ q, q < H.size → H'[q]? = H[q]?)
    (hO : ∀ c : Nat, mm_SH (mm_be h.2.2.1) = (1, (c : Int)) → mm_isO g (h.1, h.2.1, h.2.2.1 + 1, h.2.2.2 + k) (mm_be h.2.2.1) c H') (hA : ∀ kd n : Nat, mm_SH (mm_be h.2.2.1) = (kd, (n : Int)) → 2 ≤ kd → mm_isA g (h.1, h.2.1, h.2.2.1 + 1, h.2.2.2 + k) (mm_be h.2.2.1) kd n H') :
    mm_hr g (h.1, h.2.1, h.2.2.1 + 1, h.2.2.2 + k) H' ∧ mm_ad g (mm_be h.2.2.1) = H.size := by
  obtain ⟨⟨s1, s2, s3, s4⟩, hO0, hA0, hF, L, cell, l1, l2, l3, l4, l5⟩ := hh
  have x9 := mm_kd90 hx h1 h9
  have xo := mm_off_be s2
  have had : mm_ad g (mm_be h.2.2.1) = H.size := by rw [mm_adO g x9, xo, s1]
  have lt : ∀ (y : mm_Id) (kd' : Nat) (n' : Int), mm_SH y = (kd', n') → 1 ≤ kd' → kd' ≤ 9 → mm_off y < h.2.2.1 + 1 → y ≠ mm_be h.2.2.1 → mm_off y < h.2.2.1 ∧ mm_ad g y < H.size := by
    intro y kd' n' hy a b hlt hne
    have y9 := mm_kd90 hy a b
    obtain ⟨p1, p2⟩ := mm_be_off y (mm_ne0 hy a) y9
    have : mm_off y ≠ h.2.2.1 := fun e => hne (by rw [← p1, e])
    rw [mm_adO g y9, s1]
    omega
  refine ⟨⟨⟨by rw [hz, s1]; show _ = g.1 + (h.2.2.1 + 1).toNat; omega, by show 0 ≤ h.2.2.1 + 1; omega, by show 0 ≤ h.2.2.2 + k; omega, fun q hq => by rw [ho q (by omega)]; exact s4 q hq⟩, fun y c hy hly => ?_, fun y kd' n' hy a b hly => ?_, fun y hy y9 hoff j => hF y hy y9 (by have : h.2.2.1 + 1 ≤ mm_off y := hoff; omega) j, L, cell, l1, l2, l3, l4, l5⟩, had⟩
  · by_cases e : y = mm_be h.2.2.1
    · rw [e] at hy ⊢; exact hO c hy
    · obtain ⟨q1, q2⟩ := lt y 1 _ hy (by omega) (by omega) (mm_lvI.mp hly) e
      obtain ⟨V, p1, p2⟩ := hO0 y c hy (mm_lvI.mpr q1)
      exact ⟨V, p1.kept (ho _ q2), p2⟩
  · by_cases e : y = mm_be h.2.2.1
    · rw [e] at hy ⊢; exact hA kd' n' hy a
    · obtain ⟨q1, q2⟩ := lt y kd' _ hy (by omega) b (mm_lvI.mp hly) e
      obtain ⟨z, p1, p2⟩ := hA0 y kd' n' hy a b (mm_lvI.mpr q1)
      exact ⟨z, by rw [ho _ q2]; exact p1, p2⟩
