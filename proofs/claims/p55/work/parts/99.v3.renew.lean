/-! the cls renews pieces of a file, and puts bytes -/
def kk_RN (t m : Int) (S : Int → Prop) (h c : mm_Id → Int → Int) : Prop :=
  kk_R c ∧ c (24, t, m) 9 = kk_nz (c (27, t, m)) ∧ (∀ p, S p → (0 ≤ p ∧ p < 36) ∧ (1 ≤ c (27, t, m) p ∧ c (27, t, m) p < 1701)) ∧
  (∀ p t2 n2 p2, S p → mm_isT t2 → 1 ≤ n2 → n2 < 37 → 0 ≤ p2 → p2 < 36 → h (27, t2, n2) p2 = c (27, t, m) p → t2 = t ∧ n2 = m ∧ S p2) ∧ (∀ p q, S p → S q → c (27, t, m) p = c (27, t, m) q → p = q) ∧ (∀ p, 0 ≤ p → p < 36 → ¬ S p → c (27, t, m) p = h (27, t, m) p) ∧
  (∀ p k, S p → 0 ≤ k → k < 60 → c (16, 0, 0) (60 * c (27, t, m) p + k) = h (16, 0, 0) (60 * h (27, t, m) p + k)) ∧ (∀ r k, 0 ≤ k → k < 60 → (∀ p, S p → r ≠ c (27, t, m) p) → c (16, 0, 0) (60 * r + k) = h (16, 0, 0) (60 * r + k)) ∧
  (∀ x j, ¬ kk_ct x j → ¬ (x = (15, 0, 0) ∧ j = 8) → x ≠ (16, 0, 0) → x ≠ (27, t, m) → ¬ (x = (24, t, m) ∧ j = 9) → c x j = h x j) ∧ (∀ j, 0 ≤ j → j < 102060 → -128 ≤ c (16, 0, 0) j ∧ c (16, 0, 0) j < 128)
theorem kk_RN0 {t m : Int} {S : Int → Prop} {h : mm_Id → Int → Int} (hS : ∀ p, ¬ S p) (R : kk_R h) (nz : h (24, t, m) 9 = kk_nz (h (27, t, m))) (r16 : ∀ j, 0 ≤ j → j < 102060 → -128 ≤ h (16, 0, 0) j ∧ h (16, 0, 0) j < 128) : kk_RN t m S h h :=
  ⟨R, nz, fun p s => absurd s (hS p), fun p _ _ _ s => absurd s (hS p), fun p _ s => absurd s (hS p), fun _ _ _ _ => rfl, fun p _ s => absurd s (hS p), fun _ _ _ _ _ => rfl, fun _ _ _ _ _ _ _ => rfl, r16⟩
theorem kk_RN1 {t m r q : Int} {S S2 : Int → Prop} {h c g : mm_Id → Int → Int} (I : kk_RN t m S h c) (ht : 0 ≤ t ∧ t < 13) (hm : 1 ≤ m ∧ m < 37) (hq : 0 ≤ q ∧ q < 36) (nS : ¬ S q) (hS2 : ∀ p, S2 p ↔ S p ∨ p = q) (rh : ∀ p, 0 ≤ p → p < 36 → 0 ≤ h (27, t, m) p ∧ h (27, t, m) p < 1701)
    (r1 : 1 ≤ r) (r2 : r < 1701) (r0 : c (19, 0, 0) r = 0) (R : kk_R g) (gq : g (27, t, m) q = r) (nz : g (24, t, m) 9 = kk_nz (g (27, t, m))) (by1 : ∀ i, 0 ≤ i → i < 60 → g (16, 0, 0) (60 * r + i) = c (16, 0, 0) (60 * c (27, t, m) q + i))
    (fr : ∀ x j, ¬ kk_ct x j → ¬ (x = (15, 0, 0) ∧ j = 8) → ¬ (x = (16, 0, 0) ∧ 60 * r ≤ j ∧ j < 60 * r + 60) → ¬ (x = (27, t, m) ∧ j = q) → ¬ (x = (24, t, m) ∧ j = 9) → g x j = c x j) : kk_RN t m S2 h g := by
  obtain ⟨R0, nz0, cS, cH, cI, cO, cB, cE, cF, cR⟩ := I
  have hT := mm_T13 ht
  have free : ∀ t2 n2 p2, mm_isT t2 → 1 ≤ n2 → n2 < 37 → 0 ≤ p2 → p2 < 36 → c (27, t2, n2) p2 ≠ r := fun t2 n2 p2 h1 h2 h3 h4 h5 => kk_freeN R0 r1 r2 r0 h1 ⟨by omega, h3⟩ ⟨h4, h5⟩
  have f27 : ∀ p, p ≠ q → g (27, t, m) p = c (27, t, m) p := fun p w => fr _ _ (by unfold kk_ct; simp) (by simp) (by simp) (fun v => w v.2) (by simp)
  have g16 : ∀ j, ¬ (60 * r ≤ j ∧ j < 60 * r + 60) → g (16, 0, 0) j = c (16, 0, 0) j := fun j w => fr _ _ (by unfold kk_ct; simp) (by simp) (fun v => w v.2) (by simp) (by simp)
  have ne : ∀ p, S p → p ≠ q := fun p s w => nS (by rw [← w]; exact s)
  have nr : ∀ p, S p → c (27, t, m) p ≠ r := fun p s => free t m p hT hm.1 hm.2 (cS p s).1.1 (cS p s).1.2
  have cq : c (27, t, m) q = h (27, t, m) q := cO q hq.1 hq.2 nS
  refine ⟨R, nz, fun p s => ?_, fun p t2 n2 p2 s hT2 n0 n1 p0 p1 e => ?_, fun p p2 s s2 e => ?_, fun p p0 p1 s => ?_, fun p k s k0 k1 => ?_, fun r' k k0 k1 w => ?_, fun x j w1 w2 w3 w4 w5 => ?_, fun j j0 j1 => ?_⟩
  · rcases (hS2 p).1 s with s | s
    · rw [f27 p (ne p s)]; exact cS p s
    · rw [s, gq]; exact ⟨hq, r1, r2⟩
  · rcases (hS2 p).1 s with s | s
    · rw [f27 p (ne p s)] at e
      have a := cH p t2 n2 p2 s hT2 n0 n1 p0 p1 e
      exact ⟨a.1, a.2.1, (hS2 p2).2 (Or.inl a.2.2)⟩
    · rw [s, gq] at e
      by_cases a : t2 = t ∧ n2 = m
      · refine ⟨a.1, a.2, Classical.byContradiction (fun ns => ?_)⟩
        rw [a.1, a.2, ← cO p2 p0 p1 (fun w => ns ((hS2 p2).2 (Or.inl w)))] at e
        exact free t m p2 hT hm.1 hm.2 p0 p1 e
      · refine absurd ?_ (free t2 n2 p2 hT2 n0 n1 p0 p1)
        rw [← e]
        exact cF _ _ (by unfold kk_ct; simp) (by simp) (by simp) (fun v => a (by simp at v; exact v)) (by simp)
  · rcases (hS2 p).1 s with s | s <;> rcases (hS2 p2).1 s2 with s2 | s2
    · rw [f27 p (ne p s), f27 p2 (ne p2 s2)] at e; exact cI p p2 s s2 e
    · rw [f27 p (ne p s), s2, gq] at e; exact absurd e (nr p s)
    · rw [f27 p2 (ne p2 s2), s, gq] at e; exact absurd e.symm (nr p2 s2)
    · rw [s, s2]
  · rw [f27 p (fun w => s ((hS2 p).2 (Or.inr w)))]; exact cO p p0 p1 (fun w => s ((hS2 p).2 (Or.inl w)))
  · rcases (hS2 p).1 s with s | s
    · have n := nr p s
      rw [f27 p (ne p s), g16 _ (by omega)]; exact cB p k s k0 k1
    · rw [s, gq, by1 k k0 k1, cq]
      refine cE _ k k0 k1 (fun p2 s2 e => ?_)
      exact nS (cH p2 t m q s2 hT hm.1 hm.2 hq.1 hq.2 e).2.2
  · have a : r' ≠ r := by rw [← gq]; exact w q ((hS2 q).2 (Or.inr rfl))
    rw [g16 _ (by omega)]
    exact cE r' k k0 k1 (fun p s => by rw [← f27 p (ne p s)]; exact w p ((hS2 p).2 (Or.inl s)))
  · rw [fr x j w1 w2 (fun v => w3 v.1) (fun v => w4 v.1) w5]; exact cF x j w1 w2 w3 w4 w5
  · by_cases a : 60 * r ≤ j ∧ j < 60 * r + 60
    · have b := by1 (j - 60 * r) (by omega) (by omega)
      rw [show 60 * r + (j - 60 * r) = j by omega] at b
      rw [b, cq]
      have := rh q hq.1 hq.2
      exact cR _ (by omega) (by omega)
    · rw [g16 j a]; exact cR j j0 j1
/-- bytes are put on some pages, the rest stays -/
def kk_PW (f : Nat) (R : Int → Int) (S : Int → Prop) (a : Int) (B : Int → Int) (j : Int) (h g : mm_Id → Int → Int) : Prop :=
  (∀ x q, x ≠ (f, 0, 0) → g x q = h x q) ∧ (∀ p k, S p → 0 ≤ k → k < 60 → g (f, 0, 0) (60 * R p + k) = if a ≤ 60 * p + k ∧ 60 * p + k < a + j then B (60 * p + k - a) else h (f, 0, 0) (60 * R p + k)) ∧ (∀ r k, 0 ≤ k → k < 60 → (∀ p, S p → r ≠ R p) → g (f, 0, 0) (60 * r + k) = h (f, 0, 0) (60 * r + k))
theorem kk_PW0 {f : Nat} {R : Int → Int} {S : Int → Prop} {a : Int} {B : Int → Int} {h : mm_Id → Int → Int} : kk_PW f R S a B 0 h h := ⟨fun _ _ _ => rfl, fun p k _ _ _ => by rw [if_neg (by omega)], fun _ _ _ _ _ => rfl⟩
theorem kk_PW1 {f : Nat} {R : Int → Int} {S : Int → Prop} {a j : Int} {B : Int → Int} {h g : mm_Id → Int → Int} (I : kk_PW f R S a B j h g) (a0 : 0 ≤ a) (j0 : 0 ≤ j) (s : S ((a + j) / 60)) (inj : ∀ p q, S p → S q → R p = R q → p = q) : kk_PW f R S a B (j + 1) h (mm_up g (f, 0, 0) (60 * R ((a + j) / 60) + (a + j) % 60) (B j)) := by
  obtain ⟨I1, I2, I3⟩ := I
  refine ⟨fun x q w => ?_, fun p k sp k0 k1 => ?_, fun r k k0 k1 w => ?_⟩
  · rw [mm_upne' (fun v => w v.1)]; exact I1 x q w
  · by_cases e : 60 * R p + k = 60 * R ((a + j) / 60) + (a + j) % 60
    · have pe := inj p _ sp s (by omega)
      have v : 60 * p + k = a + j := by omega
      rw [e, mm_ups, if_pos (by omega), show 60 * p + k - a = j by omega]
    · rw [mm_upj e, I2 p k sp k0 k1]
      have v : 60 * p + k ≠ a + j := fun w => e (by rw [show p = (a + j) / 60 by omega]; omega)
      by_cases z : a ≤ 60 * p + k ∧ 60 * p + k < a + j
      · rw [if_pos z, if_pos (by omega)]
      · rw [if_neg z, if_neg (by omega)]
  · rw [mm_upj (fun e => w _ s (by omega))]; exact I3 r k k0 k1 w
/-- sums from a place on -/
def kk_sf (f : Int → Int) (lo j : Int) : Int := mm_sm (fun i => f (lo + i)) (j - lo).toNat
theorem kk_sf0 (f : Int → Int) (lo : Int) : kk_sf f lo lo = 0 := by unfold kk_sf; rw [Int.sub_self]; rfl
theorem kk_sf1 (f : Int → Int) {lo j : Int} (h : lo ≤ j) : kk_sf f lo (j + 1) = kk_sf f lo j + f j := by
  unfold kk_sf
  rw [show (j + 1 - lo).toNat = (j - lo).toNat + 1 by omega]
  show mm_sm _ _ + f (lo + ((j - lo).toNat : Int)) = _
  rw [show lo + ((j - lo).toNat : Int) = j by omega]
theorem kk_sfc {f g : Int → Int} {lo : Int} (d : Nat) (h : ∀ p, lo ≤ p → p < lo + d → f p = g p) : kk_sf f lo (lo + d) = kk_sf g lo (lo + d) := by
  unfold kk_sf
  rw [show (lo + (d : Int) - lo).toNat = d by omega]
  exact sm_cgI d (fun i i0 i1 => h _ (by omega) (by omega))
theorem kk_sfb {f : Int → Int} {lo : Int} (d : Nat) (h : ∀ p, lo ≤ p → p < lo + d → 0 ≤ f p ∧ f p ≤ 1) : 0 ≤ kk_sf f lo (lo + d) ∧ kk_sf f lo (lo + d) ≤ d := by
  induction d with
  | zero => rw [show lo + ((0 : Nat) : Int) = lo by omega, kk_sf0]; omega
  | succ d ih =>
    have a := ih (fun p h1 h2 => h p h1 (by omega))
    rw [show lo + ((d + 1 : Nat) : Int) = (lo + (d : Int)) + 1 by omega, kk_sf1 f (by omega)]
    have := h (lo + d) (by omega) (by omega)
    omega
/-- whether a piece is new to a file; whether a row isn't a tree's alone -/
def kk_fr (h : mm_Id → Int → Int) (t m p : Int) : Int := if h (27, t, m) p = 0 then 1 else 0
def kk_na (h : mm_Id → Int → Int) (t m p : Int) : Int := if (1 ≤ h (27, t, m) p ∧ h (27, t, m) p < 1701) ∧ h (17, 0, 0) (h (27, t, m) p) = 1 then 0 else 1
/-- no more rows than there were, but one -/
theorem kk_us2 {t m q r : Int} {c g : mm_Id → Int → Int} (ht : 0 ≤ t ∧ t < 13) (hm : 1 ≤ m ∧ m < 37) (hq : 0 ≤ q ∧ q < 36) (hr : 1 ≤ r ∧ r < 1701) (gq : g (27, t, m) q = r) (fr : ∀ t2 n2 p2, ¬ (t2 = t ∧ n2 = m ∧ p2 = q) → g (27, t2, n2) p2 = c (27, t2, n2) p2) : kk_us g ≤ kk_us c + 1 := by
  refine kk_us1 hr (fun r' w => ?_) (fun r' w => ?_)
  · rw [kc_A1 (hi := c) (h2 := g) (t := t) (n := m) (p := q) fr ht ⟨by omega, hm.2⟩ hq r', gq, if_neg (fun v => w v.symm)]
    split <;> omega
  · rw [kc_Ko (hi := c) (h2 := g) (t := t) (n := m) (p := q) fr ht r']
    exact Int.le_refl _

