/-! an entry moved, here -/
/-- an entry struck out of a directory, or put into one: all else stays -/
def kk_dfr (h g : mm_Id → Int → Int) (s d : Int) : Prop := ∀ (x : mm_Id) j, x ≠ (25, s, d) → x ≠ (26, s, d) → ¬ (x = (24, s, d) ∧ j = 6) → g x j = h x j
def kk_Ed (h : mm_Id → Int → Int) (s d x v : Int) : Prop := kk_E (h (25, s, d)) (h (26, s, d)) (h (24, s, d) 6) x v
section
variable {h : mm_Id → Int → Int} {dh : Int → Int} {nx ns : Int} {Q : mm_V → mm_H → Prop}
theorem s101y (hx : 5275 ≤ nx) {s d p x : Int} (hsT : mm_isT s) (hd : 1 ≤ d ∧ d < 37) (hc : 0 ≤ h (24, s, d) 6 ∧ h (24, s, d) 6 ≤ 24) (srt : mm_srt (h (25, s, d)) (h (24, s, d) 6)) (hp : 0 ≤ p ∧ p < h (24, s, d) 6) (ep : h (25, s, d) p = x)
    (K : ∀ g, (∀ i, g (25, s, d) i = kk_del (h (25, s, d)) p (h (24, s, d) 6 - 1) i) → (∀ i, g (26, s, d) i = kk_del (h (26, s, d)) p (h (24, s, d) 6 - 1) i) → g (24, s, d) 6 = h (24, s, d) 6 - 1 → kk_dfr h g s d → Q zU (mm_z g dh nx ns)) : mm_Cl 101 [zR (24, s, d), zI x] (mm_z h dh nx ns) Q := by
  refine s101 hsT ⟨by omega, hd.2⟩ hx hc srt (fun p2 a b c => ?_) (fun w => absurd ep (w p hp.1 hp.2))
  have e : p2 = p := kk_inj srt a b hp.1 hp.2 (by rw [c, ep])
  rw [e]
  have sX := fun i => kk_shdX (f := h) (X := (25, s, d)) (Y := (26, s, d)) (W := (24, s, d)) (p := p) (c := h (24, s, d) 6 - 1) (j := 6) (v := h (24, s, d) 6 - 1) (o := 0) (by simp) i
  have sY := fun i => kk_shdY (f := h) (X := (25, s, d)) (Y := (26, s, d)) (W := (24, s, d)) (p := p) (c := h (24, s, d) 6 - 1) (j := 6) (v := h (24, s, d) 6 - 1) (o := 0) (by simp) i
  simp only [Int.zero_add] at sX sY
  exact K _ sX sY (kk_shdW (by simp) (by simp)) (fun y j a1 a2 a3 => kk_shdO (fun q => a1 q.1) (fun q => a2 q.1) a3)
theorem s100y (hx : 5275 ≤ nx) {s d x m : Int} (hsT : mm_isT s) (hd : 1 ≤ d ∧ d < 37) (hc : 0 ≤ h (24, s, d) 6 ∧ h (24, s, d) 6 < 24) (ab : ∀ i, 0 ≤ i → i < h (24, s, d) 6 → h (25, s, d) i ≠ x)
    (K : ∀ g p, 0 ≤ p → p ≤ h (24, s, d) 6 → (∀ i, 0 ≤ i → i < p → h (25, s, d) i < x) → (p < h (24, s, d) 6 → x < h (25, s, d) p) → (∀ i, g (25, s, d) i = kk_ins (h (25, s, d)) p (h (24, s, d) 6) x i) → (∀ i, g (26, s, d) i = kk_ins (h (26, s, d)) p (h (24, s, d) 6) m i) → g (24, s, d) 6 = h (24, s, d) 6 + 1 → kk_dfr h g s d → Q zU (mm_z g dh nx ns)) : mm_Cl 100 [zR (24, s, d), zI x, zI m] (mm_z h dh nx ns) Q := by
  refine s100 hsT ⟨by omega, hd.2⟩ hx hc (fun p p0 p1 p2 p3 => ?_)
  have sX := fun i => kk_shuX (f := h) (X := (25, s, d)) (Y := (26, s, d)) (W := (24, s, d)) (p := p) (c := h (24, s, d) 6) (x := x) (m := m) (j := 6) (v := h (24, s, d) 6 + 1) (o := 0) (by simp) (by simp) i
  have sY := fun i => kk_shuY (f := h) (X := (25, s, d)) (Y := (26, s, d)) (W := (24, s, d)) (p := p) (c := h (24, s, d) 6) (x := x) (m := m) (j := 6) (v := h (24, s, d) 6 + 1) (o := 0) (by simp) (by simp) i
  have sW := kk_shuW (f := h) (X := (25, s, d)) (Y := (26, s, d)) (W := (24, s, d)) (p := p) (c := h (24, s, d) 6) (x := x) (m := m) (j := 6) (v := h (24, s, d) 6 + 1) (o := 0) (by simp) (by simp)
  have sO := fun y j (a1 : ¬ (y = (24, s, d) ∧ j = 6)) (a2 : y ≠ (25, s, d)) (a3 : y ≠ (26, s, d)) => kk_shuO (f := h) (X := (25, s, d)) (Y := (26, s, d)) (W := (24, s, d)) (z := y) (i := j) (p := p) (c := h (24, s, d) 6) (x := x) (m := m) (j := 6) (v := h (24, s, d) 6 + 1) (o := 0) (fun q => a2 q.1) (fun q => a3 q.1) a1 p1
  simp only [Int.zero_add] at sX sY sW sO
  have cm : mm_up (mm_up (mm_up (mm_shu h (25, s, d) (26, s, d) p (h (24, s, d) 6)) (25, s, d) p x) (26, s, d) p m) (24, s, d) 6 (h (24, s, d) 6 + 1) = mm_up (mm_up (mm_up (mm_shu h (25, s, d) (26, s, d) p (h (24, s, d) 6)) (24, s, d) 6 (h (24, s, d) 6 + 1)) (25, s, d) p x) (26, s, d) p m := by
    funext y j
    simp only [mm_up]
    by_cases y24 : y = (24, s, d) ∧ j = 6
    · rw [if_pos y24, if_neg (by rintro ⟨q, _⟩; rw [y24.1] at q; simp at q), if_neg (by rintro ⟨q, _⟩; rw [y24.1] at q; simp at q), if_pos y24]
    · rw [if_neg y24]
      by_cases y26 : y = (26, s, d) ∧ j = p
      · rw [if_pos y26, if_pos y26]
      · rw [if_neg y26, if_neg y26]
        by_cases y25 : y = (25, s, d) ∧ j = p
        · rw [if_pos y25, if_pos y25]
        · rw [if_neg y25, if_neg y25, if_neg y24]
  rw [cm]
  refine K _ p p0 p1 p2 (fun w => ?_) sX sY sW (fun y j a1 a2 a3 => sO y j a3 a1 a2)
  have := ab p p0 w
  have := p3 w
  omega
end
/-- what a directory holds, where an entry goes, or comes -/
theorem kk_Edd {h g : mm_Id → Int → Int} {s d p : Int} (hs : mm_srt (h (25, s, d)) (h (24, s, d) 6)) (hp : 0 ≤ p ∧ p < h (24, s, d) 6) (g25 : ∀ i, g (25, s, d) i = kk_del (h (25, s, d)) p (h (24, s, d) 6 - 1) i) (g26 : ∀ i, g (26, s, d) i = kk_del (h (26, s, d)) p (h (24, s, d) 6 - 1) i) (g6 : g (24, s, d) 6 = h (24, s, d) 6 - 1) (x v : Int) : kk_Ed g s d x v ↔ kk_Ed h s d x v ∧ x ≠ h (25, s, d) p := by
  unfold kk_Ed
  rw [g6]
  exact (kk_Ec (fun i _ _ => ⟨g25 i, g26 i⟩)).trans (kk_Edel hs hp)
theorem kk_Edi {h g : mm_Id → Int → Int} {s d p y w : Int} (p0 : 0 ≤ p) (p1 : p ≤ h (24, s, d) 6) (g25 : ∀ i, g (25, s, d) i = kk_ins (h (25, s, d)) p (h (24, s, d) 6) y i) (g26 : ∀ i, g (26, s, d) i = kk_ins (h (26, s, d)) p (h (24, s, d) 6) w i) (g6 : g (24, s, d) 6 = h (24, s, d) 6 + 1) (x v : Int) : kk_Ed g s d x v ↔ kk_Ed h s d x v ∨ (x = y ∧ v = w) := by
  unfold kk_Ed
  rw [g6]
  exact (kk_Ec (fun i _ _ => ⟨g25 i, g26 i⟩)).trans (kk_Eins p0 p1)
theorem kk_Edx {h g : mm_Id → Int → Int} {s d d2 : Int} (e : kk_dfr h g s d) (ne : d2 ≠ d) (x v : Int) : kk_Ed g s d2 x v ↔ kk_Ed h s d2 x v := by
  have e25 : g (25, s, d2) = h (25, s, d2) := funext (fun j => e _ _ (by simp; omega) (by simp) (by simp))
  have e26 : g (26, s, d2) = h (26, s, d2) := funext (fun j => e _ _ (by simp) (by simp; omega) (by simp))
  have e6 : g (24, s, d2) 6 = h (24, s, d2) 6 := e _ _ (by simp) (by simp) (by simp; omega)
  unfold kk_Ed
  rw [e25, e26, e6]


