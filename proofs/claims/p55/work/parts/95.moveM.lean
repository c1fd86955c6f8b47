/-! an entry moved, there -/
def kk_Em (f : mm_Id → Int → Int) (s d x v : Int) : Prop := kk_E (fun i => f (45, 0, 0) (24 * (36 * s + d - 1) + i)) (fun i => f (46, 0, 0) (24 * (36 * s + d - 1) + i)) (f (44, 0, 0) (36 * s + d - 1)) x v
def kk_Es (f : mm_Id → Int → Int) (s d : Int) : Prop := mm_srt (fun i => f (45, 0, 0) (24 * (36 * s + d - 1) + i)) (f (44, 0, 0) (36 * s + d - 1)) ∧ 0 ≤ f (44, 0, 0) (36 * s + d - 1) ∧ f (44, 0, 0) (36 * s + d - 1) ≤ 24
def kk_mfr (f g : mm_Id → Int → Int) (s d : Int) : Prop := ∀ (x : mm_Id) j, ¬ ((x = (45, 0, 0) ∨ x = (46, 0, 0)) ∧ 24 * (36 * s + d - 1) ≤ j ∧ j < 24 * (36 * s + d - 1) + 24) → ¬ (x = (44, 0, 0) ∧ j = 36 * s + d - 1) → g x j = f x j
theorem kk_Emf {f g : mm_Id → Int → Int} {s d : Int} (e6 : g (44, 0, 0) (36 * s + d - 1) = f (44, 0, 0) (36 * s + d - 1)) (e : ∀ i, 0 ≤ i → i < 24 → g (45, 0, 0) (24 * (36 * s + d - 1) + i) = f (45, 0, 0) (24 * (36 * s + d - 1) + i) ∧ g (46, 0, 0) (24 * (36 * s + d - 1) + i) = f (46, 0, 0) (24 * (36 * s + d - 1) + i)) (S : kk_Es f s d) : kk_Es g s d ∧ ∀ x v, kk_Em g s d x v ↔ kk_Em f s d x v := by
  unfold kk_Es kk_Em at *
  rw [e6]
  refine ⟨⟨fun i j i0 ij jc => ?_, S.2⟩, fun x v => kk_Ec (fun i i0 i1 => e i i0 (by omega))⟩
  show g (45, 0, 0) (24 * (36 * s + d - 1) + i) < g (45, 0, 0) (24 * (36 * s + d - 1) + j)
  rw [(e i i0 (by omega)).1, (e j (by omega) (by omega)).1]
  exact S.1 i j i0 ij jc
theorem kk_mfrx {f g : mm_Id → Int → Int} {s d d2 : Int} (fr : kk_mfr f g s d) (ne : d2 ≠ d) (S : kk_Es f s d2) : kk_Es g s d2 ∧ ∀ x v, kk_Em g s d2 x v ↔ kk_Em f s d2 x v :=
  kk_Emf (fr _ _ (by simp) (by simp; omega)) (fun i i0 i1 => ⟨fr _ _ (by simp; omega) (by simp), fr _ _ (by simp; omega) (by simp)⟩) S
section
variable {f : mm_Id → Int → Int} {dh : Int → Int} {nx ns : Int} {Q : mm_V → mm_H → Prop}
/-- an entry struck out there -/
theorem kk_shE {s d e x : Int} (S : kk_Es f s d) (he : 0 ≤ e ∧ e < f (44, 0, 0) (36 * s + d - 1)) (ek : f (45, 0, 0) (24 * (36 * s + d - 1) + e) = x) {G : mm_Id → Int → Int}
    (hG : ∀ y j, ((y = (45, 0, 0) ∨ y = (46, 0, 0)) ∧ 24 * (36 * s + d - 1) ≤ j ∧ j < 24 * (36 * s + d - 1) + 24) ∨ (y = (44, 0, 0) ∧ j = 36 * s + d - 1) → G y j = mm_shd (mm_up f (44, 0, 0) (36 * s + d - 1) (f (44, 0, 0) (36 * s + d - 1) - 1)) (45, 0, 0) (46, 0, 0) (24 * (36 * s + d - 1) + e) (24 * (36 * s + d - 1) + (f (44, 0, 0) (36 * s + d - 1) - 1)) y j) : kk_Es G s d ∧ G (44, 0, 0) (36 * s + d - 1) = f (44, 0, 0) (36 * s + d - 1) - 1 ∧ ∀ y v, kk_Em G s d y v ↔ kk_Em f s d y v ∧ y ≠ x := by
  obtain ⟨D, hD⟩ : ∃ D, D = 36 * s + d - 1 := ⟨_, rfl⟩
  unfold kk_Es kk_Em at *
  rw [← hD] at S he ek hG ⊢
  obtain ⟨c, hc⟩ : ∃ c, c = f (44, 0, 0) D := ⟨_, rfl⟩
  rw [← hc] at S he hG ⊢
  have sX := fun i => kk_shdX (f := f) (X := (45, 0, 0)) (Y := (46, 0, 0)) (W := (44, 0, 0)) (p := e) (c := c - 1) (j := D) (v := c - 1) (o := 24 * D) (by simp) i
  have sY := fun i => kk_shdY (f := f) (X := (45, 0, 0)) (Y := (46, 0, 0)) (W := (44, 0, 0)) (p := e) (c := c - 1) (j := D) (v := c - 1) (o := 24 * D) (by simp) i
  have g6 : G (44, 0, 0) D = c - 1 := by rw [hG _ _ (Or.inr ⟨rfl, rfl⟩)]; exact kk_shdW (by simp) (by simp)
  have g5 : ∀ i, 0 ≤ i → i < 24 → G (45, 0, 0) (24 * D + i) = kk_del (fun i => f (45, 0, 0) (24 * D + i)) e (c - 1) i := fun i i0 i1 => by rw [hG _ _ (Or.inl ⟨Or.inl rfl, by omega, by omega⟩)]; exact sX i
  have g7 : ∀ i, 0 ≤ i → i < 24 → G (46, 0, 0) (24 * D + i) = kk_del (fun i => f (46, 0, 0) (24 * D + i)) e (c - 1) i := fun i i0 i1 => by rw [hG _ _ (Or.inl ⟨Or.inr rfl, by omega, by omega⟩)]; exact sY i
  have sd : mm_srt (kk_del (fun i => f (45, 0, 0) (24 * D + i)) e (c - 1)) (c - 1) := kk_dels (by rw [show c - 1 + 1 = c by omega]; exact S.1)
  rw [g6]
  refine ⟨⟨fun i j i0 ij jc => ?_, by omega, by omega⟩, rfl, fun y v => ?_⟩
  · show G (45, 0, 0) (24 * D + i) < G (45, 0, 0) (24 * D + j)
    rw [g5 i i0 (by omega), g5 j (by omega) (by omega)]
    exact sd i j i0 ij jc
  · rw [kk_Ec (f := kk_del (fun i => f (45, 0, 0) (24 * D + i)) e (c - 1)) (g := kk_del (fun i => f (46, 0, 0) (24 * D + i)) e (c - 1)) (fun i i0 i1 => ⟨g5 i i0 (by omega), g7 i i0 (by omega)⟩), kk_Edel S.1 he]
    rw [ek]
theorem m187E (hy : 10581 ≤ nx) {s d e x : Int} (hs : 0 ≤ s ∧ s < 29) (hd : 1 ≤ d ∧ d < 37) (S : kk_Es f s d) (he : 0 ≤ e ∧ e < f (44, 0, 0) (36 * s + d - 1)) (ek : f (45, 0, 0) (24 * (36 * s + d - 1) + e) = x)
    (K : ∀ G, kk_Es G s d → G (44, 0, 0) (36 * s + d - 1) = f (44, 0, 0) (36 * s + d - 1) - 1 → (∀ y v, kk_Em G s d y v ↔ kk_Em f s d y v ∧ y ≠ x) → kk_mfr f G s d → Q zU (mm_z G dh nx ns)) : mm_Cl 187 [zR (40, 0, 0), zI s, zI d, zI e] (mm_z f dh nx ns) Q := by
  refine m187 hy hs hd S.2.2 he ?_
  obtain ⟨a1, a2, a3⟩ := kk_shE S he ek (G := mm_shd (mm_up f (44, 0, 0) (36 * s + d - 1) (f (44, 0, 0) (36 * s + d - 1) - 1)) (45, 0, 0) (46, 0, 0) (24 * (36 * s + d - 1) + e) (24 * (36 * s + d - 1) + (f (44, 0, 0) (36 * s + d - 1) - 1))) (fun _ _ _ => rfl)
  have c24 := S.2.2
  exact K _ a1 a2 a3 (fun y j w1 w2 => kk_shdO (fun q => w1 ⟨Or.inl q.1, by omega⟩) (fun q => w1 ⟨Or.inr q.1, by omega⟩) w2)
theorem m186E (hy : 10581 ≤ nx) {s d x m : Int} (hs : 0 ≤ s ∧ s < 29) (hd : 1 ≤ d ∧ d < 37) (S : kk_Es f s d) (hc : f (44, 0, 0) (36 * s + d - 1) < 24) (ab : ∀ v, ¬ kk_Em f s d x v)
    (K : ∀ G, kk_Es G s d → G (44, 0, 0) (36 * s + d - 1) = f (44, 0, 0) (36 * s + d - 1) + 1 → (∀ y v, kk_Em G s d y v ↔ kk_Em f s d y v ∨ (y = x ∧ v = m)) → kk_mfr f G s d → Q zU (mm_z G dh nx ns)) : mm_Cl 186 [zR (40, 0, 0), zI s, zI d, zI x, zI m] (mm_z f dh nx ns) Q := by
  refine m186 hy hs hd ⟨S.2.1, hc⟩ (fun p p0 p1 hi lo => ?_)
  obtain ⟨D, hD⟩ : ∃ D, D = 36 * s + d - 1 := ⟨_, rfl⟩
  unfold kk_Es kk_Em kk_mfr at *
  rw [← hD] at S hc ab K p1 hi lo ⊢
  obtain ⟨c, hcc⟩ : ∃ c, c = f (44, 0, 0) D := ⟨_, rfl⟩
  rw [← hcc] at S hc ab K p1 hi ⊢
  have cm : mm_up (mm_up (mm_up (mm_shu f (45, 0, 0) (46, 0, 0) (24 * D + p) (24 * D + c)) (45, 0, 0) (24 * D + p) x) (46, 0, 0) (24 * D + p) m) (44, 0, 0) D (c + 1) = mm_up (mm_up (mm_up (mm_shu f (45, 0, 0) (46, 0, 0) (24 * D + p) (24 * D + c)) (44, 0, 0) D (c + 1)) (45, 0, 0) (24 * D + p) x) (46, 0, 0) (24 * D + p) m := by
    funext y j
    simp only [mm_up]
    by_cases y24 : y = (44, 0, 0) ∧ j = D
    · rw [if_pos y24, if_neg (by rintro ⟨q, _⟩; rw [y24.1] at q; simp at q), if_neg (by rintro ⟨q, _⟩; rw [y24.1] at q; simp at q), if_pos y24]
    · rw [if_neg y24]
      by_cases y26 : y = (46, 0, 0) ∧ j = 24 * D + p
      · rw [if_pos y26, if_pos y26]
      · rw [if_neg y26, if_neg y26]
        by_cases y25 : y = (45, 0, 0) ∧ j = 24 * D + p
        · rw [if_pos y25, if_pos y25]
        · rw [if_neg y25, if_neg y25, if_neg y24]
  rw [cm]
  have sX := fun i => kk_shuX (f := f) (X := (45, 0, 0)) (Y := (46, 0, 0)) (W := (44, 0, 0)) (p := p) (c := c) (x := x) (m := m) (j := D) (v := c + 1) (o := 24 * D) (by simp) (by simp) i
  have sY := fun i => kk_shuY (f := f) (X := (45, 0, 0)) (Y := (46, 0, 0)) (W := (44, 0, 0)) (p := p) (c := c) (x := x) (m := m) (j := D) (v := c + 1) (o := 24 * D) (by simp) (by simp) i
  have sW := kk_shuW (f := f) (X := (45, 0, 0)) (Y := (46, 0, 0)) (W := (44, 0, 0)) (p := p) (c := c) (x := x) (m := m) (j := D) (v := c + 1) (o := 24 * D) (by simp) (by simp)
  have sO := fun y j (a1 : ¬ (y = (44, 0, 0) ∧ j = D)) (a2 : ¬ (y = (45, 0, 0) ∧ 24 * D ≤ j ∧ j < 24 * D + 24)) (a3 : ¬ (y = (46, 0, 0) ∧ 24 * D ≤ j ∧ j < 24 * D + 24)) => kk_shuO (f := f) (X := (45, 0, 0)) (Y := (46, 0, 0)) (W := (44, 0, 0)) (z := y) (i := j) (p := p) (c := c) (x := x) (m := m) (j := D) (v := c + 1) (o := 24 * D) (fun q => a2 ⟨q.1, by omega⟩) (fun q => a3 ⟨q.1, by omega⟩) a1 p1
  obtain ⟨G, hG⟩ : ∃ G, G = mm_up (mm_up (mm_up (mm_shu f (45, 0, 0) (46, 0, 0) (24 * D + p) (24 * D + c)) (44, 0, 0) D (c + 1)) (45, 0, 0) (24 * D + p) x) (46, 0, 0) (24 * D + p) m := ⟨_, rfl⟩
  rw [← hG] at sX sY sW sO ⊢
  have si : mm_srt (kk_ins (fun i => f (45, 0, 0) (24 * D + i)) p c x) (c + 1) := kk_inss S.1 p0 p1 (fun i i0 i1 => by
    have a := kk_mono S.1 i0 (show i ≤ p - 1 by omega) (by omega)
    have b := lo (by omega)
    have e : f (45, 0, 0) (24 * D + i) ≠ x := fun w => ab _ ⟨i, ⟨i0, by omega⟩, w, rfl⟩
    have a2 : f (45, 0, 0) (24 * D + i) ≤ f (45, 0, 0) (24 * D + (p - 1)) := a
    show f (45, 0, 0) (24 * D + i) < x
    omega) (fun w => hi p (by omega) w)
  refine K G ⟨fun i j i0 ij jc => ?_, by rw [sW]; omega, by rw [sW]; omega⟩ sW (fun y v => ?_) (fun y j w1 w2 => sO y j w2 (fun q => w1 ⟨Or.inl q.1, q.2⟩) (fun q => w1 ⟨Or.inr q.1, q.2⟩))
  · rw [sW] at jc
    show G (45, 0, 0) (24 * D + i) < G (45, 0, 0) (24 * D + j)
    rw [sX, sX]
    exact si i j i0 ij jc
  · rw [sW, kk_Ec (f := kk_ins (fun i => f (45, 0, 0) (24 * D + i)) p c x) (g := kk_ins (fun i => f (46, 0, 0) (24 * D + i)) p c m) (fun i _ _ => ⟨sX i, sY i⟩)]
    exact kk_Eins p0 p1
end


