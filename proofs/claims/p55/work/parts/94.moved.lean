/-! an entry moved, here: what the method does -/
theorem s70 {b : Int} {h : mm_Id → Int → Int} {dh : Int → Int} {nx ns : Int} {Q : mm_V → mm_H → Prop} (hx : 5275 ≤ nx) (hc : kk_core b h dh) {s n l k q p m o : Int} (hs : 0 ≤ s ∧ s < 13) (h1n : 1 ≤ n ∧ n < 37) (k2n : h (24, s, n) 0 = 2) (h1k : 1 ≤ k ∧ k < 37) (k2k : h (24, s, k) 0 = 2) (hp : 0 ≤ p ∧ p < h (24, s, n) 6) (el : h (25, s, n) p = l) (em : h (26, s, n) p = m) (qr : 1 ≤ q ∧ q ≤ 1000000) (ne : ¬ (n = k ∧ l = q))
    (ho : (o = 0 ∧ ∀ v, ¬ kk_Ed h s k q v) ∨ (1 ≤ o ∧ kk_Ed h s k q o)) (hfull : o = 0 → n = k ∨ h (24, s, k) 6 < 24) (hw : h (24, s, m) 0 = 2 → ¬ kk_hit h s m k)
    (K : ∀ g, kk_SC g s (fun x => x = o) → (∀ d x v, kk_Ed g s d x v ↔ (kk_Ed h s d x v ∧ ¬ (d = n ∧ x = l) ∧ ¬ (d = k ∧ x = q)) ∨ (d = k ∧ x = q ∧ v = m)) → (∀ x, g (24, s, x) 5 = if x = o ∧ o ≠ 0 then h (24, s, x) 5 - 1 else h (24, s, x) 5) → (∀ x, g (24, s, x) 4 = if x = m ∧ h (24, s, m) 0 ≠ 1 then k else h (24, s, x) 4) → (∀ (y : mm_Id) j, ¬ ((y.1 = 25 ∨ y.1 = 26) ∧ y.2.1 = s ∧ (y.2.2 = n ∨ y.2.2 = k)) → ¬ (y.1 = 24 ∧ y.2.1 = s ∧ (1 ≤ y.2.2 ∧ y.2.2 < 37) ∧ (j = 4 ∨ j = 5 ∨ j = 6)) → g y j = h y j) → Q (zI o) (mm_z g dh nx ns)) :
    mm_Cl 70 [zR (1, 0, 0), zR (22, s, 0), zR (24, s, n), zI l, zI k, zI q] (mm_z h dh nx ns) Q := by
  have hsT := mm_T13 hs
  have NWs : ∀ x, 1 ≤ x → x < 37 → kk_NW h s x := fun x a0 a1 => kk_NWC hc hsT ⟨a0, a1⟩
  have T := kk_TWC hc hsT
  have S0 : kk_SC h s (fun _ => False) := ⟨NWs, kk_TWH T⟩
  have NWn := NWs n h1n.1 h1n.2
  have NWk := NWs k h1k.1 h1k.2
  have srtn := NWn.2.2.2.2.2.2.2.2.2.2.2.1
  have srtk := NWk.2.2.2.2.2.2.2.2.2.2.2.1
  have mr := (NWn.2.2.2.2.2.2.2.2.2.2.2.2.2.1 p hp.1 hp.2).2
  rw [em] at mr
  obtain ⟨m1, km⟩ := mr
  have hnN : mm_isN n := ⟨by omega, h1n.2⟩
  have hkN : mm_isN k := ⟨by omega, h1k.2⟩
  have hmN : mm_isN m := ⟨by omega, m1.2⟩
  have bnd : ∀ x, (1 ≤ x ∧ x < 37) → h (24, s, x) 0 ≠ 0 → 0 < kk_ec h s x → 2 ≤ x ∧ 1 ≤ h (24, s, x) 5 ∧ h (24, s, x) 5 ≤ 9 := fun x xr kx ec => by
    have uE := T.1 x xr.1 xr.2 kx
    have x2 : 2 ≤ x := by
      by_cases z : x = 1
      · have := T.2.2.2.1
        rw [z] at ec
        omega
      · omega
    refine ⟨x2, by omega, ?_⟩
    by_cases z : h (24, s, x) 0 = 1
    · rw [uE]; exact T.2.2.1 x xr.1 xr.2 z
    · have := (NWs x xr.1 xr.2).1
      rw [uE, T.2.1 x x2 xr.2 (by omega)]
      decide
  have bm := bnd m m1 km (kk_ecp h1n hp em)
  have hor : o ≠ 0 → (1 ≤ o ∧ o < 37) ∧ h (24, s, o) 0 ≠ 0 ∧ 0 < kk_ec h s o := fun z => by
    rcases ho with ⟨w, _⟩ | ⟨_, i, hi, q1, q2⟩
    · exact absurd w z
    · have r := (NWk.2.2.2.2.2.2.2.2.2.2.2.2.2.1 i hi.1 hi.2).2
      rw [q2] at r
      exact ⟨r.1, r.2, kk_ecp h1k hi q2⟩
  have goO : ∀ Q' : mm_V → mm_H → Prop, Q' (zI o) (mm_z h dh nx ns) → mm_Cl 99 [zR (24, s, k), zI q] (mm_z h dh nx ns) Q' := by
    intro Q' hq
    refine s99 hsT hkN hx NWk.2.1 srtk (fun p2 a b c => ?_) (fun w => ?_)
    · rcases ho with ⟨_, ab⟩ | ⟨_, i, hi, q1, q2⟩
      · exact absurd ⟨p2, ⟨a, b⟩, c, rfl⟩ (ab _)
      · have e : p2 = i := kk_inj srtk a b hi.1 hi.2 (by rw [c, q1])
        rw [e, q2]; exact hq
    · rcases ho with ⟨z, _⟩ | ⟨_, i, hi, q1, _⟩
      · rw [z] at hq; exact hq
      · exact absurd q1 (w i hi.1 hi.2)
  rw [r_70_e (htx1 := hsT) (htx2 := hsT) (hnx2 := hnN) (hx := hx)]
  refine s99 hsT hnN hx NWn.2.1 srtn (fun p2 a b c => ?_) (fun w => absurd el (w p hp.1 hp.2))
  have ep2 : p2 = p := kk_inj srtn a b hp.1 hp.2 (by rw [c, el])
  rw [ep2, em, mm_pI, r_70_0_3 (htx1 := hsT) (htx2 := hsT) (hnx2 := hnN) (hx := hx)]
  refine s56 hsT hx (fun _ _ => ?_) (fun w => absurd ⟨m1, km⟩ w)
  rw [mm_pR, r_70_0_8a (htx1 := hsT) (htx2 := hsT) (hnx2 := hnN) (hty0 := hsT) (hny0 := hmN) (hx := hx)]
  refine s56 hsT hx (fun _ _ => ?_) (fun w => absurd ⟨h1k, by omega⟩ w)
  rw [mm_pR, r_70_0_13c (htx1 := hsT) (htx2 := hsT) (hnx2 := hnN) (htx7 := hsT) (hnx7 := hmN) (hty0 := hsT) (hny0 := hkN) (hx := hx)]
  refine goO _ ?_
  rw [mm_pI, r_70_2_3 (htx1 := hsT) (htx2 := hsT) (hnx2 := hnN) (htx7 := hsT) (hnx7 := hmN) (htx8 := hsT) (hnx8 := hkN) (hx := hx)]
  refine s101y hx hsT h1n NWn.2.1 srtn hp el (fun h1 d25 d26 d6 dx => ?_)
  rw [mm_pU, r_70_2_7 (htx1 := hsT) (htx7 := hsT) (hnx7 := hmN) (htx8 := hsT) (hnx8 := hkN) (hx := hx)]
  have k1 : ∀ x j, j ≠ 6 → h1 (24, s, x) j = h (24, s, x) j := fun x j z => dx _ _ (by simp) (by simp) (by rintro ⟨_, w⟩; exact z w)
  have E1 : ∀ d x v, kk_Ed h1 s d x v ↔ kk_Ed h s d x v ∧ ¬ (d = n ∧ x = l) := fun d x v => by
    by_cases z : d = n
    · rw [z, kk_Edd srtn hp d25 d26 d6, el]
      exact ⟨fun w => ⟨w.1, fun u => w.2 u.2⟩, fun w => ⟨w.1, fun u => w.2 ⟨rfl, u⟩⟩⟩
    · rw [kk_Edx dx z]
      exact ⟨fun w => ⟨w, fun u => z u.1⟩, fun w => w.1⟩
  obtain ⟨a1, ha1⟩ : ∃ a1, a1 = mm_up h1 (24, s, m) 5 (h (24, s, m) 5 - 1) := ⟨_, rfl⟩
  have A5 : a1 (24, s, m) 5 = h (24, s, m) 5 - 1 := by rw [ha1, mm_ups]
  have AO : ∀ (y : mm_Id) j, ¬ (y = (24, s, m) ∧ j = 5) → a1 y j = h1 y j := fun y j w => by rw [ha1, mm_upne' w]
  have A25 : ∀ d, a1 (25, s, d) = h1 (25, s, d) := fun d => funext (fun j => AO _ _ (by simp))
  have A26 : ∀ d, a1 (26, s, d) = h1 (26, s, d) := fun d => funext (fun j => AO _ _ (by simp))
  have A6 : ∀ d, a1 (24, s, d) 6 = h1 (24, s, d) 6 := fun d => AO _ _ (by simp)
  have EA : ∀ d x v, kk_Ed a1 s d x v ↔ kk_Ed h1 s d x v := fun d x v => by unfold kk_Ed; rw [A25, A26, A6]
  obtain ⟨S1, ec1, ec1o⟩ := kk_strike (g := a1) S0 h1n hp em (fun i _ _ => by rw [A25]; exact d25 i) (fun i _ _ => by rw [A26]; exact d26 i) (by rw [A6]; exact d6) A5 (fun f x j f0 f1 w1 w2 w3 => by
    rw [AO _ _ (by simp; omega)]
    exact dx _ _ (by simp; omega) (by simp; omega) (by simp; omega)) (fun j => by rw [AO _ _ (by simp)]; exact dx _ _ (by simp) (by simp) (by simp))
  by_cases om : o = m
  · have oE : kk_Ed h s k q m := by
      rcases ho with ⟨w, _⟩ | ⟨_, w⟩
      · omega
      · rw [← om]; exact w
    have k1m : h (24, s, m) 0 = 1 := Decidable.byContradiction (fun z => by
      have := (NWs m m1.1 m1.2).1
      have e1 := T.2.1 m bm.1 m1.2 (by omega)
      obtain ⟨i, hi, q1, q2⟩ := (EA k q m).2 ((E1 k q m).2 ⟨oE, fun w => ne ⟨w.1.symm, w.2.symm⟩⟩)
      have := kk_ecp h1k hi q2
      omega)
    have K2 := K a1 ⟨S1.1, kk_THm S1.2 (fun x _ _ _ w => by
      rcases w with w | w
      · exact w.elim
      · rw [w, om])⟩ (fun d x v => by
        rw [EA, E1]
        constructor
        · rintro ⟨w1, w2⟩
          by_cases z : d = k ∧ x = q
          · refine Or.inr ⟨z.1, z.2, ?_⟩
            rw [z.1, z.2] at w1
            exact kk_E1 srtk w1 oE
          · exact Or.inl ⟨w1, w2, z⟩
        · rintro (⟨w1, w2, _⟩ | ⟨w1, w2, w3⟩)
          · exact ⟨w1, w2⟩
          · rw [w1, w2, w3]; exact ⟨oE, fun w => ne ⟨w.1.symm, w.2.symm⟩⟩) (fun x => by
        by_cases z : x = m
        · rw [if_pos ⟨by rw [z, om], by omega⟩, z, A5]
        · rw [if_neg (fun w => z (by rw [w.1, om])), AO _ _ (by simp; omega), k1 _ _ (by decide)]) (fun x => by
        rw [if_neg (fun w => w.2 k1m), AO _ _ (by simp), k1 _ _ (by decide)]) (fun y j w1 w2 => by
        rw [AO _ _ (by rintro ⟨z, z2⟩; rw [z] at w2; exact w2 ⟨rfl, rfl, m1, by omega⟩)]
        exact dx _ _ (by rintro rfl; exact w1 ⟨Or.inl rfl, rfl, Or.inl rfl⟩) (by rintro rfl; exact w1 ⟨Or.inr rfl, rfl, Or.inl rfl⟩) (by rintro ⟨rfl, z⟩; exact w2 ⟨rfl, rfl, h1n, by omega⟩))
    rw [if_pos om, r_70_5 (htx1 := hsT) (hx := hx)]
    rw [om] at K2 ⊢
    refine s56 hsT hx (fun _ _ => ?_) (fun w => absurd ⟨m1, by rw [k1 _ _ (by decide)]; exact km⟩ w)
    rw [mm_pR, r_70_5_4a (hty0 := hsT) (hny0 := hmN) (hx := hx), k1 _ _ (by decide), mm_wi (by omega) (by omega), ← ha1, r_70_6 (hx := hx)]
    exact K2
  rw [if_neg om]
  have NA := S1.1 k h1k.1 h1k.2
  have srt1 : mm_srt (h1 (25, s, k)) (h1 (24, s, k) 6) := by
    have w := NA.2.2.2.2.2.2.2.2.2.2.2.1
    rw [A25, A6] at w
    exact w
  have c1 : 0 ≤ h1 (24, s, k) 6 ∧ h1 (24, s, k) 6 ≤ 24 := by
    have w := NA.2.1
    rw [A6] at w
    exact w
  have STEP2 : ∀ Q' : mm_V → mm_H → Prop, (∀ h2 a2, kk_dfr h1 h2 s k → (∀ x v, kk_Ed h2 s k x v ↔ kk_Ed h1 s k x v ∧ x ≠ q) → (0 ≤ h2 (24, s, k) 6 ∧ h2 (24, s, k) 6 < 24) → (∀ (y : mm_Id) j, ¬ (y = (24, s, m) ∧ j = 5) → ¬ (y = (24, s, o) ∧ j = 5 ∧ o ≠ 0) → a2 y j = h2 y j) → a2 (24, s, m) 5 = h (24, s, m) 5 - 1 → (o ≠ 0 → a2 (24, s, o) 5 = h (24, s, o) 5 - 1) → kk_SC a2 s (fun x => x = m ∨ x = o) → kk_ec a2 s m = kk_ec h s m - 1 → Q' zU (mm_z h2 dh nx ns)) → mm_Cl 101 [zR (24, s, k), zI q] (mm_z h1 dh nx ns) Q' := by
    intro Q' HQ
    rcases ho with ⟨oz, ab⟩ | ⟨oz, oE⟩
    · have ab1 : ∀ v, ¬ kk_Ed h1 s k q v := fun v w => ab v ((E1 k q v).1 w).1
      refine s101 hsT hkN hx c1 srt1 (fun p2 a b c => absurd ⟨p2, ⟨a, b⟩, c, rfl⟩ (ab1 _)) (fun w => ?_)
      refine HQ h1 a1 (fun _ _ _ _ _ => rfl) (fun x v => ⟨fun u => ⟨u, fun z => ab1 v (by rw [← z]; exact u)⟩, fun u => u.1⟩) ⟨c1.1, ?_⟩ (fun y j w1 _ => AO y j w1) A5 (fun z => absurd oz z) ⟨S1.1, kk_THm S1.2 (fun x _ _ _ w => by
        rcases w with w | w
        · exact w.elim
        · exact Or.inl w)⟩ ec1
      by_cases z : k = n
      · rw [z, d6]; have := NWn.2.1; omega
      · rw [dx _ _ (by simp) (by simp) (by simp; omega)]
        rcases hfull oz with w | w
        · exact absurd w.symm z
        · exact w
    · obtain ⟨p2, hp2, q1, q2⟩ := (E1 k q o).2 ⟨oE, fun w => ne ⟨w.1.symm, w.2.symm⟩⟩
      refine s101y hx hsT h1k c1 srt1 hp2 q1 (fun h2 b25 b26 b6 bx => ?_)
      obtain ⟨a2, ha2⟩ : ∃ a2, a2 = mm_up (mm_up h2 (24, s, m) 5 (h (24, s, m) 5 - 1)) (24, s, o) 5 (h (24, s, o) 5 - 1) := ⟨_, rfl⟩
      have BO : ∀ (y : mm_Id) j, ¬ (y = (24, s, m) ∧ j = 5) → ¬ (y = (24, s, o) ∧ j = 5) → a2 y j = h2 y j := fun y j w1 w2 => by rw [ha2, mm_upne' w2, mm_upne' w1]
      have B5o : a2 (24, s, o) 5 = h (24, s, o) 5 - 1 := by rw [ha2, mm_ups]
      have B5m : a2 (24, s, m) 5 = h (24, s, m) 5 - 1 := by rw [ha2, mm_upne' (by simp; omega), mm_ups]
      obtain ⟨S2, ec2, ec2o⟩ := kk_strike (h := a1) (g := a2) (d := k) (p := p2) (m := o) S1 h1k (by rw [A6]; exact hp2) (by rw [A26]; exact q2) (fun i _ _ => by rw [BO _ _ (by simp) (by simp), b25, A25, A6]) (fun i _ _ => by rw [BO _ _ (by simp) (by simp), b26, A26, A6]) (by rw [BO _ _ (by simp) (by simp), b6, A6]) (by rw [B5o, AO _ _ (by simp; omega), k1 _ _ (by decide)]) (fun f x j f0 f1 w1 w2 w3 => by
        by_cases z : f = 24 ∧ x = m ∧ j = 5
        · rw [z.1, z.2.1, z.2.2, B5m, A5]
        · rw [BO _ _ (by simp; omega) (by simp; omega), AO _ _ (by simp; omega)]
          exact bx _ _ (by simp; omega) (by simp; omega) (by simp; omega)) (fun j => by rw [BO _ _ (by simp) (by simp), AO _ _ (by simp)]; exact bx _ _ (by simp) (by simp) (by simp))
      refine HQ h2 a2 bx (fun x v => by rw [kk_Edd srt1 hp2 b25 b26 b6, q1]) (by rw [b6]; omega) (fun y j w1 w2 => BO y j w1 (fun w => w2 ⟨w.1, w.2, by omega⟩)) B5m (fun _ => B5o) ⟨S2.1, kk_THm S2.2 (fun x _ _ _ w => by
        rcases w with (w | w) | w
        · exact w.elim
        · exact Or.inl w
        · exact Or.inr w)⟩ (by rw [ec2o m (fun w => om w.symm), ec1])
  refine STEP2 _ (fun h2 a2 bx E2 c2 aO a5m a5o S2 ec2 => ?_)
  rw [mm_pU, r_70_2_13 (htx1 := hsT) (htx7 := hsT) (hnx7 := hmN) (htx8 := hsT) (hnx8 := hkN) (hx := hx)]
  refine s100y hx hsT h1k c2 (fun i i0 i1 w => ((E2 q _).1 ⟨i, ⟨i0, i1⟩, w, rfl⟩).2 rfl) (fun h3 p3 p0 p1 lo hi i25 i26 i6 ix => ?_)
  have k3 : ∀ x j, j ≠ 6 → h3 (24, s, x) j = h (24, s, x) j := fun x j z => by
    rw [ix _ _ (by simp) (by simp) (by rintro ⟨_, w⟩; exact z w), bx _ _ (by simp) (by simp) (by rintro ⟨_, w⟩; exact z w)]
    exact k1 x j z
  have kA : ∀ x j, j ≠ 5 → j ≠ 6 → a2 (24, s, x) j = h (24, s, x) j := fun x j z5 z6 => by
    rw [aO _ _ (fun w => z5 w.2) (fun w => z5 w.2.1), bx _ _ (by simp) (by simp) (by rintro ⟨_, w⟩; exact z6 w)]
    exact k1 x j z6
  obtain ⟨v4, hv4⟩ : ∃ v4 : Int, v4 = (if h (24, s, m) 0 = 1 then 0 else k) := ⟨_, rfl⟩
  obtain ⟨h4, hh4⟩ : ∃ h4, h4 = mm_up h3 (24, s, m) 4 v4 := ⟨_, rfl⟩
  have FIN : ∀ hf : mm_Id → Int → Int, (∀ (y : mm_Id) j, ¬ (y = (24, s, o) ∧ j = 5 ∧ o ≠ 0) → hf y j = h4 y j) → (o ≠ 0 → hf (24, s, o) 5 = h (24, s, o) 5 - 1) → Q (zI o) (mm_z hf dh nx ns) := fun hf fO f5 => by
    have f3 : ∀ (y : mm_Id) j, ¬ (y = (24, s, o) ∧ j = 5 ∧ o ≠ 0) → ¬ (y = (24, s, m) ∧ j = 4) → hf y j = h3 y j := fun y j w1 w2 => by rw [fO y j w1, hh4, mm_upne' w2]
    have F25 : ∀ d, hf (25, s, d) = h3 (25, s, d) := fun d => funext (fun j => f3 _ _ (by simp) (by simp))
    have F26 : ∀ d, hf (26, s, d) = h3 (26, s, d) := fun d => funext (fun j => f3 _ _ (by simp) (by simp))
    have F6 : ∀ d, hf (24, s, d) 6 = h3 (24, s, d) 6 := fun d => f3 _ _ (by simp) (by simp)
    have f4 : hf (24, s, m) 4 = v4 := by rw [fO _ _ (by simp), hh4, mm_ups]
    have f5m : hf (24, s, m) 5 = h (24, s, m) 5 := by rw [f3 _ _ (by rintro ⟨w, _⟩; simp at w; omega) (by simp)]; exact k3 _ _ (by decide)
    have B25 : a2 (25, s, k) = h2 (25, s, k) := funext (fun j => aO _ _ (by simp) (by simp))
    have B26 : a2 (26, s, k) = h2 (26, s, k) := funext (fun j => aO _ _ (by simp) (by simp))
    have B6 : a2 (24, s, k) 6 = h2 (24, s, k) 6 := aO _ _ (by simp) (by simp)
    obtain ⟨S3, _, _⟩ := kk_enter (h := a2) (g := hf) (d := k) (p := p3) (x := q) (m := m) S2 h1k (by rw [kA _ _ (by decide) (by decide)]; exact k2k) (by rw [B6]; exact c2.2) (by rw [B6]; exact ⟨p0, p1⟩) (by rw [B25]; exact lo) (by rw [B25, B6]; exact hi) qr ⟨bm.1, m1.2⟩ (by rw [kA _ _ (by decide) (by decide)]; exact km) (fun w => by
        rw [kA _ _ (by decide) (by decide)] at w
        have := (NWs m m1.1 m1.2).1
        have e1 := T.2.1 m bm.1 m1.2 (by omega)
        omega) (fun w => by
        rw [kA _ _ (by decide) (by decide)] at w
        have := T.2.2.1 m m1.1 m1.2 w
        omega) (fun w => by
        rw [kA _ _ (by decide) (by decide)] at w
        obtain ⟨r, hr⟩ := T.2.2.2.2.2.2.2
        obtain ⟨r2, hr2⟩ := kk_rkm r hr (hw w)
        exact ⟨r2, fun x x0 x1 kx => by
          rw [kA _ _ (by decide) (by decide)] at kx
          rw [kA _ _ (by decide) (by decide)]
          exact hr2 x x0 x1 kx⟩) (fun i _ _ => by rw [F25, i25, B25, B6]) (fun i _ _ => by rw [F26, i26, B26, B6]) (by rw [F6, i6, B6]) (by rw [f5m, a5m]; omega) (by
        rw [f4, hv4, kA _ _ (by decide) (by decide), kA _ _ (by decide) (by decide)]
        by_cases z : h (24, s, m) 0 = 1
        · rw [if_pos z, if_pos z]; exact (T.2.2.2.2.1 m m1.1 m1.2 (Or.inr z)).symm
        · rw [if_neg z, if_neg z]) (fun f x j f0 f1 w1 w2 w3 => by
        by_cases z : f = 24 ∧ x = o ∧ j = 5 ∧ o ≠ 0
        · rw [z.1, z.2.1, z.2.2.1, f5 z.2.2.2, a5o z.2.2.2]
        · rw [f3 _ _ (by simp; omega) (by simp; omega), ix _ _ (by simp; omega) (by simp; omega) (by simp; omega)]
          exact (aO _ _ (by simp; omega) (by simp; omega)).symm) (fun j => by
        rw [f3 _ _ (by simp) (by simp), ix _ _ (by simp) (by simp) (by simp)]
        exact (aO _ _ (by simp) (by simp)).symm)
    refine K hf ⟨S3.1, kk_THm S3.2 (fun x _ _ _ w => by
      rcases w with ⟨w | w, w2⟩
      · exact absurd w w2
      · exact w)⟩ (fun d x v => ?_) (fun x => ?_) (fun x => ?_) (fun y j w1 w2 => ?_)
    · have EF : kk_Ed hf s d x v ↔ kk_Ed h3 s d x v := by unfold kk_Ed; rw [F25, F26, F6]
      rw [EF]
      by_cases z : d = k
      · rw [z, kk_Edi p0 p1 i25 i26 i6, E2, E1]
        constructor
        · rintro (⟨⟨w1, w2⟩, w3⟩ | ⟨w1, w2⟩)
          · exact Or.inl ⟨w1, w2, fun w => w3 w.2⟩
          · exact Or.inr ⟨rfl, w1, w2⟩
        · rintro (⟨w1, w2, w3⟩ | ⟨_, w1, w2⟩)
          · exact Or.inl ⟨⟨w1, w2⟩, fun w => w3 ⟨rfl, w⟩⟩
          · exact Or.inr ⟨w1, w2⟩
      · rw [kk_Edx ix z, kk_Edx bx z, E1]
        constructor
        · rintro ⟨w1, w2⟩
          exact Or.inl ⟨w1, w2, fun w => z w.1⟩
        · rintro (⟨w1, w2, _⟩ | ⟨w1, _⟩)
          · exact ⟨w1, w2⟩
          · exact absurd w1 z
    · by_cases z : x = o ∧ o ≠ 0
      · rw [if_pos z, z.1, f5 z.2]
      · rw [if_neg z, f3 _ _ (by rintro ⟨w, _, w2⟩; simp at w; exact z ⟨w, w2⟩) (by simp)]
        exact k3 _ _ (by decide)
    · by_cases z : x = m
      · rw [z, f4, hv4]
        by_cases z1 : h (24, s, m) 0 = 1
        · rw [if_pos z1, if_neg (fun w => w.2 z1)]; exact (T.2.2.2.2.1 m m1.1 m1.2 (Or.inr z1)).symm
        · rw [if_neg z1, if_pos ⟨rfl, z1⟩]
      · rw [if_neg (fun w => z w.1), f3 _ _ (by simp) (by simp; omega)]
        exact k3 _ _ (by decide)
    · have hok : o ≠ 0 → 1 ≤ o ∧ o < 37 := fun z => (hor z).1
      rw [f3 _ _ (by rintro ⟨rfl, z, z2⟩; exact w2 ⟨rfl, rfl, hok z2, by omega⟩) (by rintro ⟨rfl, z⟩; exact w2 ⟨rfl, rfl, m1, by omega⟩), ix _ _ (by rintro rfl; exact w1 ⟨Or.inl rfl, rfl, Or.inr rfl⟩) (by rintro rfl; exact w1 ⟨Or.inr rfl, rfl, Or.inr rfl⟩) (by rintro ⟨rfl, z⟩; exact w2 ⟨rfl, rfl, h1k, by omega⟩), bx _ _ (by rintro rfl; exact w1 ⟨Or.inl rfl, rfl, Or.inr rfl⟩) (by rintro rfl; exact w1 ⟨Or.inr rfl, rfl, Or.inr rfl⟩) (by rintro ⟨rfl, z⟩; exact w2 ⟨rfl, rfl, h1k, by omega⟩)]
      exact dx _ _ (by rintro rfl; exact w1 ⟨Or.inl rfl, rfl, Or.inl rfl⟩) (by rintro rfl; exact w1 ⟨Or.inr rfl, rfl, Or.inl rfl⟩) (by rintro ⟨rfl, z⟩; exact w2 ⟨rfl, rfl, h1n, by omega⟩)
  have B4 : mm_Wp 70 (mm_blk 70 4) [zR (1, 0, 0), zR (22, s, 0), zR (24, s, n), zI l, zI k, zI q, zI m, zR (24, s, m), zR (24, s, k), zI o, zU] [zI v4, zR (24, s, m)] (mm_z h3 dh nx ns) Q := by
    rw [r_70_4 (htx1 := hsT) (hty1 := hsT) (hny1 := hmN) (hx := hx), ← hh4, r_70_5 (htx1 := hsT) (hx := hx)]
    have h40 : ∀ x, h4 (24, s, x) 0 = h (24, s, x) 0 := fun x => by rw [hh4, mm_upj (by decide)]; exact k3 _ _ (by decide)
    have h45 : ∀ x, h4 (24, s, x) 5 = h (24, s, x) 5 := fun x => by rw [hh4, mm_upj (by decide)]; exact k3 _ _ (by decide)
    by_cases oz : o = 0
    · refine s56 hsT hx (fun w _ => by omega) (fun _ => ?_)
      rw [mm_pR, r_70_5_4 (hx := hx), r_70_6 (hx := hx)]
      exact FIN h4 (fun _ _ _ => rfl) (fun w => absurd oz w)
    · have r := hor oz
      have bo := bnd o r.1 r.2.1 r.2.2
      refine s56 hsT hx (fun _ _ => ?_) (fun w => absurd ⟨r.1, by rw [h40]; exact r.2.1⟩ w)
      rw [mm_pR, r_70_5_4a (hty0 := hsT) (hny0 := ⟨by omega, r.1.2⟩) (hx := hx), h45, mm_wi (by omega) (by omega), r_70_6 (hx := hx)]
      exact FIN _ (fun y j w => mm_upne' (fun w2 => w ⟨w2.1, w2.2, oz⟩)) (fun _ => mm_ups)
  rw [mm_pU, r_70_2_17 (htx1 := hsT) (htx7 := hsT) (hnx7 := hmN) (hx := hx), k3 _ _ (by decide)]
  by_cases z : h (24, s, m) 0 = 1
  · rw [if_pos z] at hv4 ⊢
    rw [hv4] at B4
    exact B4
  · rw [if_neg z] at hv4 ⊢
    rw [hv4] at B4
    exact B4


