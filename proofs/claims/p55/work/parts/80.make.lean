/-! the calls of both: make, makeLink -/
theorem kk_mkW {b : Int} {h hc gm Z : mm_Id → Int → Int} {dh : Int → Int} {s d m x p q k fr len c : Int} (hr : kk_core b h dh) (hs : 0 ≤ s ∧ s < 5) (hno : 0 < kk_no h s) (hd : 1 ≤ d ∧ d < 37) (kd : h (24, s, d) 0 = 2) (ec : c = h (24, s, d) 6) (c24 : c < 24) (hm : 1 ≤ m ∧ m < 37) (km : h (24, s, m) 0 = 0) (ab : ∀ i, 0 ≤ i → i < c → ¬ h (25, s, d) i = x) (hx : 1 ≤ x ∧ x ≤ 1000000) (hk : k = 1 ∨ k = 2 ∨ k = 3) (hfr : fr = 0 ∨ fr = 1) (hlen : len = if k = 3 then h (5, 0, 0) 2 else 0) (h3 : k = 3 → 1 ≤ h (5, 0, 0) 2)
    (c0 : hc (24, s, m) 0 = k ∧ hc (24, s, m) 1 = len ∧ hc (24, s, m) 2 = h (1, 0, 0) 12 ∧ hc (24, s, m) 3 = 61 ∧ hc (24, s, m) 4 = (if k = 1 then 0 else d) ∧ hc (24, s, m) 5 = 1 ∧ hc (24, s, m) 6 = 0 ∧ hc (24, s, m) 11 = 0 ∧ hc (24, s, m) 14 = fr) (c30 : k = 3 → ∀ i, 0 ≤ i → i < 8 → hc (30, s, m) i = h (6, 0, 0) i)
    (p0 : 0 ≤ p) (p1 : p ≤ c) (p2 : ∀ i, 0 ≤ i → i < p → h (25, s, d) i < x) (p3 : p < c → x ≤ h (25, s, d) p) (ce : ∀ i, hc (25, s, d) i = kk_ins (h (25, s, d)) p c x i ∧ hc (26, s, d) i = kk_ins (h (26, s, d)) p c m i) (c6 : hc (24, s, d) 6 = c + 1)
    (fc : ∀ y j, ¬ (y = (24, s, m) ∧ kk_F j) → y ≠ (25, s, d) → y ≠ (26, s, d) → ¬ (y = (24, s, d) ∧ j = 6) → y ≠ (30, s, m) → hc y j = h y j)
    (m0 : gm (41, 0, 0) (36 * s + m - 1) = k ∧ gm (42, 0, 0) (36 * s + m - 1) = (if k = 3 then h (40, 0, 0) 30 else 0) ∧ gm (44, 0, 0) (36 * s + m - 1) = 0 ∧ gm (49, 0, 0) (36 * s + m - 1) = 0 ∧ gm (47, 0, 0) (36 * s + m - 1) = h (40, 0, 0) 29 ∧ gm (48, 0, 0) (36 * s + m - 1) = 61 ∧ gm (53, 0, 0) (36 * s + m - 1) = fr) (m43 : ∀ i, 0 ≤ i → i < 36 → gm (43, 0, 0) (36 * (36 * s + m - 1) + i) = 0) (m52 : k = 3 → ∀ i, 0 ≤ i → i < h (40, 0, 0) 30 → gm (52, 0, 0) (8 * (36 * s + m - 1) + i) = h (65, 0, 0) i)
    (q0 : 0 ≤ q) (q1 : q ≤ c) (q2 : ∀ i, q ≤ i → i < c → x < h (45, 0, 0) (24 * (36 * s + d - 1) + i)) (q3 : 0 < q → h (45, 0, 0) (24 * (36 * s + d - 1) + (q - 1)) ≤ x) (m6 : gm (44, 0, 0) (36 * s + d - 1) = c + 1)
    (me : ∀ i, 0 ≤ i → i < c + 1 → gm (45, 0, 0) (24 * (36 * s + d - 1) + i) = kk_ins (fun i => h (45, 0, 0) (24 * (36 * s + d - 1) + i)) q c x i ∧ gm (46, 0, 0) (24 * (36 * s + d - 1) + i) = kk_ins (fun i => h (46, 0, 0) (24 * (36 * s + d - 1) + i)) q c m i)
    (fm : ∀ y j, 40 ≤ y.1 → y.1 ≠ 56 → ¬ (y = (40, 0, 0) ∧ j = 0) → ¬ kk_mx (36 * s + m - 1) y j → ¬ (y = (44, 0, 0) ∧ j = 36 * s + d - 1) → ¬ ((y = (45, 0, 0) ∨ y = (46, 0, 0)) ∧ 24 * (36 * s + d - 1) ≤ j ∧ j < 24 * (36 * s + d - 1) + 24) → gm y j = h y j)
    (hZ : Z = mm_up (kk_mix hc gm) (31, s, 0) 6 1) : kk_W b Z dh ∧ kk_KP Z := by
  have hK := hr.1.1
  have sT := mm_T13 (s := s) ⟨hs.1, by omega⟩
  have NW : ∀ n, 1 ≤ n → n < 37 → kk_NW h s n := fun n n0 n1 => hK.2.1 s n sT n0 n1
  have NR : ∀ n, 1 ≤ n → n < 37 → kk_NR h s n := fun n n0 n1 => hK.1 s n hs.1 (by omega) n0 n1
  have Wd := NW d hd.1 hd.2
  have Nd := NR d hd.1 hd.2
  have Wm := NW m hm.1 hm.2
  have Nm := NR m hm.1 hm.2
  have dm : d ≠ m := fun w => by rw [w] at kd; omega
  have cr : 0 ≤ c := by rw [ec]; exact Wd.2.1.1
  have srt : mm_srt (h (25, s, d)) c := by rw [ec]; exact Wd.2.2.2.2.2.2.2.2.2.2.2.1
  have pq : p = q := kk_pl3 srt (fun i i0 i1 => ab i i0 i1) p0 p1 p2 p3 q0 q1 (fun i i0 i1 => by rw [(Nd.2.2.2.2.1 i (by omega) (by omega)).1]; exact q2 i i0 i1) (fun w => by rw [(Nd.2.2.2.2.1 (q - 1) (by omega) (by omega)).1]; exact q3 w)
  subst pq
  have hi : p < c → x < h (25, s, d) p := fun w => by
    have a1 := p3 w
    have a2 := ab p p0 w
    omega
  have ph := kk_pth hr
  have zC : ∀ (f : Nat) t n j, f < 40 → f ≠ 31 → Z (f, t, n) j = hc (f, t, n) j := fun f t n j f0 f1 => by rw [hZ, mm_upf f1, kk_mixC f0]
  have zM : ∀ (f : Nat) t n j, 40 ≤ f → Z (f, t, n) j = gm (f, t, n) j := fun f t n j f0 => by rw [hZ, mm_upf (by omega), kk_mixM f0]
  have zc : ∀ (f : Nat) t n j, f < 40 → f ≠ 31 → ¬ (f = 24 ∧ t = s ∧ n = m ∧ kk_F j) → ¬ ((f = 25 ∨ f = 26) ∧ t = s ∧ n = d) → ¬ (f = 24 ∧ t = s ∧ n = d ∧ j = 6) → ¬ (f = 30 ∧ t = s ∧ n = m) → Z (f, t, n) j = h (f, t, n) j := fun f t n j f0 f1 a1 a2 a3 a4 => by
    rw [zC f t n j f0 f1]
    refine fc _ _ ?_ ?_ ?_ ?_ ?_
    · rintro ⟨w, w2⟩; simp at w; exact a1 ⟨w.1, w.2.1, w.2.2, w2⟩
    · intro w; simp at w; exact a2 ⟨Or.inl w.1, w.2⟩
    · intro w; simp at w; exact a2 ⟨Or.inr w.1, w.2⟩
    · rintro ⟨w, w2⟩; simp at w; exact a3 ⟨w.1, w.2.1, w.2.2, w2⟩
    · intro w; simp at w; exact a4 w
  have E : ∀ y j, ¬ kk_ts s y j → Z y j = h y j := fun y j w => by
    rw [hZ, mm_upne' (fun v => w (Or.inr (Or.inr (Or.inl v))))]
    by_cases u : y.1 < 40
    · rw [kk_mixC u]
      refine fc y j ?_ ?_ ?_ ?_ ?_
      · rintro ⟨v, _⟩; rw [v] at w; exact w (Or.inl ⟨by simp, by simp, rfl, hm.1, hm.2⟩)
      · intro v; rw [v] at w; exact w (Or.inl ⟨by simp, by simp, rfl, hd.1, hd.2⟩)
      · intro v; rw [v] at w; exact w (Or.inl ⟨by simp, by simp, rfl, hd.1, hd.2⟩)
      · rintro ⟨v, _⟩; rw [v] at w; exact w (Or.inl ⟨by simp, by simp, rfl, hd.1, hd.2⟩)
      · intro v; rw [v] at w; exact w (Or.inl ⟨by simp, by simp, rfl, hm.1, hm.2⟩)
    · rw [kk_mixM (by omega)]
      refine fm y j (by omega) (fun v => w (Or.inr (Or.inr (Or.inr (Or.inr (Or.inr (Or.inl v))))))) (fun v => w (Or.inr (Or.inr (Or.inr (Or.inr (Or.inl v)))))) (fun v => w (Or.inr (Or.inl ⟨m, hm.1, hm.2, v⟩))) (fun v => w (Or.inr (Or.inl ⟨d, hd.1, hd.2, Or.inl ⟨by rw [v.1]; exact kk_f44, v.2⟩⟩))) (fun v => w (Or.inr (Or.inl ⟨d, hd.1, hd.2, Or.inr (Or.inr (Or.inl ⟨by rcases v.1 with v | v <;> rw [v] <;> simp, v.2⟩))⟩)))
  have e16 : ∀ j, Z (16, 0, 0) j = h (16, 0, 0) j := fun j => zc 16 0 0 j (by decide) (by decide) (by omega) (by omega) (by omega) (by omega)
  have z0 : Z (24, s, m) 0 = k := by rw [zC _ _ _ _ (by decide) (by decide)]; exact c0.1
  have z1 : Z (24, s, m) 1 = len := by rw [zC _ _ _ _ (by decide) (by decide)]; exact c0.2.1
  have z14 : Z (24, s, m) 14 = fr := by rw [zC _ _ _ _ (by decide) (by decide)]; exact c0.2.2.2.2.2.2.2.2
  have z5 : Z (24, s, m) 5 = 1 := by rw [zC _ _ _ _ (by decide) (by decide)]; exact c0.2.2.2.2.2.1
  have z30 : k = 3 → ∀ e, 0 ≤ e → e < len → Z (30, s, m) e = h (6, 0, 0) e := fun w e e0 e1 => by
    rw [hlen, if_pos w] at e1
    rw [zC _ _ _ _ (by decide) (by decide)]
    exact c30 w e e0 (by omega)
  have F9 : ¬ kk_F 9 := by simp [kk_F]
  have tr := kk_mkZ (Z := Z) (p := p) NW (hK.2.2.1 s sT) (hr.1.2.2.1.2.2.2.2.2.2.2.2.2.2.2.1 s hs.1 (by omega) hno) hm km hd kd (by omega) (by omega) p2 (by rw [← ec]; exact hi) hx (by rw [z0]; omega) (by
    rw [z0, z1, hlen]
    refine ⟨fun w => by rw [if_neg (by omega)], fun w => by rw [if_neg (by omega)], fun w => ?_⟩
    rw [if_pos w]
    have := h3 w
    omega) (by rw [zC _ _ _ _ (by decide) (by decide), c0.2.2.1]; exact (kk_cal hr).2) (by rw [zC _ _ _ _ (by decide) (by decide)]; exact c0.2.2.2.1) (by rw [z0, zC _ _ _ _ (by decide) (by decide)]; exact c0.2.2.2.2.1) z5 (by rw [zC _ _ _ _ (by decide) (by decide)]; exact c0.2.2.2.2.2.2.1) (by rw [zC _ _ _ _ (by decide) (by decide)]; exact c0.2.2.2.2.2.2.2.1) (by rw [z14]; exact hfr)
    (zc _ _ _ _ (by decide) (by decide) (fun w => F9 w.2.2.2) (by omega) (by omega) (by omega)) (fun j => zc _ _ _ _ (by decide) (by decide) (by omega) (by omega) (by omega) (by omega)) (by
      rw [z0, z1]
      intro w e e0 e1
      rw [z30 w e e0 e1]
      rw [hlen, if_pos w] at e1
      exact (ph.2 e e0 e1).2) (fun i _ _ => by rw [zC _ _ _ _ (by decide) (by decide), ← ec]; exact (ce i).1) (fun i _ _ => by rw [zC _ _ _ _ (by decide) (by decide), ← ec]; exact (ce i).2) (by rw [zC _ _ _ _ (by decide) (by decide), ← ec]; exact c6)
    (fun f n j f0 f1 a1 a2 a3 => zc f s n j (by omega) (by omega) (fun w => a1 w.2.2.1) (fun w => a2 ⟨w.1, w.2.2⟩) (fun w => a3 ⟨w.1, w.2.2.1, w.2.2.2⟩) (fun w => a1 w.2.2)) e16 hK.2.2.2.2.2.2.2.2.1.1
  have k0 : ∀ n, n ≠ m → Z (24, s, n) 0 = h (24, s, n) 0 := fun n w => zc 24 s n 0 (by decide) (by decide) (fun v => w v.2.2.1) (by omega) (by omega) (by omega)
  have DM : 36 * s + d - 1 ≠ 36 * s + m - 1 := by omega
  have zmo : ∀ n y j, n ≠ m → n ≠ d → kk_mx (36 * s + n - 1) y j → Z y j = h y j := fun n y j a1 a2 hx2 => by
    have r := kk_mxr hx2
    rw [hZ, mm_upne' (by rintro ⟨v, _⟩; rw [v] at r; simp at r), kk_mixM (by omega)]
    have d1 := kk_mxd (a := 36 * s + n - 1) (b := 36 * s + m - 1) (by omega) hx2
    have d2 := kk_mxd (a := 36 * s + n - 1) (b := 36 * s + d - 1) (by omega) hx2
    refine fm y j (by omega) (by omega) (by rintro ⟨v, _⟩; rw [v] at r; simp at r) d1 (fun v => d2 (Or.inl ⟨by rw [v.1]; exact kk_f44, v.2⟩)) (fun v => d2 (Or.inr (Or.inr (Or.inl ⟨by rcases v.1 with v | v <;> rw [v] <;> simp, v.2⟩))))
  have zmd : ∀ (f : Nat) j, 40 ≤ f → f ≠ 56 → f ≠ 40 → f ≠ 44 → f ≠ 45 → f ≠ 46 → kk_mx (36 * s + d - 1) (f, 0, 0) j ∨ f = 54 → Z (f, 0, 0) j = h (f, 0, 0) j := fun f j f0 f1 f2 f4 f5 f6 w => by
    rw [zM f 0 0 j f0]
    refine fm _ _ f0 f1 (by rintro ⟨v, _⟩; simp at v; omega) ?_ (by rintro ⟨v, _⟩; simp at v; omega) (by rintro ⟨v, _⟩; simp at v; omega)
    rcases w with w | w
    · exact kk_mxd DM w
    · rw [w]; exact kk_mx6 (k := 0) (by omega)
  have e54 : ∀ j, Z (54, 0, 0) j = h (54, 0, 0) j := fun j => zmd 54 j (by decide) (by decide) (by decide) (by decide) (by decide) (by decide) (Or.inr rfl)
  have p27 : ∀ n j, Z (27, s, n) j = h (27, s, n) j := fun n j => zc 27 s n j (by decide) (by decide) (by omega) (by omega) (by omega) (by omega)
  have pm0 : ∀ j, 0 ≤ j → j < 36 → h (27, s, m) j = 0 := fun j j0 j1 => Wm.2.2.2.2.2.2.2.1 (by omega) j j0 j1
  have NRZ : ∀ n, 1 ≤ n → n < 37 → kk_NR Z s n := fun n n0 n1 => by
    by_cases nm : n = m
    · subst nm
      refine ⟨by rw [z0, zM _ _ _ _ (by decide)]; exact m0.1.symm, by rw [zC _ _ _ _ (by decide) (by decide), zM _ _ _ _ (by decide), c0.2.2.2.2.2.2.1, m0.2.2.1], by rw [zC _ _ _ _ (by decide) (by decide), zM _ _ _ _ (by decide), c0.2.2.2.2.2.2.2.1, m0.2.2.2.1], fun _ => ?_, fun e e0 e1 => ?_, fun e e0 e1 => ?_, fun w e e0 e1 => ?_, fun j j0 j1 => ?_⟩
      · rw [z1, z14, zC 24 _ _ 2 (by decide) (by decide), zC 24 _ _ 3 (by decide) (by decide), zM 42 _ _ _ (by decide), zM 47 _ _ _ (by decide), zM 48 _ _ _ (by decide), zM 53 _ _ _ (by decide), m0.2.1, m0.2.2.2.2.1, m0.2.2.2.2.2.1, m0.2.2.2.2.2.2, c0.2.2.1, c0.2.2.2.1, hlen, (kk_cal hr).1, ph.1.1]
        exact ⟨rfl, rfl, rfl, rfl⟩
      · rw [zC _ _ _ _ (by decide) (by decide), c0.2.2.2.2.2.2.1] at e1; omega
      · rw [zC _ _ _ _ (by decide) (by decide), c0.2.2.2.2.2.2.2.1] at e1; omega
      · rw [z0] at w
        rw [z1] at e1
        rw [z30 w e e0 e1, zM _ _ _ _ (by decide)]
        rw [hlen, if_pos w] at e1
        rw [m52 w e e0 (by omega)]
        exact (ph.2 e e0 e1).1
      · rw [p27, pm0 j j0 j1, zM _ _ _ _ (by decide), m43 j j0 j1]
        exact ⟨⟨fun _ => rfl, fun _ => rfl⟩, fun w => absurd rfl w⟩
    · by_cases nd : n = d
      · subst nd
        obtain ⟨a0, a6, a11, af, ae, ak, ast, ap⟩ := Nd
        have cd : ∀ j, j ≠ 6 → Z (24, s, n) j = h (24, s, n) j := fun j w => zc 24 s n j (by decide) (by decide) (fun v => nm v.2.2.1) (by omega) (fun v => w v.2.2.2) (by omega)
        have D : ∀ (f : Nat), kk_mf f → f ≠ 44 → Z (f, 0, 0) (36 * s + n - 1) = h (f, 0, 0) (36 * s + n - 1) := fun f hf h4 => by
          have hf2 := hf
          unfold kk_mf at hf2
          exact zmd f _ (by omega) (by omega) (by omega) h4 (by omega) (by omega) (Or.inl (Or.inl ⟨hf, rfl⟩))
        refine ⟨by rw [cd 0 (by decide), D 41 kk_f41 (by decide)]; exact a0, by rw [zC _ _ _ _ (by decide) (by decide), zM _ _ _ _ (by decide), c6, m6], by rw [cd 11 (by decide), D 49 kk_f49 (by decide)]; exact a11, ?_, fun e e0 e1 => ?_, ?_, ?_, fun j j0 j1 => ?_⟩
        · rw [cd 0 (by decide), cd 1 (by decide), cd 2 (by decide), cd 3 (by decide), cd 14 (by decide), D 42 kk_f42 (by decide), D 47 kk_f47 (by decide), D 48 kk_f48 (by decide), D 53 kk_f53 (by decide)]
          exact af
        · rw [zC _ _ _ _ (by decide) (by decide), c6] at e1
          rw [zC 25 _ _ _ (by decide) (by decide), zC 26 _ _ _ (by decide) (by decide), zM 45 _ _ _ (by decide), zM 46 _ _ _ (by decide), (ce e).1, (ce e).2, (me e e0 e1).1, (me e e0 e1).2]
          exact ⟨kk_insc (fun i i0 i1 => (ae i i0 (by omega)).1) p0 p1 e0 e1, kk_insc (fun i i0 i1 => (ae i i0 (by omega)).2) p0 p1 e0 e1⟩
        · rw [cd 11 (by decide)]
          intro e e0 e1
          have c4 := Wd.2.2.2.1
          rw [zc 28 s n e (by decide) (by decide) (by omega) (by omega) (by omega) (by omega), zc 29 s n e (by decide) (by decide) (by omega) (by omega) (by omega) (by omega), zmd 50 _ (by decide) (by decide) (by decide) (by decide) (by decide) (by decide) (Or.inl (kk_m50 (Or.inl rfl) ⟨e0, by omega⟩)), zmd 51 _ (by decide) (by decide) (by decide) (by decide) (by decide) (by decide) (Or.inl (kk_m50 (Or.inr rfl) ⟨e0, by omega⟩))]
          exact ak e e0 e1
        · rw [cd 0 (by decide)]
          intro w
          omega
        · rw [p27, zmd 43 _ (by decide) (by decide) (by decide) (by decide) (by decide) (by decide) (Or.inl (kk_m43 ⟨j0, j1⟩))]
          refine ⟨(ap j j0 j1).1, fun w i i0 i1 => ?_⟩
          rw [e16, e54]
          exact (ap j j0 j1).2 w i i0 i1
      · have w := (hK.2.2.2.2.1 s n hs.1 (by omega) n0 n1).1
        exact kk_NRcp (kk_cpdr (fun f j f0 f1 => zc f s n j (by omega) (by omega) (fun v => nm v.2.2.1) (fun v => nd v.2.2) (fun v => nd v.2.2.1) (fun v => nm v.2.2))) (kk_msr w.2.1.2 w.2.2.2 (fun y j hx2 => zmo n y j nm nd hx2)) (NW n n0 n1) (fun _ _ _ _ _ _ _ => e16 _) (fun _ _ _ _ _ _ _ => e54 _) (NR n n0 n1)
  have no : ∀ s2, kk_no Z s2 = kk_no h s2 := fun s2 => by
    unfold kk_no
    rw [hZ, mm_upj (by decide), mm_upf (by decide), kk_mixC (by simp), kk_mixC (by simp), fc _ _ (by simp) (by simp) (by simp) (by simp) (by simp), fc _ _ (by simp) (by simp) (by simp) (by simp) (by simp)]
  have m2 : m ≠ 1 := fun w => by
    have := hr.1.2.2.1.2.2.2.2.2.2.2.2.2.2.2.1 s hs.1 (by omega) hno
    rw [w] at km
    omega
  have eh : ∀ (y : mm_Id) j, y.1 = 34 ∨ y.1 = 35 ∨ y.1 = 62 ∨ y.1 = 63 ∨ y.1 = 64 → Z y j = h y j := fun y j w => by
    rw [hZ, mm_upne' (by rintro ⟨v, _⟩; rw [v] at w; simp at w)]
    by_cases u : y.1 < 40
    · rw [kk_mixC u]
      exact fc y j (by rintro ⟨v, _⟩; rw [v] at w; simp at w) (by intro v; rw [v] at w; simp at w) (by intro v; rw [v] at w; simp at w) (by rintro ⟨v, _⟩; rw [v] at w; simp at w) (by intro v; rw [v] at w; simp at w)
    · rw [kk_mixM (by omega)]
      exact fm y j (by omega) (by omega) (by rintro ⟨v, _⟩; rw [v] at w; simp at w) (fun v => by have := kk_mxr v; omega) (by rintro ⟨v, _⟩; rw [v] at w; simp at w) (by rintro ⟨v, _⟩; rcases v with v | v <;> rw [v] at w <;> simp at w)
  have dd := kk_d17s (s := s) (Z := Z) hr eh no (fun t n j w => zc 24 t n j (by decide) (by decide) (fun v => w v.2.1) (by omega) (fun v => w v.2.1) (by omega)) (fun n n0 n1 w _ => by
    rw [k0 n (fun v => by rw [v] at w; omega)]; exact w) (fun n n0 n1 w w5 => by
    have nm : n ≠ m := fun v => by rw [v, z5] at w5; omega
    rw [k0 n nm] at w
    rw [zc 24 s n 5 (by decide) (by decide) (fun v => nm v.2.2.1) (by omega) (by omega) (by omega)] at w5
    exact kk_h19 hr s n hs.1 hs.2 n0 n1 w w5)
  refine kk_WS hr hs hno E (by rw [hZ, mm_ups]) (kk_Rcong (fun t n j => zc 27 t n j (by decide) (by decide) (by omega) (by omega) (by omega) (by omega)) (zc 15 _ _ _ (by decide) (by decide) (by omega) (by omega) (by omega) (by omega)) (zc 15 _ _ _ (by decide) (by decide) (by omega) (by omega) (by omega) (by omega)) (fun r => zc 17 _ _ _ (by decide) (by decide) (by omega) (by omega) (by omega) (by omega)) (fun r => zc 18 _ _ _ (by decide) (by decide) (by omega) (by omega) (by omega) (by omega)) (fun r => zc 19 _ _ _ (by decide) (by decide) (by omega) (by omega) (by omega) (by omega)) hK.2.2.2.2.2.2.2.1) NRZ tr.1 tr.2 (fun n n0 n1 => ?_) (fun n j hn hj => ⟨Or.inl (p27 n j), ?_⟩) (by rw [k0 1 (Ne.symm m2)]; exact hr.1.2.2.1.2.2.2.2.2.2.2.2.2.2.2.1 s hs.1 (by omega) hno) dd.1 dd.2.1 dd.2.2
  · by_cases nm : n = m
    · rw [nm, zM _ _ _ _ (by decide), m0.2.2.2.2.2.2]; exact hfr
    · have w := (hK.2.2.2.2.1 s n hs.1 (by omega) n0 n1).1.1
      by_cases nd : n = d
      · rw [nd] at w ⊢
        rw [zmd 53 _ (by decide) (by decide) (by decide) (by decide) (by decide) (by decide) (Or.inl (Or.inl ⟨kk_f53, rfl⟩))]; exact w
      · rw [zmo n _ _ nm nd (Or.inl ⟨kk_f53, rfl⟩)]; exact w
  · by_cases nm : n = m
    · right
      rw [nm, zM _ _ _ _ (by decide)]; exact m43 j hj.1 hj.2
    · left
      by_cases nd : n = d
      · rw [nd, zmd 43 _ (by decide) (by decide) (by decide) (by decide) (by decide) (by decide) (Or.inl (kk_m43 hj))]
      · exact zmo n _ _ nm nd (kk_m43 hj)


