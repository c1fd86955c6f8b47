/-! what holds where entries are moved and nodes dropped -/
theorem kk_NRz {Z : mm_Id → Int → Int} {s n : Int} (c : kk_cl Z s n) (m : kk_mz Z (36 * s + n - 1)) : kk_NR Z s n := by
  have c0 : Z (24, s, n) 0 = 0 := by rw [c.1 0 kk_F0]; rfl
  have c6 : Z (24, s, n) 6 = 0 := by rw [c.1 6 kk_F6]; rfl
  have c11 : Z (24, s, n) 11 = 0 := by rw [c.1 11 kk_F11]; rfl
  refine ⟨by rw [c0, m.1.1], by rw [c6, m.1.2.2.1], by rw [c11, m.1.2.2.2], fun w => absurd c0 w, fun e _ w => by omega, fun e _ w => by omega, fun w => by omega, fun p p0 p1 => ?_⟩
  rw [c.2.2 p p0 p1, m.2 p p0 p1]
  exact ⟨⟨fun _ => rfl, fun _ => rfl⟩, fun w => absurd rfl w⟩
theorem kk_stW {b s : Int} {h hcc gm Z : mm_Id → Int → Int} {dh dh' : Int → Int} {C : Int → Prop} (hr : kk_core b h dh) (hs : 0 ≤ s ∧ s < 5) (hno : 0 < kk_no h s) (fc : ∀ y j, y.1 < 40 → ¬ kk_ts s y j → hcc y j = h y j) (R : kk_R hcc) (NW : ∀ n, 1 ≤ n → n < 37 → kk_NW hcc s n) (TW : kk_TW hcc s)
    (cC : ∀ n, C n → 1 ≤ n → n < 37 → kk_cl hcc s n) (cO : ∀ n, ¬ C n → 1 ≤ n → n < 37 → (∀ j, j ≠ 4 → j ≠ 5 → j ≠ 6 → hcc (24, s, n) j = h (24, s, n) j) ∧ ∀ (f : Nat) j, 27 ≤ f → f ≤ 30 → hcc (f, s, n) j = h (f, s, n) j)
    (fm : ∀ y j, 40 ≤ y.1 → ¬ kk_ts s y j → gm y j = h y j) (mC : ∀ n, C n → 1 ≤ n → n < 37 → kk_mz gm (36 * s + n - 1)) (m53 : ∀ n, 1 ≤ n → n < 37 → gm (53, 0, 0) (36 * s + n - 1) = h (53, 0, 0) (36 * s + n - 1))
    (mO : ∀ n, ¬ C n → 1 ≤ n → n < 37 → (∀ f, kk_mf f → f ≠ 44 → gm (f, 0, 0) (36 * s + n - 1) = h (f, 0, 0) (36 * s + n - 1)) ∧ (∀ p, 0 ≤ p → p < 36 → gm (43, 0, 0) (36 * (36 * s + n - 1) + p) = h (43, 0, 0) (36 * (36 * s + n - 1) + p)) ∧ (∀ e, 0 ≤ e → e < 4 → gm (50, 0, 0) (4 * (36 * s + n - 1) + e) = h (50, 0, 0) (4 * (36 * s + n - 1) + e) ∧ gm (51, 0, 0) (4 * (36 * s + n - 1) + e) = h (51, 0, 0) (4 * (36 * s + n - 1) + e)) ∧ ∀ e, 0 ≤ e → e < 8 → gm (52, 0, 0) (8 * (36 * s + n - 1) + e) = h (52, 0, 0) (8 * (36 * s + n - 1) + e))
    (ent : ∀ n, ¬ C n → 1 ≤ n → n < 37 → hcc (24, s, n) 6 = gm (44, 0, 0) (36 * s + n - 1) ∧ ∀ e, 0 ≤ e → e < hcc (24, s, n) 6 → hcc (25, s, n) e = gm (45, 0, 0) (24 * (36 * s + n - 1) + e) ∧ hcc (26, s, n) e = gm (46, 0, 0) (24 * (36 * s + n - 1) + e))
    (root : hcc (24, s, 1) 0 = 2) (hZ : Z = mm_up (kk_mix hcc gm) (31, s, 0) 6 1) (q17 : kk_d17 Z dh') (q18 : kk_d18 Z) (q19 : kk_d19 Z dh') : kk_W b Z dh' ∧ kk_KP Z := by
  have hK := hr.1.1
  have sT := mm_T13 (s := s) ⟨hs.1, by omega⟩
  have zC : ∀ (f : Nat) t n j, f < 40 → f ≠ 31 → Z (f, t, n) j = hcc (f, t, n) j := fun f t n j f0 f1 => by rw [hZ, mm_upf f1, kk_mixC f0]
  have zM : ∀ (f : Nat) t n j, 40 ≤ f → Z (f, t, n) j = gm (f, t, n) j := fun f t n j f0 => by rw [hZ, mm_upf (by omega), kk_mixM f0]
  have E : ∀ y j, ¬ kk_ts s y j → Z y j = h y j := fun y j w => by
    rw [hZ, mm_upne' (fun v => w (Or.inr (Or.inr (Or.inl v))))]
    by_cases u : y.1 < 40
    · rw [kk_mixC u]; exact fc y j u w
    · rw [kk_mixM (by omega)]; exact fm y j (by omega) w
  have nts : ∀ (f : Nat) j, f = 16 ∨ f = 54 → ¬ kk_ts s (f, 0, 0) j := fun f j hf w => by
    rcases kk_tsr w with w | w | w | w | w | w <;> simp at w <;> omega
  have e16 : ∀ j, Z (16, 0, 0) j = h (16, 0, 0) j := fun j => E _ _ (nts 16 j (Or.inl rfl))
  have e54 : ∀ j, Z (54, 0, 0) j = h (54, 0, 0) j := fun j => E _ _ (nts 54 j (Or.inr rfl))
  have h16 : ∀ j, Z (16, 0, 0) j = hcc (16, 0, 0) j := fun j => zC _ _ _ _ (by decide) (by decide)
  have cp : ∀ n, kk_cpd Z s n hcc s n := fun n => kk_cpdr (fun f j f0 f1 => zC f s n j (by omega) (by omega))
  refine kk_WS hr hs hno E (by rw [hZ, mm_ups]) (kk_Rcong (fun _ _ _ => zC _ _ _ _ (by decide) (by decide)) (zC _ _ _ _ (by decide) (by decide)) (zC _ _ _ _ (by decide) (by decide)) (fun _ => zC _ _ _ _ (by decide) (by decide)) (fun _ => zC _ _ _ _ (by decide) (by decide)) (fun _ => zC _ _ _ _ (by decide) (by decide)) R) (fun n n0 n1 => ?_) (fun n n0 n1 => kk_NWcp (fun m _ _ => cp m) ⟨n0, n1⟩ (fun _ _ _ _ _ _ => h16 _) (NW n n0 n1)) (kk_TWcp (fun m _ _ => cp m) NW TW) (fun n n0 n1 => by rw [zM _ _ _ _ (by decide), m53 n n0 n1]; exact (hK.2.2.2.2.1 s n hs.1 (by omega) n0 n1).1.1) (fun n p hn hp => ?_) (by rw [zC _ _ _ _ (by decide) (by decide)]; exact root) q17 q18 q19
  · by_cases c : C n
    · obtain ⟨c1, c2, c3⟩ := cC n c n0 n1
      obtain ⟨a1, a2⟩ := mC n c n0 n1
      refine kk_NRz ⟨fun f hf => ?_, ?_, fun p p0 p1 => ?_⟩ ⟨⟨?_, ?_, ?_, ?_⟩, fun p p0 p1 => ?_⟩
      · rw [zC _ _ _ _ (by decide) (by decide)]; exact c1 f hf
      · rw [zC _ _ _ _ (by decide) (by decide)]; exact c2
      · rw [zC _ _ _ _ (by decide) (by decide)]; exact c3 p p0 p1
      · rw [zM _ _ _ _ (by decide)]; exact a1.1
      · rw [zM _ _ _ _ (by decide)]; exact a1.2.1
      · rw [zM _ _ _ _ (by decide)]; exact a1.2.2.1
      · rw [zM _ _ _ _ (by decide)]; exact a1.2.2.2
      · rw [zM _ _ _ _ (by decide)]; exact a2 p p0 p1
    · obtain ⟨a0, a6, a11, af, ae, ak, ast, ap⟩ := hK.1 s n hs.1 (by omega) n0 n1
      have W := hK.2.1 s n sT n0 n1
      obtain ⟨o1, o2⟩ := cO n c n0 n1
      obtain ⟨m1, m2, m3, m4⟩ := mO n c n0 n1
      obtain ⟨e1, e2⟩ := ent n c n0 n1
      have z24 : ∀ j, j ≠ 4 → j ≠ 5 → j ≠ 6 → Z (24, s, n) j = h (24, s, n) j := fun j j4 j5 j6 => by rw [zC _ _ _ _ (by decide) (by decide)]; exact o1 j j4 j5 j6
      have zf : ∀ (f : Nat) j, 27 ≤ f → f ≤ 30 → Z (f, s, n) j = h (f, s, n) j := fun f j f0 f1 => by rw [zC f _ _ _ (by omega) (by omega)]; exact o2 f j f0 f1
      have zm : ∀ f, kk_mf f → f ≠ 44 → Z (f, 0, 0) (36 * s + n - 1) = h (f, 0, 0) (36 * s + n - 1) := fun f hf h4 => by
        have hf2 := hf
        unfold kk_mf at hf2
        rw [zM f _ _ _ (by omega)]; exact m1 f hf h4
      refine ⟨by rw [z24 0 (by decide) (by decide) (by decide), zm 41 kk_f41 (by decide)]; exact a0, by rw [zC _ _ _ _ (by decide) (by decide), zM _ _ _ _ (by decide)]; exact e1, by rw [z24 11 (by decide) (by decide) (by decide), zm 49 kk_f49 (by decide)]; exact a11, ?_, fun e e0 e3 => ?_, ?_, ?_, fun p p0 p1 => ?_⟩
      · rw [z24 0 (by decide) (by decide) (by decide), z24 1 (by decide) (by decide) (by decide), z24 2 (by decide) (by decide) (by decide), z24 3 (by decide) (by decide) (by decide), z24 14 (by decide) (by decide) (by decide), zm 42 kk_f42 (by decide), zm 47 kk_f47 (by decide), zm 48 kk_f48 (by decide), zm 53 kk_f53 (by decide)]
        exact af
      · rw [zC _ _ _ _ (by decide) (by decide)] at e3
        rw [zC 25 _ _ _ (by decide) (by decide), zC 26 _ _ _ (by decide) (by decide), zM 45 _ _ _ (by decide), zM 46 _ _ _ (by decide)]
        exact e2 e e0 e3
      · rw [z24 11 (by decide) (by decide) (by decide)]
        intro e e0 e3
        have := W.2.2.2.1
        rw [zf 28 _ (by decide) (by decide), zf 29 _ (by decide) (by decide), zM 50 _ _ _ (by decide), zM 51 _ _ _ (by decide), (m3 e e0 (by omega)).1, (m3 e e0 (by omega)).2]
        exact ak e e0 e3
      · rw [z24 0 (by decide) (by decide) (by decide), z24 1 (by decide) (by decide) (by decide)]
        intro k e e0 e3
        have := W.2.2.2.2.2.2.2.2.2.2.1.2.2 k
        rw [zf 30 _ (by decide) (by decide), zM 52 _ _ _ (by decide), m4 e e0 (by omega)]
        exact ast k e e0 e3
      · rw [zf 27 _ (by decide) (by decide), zM 43 _ _ _ (by decide), m2 p p0 p1]
        refine ⟨(ap p p0 p1).1, fun z i i0 i1 => ?_⟩
        rw [e16, e54]
        exact (ap p p0 p1).2 z i i0 i1
  · rw [zC _ _ _ _ (by decide) (by decide), zM _ _ _ _ (by decide)]
    by_cases c : C n
    · exact ⟨Or.inr ((cC n c hn.1 hn.2).2.2 p hp.1 hp.2), Or.inr ((mC n c hn.1 hn.2).2 p hp.1 hp.2)⟩
    · exact ⟨Or.inl ((cO n c hn.1 hn.2).2 27 p (by decide) (by decide)), Or.inl ((mO n c hn.1 hn.2).2.1 p hp.1 hp.2)⟩
/-- frames of the reference: what a place of a tree has, and what not -/
theorem kk_tsM {s : Int} {y : mm_Id} {j : Int} (hy : 40 ≤ y.1) (w : ¬ kk_ts s y j) : ¬ kk_sx s y j ∧ ¬ (y = (40, 0, 0) ∧ j = 0) ∧ y.1 ≠ 56 ∧ y.1 ≠ 62 ∧ y.1 ≠ 63 ∧ y.1 ≠ 64 :=
  ⟨fun v => w (Or.inr (Or.inl v)), fun v => w (Or.inr (Or.inr (Or.inr (Or.inr (Or.inl v))))), fun v => w (Or.inr (Or.inr (Or.inr (Or.inr (Or.inr (Or.inl v)))))), fun v => w (Or.inr (Or.inr (Or.inr (Or.inr (Or.inr (Or.inr (Or.inr (Or.inr (Or.inl v))))))))), fun v => w (Or.inr (Or.inr (Or.inr (Or.inr (Or.inr (Or.inr (Or.inr (Or.inr (Or.inr (Or.inl v)))))))))), fun v => w (Or.inr (Or.inr (Or.inr (Or.inr (Or.inr (Or.inr (Or.inr (Or.inr (Or.inr (Or.inr v))))))))))⟩
theorem kk_tsN {s n : Int} {f : Nat} {j : Int} (hf : 24 ≤ f ∧ f ≤ 30) (hn : 1 ≤ n ∧ n < 37) : kk_ts s (f, s, n) j := Or.inl ⟨hf.1, hf.2, rfl, hn.1, hn.2⟩

