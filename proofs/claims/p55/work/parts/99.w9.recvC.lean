/-! receive: counts after; what was there and what is -/
theorem kk_smad (f g k : Int → Int) : ∀ n : Nat, mm_sm (fun i => f i + g i - k i) n = mm_sm f n + mm_sm g n - mm_sm k n := by
  intro n
  induction n with
  | zero => rfl
  | succ n ih =>
    show mm_sm _ n + (f n + g n - k n) = (mm_sm f n + f n) + (mm_sm g n + g n) - (mm_sm k n + k n)
    rw [ih]; omega
section
variable {b t : Int} {h G gm : mm_Id → Int → Int} {dh : Int → Int}
theorem kk_ctG (hc : kk_core b h dh) (IG : kk_G28 t h G) {s n : Int} (hs : 0 ≤ s ∧ s < 28) (hn : 1 ≤ n ∧ n < 37) : kk_ctn2 G s n ↔ kk_ctn2 h s n := by
  have e : kk_ef G s n = kk_ef h s n := sm_cgI 36 (fun i i1 i2 => by
    have m := kk_Gms hc IG hs (n := i + 1) (by omega)
    show mm_sm _ _ = mm_sm _ _
    rw [m.1 44 kk_f44]
    exact sm_cgI _ (fun e e1 e2 => by rw [(m.2.2.1 e e1 (by omega)).2]))
  unfold kk_ctn2
  rw [e, (kk_Gms hc IG hs hn).1 41 kk_f41]
theorem kk_ct28 (IG : kk_G28 t h G) {n : Int} (hn : 1 ≤ n ∧ n < 37) : kk_ctn2 G 28 n ↔ kk_ctn2 h t n := by
  have e : kk_ef G 28 n = kk_ef h t n := sm_cgI 36 (fun i i1 i2 => by
    have m := IG.2 (i + 1) (by omega) (by omega)
    show mm_sm _ _ = mm_sm _ _
    rw [m.1 44 kk_f44]
    exact sm_cgI _ (fun e e1 e2 => by rw [(m.2.2.1 e e1 (by omega)).2]))
  unfold kk_ctn2
  rw [e, (IG.2 n hn.1 hn.2).1 41 kk_f41]
theorem kk_GFI (hc : kk_core b h dh) (ht : 0 ≤ t ∧ t < 13) (IG : kk_G28 t h G) : kk_GF t G := by
  obtain ⟨G0, GA⟩ := kk_G0 (m := 1) (lo := 0) (lim := 0) hc ht IG
  obtain ⟨⟨g1, g2⟩, _, _, _, _, _, _, _, _, _, ⟨gD, gF, gB, _⟩, _⟩ := G0
  refine ⟨gB, gF, fun s n s0 s1 n0 n1 => ?_, GA, g1, g2, fun n p n0 n1 p0 p1 => ?_, fun n n0 n1 => ?_, fun n p e n0 n1 p0 p1 k z e0 e1 => ?_⟩
  · by_cases y : s = 28
    · rw [y]; exact (kk_MWcp (IG.2 n n0 n1) (kk_MWC hc (s := t) (n := n) (by omega) ⟨n0, n1⟩)).1
    · exact (kk_MWcp (kk_Gms hc IG (s := s) (by omega) ⟨n0, n1⟩) (kk_MWC hc ⟨s0, s1⟩ ⟨n0, n1⟩)).1
  · rw [(IG.2 n n0 n1).2.1 p p0 p1, kk_G43 IG (by omega) n1 p1]
  · rw [(IG.2 n n0 n1).1 41 kk_f41, kk_G41 IG kk_f41 (by decide) (by decide) (by omega) n1]
  · rw [kk_ctG hc IG (by omega) ⟨n0, n1⟩] at k
    have N := (hc.1.1.2.2.2.1 27 (Or.inr rfl) n n0 n1).1 k
    rw [kk_G43 IG (by omega) n1 p1] at z ⊢
    have r8 := N.2.2.2.2.2.2.2 p p0 p1
    have r0 : h (27, 27, n) p ≠ 0 := fun q => z (r8.1.1 q)
    have rr := hc.1.1.2.2.2.2.2.2.2.1.1 27 n p (by unfold mm_isT; omega) ⟨by omega, n1⟩ p0 p1
    rw [IG.1 (54, 0, 0) _ (by decide) (kk_sx6 (by omega)) (by decide) (by simp), ← r8.2 r0 e e0 e1]
    exact hc.1.1.2.2.2.2.2.2.2.2.1.2 _ (by omega) (by omega)
/-- a row of the stream's lies in a file that counts -/
theorem kk_r27 (hc : kk_core b h dh) {n p : Int} (hn : 1 ≤ n ∧ n < 37) (hp : 0 ≤ p ∧ p < 36) : h (27, 27, n) p ≠ 0 ↔ kk_ctn2 h 27 n ∧ h (43, 0, 0) (36 * (36 * 27 + n - 1) + p) ≠ 0 := by
  have W := hc.1.1.2.1 27 n (by unfold mm_isT; omega) hn.1 hn.2
  have S := hc.1.1.2.2.2.1 27 (Or.inr rfl) n hn.1 hn.2
  constructor
  · intro r
    have c : kk_ctn2 h 27 n := Classical.byContradiction (fun c => r (W.2.2.2.2.2.2.2.1 (by have := S.2 c; omega) p hp.1 hp.2))
    exact ⟨c, fun w => r (((S.1 c).2.2.2.2.2.2.2 p hp.1 hp.2).1.2 w)⟩
  · rintro ⟨c, z⟩ r
    exact z (((S.1 c).2.2.2.2.2.2.2 p hp.1 hp.2).1.1 r)
theorem kk_krl (hc : kk_core b h dh) (ht : 0 ≤ t ∧ t < 13) (IG : kk_G28 t h G) {n p : Int} (hn : 1 ≤ n ∧ n < 37) (hp : 0 ≤ p ∧ p < 36) (r : h (27, 27, n) p ≠ 0) : kk_kr G n p ↔ kk_kp h t n 27 n p := by
  obtain ⟨c, z⟩ := (kk_r27 hc hn hp).1 r
  have W := hc.1.1.2.1 27 n (by unfold mm_isT; omega) hn.1 hn.2
  have N := kk_NRC hc (t := t) (n := n) ⟨ht.1, by omega⟩ hn
  have N27 := (hc.1.1.2.2.2.1 27 (Or.inr rfl) n hn.1 hn.2).1 c
  have k27 : h (24, 27, n) 0 = 1 := Classical.byContradiction (fun q => r (W.2.2.2.2.2.2.2.1 q p hp.1 hp.2))
  have r8 := N.2.2.2.2.2.2.2 p hp.1 hp.2
  have r27 := (N27.2.2.2.2.2.2.2 p hp.1 hp.2).2 r
  have br := kk_brC hc (s := t) ⟨ht.1, by omega⟩ n p hn.1 hn.2 hp.1 hp.2
  have g54 : ∀ i, G (54, 0, 0) i = h (54, 0, 0) i := fun i => IG.1 _ _ (by decide) (kk_sx6 (by omega)) (by decide) (by simp)
  unfold kk_kr kk_mb kk_kp kk_rb
  rw [kk_ct28 IG hn, kk_ctC hc ht hn, (IG.2 n hn.1 hn.2).1 41 kk_f41, (IG.2 n hn.1 hn.2).2.1 p hp.1 hp.2, kk_G43 IG (by omega) hn.2 hp.2, ← N.1]
  simp only [g54]
  constructor
  · rintro ⟨⟨q1, q2, q3⟩, q4, q5⟩
    have rt : h (27, t, n) p ≠ 0 := fun w => by have := r8.1.1 w; omega
    refine ⟨⟨q1, fun w => q3 ⟨q1, w⟩, k27⟩, ⟨fun w => absurd w rt, fun w => absurd w r⟩, fun i i0 i1 => ?_⟩
    rw [r8.2 rt i i0 i1, r27 i i0 i1]; exact q5 i i0 i1
  · rintro ⟨⟨q1, q2, _⟩, q3, q4⟩
    have rt : h (27, t, n) p ≠ 0 := fun w => r (q3.1 w)
    have zt : h (43, 0, 0) (36 * (36 * t + n - 1) + p) ≠ 0 := fun w => rt (r8.1.2 w)
    refine ⟨⟨q1, by omega, fun w => q2 w.2⟩, by omega, fun i i0 i1 => ?_⟩
    rw [← r8.2 rt i i0 i1, ← r27 i i0 i1]; exact q4 i i0 i1
/-- pieces after: gone, kept, new -/
theorem kk_pcM (hc : kk_core b h dh) (ht : 0 ≤ t ∧ t < 13) (IG : kk_G28 t h G) (A : kk_KA t G gm 37) {n p : Int} (hn : 1 ≤ n ∧ n < 37) (hp : 0 ≤ p ∧ p < 36) :
    (h (27, 27, n) p = 0 ∧ gm (43, 0, 0) (36 * (36 * t + n - 1) + p) = 0) ∨ (h (27, 27, n) p ≠ 0 ∧ kk_kp h t n 27 n p ∧ gm (43, 0, 0) (36 * (36 * t + n - 1) + p) = h (43, 0, 0) (36 * (36 * t + n - 1) + p) ∧ h (43, 0, 0) (36 * (36 * t + n - 1) + p) ≠ 0) ∨
    (h (27, 27, n) p ≠ 0 ∧ ¬ kk_kp h t n 27 n p ∧ (1 ≤ gm (43, 0, 0) (36 * (36 * t + n - 1) + p) ∧ gm (43, 0, 0) (36 * (36 * t + n - 1) + p) ≤ 3000) ∧ ¬ kk_any G (gm (43, 0, 0) (36 * (36 * t + n - 1) + p)) ∧ (∀ n2 p2, 1 ≤ n2 → n2 < 37 → 0 ≤ p2 → p2 < 36 → ¬ (n2 = n ∧ p2 = p) → gm (43, 0, 0) (36 * (36 * t + n2 - 1) + p2) ≠ gm (43, 0, 0) (36 * (36 * t + n - 1) + p)) ∧
      ∀ e, 0 ≤ e → e < 60 → gm (54, 0, 0) (60 * gm (43, 0, 0) (36 * (36 * t + n - 1) + p) + e) = h (54, 0, 0) (60 * h (43, 0, 0) (36 * (36 * 27 + n - 1) + p) + e)) := by
  have D := A.2.1 n hn.1 hn.2
  have e27 := kk_G43 IG (s := 27) (n := n) (p := p) (by omega) hn.2 hp.2
  have R := kk_r27 hc hn hp
  by_cases r : h (27, 27, n) p = 0
  · refine Or.inl ⟨r, ?_⟩
    by_cases c : kk_ctn2 G 27 n
    · refine ((D.1 c).2 p hp.1 hp.2).1 ?_
      rw [e27]
      exact Classical.byContradiction (fun w => R.2 ⟨(kk_ctG hc IG (by omega) hn).1 c, w⟩ r)
    · exact (D.2 c).2 p hp.1 hp.2
  · obtain ⟨c, z⟩ := R.1 r
    have P := ((D.1 ((kk_ctG hc IG (by omega) hn).2 c)).2 p hp.1 hp.2)
    have L := kk_krl hc ht IG hn hp r
    by_cases k : kk_kp h t n 27 n p
    · have q := P.2.1 (by rw [e27]; exact z) (L.2 k)
      rw [(IG.2 n hn.1 hn.2).2.1 p hp.1 hp.2] at q
      have N := (kk_NRC hc (t := t) (n := n) ⟨ht.1, by omega⟩ hn).2.2.2.2.2.2.2 p hp.1 hp.2
      exact Or.inr (Or.inl ⟨r, k, q, fun w => r (k.2.1.1 (N.1.2 w))⟩)
    · obtain ⟨q1, q2, q3, q4⟩ := P.2.2 (by rw [e27]; exact z) (fun w => k (L.1 w))
      refine Or.inr (Or.inr ⟨r, k, q1, q2, q3, fun e e0 e1 => ?_⟩)
      rw [q4 e e0 e1, e27]
      exact IG.1 _ _ (by decide) (kk_sx6 (by omega)) (by decide) (by simp)
theorem kk_rcN (hc : kk_core b h dh) (ht : 0 ≤ t ∧ t < 13) (IG : kk_G28 t h G) : kk_sf (kk_ns G) 1 37 = kk_S (fun n => mm_sm (fun p => kk_b (h (27, 27, n) p ≠ 0 ∧ ¬ kk_kp h t n 27 n p)) 36) 36 := by
  unfold kk_sf kk_S
  refine sm_cgI 36 (fun i i0 i1 => ?_)
  rw [show (1 : Int) + i = i + 1 by omega]
  unfold kk_ns kk_sf
  refine sm_cgI 36 (fun p p0 p1 => ?_)
  rw [show (0 : Int) + p = p by omega]
  have hn : 1 ≤ i + 1 ∧ i + 1 < 37 := by omega
  have hp : 0 ≤ p ∧ p < 36 := ⟨p0, by omega⟩
  refine kk_bc ⟨fun q => ?_, fun q => ?_⟩
  · have r := (kk_r27 hc hn hp).2 ⟨(kk_ctG hc IG (by omega) hn).1 q.1, by rw [← kk_G43 IG (by omega) hn.2 hp.2]; exact q.2.1⟩
    exact ⟨r, fun w => q.2.2 ((kk_krl hc ht IG hn hp r).2 w)⟩
  · have r := (kk_r27 hc hn hp).1 q.1
    exact ⟨(kk_ctG hc IG (by omega) hn).2 r.1, by rw [kk_G43 IG (by omega) hn.2 hp.2]; exact r.2, fun w => q.2 ((kk_krl hc ht IG hn hp q.1).1 w)⟩
/-- counts after -/
theorem kk_rcC (hc : kk_core b h dh) (ht : 0 ≤ t ∧ t < 13) (hno : 0 < kk_no h t) (IG : kk_G28 t h G) (A : kk_KA t G gm 37) :
    kk_cnt (kk_lb gm (-1)) = kk_cnt (kk_lb h (-1)) - kk_S (fun n => mm_sm (fun p => kk_b (((1 ≤ h (27, t, n) p ∧ h (27, t, n) p < 1701) ∧ h (17, 0, 0) (h (27, t, n) p) = 1) ∧ ¬ kk_kp h t n 27 n p)) 36) 36 + kk_S (fun n => mm_sm (fun p => kk_b (h (27, 27, n) p ≠ 0 ∧ ¬ kk_kp h t n 27 n p)) 36) 36 ∧
    kk_cnt (kk_bs gm t) = kk_S (fun n => h (24, 27, n) 9) 36 := by
  have X := A.1
  have GF := kk_GFI hc ht IG
  have pc := fun n p (hn : 1 ≤ n ∧ n < 37) (hp : 0 ≤ p ∧ p < 36) => kk_pcM hc ht IG A hn hp
  have fo := X.2.2.2.2.1 t ht.1 (by omega)
  have br := X.2.2.2.1 t ht.1 (by omega)
  have hu : ∀ n p n2 p2, (1 ≤ n ∧ n < 37) → (0 ≤ p ∧ p < 36) → (1 ≤ n2 ∧ n2 < 37) → (0 ≤ p2 ∧ p2 < 36) → gm (43, 0, 0) (36 * (36 * t + n - 1) + p) ≠ 0 → gm (43, 0, 0) (36 * (36 * t + n2 - 1) + p2) ≠ 0 → gm (43, 0, 0) (36 * (36 * t + n - 1) + p) = gm (43, 0, 0) (36 * (36 * t + n2 - 1) + p2) → n = n2 ∧ p = p2 := fun n p n2 p2 hn hp hn2 hp2 z z2 e => by
    by_cases same : n = n2 ∧ p = p2
    · exact same
    · rcases pc n p hn hp with w | w | w
      · exact absurd w.2 z
      · rcases pc n2 p2 hn2 hp2 with w2 | w2 | w2
        · exact absurd w2.2 z2
        · rw [w.2.2.1, w2.2.2.1] at e
          exact kk_DmW hc ht n p n2 p2 hn hp hn2 hp2 w.2.2.2 e
        · exact absurd e (w2.2.2.2.2.1 n p hn.1 hn.2 hp.1 hp.2 same)
      · exact absurd e.symm (w.2.2.2.2.1 n2 p2 hn2.1 hn2.2 hp2.1 hp2.2 (fun y => same ⟨y.1.symm, y.2.symm⟩))
  have bsE : ∀ v, 1 ≤ v → (kk_bs gm t v ↔ ∃ n p, (1 ≤ n ∧ n < 37) ∧ (0 ≤ p ∧ p < 36) ∧ gm (43, 0, 0) (36 * (36 * t + n - 1) + p) ≠ 0 ∧ gm (43, 0, 0) (36 * (36 * t + n - 1) + p) = v) := fun v v1 => by
    constructor
    · rintro ⟨n, p, hn, hp, _, e⟩; exact ⟨n, p, hn, hp, by omega, e⟩
    · rintro ⟨n, p, hn, hp, z, e⟩; exact ⟨n, p, hn, hp, fo n p hn.1 hn.2 hp.1 hp.2 z, e⟩
  have obs : ∀ k v, 0 ≤ k → k < 28 → k ≠ t → (kk_bs gm k v ↔ kk_bs h k v) := fun k v k0 k1 q => by
    rw [← kk_Gbs hc IG (s := k) (c := v) ⟨k0, k1⟩]
    constructor
    · rintro ⟨n, p, hn, hp, k2, e⟩
      exact ⟨n, p, hn, hp, by rw [← kk_RXf X kk_f41 q hn]; exact k2, by rw [← kk_RXo X q hn hp]; exact e⟩
    · rintro ⟨n, p, hn, hp, k2, e⟩
      exact ⟨n, p, hn, hp, by rw [kk_RXf X kk_f41 q hn]; exact k2, by rw [kk_RXo X q hn hp]; exact e⟩
  have e57 : ∀ k, gm (57, 0, 0) k = h (57, 0, 0) k := fun k => (X.2.2.1 _ _ (by simp) (by simp) (by simp) (kk_sx6 (by omega))).trans (IG.1 _ _ (by decide) (kk_sx6 (by omega)) (by decide) (by simp))
  have h57 : 0 < h (57, 0, 0) t := by rw [kk_NC hc t ht.1 ht.2]; exact hno
  have lbT : ∀ v, kk_lb gm t v ↔ kk_lb h t v := fun v => by
    constructor
    · rintro ⟨k, hk, z, w, q⟩
      exact ⟨k, hk, by rw [← e57]; exact z, w, (obs k v hk.1 (by omega) w).1 q⟩
    · rintro ⟨k, hk, z, w, q⟩
      exact ⟨k, hk, by rw [e57]; exact z, w, (obs k v hk.1 (by omega) w).2 q⟩
  have spl : ∀ F : mm_Id → Int → Int, 0 < F (57, 0, 0) t → kk_cnt (kk_lb F (-1)) = kk_cnt (kk_lb F t) + kk_cnt (fun v => kk_bs F t v ∧ ¬ kk_lb F t v) := fun F f57 => by
    have d := kk_cntd (P := kk_lb F t) (Q := kk_bs F t)
    rw [kk_cntc (P := kk_lb F (-1)) (R := fun v => kk_lb F t v ∨ kk_bs F t v) (fun v _ _ => ⟨?_, ?_⟩)]
    · omega
    · rintro ⟨k, hk, z, w, q⟩
      by_cases y : k = t
      · rw [y] at q; exact Or.inr q
      · exact Or.inl ⟨k, hk, z, y, q⟩
    · rintro (⟨k, hk, z, w, q⟩ | q)
      · exact ⟨k, hk, z, by omega, q⟩
      · exact ⟨t, ht, f57, by omega, q⟩
  have m1 := spl gm (by rw [e57]; exact h57)
  have h1 := spl h h57
  rw [kk_cntc (P := kk_lb gm t) (fun v _ _ => lbT v), kk_cntc (P := fun v => kk_bs gm t v ∧ ¬ kk_lb gm t v) (R := fun v => kk_bs gm t v ∧ ¬ kk_lb h t v) (fun v _ _ => by rw [lbT])] at m1
  rw [← kk_aln hc.1 ht] at h1
  have lab1 := kk_lab (F := fun n p => gm (43, 0, 0) (36 * (36 * t + n - 1) + p) ≠ 0 ∧ ¬ kk_lb h t (gm (43, 0, 0) (36 * (36 * t + n - 1) + p))) (lab := fun n p => gm (43, 0, 0) (36 * (36 * t + n - 1) + p)) (fun n p n0 n1 p0 p1 f => by
    have := br n p n0 n1 p0 p1
    have := f.1
    show 1 ≤ gm (43, 0, 0) _ ∧ gm (43, 0, 0) _ ≤ 3000
    omega) (fun n p n2 p2 hn hp hn2 hp2 f f2 e => hu n p n2 p2 hn hp hn2 hp2 f.1 f2.1 e)
  have lab2 := kk_lab (F := fun n p => gm (43, 0, 0) (36 * (36 * t + n - 1) + p) ≠ 0) (lab := fun n p => gm (43, 0, 0) (36 * (36 * t + n - 1) + p)) (fun n p n0 n1 p0 p1 f => by
    have := br n p n0 n1 p0 p1
    show 1 ≤ gm (43, 0, 0) _ ∧ gm (43, 0, 0) _ ≤ 3000
    omega) (fun n p n2 p2 hn hp hn2 hp2 f f2 e => hu n p n2 p2 hn hp hn2 hp2 f f2 e)
  have c1 : kk_cnt (fun v => kk_bs gm t v ∧ ¬ kk_lb h t v) = kk_S (fun n => mm_sm (fun p => kk_b (gm (43, 0, 0) (36 * (36 * t + n - 1) + p) ≠ 0 ∧ ¬ kk_lb h t (gm (43, 0, 0) (36 * (36 * t + n - 1) + p)))) 36) 36 := by
    rw [lab1]
    refine kk_cntc (fun v v1 _ => ?_)
    rw [bsE v v1]
    constructor
    · rintro ⟨⟨n, p, hn, hp, z, e⟩, nl⟩; exact ⟨n, p, hn, hp, ⟨z, by rw [e]; exact nl⟩, e⟩
    · rintro ⟨n, p, hn, hp, f, e⟩; exact ⟨⟨n, p, hn, hp, f.1, e⟩, by rw [← e]; exact f.2⟩
  have c2 : kk_cnt (kk_bs gm t) = kk_S (fun n => mm_sm (fun p => kk_b (gm (43, 0, 0) (36 * (36 * t + n - 1) + p) ≠ 0)) 36) 36 := by
    rw [lab2]
    exact kk_cntc (fun v v1 _ => bsE v v1)
  refine ⟨?_, ?_⟩
  · have e : kk_S (fun n => mm_sm (fun p => kk_b (gm (43, 0, 0) (36 * (36 * t + n - 1) + p) ≠ 0 ∧ ¬ kk_lb h t (gm (43, 0, 0) (36 * (36 * t + n - 1) + p)))) 36) 36 =
        kk_S (fun n => mm_sm (fun p => kk_b (h (27, 27, n) p ≠ 0 ∧ ¬ kk_kp h t n 27 n p)) 36) 36 + kk_S (fun n => mm_sm (fun p => if (1 ≤ h (27, t, n) p ∧ h (27, t, n) p < 1701) ∧ h (17, 0, 0) (h (27, t, n) p) = 1 then 1 else 0) 36) 36 - kk_S (fun n => mm_sm (fun p => kk_b (((1 ≤ h (27, t, n) p ∧ h (27, t, n) p < 1701) ∧ h (17, 0, 0) (h (27, t, n) p) = 1) ∧ ¬ kk_kp h t n 27 n p)) 36) 36 := by
      unfold kk_S
      rw [← kk_smad]
      refine sm_cgI 36 (fun i i0 i1 => ?_)
      show mm_sm _ 36 = mm_sm _ 36 + mm_sm _ 36 - mm_sm _ 36
      rw [← kk_smad]
      refine sm_cgI 36 (fun p p0 p1 => ?_)
      have hn : 1 ≤ i + 1 ∧ i + 1 < 37 := by omega
      have hp : 0 ≤ p ∧ p < 36 := ⟨p0, by omega⟩
      have al := kk_al1 hc.1 ht hn hp
      show kk_b (gm (43, 0, 0) (36 * (36 * t + (i + 1) - 1) + p) ≠ 0 ∧ ¬ kk_lb h t (gm (43, 0, 0) (36 * (36 * t + (i + 1) - 1) + p))) = kk_b (h (27, 27, i + 1) p ≠ 0 ∧ ¬ kk_kp h t (i + 1) 27 (i + 1) p) + (if (1 ≤ h (27, t, i + 1) p ∧ h (27, t, i + 1) p < 1701) ∧ h (17, 0, 0) (h (27, t, i + 1) p) = 1 then 1 else 0) - kk_b (((1 ≤ h (27, t, i + 1) p ∧ h (27, t, i + 1) p < 1701) ∧ h (17, 0, 0) (h (27, t, i + 1) p) = 1) ∧ ¬ kk_kp h t (i + 1) 27 (i + 1) p)
      rcases pc (i + 1) p hn hp with w | w | w
      · rw [w.2, kk_b0 (P := (0 : Int) ≠ 0 ∧ ¬ kk_lb h t 0) (fun q => q.1 rfl), kk_b0 (P := h (27, 27, i + 1) p ≠ 0 ∧ ¬ kk_kp h t (i + 1) 27 (i + 1) p) (fun q => q.1 w.1)]
        by_cases k : kk_kp h t (i + 1) 27 (i + 1) p
        · have rt := k.2.1.2 w.1
          rw [if_neg (fun q => by have := q.1; omega), kk_b0 (fun q => q.2 k)]; rfl
        · by_cases a : (1 ≤ h (27, t, i + 1) p ∧ h (27, t, i + 1) p < 1701) ∧ h (17, 0, 0) (h (27, t, i + 1) p) = 1
          · rw [if_pos a, kk_b1 ⟨a, k⟩]; rfl
          · rw [if_neg a, kk_b0 (fun q => a q.1)]; rfl
      · rw [w.2.2.1, kk_b0 (P := h (27, 27, i + 1) p ≠ 0 ∧ ¬ kk_kp h t (i + 1) 27 (i + 1) p) (fun q => q.2 w.2.1), kk_b0 (P := ((1 ≤ h (27, t, i + 1) p ∧ h (27, t, i + 1) p < 1701) ∧ h (17, 0, 0) (h (27, t, i + 1) p) = 1) ∧ ¬ kk_kp h t (i + 1) 27 (i + 1) p) (fun q => q.2 w.2.1)]
        by_cases a : (1 ≤ h (27, t, i + 1) p ∧ h (27, t, i + 1) p < 1701) ∧ h (17, 0, 0) (h (27, t, i + 1) p) = 1
        · rw [if_pos a, kk_b1 (al.1 a)]; rfl
        · rw [if_neg a, kk_b0 (fun q => a (al.2 q))]; rfl
      · have nl : ¬ kk_lb h t (gm (43, 0, 0) (36 * (36 * t + (i + 1) - 1) + p)) := fun q => w.2.2.2.1 (by
          obtain ⟨k, hk, _, _, q2⟩ := q
          exact ⟨k, by omega, (kk_Gbs hc IG (by omega)).2 q2⟩)
        rw [kk_b1 ⟨by have := w.2.2.1; omega, nl⟩, kk_b1 ⟨w.1, w.2.1⟩]
        by_cases a : (1 ≤ h (27, t, i + 1) p ∧ h (27, t, i + 1) p < 1701) ∧ h (17, 0, 0) (h (27, t, i + 1) p) = 1
        · rw [if_pos a, kk_b1 ⟨a, w.2.1⟩]; rfl
        · rw [if_neg a, kk_b0 (fun q => a q.1)]; rfl
    rw [c1, e] at m1
    omega
  · rw [c2]
    refine sm_cgI 36 (fun i i0 i1 => ?_)
    have W := hc.1.1.2.1 27 (i + 1) (by unfold mm_isT; omega) (by omega) (by omega)
    show mm_sm _ 36 = h (24, 27, i + 1) 9
    rw [W.2.2.2.2.2.2.1]
    refine sm_cgI 36 (fun p p0 p1 => ?_)
    rcases pc (i + 1) p (by omega) ⟨p0, by omega⟩ with w | w | w
    · rw [if_pos w.1, kk_b0 (fun q => q w.2)]
    · rw [if_neg w.1, kk_b1 (by rw [w.2.2.1]; exact w.2.2.2)]
    · rw [if_neg w.1, kk_b1 (by have := w.2.2.1; omega)]
end

