/-! write: what holds after, and where it was refused -/
/-- a tree lies aside as it was -/
def kk_G28 (t : Int) (h G : mm_Id → Int → Int) : Prop := (∀ (x : mm_Id) j, 40 ≤ x.1 → ¬ kk_sx 28 x j → x.1 ≠ 56 → ¬ (x = (40, 0, 0) ∧ j = 0) → G x j = h x j) ∧ ∀ n, 1 ≤ n → n < 37 → kk_ms G (36 * 28 + n - 1) h (36 * t + n - 1)
theorem kk_n28 {s n p : Int} (hs : s < 28) (hn : n < 37) (hp : p < 36) : ¬ kk_sx 28 (43, 0, 0) (36 * (36 * s + n - 1) + p) := by
  rintro ⟨n2, h1, h2, q⟩
  unfold kk_mx kk_mf at q
  simp at q
  omega
theorem kk_n28k {f : Nat} {s n : Int} (hf : kk_mf f) (hs : s < 28) (hn : n < 37) : ¬ kk_sx 28 (f, 0, 0) (36 * s + n - 1) := by
  rintro ⟨n2, h1, h2, q⟩
  unfold kk_mx at q
  unfold kk_mf at hf q
  simp at q
  omega
section
variable {b t m : Int} {h G : mm_Id → Int → Int} {dh : Int → Int}
theorem kk_G43 (I : kk_G28 t h G) {s n p : Int} (hs : s < 28) (hn : n < 37) (hp : p < 36) : G (43, 0, 0) (36 * (36 * s + n - 1) + p) = h (43, 0, 0) (36 * (36 * s + n - 1) + p) := I.1 _ _ (by decide) (kk_n28 hs hn hp) (by decide) (by simp)
theorem kk_G41 (I : kk_G28 t h G) {f : Nat} {s n : Int} (hf : kk_mf f) (h40 : 40 ≤ f) (h56 : f ≠ 56) (hs : s < 28) (hn : n < 37) : G (f, 0, 0) (36 * s + n - 1) = h (f, 0, 0) (36 * s + n - 1) := I.1 _ _ h40 (kk_n28k hf hs hn) h56 (by rintro ⟨v, _⟩; simp at v; rw [v] at hf; unfold kk_mf at hf; omega)
theorem kk_Gms (hc : kk_core b h dh) (I : kk_G28 t h G) {s n : Int} (hs : 0 ≤ s ∧ s < 28) (hn : 1 ≤ n ∧ n < 37) : kk_ms G (36 * s + n - 1) h (36 * s + n - 1) := by
  have w := (kk_MWC hc (s := s) (n := n) ⟨hs.1, by omega⟩ hn).1
  refine kk_msr w.2.1.2 w.2.2.2 (fun x j hx => ?_)
  have r := kk_mxr hx
  exact I.1 x j (by omega) (kk_sxd (by omega) ⟨n, hn.1, hn.2, hx⟩) (by omega) (by rintro ⟨v, _⟩; rw [v] at r; simp at r)
theorem kk_Gbs (hc : kk_core b h dh) (I : kk_G28 t h G) {s c : Int} (hs : 0 ≤ s ∧ s < 28) : kk_bs G s c ↔ kk_bs h s c := kk_bscp (fun n n0 n1 => kk_Gms hc I hs ⟨n0, n1⟩)
theorem kk_Gb8 (I : kk_G28 t h G) {c : Int} : kk_bs G 28 c ↔ kk_bs h t c := kk_bscp I.2
theorem kk_Glb (hc : kk_core b h dh) (I : kk_G28 t h G) {s c : Int} : kk_lb G s c ↔ kk_lb h s c := by
  have e : ∀ k, G (57, 0, 0) k = h (57, 0, 0) k := fun k => I.1 _ _ (by decide) (kk_sx6 (by omega)) (by decide) (by simp)
  constructor
  · rintro ⟨k, hk, z, w, q⟩
    rw [e] at z
    exact ⟨k, hk, z, w, (kk_Gbs hc I (by omega)).1 q⟩
  · rintro ⟨k, hk, z, w, q⟩
    exact ⟨k, hk, by rw [e]; exact z, w, (kk_Gbs hc I (by omega)).2 q⟩
theorem kk_Gany (hc : kk_core b h dh) (ht : 0 ≤ t ∧ t < 13) (I : kk_G28 t h G) {c : Int} (q : kk_any G c) : kk_any h c := by
  obtain ⟨s, hs, q⟩ := q
  by_cases e : s = 28
  · rw [e] at q; exact ⟨t, by omega, (kk_Gb8 I).1 q⟩
  · exact ⟨s, hs, (kk_Gbs hc I (by omega)).1 q⟩
theorem kk_G0 (hc : kk_core b h dh) (ht : 0 ≤ t ∧ t < 13) (I : kk_G28 t h G) {lo lim : Int} : kk_RI t m lo lo lim G G ∧ kk_cnt (kk_any G) ≤ 1200 := by
  have B := hc.1.2.1
  have e55 : ∀ k, G (55, 0, 0) k = h (55, 0, 0) k := fun k => I.1 _ _ (by decide) (kk_sx6 (by omega)) (by decide) (by simp)
  have e18 : G (40, 0, 0) 18 = h (40, 0, 0) 18 := I.1 _ _ (by decide) (kk_sx6 (by omega)) (by decide) (by simp)
  have mw : ∀ s n, 0 ≤ s → s < 29 → 1 ≤ n → n < 37 → kk_MW G (36 * s + n - 1) := fun s n s0 s1 n0 n1 => by
    by_cases e : s = 28
    · rw [e]; exact kk_MWcp (I.2 n n0 n1) (kk_MWC hc (by omega) ⟨n0, n1⟩)
    · exact kk_MWcp (kk_Gms hc I (by omega) ⟨n0, n1⟩) (kk_MWC hc ⟨s0, s1⟩ ⟨n0, n1⟩)
  refine ⟨kk_RI0 (fun c c0 c1 q => ?_) (by rw [e18]; exact B.2.1) (fun n p n2 p2 hn hp hn2 hp2 z e => ?_) (fun s s0 s1 n p n0 n1 p0 p1 z => ?_) (fun s s0 s1 n p n0 n1 p0 p1 => ((mw s n s0 s1 n0 n1).2.2.2 p p0 p1).1), kk_anyle hc (fun s c s0 s1 _ q => ?_)⟩
  · rw [e55]; exact B.1 c c0 c1 (kk_Gany hc ht I q)
  · rw [kk_G43 I (by omega) hn.2 hp.2] at z e
    rw [kk_G43 I (by omega) hn2.2 hp2.2] at e
    exact kk_DmW hc ht n p n2 p2 hn hp hn2 hp2 z e
  · exact Classical.byContradiction (fun q => z (((mw s n s0 s1 n0 n1).2.2.2 p p0 p1).2 q))
  · by_cases e : s = 28
    · rw [e] at q; exact ⟨t, by omega, (kk_Gb8 I).1 q⟩
    · exact ⟨s, by omega, (kk_Gbs hc I (by omega)).1 q⟩
theorem kk_G54 (hc : kk_core b h dh) (ht : 0 ≤ t ∧ t < 13) (hm : 1 ≤ m ∧ m < 37) (I : kk_G28 t h G) : ∀ p i, 0 ≤ p → p < 36 → 0 ≤ i → i < 60 → 0 < G (43, 0, 0) (36 * (36 * t + m - 1) + p) → -128 ≤ G (54, 0, 0) (60 * G (43, 0, 0) (36 * (36 * t + m - 1) + p) + i) ∧ G (54, 0, 0) (60 * G (43, 0, 0) (36 * (36 * t + m - 1) + p) + i) < 128 := fun p i p0 p1 i0 i1 z => by
  rw [kk_G43 I (by omega) hm.2 p1] at z ⊢
  have w := kk_pcb hc.1 ht hm ⟨p0, p1⟩ (by omega)
  rw [I.1 (54, 0, 0) _ (by decide) (kk_sx6 (by omega)) (by decide) (by simp), ← ((kk_NRC hc (t := t) (n := m) ⟨ht.1, by omega⟩ hm).2.2.2.2.2.2.2 p p0 p1).2 w.1 i i0 i1]
  exact hc.1.1.2.2.2.2.2.2.2.2.1.2 _ (by omega) (by omega)
/-- put back where it was refused -/
theorem kk_rsN {gm g3 : mm_Id → Int → Int} (hc : kk_core b h dh) (ht : 0 ≤ t ∧ t < 5) (hno : 0 < kk_no h t) (I : kk_G28 t h G) (ec : ∀ (x : mm_Id) j, x.1 < 40 → G x j = h x j) (fr1 : ∀ (x : mm_Id) j, ¬ kk_sx t x j → x.1 ≠ 54 → x.1 ≠ 55 → x.1 ≠ 56 → ¬ (x = (40, 0, 0) ∧ (j = 0 ∨ j = 18)) → gm x j = G x j)
    (n54 : ∀ c k, kk_any G c → 1 ≤ c → c ≤ 3000 → 0 ≤ k → k < 60 → gm (54, 0, 0) (60 * c + k) = G (54, 0, 0) (60 * c + k)) (b1 : ∀ c, 1 ≤ c → c ≤ 3000 → kk_any G c → gm (55, 0, 0) c ≠ 0) (b2 : 0 ≤ gm (40, 0, 0) 18 ∧ gm (40, 0, 0) 18 ≤ 3000)
    (mt : ∀ n, 1 ≤ n → n < 37 → kk_ms g3 (36 * t + n - 1) gm (36 * 28 + n - 1)) (fr2 : ∀ x j, ¬ kk_sx t x j → g3 x j = gm x j) : kk_core b g3 dh := by
  have w28 : ∀ n, 1 ≤ n → n < 37 → kk_mw G (36 * 28 + n - 1) := fun n n0 n1 => (kk_MWcp (I.2 n n0 n1) (kk_MWC hc (s := t) (n := n) (by omega) ⟨n0, n1⟩)).1
  have c1 : kk_core b G dh := by
    refine kk_rst hc ht hno (fun n n0 n1 => kk_Gms hc I (by omega) ⟨n0, n1⟩) I.2 (fun x j _ q2 q3 q4 => ?_)
    by_cases q : x.1 < 40
    · exact ec x j q
    · exact I.1 x j (by omega) q2 q3 q4
  obtain ⟨G', e⟩ : ∃ q : mm_Id → Int → Int, q = fun x j => if x.1 = 54 ∨ x.1 = 55 ∨ x.1 = 56 ∨ (x = (40, 0, 0) ∧ (j = 0 ∨ j = 18)) then gm x j else G x j := ⟨_, rfl⟩
  have y1 : ∀ (x : mm_Id) j, x.1 = 54 ∨ x.1 = 55 ∨ x.1 = 56 ∨ (x = (40, 0, 0) ∧ (j = 0 ∨ j = 18)) → G' x j = gm x j := fun x j q => by rw [e]; exact if_pos q
  have y0 : ∀ (x : mm_Id) j, ¬ (x.1 = 54 ∨ x.1 = 55 ∨ x.1 = 56 ∨ (x = (40, 0, 0) ∧ (j = 0 ∨ j = 18))) → G' x j = G x j := fun x j q => by rw [e]; exact if_neg q
  have c2 : kk_core b G' dh := by
    refine kk_coreN c1 (fun x j q1 q2 q3 q4 => y0 x j (fun v => v.elim q1 (fun v => v.elim q2 (fun v => v.elim q3 q4)))) (fun c k q c0 c1 k0 k1 => ?_) (fun c c0 c1 q => ?_) ?_
    · rw [y1 _ _ (Or.inl rfl)]; exact n54 c k q c0 c1 k0 k1
    · rw [y1 _ _ (Or.inr (Or.inl rfl))]; exact b1 c c0 c1 q
    · rw [y1 _ _ (Or.inr (Or.inr (Or.inr ⟨rfl, Or.inr rfl⟩)))]; exact b2
  have gsx : ∀ s x j, s ≠ t → kk_sx s x j → gm x j = G x j := fun s x j q hx => by
    have r := kk_sxr hx
    exact fr1 x j (kk_sxd q hx) (by omega) (by omega) (by omega) (by rintro ⟨v, _⟩; rw [v] at r; simp at r)
  have m1 : ∀ n, 1 ≤ n → n < 37 → kk_ms gm (36 * 28 + n - 1) G (36 * 28 + n - 1) := fun n n0 n1 => kk_msr (w28 n n0 n1).2.1.2 (w28 n n0 n1).2.2.2 (fun x j hx => gsx 28 x j (by omega) ⟨n, n0, n1, hx⟩)
  have m2 : ∀ n, 1 ≤ n → n < 37 → kk_ms h (36 * t + n - 1) G' (36 * t + n - 1) := fun n n0 n1 => by
    have w := kk_MWC c2 (s := t) (n := n) (by omega) ⟨n0, n1⟩
    refine kk_msr w.1.2.1.2 w.1.2.2.2 (fun x j hx => ?_)
    have r := kk_mxr hx
    rw [y0 x j (by rintro (v | v | v | ⟨v, _⟩) <;> first | omega | (rw [v] at r; simp at r))]
    exact (I.1 x j (by omega) (kk_sxd (by omega) ⟨n, n0, n1, hx⟩) (by omega) (by rintro ⟨v, _⟩; rw [v] at r; simp at r)).symm
  refine kk_rst c2 ht ?_ (fun n n0 n1 => kk_mst (mt n n0 n1) (kk_mst (m1 n n0 n1) (kk_mst (I.2 n n0 n1) (m2 n n0 n1)))) (fun n n0 n1 => ?_) (fun x j q1 q2 q3 q4 => ?_)
  · have no : kk_no G' t = kk_no h t := by
      unfold kk_no
      rw [y0 (31, t, 0) 3 (by simp), y0 (33, t - 5, 0) 1 (by simp), ec _ _ (by simp), ec _ _ (by simp)]
    rw [no]; exact hno
  · refine kk_mst (kk_msr (h := gm) ?_ ?_ (fun x j hx => fr2 x j (kk_sxd (by omega) ⟨n, n0, n1, hx⟩))) (kk_mst (m1 n n0 n1) (kk_mst (I.2 n n0 n1) (m2 n n0 n1)))
    · rw [(m1 n n0 n1).1 44 kk_f44]; exact (w28 n n0 n1).2.1.2
    · rw [(m1 n n0 n1).1 49 kk_f49]; exact (w28 n n0 n1).2.2.2
  · rw [fr2 x j q1]
    by_cases v : x.1 = 54 ∨ x.1 = 55 ∨ x.1 = 56 ∨ (x = (40, 0, 0) ∧ (j = 0 ∨ j = 18))
    · exact (y1 x j v).symm
    · rw [y0 x j v]
      exact fr1 x j q1 (fun w => v (Or.inl w)) (fun w => v (Or.inr (Or.inl w))) q3 (fun w => v (Or.inr (Or.inr (Or.inr w))))
/-- write: what holds after -/
theorem kk_wrW {a n lo p1 sz lim : Int} {B : Int → Int} {c g hz c2 g2 gm Z : mm_Id → Int → Int} (hc : kk_core b h dh) (ht : 0 ≤ t ∧ t < 5) (hno : 0 < kk_no h t) (hm : 1 ≤ m ∧ m < 37) (hk : h (24, t, m) 0 = 1) (ha : 0 ≤ a ∧ a + n ≤ 2160) (hn : 1 ≤ n ∧ n ≤ 8) (hlo : lo = a / 60) (hp1 : p1 = (a + n - 1) / 60) (hl : lim = 2160)
    (Ic : kk_RN t m (fun p => lo ≤ p ∧ p < p1 + 1) h c) (Pc : kk_PW 16 (c (27, t, m)) (fun p => lo ≤ p ∧ p < p1 + 1) a B n c g) (IG : kk_G28 t h G) (Ir : kk_RI t m lo (p1 + 1) lim G c2) (Pm : kk_PW 54 (fun p => c2 (43, 0, 0) (36 * (36 * t + m - 1) + p)) (fun p => lo ≤ p ∧ p < p1 + 1) a B n c2 g2) (hB : ∀ i, -128 ≤ B i ∧ B i < 128)
    (hsz : sz = if h (24, t, m) 1 < a + n then a + n else h (24, t, m) 1) (ehz : hz = mm_up g (24, t, m) 1 sz) (egm : ∀ (x : mm_Id) j, 40 ≤ x.1 → x.1 ≠ 56 → gm x j = mm_up g2 (42, 0, 0) (36 * t + m - 1) sz x j) (hZ : Z = mm_up (kk_mix hz gm) (31, t, 0) 6 1) (b3 : kk_cnt (kk_lb gm (-1)) ≤ 400) (b7 : kk_cnt (kk_bs gm t) ≤ h (59, 0, 0) t) : kk_W b Z dh ∧ kk_KP Z := by
  have hT := mm_T13 (s := t) ⟨ht.1, by omega⟩
  have W := hc.1.1.2.1 t m hT hm.1 hm.2
  have N := kk_NRC hc (t := t) (n := m) ⟨ht.1, by omega⟩ hm
  have w1 := W.2.2.2.2.2.2.2.2.2.2.1.1 hk
  have wz := W.2.2.2.2.2.2.2.2.2.2.2.2.2.2.2.2 hk
  have R0 := hc.1.1.2.2.2.2.2.2.2.1.1
  have t9 := hc.1.1.2.2.2.2.2.2.2.2.1
  obtain ⟨cR, cn, cS, cH, cI, cO, cB, cE, cF, cr⟩ := Ic
  obtain ⟨⟨I1, I2⟩, I3, I4, I5, I6, I7, I8, _⟩ := Ir
  obtain ⟨P1, P2, P3⟩ := Pc
  obtain ⟨Q1, Q2, Q3⟩ := Pm
  have zc : ∀ (x : mm_Id) j, x.1 < 40 → ¬ (x = (31, t, 0) ∧ j = 6) → Z x j = hz x j := fun x j q q2 => by rw [hZ, mm_upne' q2]; exact kk_mixC q
  have zm : ∀ (x : mm_Id) j, 40 ≤ x.1 → Z x j = gm x j := fun x j q => by rw [hZ, mm_upne' (by rintro ⟨v, _⟩; rw [v] at q; simp at q)]; exact kk_mixM q
  have z27 : ∀ p, Z (27, t, m) p = c (27, t, m) p := fun p => by rw [zc _ _ (by simp) (by simp), ehz, mm_upf (by decide)]; exact P1 _ _ (by simp)
  have z16 : ∀ j, Z (16, 0, 0) j = g (16, 0, 0) j := fun j => by rw [zc _ _ (by decide) (by simp), ehz, mm_upf (by decide)]
  have gmx : ∀ (x : mm_Id) j, 40 ≤ x.1 → x.1 ≠ 56 → ¬ (x = (42, 0, 0) ∧ j = 36 * t + m - 1) → Z x j = g2 x j := fun x j q q2 q3 => by rw [zm x j q, egm x j q q2, mm_upne' q3]
  have gc2 : ∀ (x : mm_Id) j, 40 ≤ x.1 → x.1 ≠ 56 → x ≠ (54, 0, 0) → ¬ (x = (42, 0, 0) ∧ j = 36 * t + m - 1) → Z x j = c2 x j := fun x j q q2 q3 q4 => by rw [gmx x j q q2 q4]; exact Q1 x j q3
  have z43 : ∀ j, Z (43, 0, 0) j = c2 (43, 0, 0) j := fun j => gc2 _ _ (by decide) (by decide) (by simp) (by simp)
  have z54 : ∀ j, Z (54, 0, 0) j = g2 (54, 0, 0) j := fun j => gmx _ _ (by decide) (by decide) (by simp)
  have g54 : ∀ j, G (54, 0, 0) j = h (54, 0, 0) j := fun j => IG.1 _ _ (by decide) (kk_sx6 (by omega)) (by decide) (by simp)
  have o43 : ∀ p, 0 ≤ p → p < 36 → G (43, 0, 0) (36 * (36 * t + m - 1) + p) = h (43, 0, 0) (36 * (36 * t + m - 1) + p) := fun p _ p1 => kk_G43 IG (by omega) hm.2 p1
  have z24 : ∀ j, Z (24, t, m) j = if j = 1 then sz else g (24, t, m) j := fun j => by
    rw [zc _ _ (by simp) (by simp), ehz]
    by_cases q : j = 1
    · rw [q, mm_ups, if_pos rfl]
    · rw [mm_upj q, if_neg q]
  have zsz : Z (24, t, m) 1 = sz := by rw [z24, if_pos rfl]
  have zr : ∀ p k, lo ≤ p → p < p1 + 1 → 0 ≤ k → k < 60 → c2 (54, 0, 0) (60 * c2 (43, 0, 0) (36 * (36 * t + m - 1) + p) + k) = c (16, 0, 0) (60 * c (27, t, m) p + k) := fun p k p0 p2 k0 k1 => by
    rw [I6 p k p0 p2 k0 k1, cB p k ⟨p0, p2⟩ k0 k1, o43 p (by omega) (by omega), g54]
    have r8 := N.2.2.2.2.2.2.2 p (by omega) (by omega)
    have br := kk_brC hc (s := t) ⟨ht.1, by omega⟩ m p hm.1 hm.2 (by omega) (by omega)
    by_cases z : h (27, t, m) p = 0
    · have z2 := r8.1.1 z
      rw [z, z2, if_neg (by omega)]
      rw [show 60 * 0 + k = k by omega]; exact (t9.1 k k0 k1).symm
    · have z2 : h (43, 0, 0) (36 * (36 * t + m - 1) + p) ≠ 0 := fun q => z (r8.1.2 q)
      rw [if_pos ⟨by omega, by omega⟩]
      exact (r8.2 z k k0 k1).symm
  refine kk_pgW (S := fun p => lo ≤ p ∧ p < p1 + 1) (D := fun _ => False) hc ht hno hm hk (fun x j q => ?_) (fun p p0 p2 ns => Or.inl ⟨id, ?_, ?_⟩) (fun p s => ?_) (fun p t2 n2 p2 s hT2 n0 n1 p0 p3 e => ?_) (fun p s n2 p2 sp s0 s1 n0 n1 p0 p3 e => ?_) (fun p q s s2 e => ?_) (fun p q s s2 e => ?_) (fun r k k0 k1 w => ?_) (fun r k k0 k1 w => ?_) (fun p k s k0 k1 => ?_) (fun n n0 n1 => ?_) ⟨?_, ?_, ?_⟩ (fun i i0 i1 => ?_) ?_ ?_ (fun j j0 j1 => ?_) (fun v v0 v1 q => ?_) ?_ ?_ ?_ (by rw [hZ, mm_ups])
  · by_cases q0 : x.1 < 40
    · rw [zc x j q0 (fun v => q (Or.inr (Or.inr (Or.inr (Or.inr (Or.inr (Or.inr (Or.inr (Or.inr (Or.inr (Or.inr (Or.inr (Or.inr v))))))))))))), ehz, mm_upne' (fun v => q (Or.inr (Or.inl ⟨v.1, Or.inl v.2⟩))), P1 x j (fun v => q (Or.inr (Or.inr (Or.inr (Or.inr (Or.inr (Or.inr (Or.inr (Or.inl (by rw [v])))))))))) ]
      exact cF x j (fun v => q (Or.inr (Or.inr (Or.inr (Or.inr (Or.inr (Or.inl v))))))) (fun v => q (Or.inr (Or.inr (Or.inr (Or.inr (Or.inr (Or.inr (Or.inl v)))))))) (fun v => q (Or.inr (Or.inr (Or.inr (Or.inr (Or.inr (Or.inr (Or.inr (Or.inl (by rw [v])))))))))) (fun v => q (Or.inl v)) (fun v => q (Or.inr (Or.inl ⟨v.1, Or.inr v.2⟩)))
    · have n56 : x.1 ≠ 56 := fun v => q (Or.inr (Or.inr (Or.inr (Or.inr (Or.inr (Or.inr (Or.inr (Or.inr (Or.inr (Or.inr (Or.inr (Or.inl v))))))))))))
      have n54 : x.1 ≠ 54 := fun v => q (Or.inr (Or.inr (Or.inr (Or.inr (Or.inr (Or.inr (Or.inr (Or.inr (Or.inl v)))))))))
      have n55 : x.1 ≠ 55 := fun v => q (Or.inr (Or.inr (Or.inr (Or.inr (Or.inr (Or.inr (Or.inr (Or.inr (Or.inr (Or.inl v))))))))))
      have n40 : ¬ (x = (40, 0, 0) ∧ (j = 0 ∨ j = 18)) := fun v => q (Or.inr (Or.inr (Or.inr (Or.inr (Or.inr (Or.inr (Or.inr (Or.inr (Or.inr (Or.inr (Or.inl v)))))))))))
      rw [gc2 x j (by omega) n56 (fun v => n54 (by rw [v])) (fun v => q (Or.inr (Or.inr (Or.inl v)))), I8 x j (fun v => n55 (by rw [v])) (fun v => n40 ⟨v.1, Or.inr v.2⟩) (fun v => n54 (by rw [v])) (fun v => q (Or.inr (Or.inr (Or.inr (Or.inl ⟨v.1, by have := v.2; omega⟩)))))]
      exact IG.1 x j (by omega) (fun v => q (Or.inr (Or.inr (Or.inr (Or.inr (Or.inl v)))))) n56 (fun v => n40 ⟨v.1, Or.inl v.2⟩)
  · rw [z27]; exact cO p p0 p2 ns
  · rw [z43, ← o43 p p0 p2]
    exact I8 _ _ (by simp) (by simp) (by simp) (fun v => ns (by have := v.2; omega))
  · rw [z27, z43]
    exact ⟨(cS p s).1, (cS p s).2, I3 p s.1 s.2⟩
  · rw [z27] at e
    have := cH p t2 n2 p2 s hT2 n0 n1 p0 p3 e
    exact ⟨this.1, this.2.1, Or.inl this.2.2⟩
  · rw [z43, ← kk_G43 IG s1 n1 p3] at e
    have := I4 p s n2 p2 sp.1 sp.2 s0 (by omega) n0 n1 p0 p3 e
    exact ⟨this.1, this.2.1, Or.inl this.2.2⟩
  · rw [z27, z27] at e; exact cI p q s s2 e
  · rw [z43, z43] at e; exact I5 p q s.1 s.2 s2.1 s2.2 e
  · rw [z16, P3 r k k0 k1 (fun p s => by rw [← z27]; exact w p s)]
    exact cE r k k0 k1 (fun p s => by rw [← z27]; exact w p s)
  · rw [z54, Q3 r k k0 k1 (fun p s => by show r ≠ c2 (43, 0, 0) (36 * (36 * t + m - 1) + p); rw [← z43]; exact w p s), ← g54]
    exact I7 r k k0 k1 (fun p s s2 => by rw [← z43]; exact w p ⟨s, s2⟩)
  · rw [z16, z54, z27, z43, P2 p k s k0 k1]
    have := Q2 p k s k0 k1
    rw [show (fun p => c2 (43, 0, 0) (36 * (36 * t + m - 1) + p)) p = c2 (43, 0, 0) (36 * (36 * t + m - 1) + p) from rfl] at this
    rw [this, zr p k s.1 s.2 k0 k1]
  · refine kk_mst (kk_msr (h := G) ?_ ?_ (fun x j hx => ?_)) (IG.2 n n0 n1)
    · rw [(IG.2 n n0 n1).1 44 kk_f44]; exact (kk_MWC hc (s := t) (n := n) (by omega) ⟨n0, n1⟩).1.2.1.2
    · rw [(IG.2 n n0 n1).1 49 kk_f49]; exact (kk_MWC hc (s := t) (n := n) (by omega) ⟨n0, n1⟩).1.2.2.2
    · have r := kk_mxr hx
      have nt : ¬ kk_sx t x j := kk_sxd (s := 28) (by omega) ⟨n, n0, n1, hx⟩
      rw [gc2 x j (by omega) (by omega) (by rintro v; rw [v] at r; simp at r) (fun v => nt ⟨m, hm.1, hm.2, Or.inl ⟨by rw [v.1]; simp [kk_mf], v.2⟩⟩)]
      exact I8 x j (by rintro v; rw [v] at r; simp at r) (by rintro ⟨v, _⟩; rw [v] at r; simp at r) (by rintro v; rw [v] at r; simp at r) (fun v => nt ⟨m, hm.1, hm.2, Or.inr (Or.inl ⟨by rw [v.1], by have := v.2; omega⟩)⟩)
  · rw [zsz, zm _ _ (by decide), egm _ _ (by decide) (by decide), mm_ups]
  · rw [zsz, hsz]; split <;> omega
  · rw [zsz, hsz]; split <;> omega
  · rw [zsz] at i0
    have i2 : a + n ≤ i ∧ h (24, t, m) 1 ≤ i := by rw [hsz] at i0; split at i0 <;> omega
    rw [z16, z27]
    by_cases s : lo ≤ i / 60 ∧ i / 60 < p1 + 1
    · rw [P2 (i / 60) (i % 60) s (by omega) (by omega), if_neg (by omega), cB (i / 60) (i % 60) s (by omega) (by omega)]
      exact wz i i2.2 i1
    · have q := cO (i / 60) (by omega) (by omega) s
      have nr : ∀ p, lo ≤ p ∧ p < p1 + 1 → c (27, t, m) (i / 60) ≠ c (27, t, m) p := fun p sp e => by
        rw [q] at e
        exact s (cH p t m (i / 60) sp hT hm.1 hm.2 (by omega) (by omega) e).2.2
      rw [P3 _ (i % 60) (by omega) (by omega) nr, cE _ (i % 60) (by omega) (by omega) nr, q]
      exact wz i i2.2 i1
  · rw [z24, if_neg (by decide), P1 _ _ (by simp), cn]
    exact kk_nzc (fun p _ _ => (z27 p).symm)
  · have k1 : kk_R hz := by
      rw [ehz]
      exact kk_Rcong (fun u n p => by rw [mm_upf (by decide)]; exact P1 _ _ (by simp)) (by rw [mm_upf (by decide)]; exact P1 _ _ (by simp)) (by rw [mm_upf (by decide)]; exact P1 _ _ (by simp)) (fun _ => by rw [mm_upf (by decide)]; exact P1 _ _ (by simp)) (fun _ => by rw [mm_upf (by decide)]; exact P1 _ _ (by simp)) (fun _ => by rw [mm_upf (by decide)]; exact P1 _ _ (by simp)) cR
    exact kk_Rcong (fun u n p => zc _ _ (by simp) (by simp)) (zc _ _ (by simp) (by simp)) (zc _ _ (by simp) (by simp)) (fun _ => zc _ _ (by simp) (by simp)) (fun _ => zc _ _ (by simp) (by simp)) (fun _ => zc _ _ (by simp) (by simp)) k1
  · rw [z16]
    by_cases s : ∃ p, (lo ≤ p ∧ p < p1 + 1) ∧ j / 60 = c (27, t, m) p
    · obtain ⟨p, sp, e⟩ := s
      have := P2 p (j % 60) sp (by omega) (by omega)
      rw [← e, show 60 * (j / 60) + j % 60 = j by omega] at this
      rw [this]
      split
      · exact hB _
      · exact cr j j0 j1
    · have := P3 (j / 60) (j % 60) (by omega) (by omega) (fun p sp e => s ⟨p, sp, e⟩)
      rw [show 60 * (j / 60) + j % 60 = j by omega] at this
      rw [this]; exact cr j j0 j1
  · rw [gc2 _ _ (by decide) (by decide) (by simp) (by simp)]
    refine I1 v v0 v1 ?_
    obtain ⟨s, hs, n, p, hn, hp, k, e⟩ := q
    exact ⟨s, hs, n, p, hn, hp, by rw [← gc2 _ _ (by decide) (by decide) (by simp) (by simp)]; exact k, by rw [← z43]; exact e⟩
  · rw [gc2 _ _ (by decide) (by decide) (by simp) (by simp)]; exact I2
  · refine Int.le_trans (kk_cntle (fun v _ _ q => ?_)) b3
    obtain ⟨k, hk, z, w, n, p, hn, hp, k1, e⟩ := q
    exact ⟨k, hk, by rw [← zm _ _ (by decide)]; exact z, w, n, p, hn, hp, by rw [← zm _ _ (by decide)]; exact k1, by rw [← zm _ _ (by decide)]; exact e⟩
  · refine Int.le_trans (kk_cntle (fun v _ _ q => ?_)) b7
    obtain ⟨n, p, hn, hp, k1, e⟩ := q
    exact ⟨n, p, hn, hp, by rw [← zm _ _ (by decide)]; exact k1, by rw [← zm _ _ (by decide)]; exact e⟩
end

