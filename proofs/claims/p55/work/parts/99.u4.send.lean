/-! the calls of both: send -/
/-- datasets, snapshots and handles stay -/
theorem kk_KDe {b : Int} {h F : mm_Id → Int → Int} {dh : Int → Int} (hc : kk_core b h dh) (e1 : ∀ k, k = 10 ∨ k = 11 → F (1, 0, 0) k = h (1, 0, 0) k) (e40 : ∀ k, k = 24 ∨ k = 25 → F (40, 0, 0) k = h (40, 0, 0) k) (ec : ∀ (f : Nat) a k, 31 ≤ f → f ≤ 35 → F (f, a, 0) k = h (f, a, 0) k) (et : ∀ (f : Nat) a n k, 24 ≤ f → f ≤ 30 → 0 ≤ a → a < 18 → 1 ≤ n → F (f, a, n) k = h (f, a, n) k) (em : ∀ (f : Nat) k, 57 ≤ f → f ≤ 64 → F (f, 0, 0) k = h (f, 0, 0) k) : kk_KD b F dh := by
  have KD := hc.1.2.2.1
  have no : ∀ s, kk_no F s = kk_no h s := fun s => by unfold kk_no; rw [ec 31 s 3 (by decide) (by decide), ec 33 _ 1 (by decide) (by decide)]
  have D9 := KD.2.2.2.2.2.2.2.2.1 7 (by omega) (by omega)
  refine kk_KD1 (t := 12) KD (by omega) KD.1 ?_ ?_ (fun i j _ _ => ec 31 i j (by decide) (by decide)) (fun i j _ => ec 33 i j (by decide) (by decide)) (fun i u _ => ec 32 i u (by decide) (by decide)) (fun f k hf _ => em f k (by omega) (by omega)) (fun i u _ _ _ => em 61 _ (by omega) (by omega)) ?_ (fun w => by omega) (fun i i0 i1 => ?_) (fun _ => ?_) ?_ (fun s n s0 s1 _ n0 _ => et 24 s n 0 (by decide) (by decide) s0 (by omega) n0) (fun w n n0 n1 => ?_) (fun w => ?_) (fun i n i0 i1 z n0 n1 => ?_) (kk_d17c (t := -1) (P := fun _ => False) (kk_h17 hc) (fun _ _ _ q => absurd q id) (fun i i0 i1 _ => ⟨fun q => ?_, rfl, em 63 _ (by omega) (by omega), fun a _ _ => em 64 _ (by omega) (by omega)⟩) (fun f i j hf => ec f i j (by omega) (by omega)) (fun j => em 62 j (by omega) (by omega)) (fun s _ _ _ z => by rw [no]; exact z) (fun s n s0 s1 _ n0 _ z => by rw [et 24 s n 0 (by decide) (by decide) s0 (by omega) n0]; exact z)) ?_ ?_
  · rw [e1 10 (by omega), e40 24 (by omega)]
    exact ⟨KD.2.1.1, Int.le_refl _, KD.2.1.2.2⟩
  · rw [e1 11 (by omega), e40 25 (by omega)]
    exact ⟨KD.2.2.1.1, Int.le_refl _, KD.2.2.1.2.2⟩
  · rw [no, em 57 12 (by omega) (by omega), e1 11 (by omega)]
    have w := KD.2.2.2.2.2.1 12 (by omega) (by omega)
    exact ⟨kk_NC hc 12 (by omega) (by omega), w.1, fun w => by omega, fun _ => w.2⟩
  · rw [ec 31 i 6 (by decide) (by decide)]; exact KD.2.2.2.2.2.2.2.1 i i0 i1
  · rw [no, ec 33 _ 2 (by decide) (by decide), ec 33 _ 3 (by decide) (by decide), em 58 12 (by omega) (by omega), em 60 12 (by omega) (by omega)]
    exact D9
  · rw [em 60 12 (by omega) (by omega)]; exact KD.2.2.2.2.2.2.2.2.2.1 12 (by omega) (by omega)
  · rw [no] at w
    rw [et 24 12 n 0 (by decide) (by decide) (by omega) (by omega) n0]
    exact KD.2.2.2.2.2.2.2.2.2.2.1 12 (by omega) (by omega) w n n0 n1
  · rw [no] at w
    rw [et 24 12 1 0 (by decide) (by decide) (by omega) (by omega) (by omega)]
    exact KD.2.2.2.2.2.2.2.2.2.2.2.1 12 (by omega) (by omega) w
  · rw [ec 31 i 6 (by decide) (by decide)] at z
    exact kk_d15x KD i0 i1 z n0 n1 (fun f k f0 f1 => ⟨et f _ n k f0 f1 (by omega) (by omega) n0, et f i n k f0 f1 i0 (by omega) n0⟩)
  · unfold mm_isD at q; omega
  · intro a a0 a1
    rw [em 64 a (by omega) (by omega)]; exact kk_h18 hc a a0 a1
  · intro i n i0 i1 n0 n1 w w5
    rw [et 24 i n 0 (by decide) (by decide) i0 (by omega) n0] at w
    rw [et 24 i n 5 (by decide) (by decide) i0 (by omega) n0] at w5
    obtain ⟨j, hj, q1, q2⟩ := kk_h19 hc i n i0 i1 n0 n1 w w5
    exact ⟨j, hj, q1, by rw [ec 34 j 2 (by decide) (by decide)]; exact q2⟩
/-- a stream's tree, and the snapshot that it is of -/
theorem kk_SRs {b s t : Int} {h F : mm_Id → Int → Int} {dh : Int → Int} (hc : kk_core b h dh) (hs : 0 ≤ s ∧ s < 13) (ms : ∀ n, 1 ≤ n → n < 37 → kk_ms F (36 * t + n - 1) h (36 * s + n - 1)) (cl : ∀ n, 1 ≤ n → n < 37 → (h (24, s, n) 0 = 1 ∧ h (24, s, n) 5 = 0) → kk_cl F t n) (cp : ∀ n, 1 ≤ n → n < 37 → ¬ (h (24, s, n) 0 = 1 ∧ h (24, s, n) 5 = 0) → kk_cpd F t n h s n) (e16 : ∀ j, F (16, 0, 0) j = h (16, 0, 0) j) (e54 : ∀ j, F (54, 0, 0) j = h (54, 0, 0) j) : kk_SR F t := by
  intro n n0 n1
  have u := kk_unu hc (n := n) hs ⟨n0, n1⟩ ms
  have f := kk_nf hc (s := s) (n := n) (by omega) ⟨n0, n1⟩
  have e41 := (ms n n0 n1).1 41 kk_f41
  have ef : kk_ef F t n = kk_ec h s n := by rw [kk_efcp ms, kk_efu hc hs (fun _ _ _ => rfl)]
  have nn := kk_ecnn h s n
  have W := kk_NWC hc (mm_T13 hs) (n := n) ⟨n0, n1⟩
  have k0 := W.1
  unfold kk_ctn2
  rw [ef, e41, f.1]
  rw [ef, e41, f.1] at u
  refine ⟨fun q => ?_, fun q => ?_⟩
  · have d : ¬ (h (24, s, n) 0 = 1 ∧ h (24, s, n) 5 = 0) := fun w => by
      have y := u.2 w
      have := q.2 y.1
      omega
    exact kk_NRcp (cp n n0 n1 d) (ms n n0 n1) W (fun _ _ _ _ _ _ _ => e16 _) (fun _ _ _ _ _ _ _ => e54 _) (hc.1.1.1 s n hs.1 hs.2 n0 n1)
  · by_cases d : h (24, s, n) 0 = 1 ∧ h (24, s, n) 5 = 0
    · rw [(cl n n0 n1 d).1 0 kk_F0]; rfl
    · rw [(cp n n0 n1 d).1.1 0 kk_F0]
      by_cases z : h (24, s, n) 0 = 0
      · exact z
      · refine absurd ⟨by omega, fun w => ?_⟩ q
        by_cases y : 0 < kk_ec h s n
        · exact y
        · exact absurd (u.1 ⟨w, by omega⟩) d
/-- a stream made -/
theorem kk_sdC {b s u : Int} {h F : mm_Id → Int → Int} {dh : Int → Int} (hc : kk_core b h dh) (hs : 0 ≤ s ∧ s < 13) (hu : 0 ≤ u ∧ u < 13) (sno : 0 < kk_no h s) (uno : 0 < kk_no h u) (R : kk_R F) (m26 : ∀ n, 1 ≤ n → n < 37 → kk_ms F (36 * 26 + n - 1) h (36 * s + n - 1)) (m27 : ∀ n, 1 ≤ n → n < 37 → kk_ms F (36 * 27 + n - 1) h (36 * u + n - 1))
    (cl26 : ∀ n, 1 ≤ n → n < 37 → (h (24, s, n) 0 = 1 ∧ h (24, s, n) 5 = 0) → kk_cl F 26 n) (cp26 : ∀ n, 1 ≤ n → n < 37 → ¬ (h (24, s, n) 0 = 1 ∧ h (24, s, n) 5 = 0) → kk_cpd F 26 n h s n) (cl27 : ∀ n, 1 ≤ n → n < 37 → (h (24, u, n) 0 = 1 ∧ h (24, u, n) 5 = 0) → kk_cl F 27 n) (cp27 : ∀ n, 1 ≤ n → n < 37 → ¬ (h (24, u, n) 0 = 1 ∧ h (24, u, n) 5 = 0) → kk_cpd F 27 n h u n)
    (cF : ∀ (f : Nat) a c k, f < 40 → ¬ (f = 15 ∧ k = 7) → f ≠ 17 → f ≠ 18 → f ≠ 19 → ¬ (24 ≤ f ∧ f ≤ 30 ∧ (a = 26 ∨ a = 27) ∧ 1 ≤ c) → ¬ (f = 1 ∧ k = 9) → F (f, a, c) k = h (f, a, c) k) (mF : ∀ (x : mm_Id) k, 40 ≤ x.1 → ¬ kk_sx 26 x k → ¬ kk_sx 27 x k → ¬ (x = (40, 0, 0) ∧ (k = 0 ∨ k = 34)) → F x k = h x k) (s1 : F (1, 0, 0) 9 = 1 ∧ F (40, 0, 0) 34 = 1) : kk_core b F dh := by
  have FM : ∀ (f : Nat) a c k, 40 ≤ f → f < 41 ∨ 53 < f → ¬ (f = 40 ∧ (k = 0 ∨ k = 34)) → F (f, a, c) k = h (f, a, c) k := fun f a c k f0 f1 q => mF _ _ f0 (kk_sx6 f1) (kk_sx6 f1) (by rintro ⟨v, v2⟩; simp at v; omega)
  have fd : ∀ (f : Nat) a c k, 24 ≤ f → f ≤ 30 → ¬ ((a = 26 ∨ a = 27) ∧ 1 ≤ c) → F (f, a, c) k = h (f, a, c) k := fun f a c k f0 f1 q => cF f a c k (by omega) (by omega) (by omega) (by omega) (by omega) (by omega) (by omega)
  have mo : ∀ a x k, a ≠ 26 → a ≠ 27 → kk_sx a x k → F x k = h x k := fun a x k q q2 hx2 => by
    have r := kk_sxr hx2
    exact mF x k (by omega) (kk_sxd q hx2) (kk_sxd q2 hx2) (by rintro ⟨v, _⟩; rw [v] at r; simp at r)
  let σ : Int → Int := fun a => if a = 26 then s else if a = 27 then u else a
  have σ6 : σ 26 = s := if_pos rfl
  have σ7 : σ 27 = u := (if_neg (by decide)).trans (if_pos rfl)
  have σ0 : ∀ a, a ≠ 26 → a ≠ 27 → σ a = a := fun a q q2 => (if_neg q).trans (if_neg q2)
  have σr : ∀ a, 0 ≤ a → a < 29 → 0 ≤ σ a ∧ σ a < 29 := fun a a0 a1 => by
    by_cases q : a = 26
    · rw [q, σ6]; omega
    · by_cases q2 : a = 27
      · rw [q2, σ7]; omega
      · rw [σ0 a q q2]; omega
  have ms : ∀ a n, 0 ≤ a → a < 29 → 1 ≤ n → n < 37 → kk_ms F (36 * a + n - 1) h (36 * σ a + n - 1) := fun a n a0 a1 n0 n1 => by
    by_cases q : a = 26
    · rw [q, σ6]; exact m26 n n0 n1
    · by_cases q2 : a = 27
      · rw [q2, σ7]; exact m27 n n0 n1
      · rw [σ0 a q q2]
        have w := kk_mwC hc (s := a) (n := n) ⟨a0, a1⟩ ⟨n0, n1⟩
        exact kk_msr w.2.1.2 w.2.2.2 (fun x k hx2 => mo a x k q q2 ⟨n, n0, n1, hx2⟩)
  have e16 : ∀ j, F (16, 0, 0) j = h (16, 0, 0) j := fun j => cF 16 0 0 j (by decide) (by omega) (by decide) (by decide) (by decide) (by omega) (by omega)
  have e54 : ∀ j, F (54, 0, 0) j = h (54, 0, 0) j := fun j => FM 54 0 0 j (by omega) (by omega) (by omega)
  have K0 := kk_K0g (F := F) (gm := F) (τ := σ) (σ := σ) (D := fun a n => (a = 26 ∧ h (24, s, n) 0 = 1 ∧ h (24, s, n) 5 = 0) ∨ (a = 27 ∧ h (24, u, n) 0 = 1 ∧ h (24, u, n) 5 = 0)) (E := fun _ _ => False) (kk_K0o hc.1.1) (fun a ha => by
      by_cases q : a = 26
      · rw [q, σ6]; exact mm_T13 hs
      · by_cases q2 : a = 27
        · rw [q2, σ7]; exact mm_T13 hu
        · rw [σ0 a q q2]; exact ha) σr (fun _ _ => rfl) (fun a n a0 a1 n0 n1 => by
      rw [σ0 a (by omega) (by omega)]; exact hc.1.1.1 a n a0 a1 n0 n1)
    (fun a n _ n0 n1 d => by
      rcases d with ⟨q, d⟩ | ⟨q, d⟩
      · rw [q]; exact cl26 n n0 n1 d
      · rw [q]; exact cl27 n n0 n1 d)
    (fun a n _ n0 n1 d => by
      by_cases q : a = 26
      · rw [q, σ6]; exact cp26 n n0 n1 (fun w => d (Or.inl ⟨q, w⟩))
      · by_cases q2 : a = 27
        · rw [q2, σ7]; exact cp27 n n0 n1 (fun w => d (Or.inr ⟨q2, w⟩))
        · rw [σ0 a q q2]; exact kk_cpdr (fun f k f0 f1 => fd f a n k f0 f1 (by omega)))
    (fun a _ => by
      refine Or.inr (fun n n0 n1 d => ?_)
      rcases d with ⟨q, d⟩ | ⟨q, d⟩
      · rw [q, σ6]; exact d
      · rw [q, σ7]; exact d)
    ms (fun _ _ _ _ _ _ q => absurd q id) (fun _ _ _ _ _ _ _ _ _ _ => rfl) (fun _ => rfl) (fun _ _ _ _ _ q => absurd q id) (fun a n a0 a1 _ _ d => by omega) e16 (fun _ => rfl) e54 (fun a _ => cF 22 a 0 2 (by decide) (by omega) (by decide) (by decide) (by decide) (by omega) (by omega)) (fun a p _ _ _ => cF 27 a 0 p (by decide) (by omega) (by decide) (by decide) (by decide) (by omega) (by omega))
  have no : ∀ a, kk_no F a = kk_no h a := fun a => by
    unfold kk_no
    rw [cF 31 a 0 3 (by decide) (by omega) (by decide) (by decide) (by decide) (by omega) (by omega), cF 33 _ 0 1 (by decide) (by omega) (by decide) (by decide) (by decide) (by omega) (by omega)]
  have live : ∀ k c, 0 ≤ k → k < 29 → k ≠ 26 → k ≠ 27 → kk_bs F k c → kk_bs h k c := fun k c k0 k1 q q2 w => by
    have y := K0.2 k c k0 k1 w
    rw [σ0 k q q2] at y
    exact y
  refine ⟨⟨kk_K0i K0.1 R (fun a ha => ?_), kk_KB1 hc.1.2.1 σr K0.2 (fun c => FM 55 0 0 c (by omega) (by omega) (by omega)) (FM 40 0 0 18 (by omega) (by omega) (by omega)) (fun k k0 k1 z => ?_) (fun a a0 a1 => σ0 a (by omega) (by omega)) ?_ (Or.inl (σ0 28 (by omega) (by omega))) (fun i i0 i1 z => ?_) (fun i i0 i1 => ⟨FM 57 0 0 _ (by omega) (by omega) (by omega), FM 59 0 0 _ (by omega) (by omega) (by omega)⟩), kk_KDe hc (fun k hk => cF 1 0 0 k (by decide) (by omega) (by decide) (by decide) (by decide) (by omega) (by omega)) (fun k hk => FM 40 0 0 k (by omega) (by omega) (by omega)) (fun f a k f0 f1 => cF f a 0 k (by omega) (by omega) (by omega) (by omega) (by omega) (by omega) (by omega)) (fun f a n k f0 f1 a0 a1 _ => fd f a n k f0 f1 (by omega)) (fun f k f0 f1 => FM f 0 0 k (by omega) (by omega) (by omega)), ?_⟩, ?_⟩
  · rcases ha with q | q
    · rw [q]; exact kk_SRs hc hs m26 cl26 cp26 e16 e54
    · rw [q]; exact kk_SRs hc hu m27 cl27 cp27 e16 e54
  · rw [FM 57 0 0 k (by omega) (by omega) (by omega)] at z
    rw [σ0 k (by omega) (by omega)]
    exact ⟨⟨k0, k1⟩, z⟩
  · refine Int.le_trans (kk_cntle (fun c _ _ q => ?_)) hc.1.2.1.2.2.1
    rcases q with q | q
    · have y := K0.2 26 c (by omega) (by omega) q
      rw [σ6] at y
      exact kk_bsl hc hs sno y
    · have y := K0.2 27 c (by omega) (by omega) q
      rw [σ7] at y
      exact kk_bsl hc hu uno y
  · rw [no] at z
    rw [FM 59 0 0 i (by omega) (by omega) (by omega)]
    exact Int.le_trans (kk_cntle (fun c _ _ w => live i c i0 (by omega) (by omega) (by omega) w)) ((hc.1.2.1.2.2.2.2.2.2 i i0 i1).1 z)
  · obtain ⟨g1, g2, g3, g4, g5, g6, g7, g8⟩ := hc.1.2.2.2
    have C : ∀ (f : Nat) k, f < 15 → ¬ (f = 1 ∧ k = 9) → F (f, 0, 0) k = h (f, 0, 0) k := fun f k f0 q => cF f 0 0 k (by omega) (by omega) (by omega) (by omega) (by omega) (by omega) q
    have M : ∀ k, k ≠ 0 → k ≠ 34 → F (40, 0, 0) k = h (40, 0, 0) k := fun k q q2 => FM 40 0 0 k (by omega) (by omega) (by omega)
    unfold kk_KG
    rw [s1.1, s1.2, C 1 12 (by decide) (by decide), M 29 (by decide) (by decide), C 5 2 (by decide) (by decide), M 30 (by decide) (by decide), C 14 0 (by decide) (by decide), C 14 1 (by decide) (by decide), C 14 2 (by decide) (by decide), M 1 (by decide) (by decide), M 35 (by decide) (by decide), M 36 (by decide) (by decide)]
    refine ⟨g1, g2, fun i i0 i1 => ?_, ⟨rfl, Or.inr rfl⟩, g5, g6, g7, fun w => absurd w (by decide), fun _ => ?_⟩
    · rw [C 6 i (by decide) (by omega), FM 65 0 0 i (by omega) (by omega) (by omega)]
      exact g3 i i0 i1
    · have d := hc.1.2.2.1.2.2.2.2.2.2.2.2.2.2.2.1 u hu.1 hu.2 uno
      rw [(cp27 1 (by omega) (by omega) (by omega)).1.1 0 kk_F0]; exact d
  · refine kk_KPc (fun t n t0 t1 n0 n1 => hc.1.1.2.1 t n (mm_T18 ⟨by omega, t1⟩) n0 n1) (fun s n s0 s1 n0 n1 => kk_MWC hc ⟨s0, s1⟩ ⟨n0, n1⟩) ?_ (fun s _ _ => no s) (fun f k hf => ?_) (fun f t n k f0 f1 _ _ _ => fd f t n k f0 f1 (by omega)) (fun s x k s0 s1 hx2 => mo s x k (by omega) (by omega) hx2) (fun _ _ _ _ _ _ _ _ _ _ _ _ _ => e16 _) (fun _ _ _ _ _ _ _ _ _ _ _ _ _ => e54 _) hc.2
    · rw [cF 1 0 0 13 (by decide) (by omega) (by decide) (by decide) (by decide) (by omega) (by omega), FM 40 0 0 33 (by omega) (by omega) (by omega)]; exact kk_ac hc
    · unfold kk_q4 at hf; exact FM f 0 0 k (by omega) (by omega) (by omega)
/-- a tree aside becomes what is used of a snapshot's, here -/
theorem kk_s37 {b : Int} {h A : mm_Id → Int → Int} {dh dh0 : Int → Int} {nx ns : Int} {Q : mm_V → mm_H → Prop} (hx : 5275 ≤ nx) (hc : kk_core b h dh0) {t s : Int} (hT : mm_isT t) (hs : 0 ≤ s ∧ s < 13) (ne : s ≠ t) (R : kk_R A) (e : ∀ (f : Nat) n k, 24 ≤ f → f ≤ 30 → A (f, s, n) k = h (f, s, n) k) (nt : ∀ n, 1 ≤ n → n < 37 → kk_nw A t n) (ha : A (22, t, 0) 2 = kk_as t)
    (Y : mm_H → Prop) (run : ∀ B, mm_Cl 167 [zR (22, t, 0)] (mm_z B dh nx ns) (fun r h3 => r = zU ∧ Y h3) → Q zU (mm_z B dh nx ns))
    (K : ∀ C, kk_R C → (∀ n, 1 ≤ n → n < 37 → (h (24, s, n) 0 = 1 ∧ h (24, s, n) 5 = 0) → kk_cl C t n) → (∀ n, 1 ≤ n → n < 37 → ¬ (h (24, s, n) 0 = 1 ∧ h (24, s, n) 5 = 0) → kk_cpd C t n h s n) → (∀ (f : Nat) a c k, ¬ (f = 15 ∧ k = 7) → f ≠ 17 → f ≠ 18 → f ≠ 19 → ¬ (24 ≤ f ∧ f ≤ 30 ∧ a = t ∧ 1 ≤ c ∧ c < 37) → C (f, a, c) k = A (f, a, c) k) → Y (mm_z C dh nx ns)) :
    mm_Cl 165 [zR (22, t, 0), zR (22, s, 0)] (mm_z A dh nx ns) Q := by
  have sT := mm_T13 hs
  refine s165 hT sT hx ne R nt (fun n n0 n1 => kk_nwcp (kk_cpdr (fun f k f0 f1 => e f n k f0 f1)) (kk_nwC hc sT ⟨n0, n1⟩)) ha (fun B bR bC bF => run B ?_)
  have bC2 : ∀ n, 1 ≤ n → n < 37 → kk_cpd B t n h s n := fun n n0 n1 => kk_cpdt (bC n n0 n1) (kk_cpdr (fun f k f0 f1 => e f n k f0 f1))
  have bF2 : ∀ (f : Nat) a c k, ¬ (f = 15 ∧ k = 7) → f ≠ 17 → f ≠ 18 → f ≠ 19 → ¬ (24 ≤ f ∧ f ≤ 30 ∧ a = t ∧ 1 ≤ c ∧ c < 37) → B (f, a, c) k = A (f, a, c) k := fun f a c k q1 q2 q3 q4 q5 => bF _ _ (by unfold kk_ct; simp; omega) (by unfold kk_tr; simp; omega)
  have u : ∀ n, 1 ≤ n → n < 37 → ((B (24, t, n) 0 = 1 ∧ B (24, t, n) 5 = 0) ↔ (h (24, s, n) 0 = 1 ∧ h (24, s, n) 5 = 0)) := fun n n0 n1 => by
    rw [(bC2 n n0 n1).1.1 0 kk_F0, (bC2 n n0 n1).1.1 5 kk_F5]
  refine s167 hT hx bR (fun n n0 n1 => (kk_nwcp (bC2 n n0 n1) (kk_nwC hc sT ⟨n0, n1⟩)).2.2) (by rw [bF2 22 t 0 2 (by omega) (by decide) (by decide) (by decide) (by omega)]; exact ha) (fun C cR cC cF => ⟨rfl, K C cR (fun n n0 n1 q => cC n n0 n1 ((u n n0 n1).2 q)) (fun n n0 n1 q => kk_cpdt (kk_cpdr (fun f k f0 f1 => ?_)) (bC2 n n0 n1)) (fun f a c k q1 q2 q3 q4 q5 => ?_)⟩)
  · exact cF _ _ (by unfold kk_ct; simp; omega) (fun w => q ((u n n0 n1).1 w.2))
  · rw [cF _ _ (by unfold kk_ct; simp; omega) (fun w => by have := w.1; unfold kk_tr at this; simp at this; omega)]
    exact bF2 f a c k q1 q2 q3 q4 q5


