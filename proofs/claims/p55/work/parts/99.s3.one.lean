/-! one tree changed, all together; lookups there where the cls has run already -/
theorem kk_nwcp {g h : mm_Id → Int → Int} {t n t1 n1 : Int} (c : kk_cpd g t n h t1 n1) (w : kk_nw h t1 n1) : kk_nw g t n := by
  obtain ⟨w1, w2, w3⟩ := w
  refine ⟨by rw [c.1.1 14 kk_F14]; exact w1, by rw [c.1.1 11 kk_F11]; exact w2, ?_⟩
  rw [c.2.1, w3]
  exact (kk_nzc (fun p p0 p1 => c.2.2 p p0 p1)).symm
theorem kk_nwcl {g : mm_Id → Int → Int} {t n : Int} (c : kk_cl g t n) : kk_nw g t n := by
  have w := kk_NWcl c
  exact ⟨w.2.2.2.2.2.1, w.2.2.2.1, w.2.2.2.2.2.2.1⟩
theorem kk_nwC {b : Int} {h : mm_Id → Int → Int} {dh : Int → Int} (hc : kk_core b h dh) {t n : Int} (ht : mm_isT t) (hn : 1 ≤ n ∧ n < 37) : kk_nw h t n := by
  have w := kk_NWC hc ht hn
  exact ⟨w.2.2.2.2.2.1, w.2.2.2.1, w.2.2.2.2.2.2.1⟩
theorem kk_mwC {b : Int} {h : mm_Id → Int → Int} {dh : Int → Int} (hc : kk_core b h dh) {s n : Int} (hs : 0 ≤ s ∧ s < 29) (hn : 1 ≤ n ∧ n < 37) : kk_mw h (36 * s + n - 1) := (kk_MWC hc hs hn).1
theorem kk_W1 {b b2 t u v : Int} {h F gm : mm_Id → Int → Int} {dh dh' : Int → Int} {D : Int → Prop} {C : Prop} (hc : kk_core b h dh) (ht : 0 ≤ t ∧ t < 13) (hu : 0 ≤ u ∧ u < 13) (hv : v = 28 ∨ ((0 ≤ v ∧ v < 13) ∧ 0 < h (57, 0, 0) v))
    (cl : ∀ n, 1 ≤ n → n < 37 → D n → kk_cl F t n) (cp : ∀ n, 1 ≤ n → n < 37 → ¬ D n → kk_cpd F t n h u n) (hD : (∀ n, 1 ≤ n → n < 37 → D n) ∨ ∀ n, 1 ≤ n → n < 37 → D n → h (24, u, n) 0 = 1 ∧ h (24, u, n) 5 = 0) (kc : C → ∀ n, 1 ≤ n → n < 37 → kk_cl F (13 + t) n)
    (co : ∀ (f : Nat) s n j, 24 ≤ f → f ≤ 30 → s ≠ t → ¬ (C ∧ s = 13 + t) → F (f, s, n) j = h (f, s, n) j) (c0 : ∀ s p, F (27, s, 0) p = h (27, s, 0) p)
    (mt : ∀ n, 1 ≤ n → n < 37 → kk_ms gm (36 * t + n - 1) h (36 * u + n - 1)) (m28 : ∀ n, 1 ≤ n → n < 37 → kk_ms gm (36 * 28 + n - 1) h (36 * v + n - 1)) (mo : ∀ s x j, s ≠ t → s ≠ 28 → kk_sx s x j → gm x j = h x j)
    (mz : ∀ n, 1 ≤ n → n < 37 → D n → kk_mz F (36 * t + n - 1)) (mE : ∀ s n x j, ¬ (s = t ∧ D n) → 1 ≤ n → n < 37 → kk_mx (36 * s + n - 1) x j → F x j = gm x j) (m53 : ∀ j, F (53, 0, 0) j = gm (53, 0, 0) j)
    (R : kk_R F) (e16 : ∀ j, F (16, 0, 0) j = h (16, 0, 0) j) (e54 : ∀ j, F (54, 0, 0) j = gm (54, 0, 0) j) (f54 : ∀ j, gm (54, 0, 0) j = h (54, 0, 0) j) (e22 : ∀ s, F (22, s, 0) 2 = h (22, s, 0) 2) (e55 : ∀ c, F (55, 0, 0) c = h (55, 0, 0) c) (e18 : F (40, 0, 0) 18 = h (40, 0, 0) 18)
    (live : 0 < F (57, 0, 0) t → 0 < h (57, 0, 0) u) (e57 : ∀ k, k ≠ t → 0 ≤ k → k < 26 → F (57, 0, 0) k = h (57, 0, 0) k ∧ F (59, 0, 0) k = h (59, 0, 0) k) (q59 : t < 5 → 0 < kk_no F t → (∀ c, kk_bs F t c → kk_bs h u c) → kk_cnt (kk_bs F t) ≤ F (59, 0, 0) t)
    (eno : ∀ s, 0 ≤ s → s < 5 → s ≠ t → kk_no F s = kk_no h s) (KD : kk_KD b2 F dh') (kg : ∀ x j, kk_kgx x j → F x j = h x j) : kk_W b2 F dh' := by
  let τ : Int → Int := fun s => if s = t then u else s
  let σ : Int → Int := fun s => if s = t then u else if s = 28 then v else s
  have τ1 : τ t = u := if_pos rfl
  have τ0 : ∀ s, s ≠ t → τ s = s := fun s q => if_neg q
  have σ1 : σ t = u := if_pos rfl
  have σ2 : σ 28 = v := (if_neg (by omega)).trans (if_pos rfl)
  have σ0 : ∀ s, s ≠ t → s ≠ 28 → σ s = s := fun s q q2 => (if_neg q).trans (if_neg q2)
  have MW := hc.1.1.2.2.2.2.1
  have v29 : 0 ≤ v ∧ v < 29 := by omega
  have hσ : ∀ s, 0 ≤ s → s < 29 → 0 ≤ σ s ∧ σ s < 29 := fun s a1 a2 => by
    by_cases q : s = t
    · rw [q, σ1]; omega
    · by_cases q2 : s = 28
      · rw [q2, σ2]; exact v29
      · rw [σ0 s q q2]; omega
  have hτ : ∀ s, mm_isT s → mm_isT (τ s) := fun s hs => by
    by_cases q : s = t
    · rw [q, τ1]; exact mm_T13 hu
    · rw [τ0 s q]; exact hs
  have n28 : ∀ s, mm_isT s → s ≠ 28 := fun s hs => by unfold mm_isT at hs; omega
  have hστ : ∀ s, mm_isT s → σ s = τ s := fun s hs => by
    by_cases q : s = t
    · rw [q, σ1, τ1]
    · rw [σ0 s q (n28 s hs), τ0 s q]
  have ms : ∀ s n, 0 ≤ s → s < 29 → 1 ≤ n → n < 37 → kk_ms gm (36 * s + n - 1) h (36 * σ s + n - 1) := fun s n s0 s1 n0 n1 => by
    by_cases q : s = t
    · rw [q, σ1]; exact mt n n0 n1
    · by_cases q2 : s = 28
      · rw [q2, σ2]; exact m28 n n0 n1
      · rw [σ0 s q q2]
        have w := (MW s n s0 s1 n0 n1).1
        exact kk_msr w.2.1.2 w.2.2.2 (fun x j hx => mo s x j q q2 ⟨n, n0, n1, hx⟩)
  have cps : ∀ s n, s ≠ t → ¬ (C ∧ s = 13 + t) → kk_cpd F s n h s n := fun s n q q2 => kk_cpdr (fun f j f0 f1 => co f s n j f0 f1 q q2)
  have K0 := kk_K0g (F := F) (gm := gm) (τ := τ) (σ := σ) (D := fun s n => (s = t ∧ D n) ∨ (C ∧ s = 13 + t)) (E := fun s n => s = t ∧ D n) (kk_K0o hc.1.1) hτ hσ hστ (fun s n s0 s1 n0 n1 => by
      by_cases q : s = t
      · rw [q, τ1]; exact hc.1.1.1 u n hu.1 hu.2 n0 n1
      · rw [τ0 s q]; exact hc.1.1.1 s n s0 s1 n0 n1)
    (fun s n _ n0 n1 d => by
      rcases d with ⟨q, d⟩ | ⟨q, q2⟩
      · rw [q]; exact cl n n0 n1 d
      · rw [q2]; exact kc q n n0 n1)
    (fun s n _ n0 n1 d => by
      by_cases q : s = t
      · rw [q, τ1]; exact cp n n0 n1 (fun w => d (Or.inl ⟨q, w⟩))
      · rw [τ0 s q]; exact cps s n q (fun w => d (Or.inr w)))
    (fun s _ => by
      by_cases q : s = t
      · rcases hD with w | w
        · exact Or.inl (fun n n0 n1 => Or.inl ⟨q, w n n0 n1⟩)
        · refine Or.inr (fun n n0 n1 d => ?_)
          rcases d with d | d
          · rw [q, τ1]; exact w n n0 n1 d.2
          · omega
      · by_cases q2 : C ∧ s = 13 + t
        · exact Or.inl (fun n _ _ => Or.inr q2)
        · refine Or.inr (fun n n0 n1 d => ?_)
          rcases d with d | d
          · exact absurd d.1 q
          · exact absurd d q2)
    ms (fun s n _ _ n0 n1 d => by rw [d.1]; exact mz n n0 n1 d.2) (fun s n x j _ _ n0 n1 d hx => mE s n x j d n0 n1 hx) m53 (fun s n _ _ _ d => Or.inl d) (fun s n s0 s1 _ _ d => by
      rcases d with d | d
      · exact d
      · omega) e16 e54 f54 (fun s _ => e22 s) (fun s p _ _ _ => c0 s p)
  have KT : kk_KT F := by
    refine kk_K0i K0.1 R (fun s hs => ?_)
    have sT : mm_isT s := by unfold mm_isT; omega
    have q : s ≠ t := by omega
    have q2 : ¬ (C ∧ s = 13 + t) := fun w => by omega
    refine kk_SRcp (fun n n0 n1 => cps s n q q2) (fun n n0 n1 => ?_) (fun n n0 n1 => hc.1.1.2.1 s n sT n0 n1) (fun _ _ _ _ _ _ _ _ _ _ => e16 _) (fun _ _ _ _ _ _ _ _ _ _ => by rw [e54, f54]) (hc.1.1.2.2.2.1 s hs)
    have w := (MW s n (by omega) (by omega) n0 n1).1
    exact kk_msr w.2.1.2 w.2.2.2 (fun x j hx => by rw [mE s n x j (fun d => q d.1) n0 n1 hx]; exact mo s x j q (by omega) ⟨n, n0, n1, hx⟩)
  have N := kk_NC hc
  refine ⟨KT, kk_KB1 hc.1.2.1 hσ K0.2 e55 e18 (fun k k0 k1 z => ?_) (fun s s0 s1 => σ0 s (by omega) (by omega)) ?_ ?_ (fun i i0 i1 z => ?_) (fun i i0 i1 => e57 _ (by omega) (by omega) (by omega)), KD, kk_KGe kg hc.1.2.2.2⟩
  · by_cases q : k = t
    · rw [q] at z ⊢
      rw [σ1]
      exact ⟨hu, live z⟩
    · rw [(e57 k q k0 (by omega)).1] at z
      rw [σ0 k q (by omega)]
      exact ⟨⟨k0, k1⟩, z⟩
  · refine Int.le_trans (kk_cntle (fun c _ _ q => ?_)) hc.1.2.1.2.2.2.2.1
    rcases q with q | q
    · have w := K0.2 26 c (by omega) (by omega) q
      rw [σ0 26 (by omega) (by omega)] at w
      exact Or.inl w
    · have w := K0.2 27 c (by omega) (by omega) q
      rw [σ0 27 (by omega) (by omega)] at w
      exact Or.inr w
  · rw [σ2]; exact hv
  · by_cases q : i = t
    · rw [q] at z ⊢
      exact q59 (by omega) z (fun c w => by
        have y := K0.2 t c ht.1 (by omega) w
        rw [σ1] at y
        exact y)
    · rw [eno i i0 i1 q] at z
      rw [(e57 i q i0 (by omega)).2]
      refine Int.le_trans (kk_cntle (fun c _ _ w => ?_)) ((hc.1.2.1.2.2.2.2.2.2 i i0 i1).1 z)
      have y := K0.2 i c i0 (by omega) w
      rw [σ0 i q (by omega)] at y
      exact y
section
variable {h g : mm_Id → Int → Int} {dh dh0 : Int → Int} {nx ns b : Int} {Q : mm_V → mm_H → Prop}
theorem kk_e57t (hc : kk_core b h dh0) (e57 : ∀ k, 0 ≤ k → k < 13 → g (57, 0, 0) k = h (57, 0, 0) k) {x : Int} (hr : -2147483648 ≤ x ∧ x < 2147483648) : ∀ s, 0 ≤ s → s < 13 → ((0 < g (57, 0, 0) s ∧ g (57, 0, 0) s = if s < 5 then x else mm_w (-x)) ↔ kk_tl h x s) := fun s a c => by
  have h1 := kk_nmC hc s a c
  rw [e57 s a c, kk_NC hc s a c]
  unfold kk_tl
  by_cases d : s < 5
  · rw [if_pos d, if_pos d]
  · rw [if_neg d, if_neg d]
    by_cases y : x = -2147483648
    · have hw : mm_w (-x) = -2147483648 := by rw [y]; decide
      rw [hw]; omega
    · rw [mm_wi (by omega) (by omega)]
theorem m181h (hy : 10581 ≤ nx) (hc : kk_core b h dh0) (e57 : ∀ k, 0 ≤ k → k < 13 → g (57, 0, 0) k = h (57, 0, 0) k) {x s : Int} (hr : -2147483648 ≤ x ∧ x < 2147483648) (hs : kk_tp h x s) (K : Q (zI s) (mm_z g dh nx ns)) : mm_Cl 181 [zR (40, 0, 0), zI x] (mm_z g dh nx ns) Q := by
  have e := kk_e57t hc e57 hr
  exact m181 hy (fun s2 a c d f => (kk_tp1 ⟨⟨a, c⟩, (e s2 a c).1 d, fun j j1 j2 q => f j j1 j2 ((e j j1 (by omega)).2 q)⟩ hs) ▸ K) (fun z => absurd hs (fun w => z s w.1.1 w.1.2 ((e s w.1.1 w.1.2).2 w.2.1)))
theorem m182h (hy : 10581 ≤ nx) (hc : kk_core b h dh0) (e57 : ∀ k, 0 ≤ k → k < 13 → g (57, 0, 0) k = h (57, 0, 0) k) {x s : Int} (hr : -2147483648 ≤ x ∧ x < 2147483648) (hs : kk_tp h x s) (h5 : s < 5) (K : Q (zI s) (mm_z g dh nx ns)) : mm_Cl 182 [zR (40, 0, 0), zI x] (mm_z g dh nx ns) Q := by
  have p := ((kk_tl1 (kk_nmC hc) hs.1.1 h5).1 hs.2.1).1
  rw [r_182_e (hy := hy), if_pos p]
  refine m181h hy hc e57 hr hs ?_
  rw [mm_pI, r_182_0_5 (hy := hy), r_182_2 (hy := hy)]
  exact K
theorem m183h (hy : 10581 ≤ nx) (hc : kk_core b h dh0) (e57 : ∀ k, 0 ≤ k → k < 13 → g (57, 0, 0) k = h (57, 0, 0) k) {x s : Int} (hr : -2147483648 ≤ x ∧ x < 2147483648) (hs : kk_tp h (-x) s) (h5 : 5 ≤ s) (K : Q (zI s) (mm_z g dh nx ns)) : mm_Cl 183 [zR (40, 0, 0), zI x] (mm_z g dh nx ns) Q := by
  have p := ((kk_tl2 (kk_nmC hc) h5 hs.1.2).1 hs.2.1).1
  rw [r_183_e (hy := hy), if_pos (by omega), mm_wi (by omega) (by omega)]
  refine m181h hy hc e57 (by omega) hs ?_
  rw [mm_pI, r_183_0_6 (hy := hy), r_183_2 (hy := hy)]
  exact K
end

