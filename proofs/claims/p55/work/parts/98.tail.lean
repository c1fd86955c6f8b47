/-! the end of a call that changes how a tree hangs together -/
theorem kk_mvT {b s : Int} {h hcc g gm : mm_Id → Int → Int} {dh : Int → Int} {nx ns : Int} {C : Int → Prop} {Q : mm_V → mm_H → Prop} (hy : 10581 ≤ nx) (hb : b + 1 ≤ 1000000) (hc : kk_core b h dh) (hs : 0 ≤ s ∧ s < 5) (hno : 0 < kk_no h s)
    (cF : ∀ (y : mm_Id) j, y.1 < 40 → ¬ (24 ≤ y.1 ∧ y.1 ≤ 30 ∧ y.2.1 = s ∧ 1 ≤ y.2.2 ∧ y.2.2 < 37) → ¬ kk_ct y j → hcc y j = h y j) (c40 : ∀ (y : mm_Id) j, 40 ≤ y.1 → hcc y j = h y j) (R : kk_R hcc) (NW : ∀ n, 1 ≤ n → n < 37 → kk_NW hcc s n) (TW : kk_TW hcc s)
    (cC : ∀ n, C n → 1 ≤ n → n < 37 → kk_cl hcc s n) (cO : ∀ n, ¬ C n → 1 ≤ n → n < 37 → (∀ j, j ≠ 4 → j ≠ 5 → j ≠ 6 → hcc (24, s, n) j = h (24, s, n) j) ∧ ∀ (f : Nat) j, 27 ≤ f → f ≤ 30 → hcc (f, s, n) j = h (f, s, n) j)
    (mF : ∀ (y : mm_Id) j, 40 ≤ y.1 → ¬ kk_sx s y j → ¬ (y = (40, 0, 0) ∧ j = 0) → gm y j = h y j) (mC : ∀ n, C n → 1 ≤ n → n < 37 → kk_mz gm (36 * s + n - 1)) (m53 : ∀ n, 1 ≤ n → n < 37 → gm (53, 0, 0) (36 * s + n - 1) = h (53, 0, 0) (36 * s + n - 1))
    (mO : ∀ n, ¬ C n → 1 ≤ n → n < 37 → (∀ f, kk_mf f → f ≠ 44 → gm (f, 0, 0) (36 * s + n - 1) = h (f, 0, 0) (36 * s + n - 1)) ∧ (∀ p, 0 ≤ p → p < 36 → gm (43, 0, 0) (36 * (36 * s + n - 1) + p) = h (43, 0, 0) (36 * (36 * s + n - 1) + p)) ∧ (∀ e, 0 ≤ e → e < 4 → gm (50, 0, 0) (4 * (36 * s + n - 1) + e) = h (50, 0, 0) (4 * (36 * s + n - 1) + e) ∧ gm (51, 0, 0) (4 * (36 * s + n - 1) + e) = h (51, 0, 0) (4 * (36 * s + n - 1) + e)) ∧ ∀ e, 0 ≤ e → e < 8 → gm (52, 0, 0) (8 * (36 * s + n - 1) + e) = h (52, 0, 0) (8 * (36 * s + n - 1) + e))
    (ent : ∀ n, ¬ C n → 1 ≤ n → n < 37 → hcc (24, s, n) 6 = gm (44, 0, 0) (36 * s + n - 1) ∧ ∀ e, 0 ≤ e → e < hcc (24, s, n) 6 → hcc (25, s, n) e = gm (45, 0, 0) (24 * (36 * s + n - 1) + e) ∧ hcc (26, s, n) e = gm (46, 0, 0) (24 * (36 * s + n - 1) + e))
    (root : hcc (24, s, 1) 0 = 2) (cH : ∀ x, C x → ∀ i, 0 ≤ i → i < 8 → ¬ (dh i = s ∧ h (34, i, 0) 2 = x)) (c5 : ∀ x, ¬ C x → 1 ≤ x → x < 37 → h (24, s, x) 0 = 1 → hcc (24, s, x) 5 = 0 → ∃ j, (0 ≤ j ∧ j < 8) ∧ dh j = s ∧ h (34, j, 0) 2 = x)
    (k1 : kk_acC s hcc g) (k2 : ∀ (x : mm_Id) j, 40 ≤ x.1 → g x j = hcc x j) (k3 : ∀ (x : mm_Id) j, 8 ≤ x.1 → x.1 ≤ 13 → g x j = h x j) (cG : ∀ (x : mm_Id) j, x.1 < 40 → gm x j = g x j)
    (K : ∀ g2, kk_core (b + 1) g2 dh → (∀ x j, kk_scr x j → g2 x j = h x j) → Q zU (mm_z g2 dh nx ns)) : mm_Cl 209 [zR (40, 0, 0)] (mm_z gm dh nx ns) Q := by
  obtain ⟨Z, hZ⟩ : ∃ Z, Z = mm_up (kk_mix hcc gm) (31, s, 0) 6 1 := ⟨_, rfl⟩
  have zC : ∀ (f : Nat) t2 m2 j, f < 40 → f ≠ 31 → Z (f, t2, m2) j = hcc (f, t2, m2) j := fun f t2 m2 j f0 f1 => by rw [hZ, mm_upf f1, kk_mixC f0]
  have nct : ∀ (y : mm_Id) j, y.1 ≠ 15 → y.1 ≠ 17 → y.1 ≠ 18 → y.1 ≠ 19 → ¬ kk_ct y j := fun y j a1 a2 a3 a4 => by
    unfold kk_ct
    rintro (⟨q, _⟩ | q | q | q)
    · exact a1 (by rw [q])
    · exact a2 (by rw [q])
    · exact a3 (by rw [q])
    · exact a4 (by rw [q])
  have nsx : ∀ (y : mm_Id) j, kk_sx s y j → 41 ≤ y.1 ∧ y.1 ≤ 53 := fun y j ⟨n, _, _, q⟩ => by
    unfold kk_mx kk_mf at q
    omega
  have eh : ∀ (y : mm_Id) j, y.1 = 34 ∨ y.1 = 35 ∨ y.1 = 62 ∨ y.1 = 63 ∨ y.1 = 64 → Z y j = h y j := fun y j v => by
    rw [hZ, mm_upne' (by rintro ⟨q, _⟩; rw [q] at v; simp at v)]
    by_cases u : y.1 < 40
    · rw [kk_mixC u]
      exact cF y j u (by omega) (nct y j (by omega) (by omega) (by omega) (by omega))
    · rw [kk_mixM (by omega)]
      exact mF y j (by omega) (fun q => by have := nsx y j q; omega) (by rintro ⟨q, _⟩; rw [q] at v; simp at v)
  have dd := kk_d17s (s := s) (Z := Z) hc eh (fun s2 => by
    unfold kk_no
    rw [hZ, mm_upj (by decide), mm_upf (by decide), kk_mixC (by simp), kk_mixC (by simp), cF _ _ (by simp) (by simp) (nct _ _ (by simp) (by simp) (by simp) (by simp)), cF _ _ (by simp) (by simp) (nct _ _ (by simp) (by simp) (by simp) (by simp))]) (fun t2 m2 j q => by
    rw [zC _ _ _ _ (by decide) (by decide)]
    exact cF _ _ (by simp) (by simp; omega) (nct _ _ (by simp) (by simp) (by simp) (by simp))) (fun m2 a0 a1 v ex => by
    have nC : ¬ C m2 := fun w => by
      obtain ⟨j, hj, q1, q2⟩ := ex
      exact cH m2 w j hj.1 hj.2 ⟨q1, q2⟩
    rw [zC _ _ _ _ (by decide) (by decide), (cO m2 nC a0 a1).1 0 (by decide) (by decide) (by decide)]
    exact v) (fun m2 a0 a1 v v5 => by
    rw [zC _ _ _ _ (by decide) (by decide)] at v v5
    by_cases w : C m2
    · have := (cC m2 w a0 a1).1 0 kk_F0
      rw [this] at v
      simp at v
    · rw [(cO m2 w a0 a1).1 0 (by decide) (by decide) (by decide)] at v
      exact c5 m2 w a0 a1 v v5)
  have WM := kk_stW (C := C) (gm := gm) hc hs hno (fun y j u v => cF y j u (fun q => v (Or.inl q)) (fun q => v (Or.inr (Or.inr (Or.inr (Or.inl q)))))) R NW TW cC cO (fun y j a0 v => by
    have v2 := kk_tsM a0 v
    exact mF y j a0 v2.1 v2.2.1) mC m53 mO ent root hZ dd.1 dd.2.1 dd.2.2
  refine m209W hy hZ WM.1 WM.2 (fun g2 b1 b2 b3 => ?_)
  have s3 : ∀ x j, kk_scr x j → g x j = h x j := fun x j v => by
    rcases kk_scrC v with q | q
    · rw [k2 x j q]; exact c40 x j q
    · exact k3 x j q.1 q.2
  have sG : ∀ x j, kk_scr x j → gm x j = g x j := fun x j v => by
    rcases kk_scrC v with q | q
    · rw [s3 x j v]
      refine mF x j q (fun w => ?_) (fun w => ?_)
      · have := nsx x j w
        unfold kk_scr at v
        rcases v with v | v | ⟨v, _⟩ | v
        · omega
        · omega
        · rw [v] at this; simp at this
        · omega
      · rw [w.1, w.2] at v
        simp [kk_scr] at v
    · exact cG x j (by omega)
  have F := kk_actend (gx := g) hb hZ WM.1 WM.2 k1 b1 (fun x j v => by rw [b2 x j v]; exact cG x j v) b3 sG s3
  exact K g2 F.1 F.2
/-- none is dropped where no node is named -/
theorem s71z {h : mm_Id → Int → Int} {dh : Int → Int} {nx ns : Int} {Q : mm_V → mm_H → Prop} (hx : 5275 ≤ nx) {d : Int} (hd : mm_isD d) (K : Q zU (mm_z h dh nx ns)) : mm_Cl 71 [zR (1, 0, 0), zR (31, d, 0), zI 0] (mm_z h dh nx ns) Q := by
  have hd2 := hd
  unfold mm_isD at hd2
  have dT : mm_isT d := by unfold mm_isT; omega
  rw [r_71_e (htx1 := hd) (hx := hx)]
  refine s56 dT hx (fun w _ => by omega) (fun _ => ?_)
  rw [mm_pR, r_71_0_5 (htx1 := hd) (hx := hx), r_71_1 (hx := hx)]
  exact K


