/-! the calls of both: differs, held, about -/
/-- the k-th node that is other -/
noncomputable def kk_dg (A : Int → Prop) (f : Nat) (n k : Int) : Int := match f with
  | 0 => -2
  | f + 1 => @ite Int (A n) (Classical.propDecidable _) (kk_dg A f (n + 1) k) (if k = 0 then n else kk_dg A f (n + 1) (k - 1))
theorem kk_dgy {A : Int → Prop} {f : Nat} {n k : Int} (h : A n) : kk_dg A (f + 1) n k = kk_dg A f (n + 1) k := by
  show @ite Int (A n) (Classical.propDecidable _) _ _ = _
  rw [if_pos h]
theorem kk_dgn {A : Int → Prop} {f : Nat} {n k : Int} (h : ¬ A n) : kk_dg A (f + 1) n k = if k = 0 then n else kk_dg A f (n + 1) (k - 1) := by
  show @ite Int (A n) (Classical.propDecidable _) _ _ = _
  rw [if_neg h]
theorem kk_dgc {A C : Int → Prop} : ∀ (f : Nat) (n k : Int), (∀ i, n ≤ i → i < n + f → (A i ↔ C i)) → kk_dg A f n k = kk_dg C f n k := by
  intro f
  induction f with
  | zero => intro n k _; rfl
  | succ f ih =>
    intro n k h
    have i1 := fun k => ih (n + 1) k (fun i i1 i2 => h i (by omega) (by omega))
    by_cases c : A n
    · rw [kk_dgy c, kk_dgy ((h n (by omega) (by omega)).1 c), i1]
    · rw [kk_dgn c, kk_dgn (fun q => c ((h n (by omega) (by omega)).2 q)), i1]
theorem kk_dgb {A : Int → Prop} : ∀ (f : Nat) (n k : Int), 0 ≤ n → -2 ≤ kk_dg A f n k ∧ kk_dg A f n k < n + f + 1 := by
  intro f
  induction f with
  | zero => intro n k h; show -2 ≤ (-2 : Int) ∧ _; exact ⟨by omega, by show (-2 : Int) < _; omega⟩
  | succ f ih =>
    intro n k h
    by_cases c : A n
    · rw [kk_dgy c]; have := ih (n + 1) k (by omega); omega
    · rw [kk_dgn c]
      split
      · omega
      · have := ih (n + 1) (k - 1) (by omega); omega

theorem c_36 {b : Int} {h : mm_Id → Int → Int} {dh : Int → Int} {nx ns : Int} (hy : 10581 ≤ nx) (hc : kk_core b h dh) (hb : b + 1 ≤ 1000000) {t n k : Int} (ht : -2147483648 ≤ t ∧ t < 2147483648) (hn : -2147483648 ≤ n ∧ n < 2147483648) (hk : -2147483648 ≤ k ∧ k < 2147483648) : kk_call 36 259 [zI t, zI n, zI k] b h dh nx ns kk_SI := by
  unfold kk_call
  have hx : 5275 ≤ nx := by omega
  have hc0 : kk_core b (mm_up h (40, 0, 0) 0 0) dh := kk_core0 hc
  have fin : ∀ v, kk_SI (zI v) → mm_Cl 259 [zR (40, 0, 0), zI t, zI n, zI k] (mm_z h dh nx ns) (fun (r2 : mm_V) (h2 : mm_H) => r2 = zI v ∧ ∃ g2, h2 = mm_z g2 dh nx ns ∧ kk_core (b + 1) g2 dh ∧ ∀ x j, kk_scr x j → g2 x j = h x j) →
      (fun (r : mm_V) (h1 : mm_H) => kk_SI r ∧ ∃ g dh1, h1 = mm_z g dh1 nx ns ∧ mm_Cl 259 [zR (40, 0, 0), zI t, zI n, zI k] (mm_z g dh1 nx ns) (fun r2 h2 => r2 = r ∧ ∃ g2, h2 = mm_z g2 dh1 nx ns ∧ kk_core (b + 1) g2 dh1 ∧ ∀ x j, kk_scr x j → g2 x j = h x j)) (zI v) (mm_z h dh nx ns) :=
    fun v h1 h2 => ⟨h1, h, dh, rfl, h2⟩
  have mfin : ∀ v w : Int, w = v → (fun (r2 : mm_V) (h2 : mm_H) => r2 = zI v ∧ ∃ g2, h2 = mm_z g2 dh nx ns ∧ kk_core (b + 1) g2 dh ∧ ∀ x j, kk_scr x j → g2 x j = h x j) (zI w) (mm_z (mm_up h (40, 0, 0) 0 0) dh nx ns) :=
    fun v w e => ⟨by rw [e], _, rfl, kk_coreS hb hc0, fun x j hs => kk_scr0 hs⟩
  have hz := hc.1.1.2.2.2.2.2.2.2.2.1
  have AL : ∀ s s2 : Int, (0 ≤ s ∧ s < 13) → (0 ≤ s2 ∧ s2 < 13) → ∀ i : Int, 1 ≤ i → i < 1 + (36 : Nat) → (kk_al h s i s2 i ↔ kk_ma (mm_up h (40, 0, 0) 0 0) (36 * s + i - 1) (36 * s2 + i - 1) (∀ j, 0 ≤ j → j < (mm_up h (40, 0, 0) 0 0) (42, 0, 0) (36 * s + i - 1) → kk_by (mm_up h (40, 0, 0) 0 0) s i j = kk_by (mm_up h (40, 0, 0) 0 0) s2 i j)) := fun s s2 hs hs2 i i1 i2 => by
    have N1 := kk_NRC hc (t := s) (n := i) (by omega) ⟨by omega, by omega⟩
    have N2 := kk_NRC hc (t := s2) (n := i) (by omega) ⟨by omega, by omega⟩
    have W1 := kk_NWC hc (mm_T13 hs) (n := i) ⟨by omega, by omega⟩
    have W2 := kk_NWC hc (mm_T13 hs2) (n := i) ⟨by omega, by omega⟩
    rw [kk_alm N1 N2 W1 W2 hz (fun p p0 p1 => ⟨hc.1.1.2.2.2.2.2.2.2.1.1 s i p (mm_T13 hs) ⟨by omega, by omega⟩ p0 p1, hc.1.1.2.2.2.2.2.2.2.1.1 s2 i p (mm_T13 hs2) ⟨by omega, by omega⟩ p0 p1⟩)]
    unfold kk_ma kk_by
    simp only [mm_upf (show ¬ (41 : Nat) = 40 by decide), mm_upf (show ¬ (42 : Nat) = 40 by decide), mm_upf (show ¬ (43 : Nat) = 40 by decide), mm_upf (show ¬ (44 : Nat) = 40 by decide), mm_upf (show ¬ (45 : Nat) = 40 by decide), mm_upf (show ¬ (46 : Nat) = 40 by decide), mm_upf (show ¬ (47 : Nat) = 40 by decide), mm_upf (show ¬ (48 : Nat) = 40 by decide), mm_upf (show ¬ (49 : Nat) = 40 by decide), mm_upf (show ¬ (50 : Nat) = 40 by decide), mm_upf (show ¬ (51 : Nat) = 40 by decide), mm_upf (show ¬ (52 : Nat) = 40 by decide), mm_upf (show ¬ (53 : Nat) = 40 by decide), mm_upf (show ¬ (54 : Nat) = 40 by decide)]
  rw [r_36_e (hx := hx)]
  refine s55 hx (kk_nmC hc) ht.1 ht.2 (fun s hs => ?_) (fun hs => ?_)
  · have hsT := mm_T13 hs.1
    rw [mm_pR, r_36_0_3a (hty0 := hsT) (hx := hx)]
    refine s55 hx (kk_nmC hc) hn.1 hn.2 (fun s2 hs2 => ?_) (fun hs2 => ?_)
    · have hsT2 := mm_T13 hs2.1
      rw [mm_pR, r_36_0_7c (htx4 := hsT) (hty0 := hsT2) (hx := hx)]
      by_cases k0 : k < 0
      · rw [r_36_3 (htx4 := hsT) (htx5 := hsT2) (hx := hx), if_neg (by decide), if_pos k0, r_36_6 (hx := hx)]
        refine fin _ ⟨_, rfl, by omega, by omega⟩ ?_
        rw [r_259_e (hy := hy)]
        refine m181t hy (kk_nmC hc0) (kk_NC hc0) ht.1 ht.2 (fun s3 q1 q2 q3 => ?_) (fun q => absurd hs (fun w => kk_tpn (kk_npu.1 q) w))
        have e := kk_tp1 (kk_tpu.1 q3) hs
        subst e
        rw [mm_pI, r_259_0_6 (hy := hy)]
        refine m181t hy (kk_nmC hc0) (kk_NC hc0) hn.1 hn.2 (fun s4 u1 u2 u3 => ?_) (fun q => absurd hs2 (fun w => kk_tpn (kk_npu.1 q) w))
        have e := kk_tp1 (kk_tpu.1 u3) hs2
        subst e
        rw [mm_pI, r_259_0_10 (hy := hy), if_neg (by omega), if_neg (by omega)]
        rw [r_259_3 (hy := hy), if_neg (by decide), if_pos k0, r_259_7 (hy := hy)]
        exact mfin _ _ rfl
      · -- the cls's loop
        have L : ∀ (f : Nat) (i x : Int), i + f = 37 → 1 ≤ i → 0 ≤ x → (x ≤ k) → (∀ r, r = kk_dg (fun i => kk_al h s i s2 i) f i x → (fun (r : mm_V) (h1 : mm_H) => kk_SI r ∧ ∃ g dh1, h1 = mm_z g dh1 nx ns ∧ mm_Cl 259 [zR (40, 0, 0), zI t, zI n, zI k] (mm_z g dh1 nx ns) (fun r2 h2 => r2 = r ∧ ∃ g2, h2 = mm_z g2 dh1 nx ns ∧ kk_core (b + 1) g2 dh1 ∧ ∀ x j, kk_scr x j → g2 x j = h x j)) (zI r) (mm_z h dh nx ns)) → mm_Wp 36 (mm_blk 36 3) [zR (1, 0, 0), zI t, zI n, zI k, zR (22, s, 0), zR (22, s2, 0), zI x, zI i] [] (mm_z h dh nx ns) (fun (r : mm_V) (h1 : mm_H) => kk_SI r ∧ ∃ g dh1, h1 = mm_z g dh1 nx ns ∧ mm_Cl 259 [zR (40, 0, 0), zI t, zI n, zI k] (mm_z g dh1 nx ns) (fun r2 h2 => r2 = r ∧ ∃ g2, h2 = mm_z g2 dh1 nx ns ∧ kk_core (b + 1) g2 dh1 ∧ ∀ x j, kk_scr x j → g2 x j = h x j)) := by
          intro f
          induction f with
          | zero =>
            intro i x i1 i2 x0 xk KK
            rw [r_36_3 (htx4 := hsT) (htx5 := hsT2) (hx := hx), if_pos (by omega), r_36_6 (hx := hx)]
            exact KK (-2) rfl
          | succ f ih =>
            intro i x i1 i2 x0 xk KK
            have W1 := kk_NWC hc hsT (n := i) ⟨by omega, by omega⟩
            have W2 := kk_NWC hc hsT2 (n := i) ⟨by omega, by omega⟩
            rw [r_36_3 (htx4 := hsT) (htx5 := hsT2) (hx := hx), if_neg (by omega), if_neg (by omega)]
            refine ⟨by omega, by omega, s114 hsT ⟨by omega, by omega⟩ hsT2 ⟨by omega, by omega⟩ hx hc.1.1.2.2.2.2.2.2.2.1.1 W1.2.2.2.2.2.2.1 W2.2.2.2.2.2.2.1 W1.2.1 W1.2.2.2.1 (fun q => by have := W1.2.2.2.2.2.2.2.2.2.2.1.2.2 q; omega) (fun q => ?_) (fun q => ?_)⟩
            · rw [mm_pI, r_36_3_16 (htx4 := hsT) (htx5 := hsT2) (hx := hx), if_neg (by decide), r_36_5 (htx4 := hsT) (htx5 := hsT2) (hx := hx), mm_wi (by omega) (by omega)]
              exact ih (i + 1) x (by omega) (by omega) x0 xk (fun r hr => KK r (by rw [hr]; exact (kk_dgy (A := fun i => kk_al h s i s2 i) q).symm))
            · rw [mm_pI, r_36_3_16 (htx4 := hsT) (htx5 := hsT2) (hx := hx), if_pos rfl]
              split
              · rename_i x1
                exact KK i (by rw [kk_dgn (A := fun i => kk_al h s i s2 i) q, if_pos x1])
              · rename_i x1
                rw [r_36_5 (htx4 := hsT) (htx5 := hsT2) (hx := hx), mm_wi (z := x + -1) (by omega) (by omega), mm_wi (by omega) (by omega)]
                exact ih (i + 1) (x + -1) (by omega) (by omega) (by omega) (by omega) (fun r hr => KK r (by rw [hr, kk_dgn (A := fun i => kk_al h s i s2 i) q, if_neg x1]; rfl))
        refine L 36 1 k (by omega) (by omega) (by omega) (by omega) (fun r hr => ?_)
        have rb := kk_dgb (A := fun i => kk_al h s i s2 i) 36 1 k (by omega)
        refine fin _ ⟨_, rfl, by omega, by omega⟩ ?_
        rw [r_259_e (hy := hy)]
        refine m181t hy (kk_nmC hc0) (kk_NC hc0) ht.1 ht.2 (fun s3 q1 q2 q3 => ?_) (fun q => absurd hs (fun w => kk_tpn (kk_npu.1 q) w))
        have e := kk_tp1 (kk_tpu.1 q3) hs
        subst e
        rw [mm_pI, r_259_0_6 (hy := hy)]
        refine m181t hy (kk_nmC hc0) (kk_NC hc0) hn.1 hn.2 (fun s4 u1 u2 u3 => ?_) (fun q => absurd hs2 (fun w => kk_tpn (kk_npu.1 q) w))
        have e := kk_tp1 (kk_tpu.1 u3) hs2
        subst e
        rw [mm_pI, r_259_0_10 (hy := hy), if_neg (by omega), if_neg (by omega)]
        have L2 : ∀ (f : Nat) (i x : Int), i + f = 37 → 1 ≤ i → 0 ≤ x → (x ≤ k) → (kk_dg (fun i => kk_ma (mm_up h (40, 0, 0) 0 0) (36 * s3 + i - 1) (36 * s4 + i - 1) (∀ j, 0 ≤ j → j < (mm_up h (40, 0, 0) 0 0) (42, 0, 0) (36 * s3 + i - 1) → kk_by (mm_up h (40, 0, 0) 0 0) s3 i j = kk_by (mm_up h (40, 0, 0) 0 0) s4 i j)) f i x = r) → mm_Wp 259 (mm_blk 259 3) [zR (40, 0, 0), zI t, zI n, zI k, zI s3, zI s4, zI x, zI i] [] (mm_z (mm_up h (40, 0, 0) 0 0) dh nx ns) (fun r2 h2 => r2 = zI r ∧ ∃ g2, h2 = mm_z g2 dh nx ns ∧ kk_core (b + 1) g2 dh ∧ ∀ x j, kk_scr x j → g2 x j = h x j) := by
          intro f
          induction f with
          | zero =>
            intro i x i1 i2 x0 xk KK
            rw [r_259_3 (hy := hy), if_pos (by omega), r_259_7 (hy := hy)]
            exact mfin _ _ KK
          | succ f ih =>
            intro i x i1 i2 x0 xk KK
            have M := kk_MWC hc0 (s := s3) (n := i) (by omega) ⟨by omega, by omega⟩
            have W1 := kk_NWC hc hsT (n := i) ⟨by omega, by omega⟩
            have N1 := kk_NRC hc (t := s3) (n := i) (by omega) ⟨by omega, by omega⟩
            have lk : mm_up h (40, 0, 0) 0 0 (41, 0, 0) (36 * s3 + i - 1) = h (24, s3, i) 0 := by rw [mm_upf (by decide), N1.1]
            have ll : h (24, s3, i) 0 ≠ 0 → mm_up h (40, 0, 0) 0 0 (42, 0, 0) (36 * s3 + i - 1) = h (24, s3, i) 1 := fun q => by rw [mm_upf (by decide), (N1.2.2.2.1 q).1]
            rw [r_259_3 (hy := hy), if_neg (by omega), if_neg k0]
            refine m258 hy (by omega) (by omega) ⟨by omega, by omega⟩ (kk_brC hc0 (by omega)) (kk_brC hc0 (by omega)) ⟨M.1.2.1, M.1.2.2⟩ ⟨fun q => ?_, fun q q2 q3 => ?_⟩ (fun q => ?_) (fun q => ?_)
            · rw [lk] at q
              rw [ll (by omega)]
              have := W1.2.2.2.2.2.2.2.2.2.2.1.2.2 q; omega
            · rw [lk] at q q2 q3
              rw [ll q3]
              have := W1.2.2.2.2.2.2.2.2.2.2.1.1 (by have := W1.1; omega); omega
            · rw [mm_pI, r_259_3_10 (hy := hy), if_neg (by decide), r_259_6 (hy := hy), mm_wi (by omega) (by omega)]
              exact ih (i + 1) x (by omega) (by omega) x0 xk (by rw [← KK]; exact (kk_dgy (A := fun i => kk_ma (mm_up h (40, 0, 0) 0 0) (36 * s3 + i - 1) (36 * s4 + i - 1) (∀ j, 0 ≤ j → j < (mm_up h (40, 0, 0) 0 0) (42, 0, 0) (36 * s3 + i - 1) → kk_by (mm_up h (40, 0, 0) 0 0) s3 i j = kk_by (mm_up h (40, 0, 0) 0 0) s4 i j)) q).symm)
            · have kd := kk_dgn (A := fun i => kk_ma (mm_up h (40, 0, 0) 0 0) (36 * s3 + i - 1) (36 * s4 + i - 1) (∀ j, 0 ≤ j → j < (mm_up h (40, 0, 0) 0 0) (42, 0, 0) (36 * s3 + i - 1) → kk_by (mm_up h (40, 0, 0) 0 0) s3 i j = kk_by (mm_up h (40, 0, 0) 0 0) s4 i j)) (f := f) (n := i) (k := x) q
              rw [kd] at KK
              rw [mm_pI, r_259_3_10 (hy := hy), if_pos rfl]
              split
              · rename_i x1
                rw [if_pos x1] at KK
                exact mfin _ _ KK
              · rename_i x1
                rw [if_neg x1] at KK
                rw [r_259_6 (hy := hy), mm_wi (z := x + -1) (by omega) (by omega), mm_wi (by omega) (by omega)]
                exact ih (i + 1) (x + -1) (by omega) (by omega) (by omega) (by omega) KK
        exact L2 36 1 k (by omega) (by omega) (by omega) (by omega) (by rw [hr]; exact (kk_dgc 36 1 k (fun i i1 i2 => AL s3 s4 ⟨q1, q2⟩ ⟨u1, u2⟩ i i1 i2)).symm)
    · rw [mm_pR, r_36_0_7b (htx4 := hsT) (hx := hx), r_36_1 (hx := hx)]
      refine fin _ ⟨_, rfl, by omega, by omega⟩ ?_
      rw [r_259_e (hy := hy)]
      refine m181t hy (kk_nmC hc0) (kk_NC hc0) ht.1 ht.2 (fun s3 q1 q2 q3 => ?_) (fun q => absurd hs (fun w => kk_tpn (kk_npu.1 q) w))
      rw [mm_pI, r_259_0_6 (hy := hy)]
      refine m181t hy (kk_nmC hc0) (kk_NC hc0) hn.1 hn.2 (fun s4 u1 u2 u3 => absurd (kk_tpu.1 u3) (fun w => kk_tpn hs2 w)) (fun q => ?_)
      rw [mm_pI, r_259_0_10 (hy := hy), if_neg (by omega), if_pos (by decide), r_259_1 (hy := hy)]
      exact mfin _ _ rfl
  · rw [mm_pR, r_36_0_3 (hx := hx)]
    have fm : mm_Cl 259 [zR (40, 0, 0), zI t, zI n, zI k] (mm_z h dh nx ns) (fun r2 h2 => r2 = zI (-1) ∧ ∃ g2, h2 = mm_z g2 dh nx ns ∧ kk_core (b + 1) g2 dh ∧ ∀ x j, kk_scr x j → g2 x j = h x j) := by
      rw [r_259_e (hy := hy)]
      refine m181t hy (kk_nmC hc0) (kk_NC hc0) ht.1 ht.2 (fun s3 q1 q2 q3 => absurd (kk_tpu.1 q3) (fun w => kk_tpn hs w)) (fun q => ?_)
      rw [mm_pI, r_259_0_6 (hy := hy)]
      refine m181t hy (kk_nmC hc0) (kk_NC hc0) hn.1 hn.2 (fun s4 u1 u2 u3 => ?_) (fun q => ?_)
      · rw [mm_pI, r_259_0_10 (hy := hy), if_pos (by decide), r_259_1 (hy := hy)]
        exact mfin _ _ rfl
      · rw [mm_pI, r_259_0_10 (hy := hy), if_pos (by decide), r_259_1 (hy := hy)]
        exact mfin _ _ rfl
    refine s55 hx (kk_nmC hc) hn.1 hn.2 (fun s2 hs2 => ?_) (fun hs2 => ?_)
    · rw [mm_pR, r_36_0_7a (hty0 := mm_T13 hs2.1) (hx := hx), r_36_1 (hx := hx)]
      exact fin _ ⟨_, rfl, by omega, by omega⟩ fm
    · rw [mm_pR, r_36_0_7 (hx := hx), r_36_1 (hx := hx)]
      exact fin _ ⟨_, rfl, by omega, by omega⟩ fm

theorem kk_bsu {h : mm_Id → Int → Int} {j v : Int} : kk_bs (mm_up h (40, 0, 0) j v) = kk_bs h := by
  funext s b
  unfold kk_bs
  simp only [mm_upf (show ¬ (41 : Nat) = 40 by decide), mm_upf (show ¬ (43 : Nat) = 40 by decide)]
theorem kk_lbu {h : mm_Id → Int → Int} {j v : Int} : kk_lb (mm_up h (40, 0, 0) j v) = kk_lb h := by
  funext s b
  unfold kk_lb
  simp only [kk_bsu, mm_upf (show ¬ (57 : Nat) = 40 by decide)]

theorem c_34 {b : Int} {h : mm_Id → Int → Int} {dh : Int → Int} {nx ns : Int} (hy : 10581 ≤ nx) (hc : kk_core b h dh) (hb : b + 1 ≤ 1000000) {t n : Int} (ht : -2147483648 ≤ t ∧ t < 2147483648) (hn : n = 0 ∨ n = 1) : kk_call 34 256 [zI t, zI n] b h dh nx ns kk_SI := by
  unfold kk_call
  have hx : 5275 ≤ nx := by omega
  have hc0 : kk_core b (mm_up h (40, 0, 0) 0 0) dh := kk_core0 hc
  have fin : ∀ v, kk_SI (zI v) → mm_Cl 256 [zR (40, 0, 0), zI t, zI n] (mm_z h dh nx ns) (fun (r2 : mm_V) (h2 : mm_H) => r2 = zI v ∧ ∃ g2, h2 = mm_z g2 dh nx ns ∧ kk_core (b + 1) g2 dh ∧ ∀ x j, kk_scr x j → g2 x j = h x j) →
      (fun (r : mm_V) (h1 : mm_H) => kk_SI r ∧ ∃ g dh1, h1 = mm_z g dh1 nx ns ∧ mm_Cl 256 [zR (40, 0, 0), zI t, zI n] (mm_z g dh1 nx ns) (fun r2 h2 => r2 = r ∧ ∃ g2, h2 = mm_z g2 dh1 nx ns ∧ kk_core (b + 1) g2 dh1 ∧ ∀ x j, kk_scr x j → g2 x j = h x j)) (zI v) (mm_z h dh nx ns) :=
    fun v h1 h2 => ⟨h1, h, dh, rfl, h2⟩
  have mfin : ∀ v w : Int, w = v → (fun (r2 : mm_V) (h2 : mm_H) => r2 = zI v ∧ ∃ g2, h2 = mm_z g2 dh nx ns ∧ kk_core (b + 1) g2 dh ∧ ∀ x j, kk_scr x j → g2 x j = h x j) (zI w) (mm_z (mm_up h (40, 0, 0) 0 0) dh nx ns) :=
    fun v w e => ⟨by rw [e], _, rfl, kk_coreS hb hc0, fun x j hs => kk_scr0 hs⟩
  have brs : ∀ k, 0 ≤ k → k < 13 → kk_br (mm_up h (40, 0, 0) 0 0) k := fun k k0 k1 => kk_brC hc0 (by omega)
  rw [r_34_e (hx := hx)]
  split
  · rename_i t0
    split
    · rename_i n0
      rw [r_34_2 (hx := hx), kk_lbh hc.1]
      have l1 := hc.1.2.1.2.2.1
      have l2 := kk_cntnn (kk_lb h (-1))
      refine fin _ ⟨_, rfl, by omega, by omega⟩ ?_
      rw [r_256_e (hy := hy), if_pos t0, if_pos n0]
      refine m199 hy brs (fun h2 a1 a2 => ?_)
      rw [mm_pI, r_256_1_3 (hy := hy), r_256_2 (hy := hy), kk_lbu]
      exact ⟨rfl, _, rfl, kk_see hb hc a2⟩
    · rename_i n0
      rw [r_34_2 (hx := hx)]
      refine fin _ ⟨_, rfl, by omega, by omega⟩ ?_
      rw [r_256_e (hy := hy), if_pos t0, if_neg n0, r_256_2 (hy := hy)]
      exact mfin _ _ rfl
  · rename_i t0
    refine s55 hx (kk_nmC hc) ht.1 ht.2 (fun s hs => ?_) (fun hs => ?_)
    · have hsT := mm_T13 hs.1
      rw [mm_pR, r_34_3_3a (hty0 := hsT) (hx := hx)]
      split
      · rename_i n0
        refine s160 hsT hx (kk_b9 hc hsT) ?_
        rw [mm_pI, r_34_5_2 (hx := hx), r_34_6 (hx := hx), kk_tbl hc.1 hs.1]
        have l1 := kk_cntub (kk_bs h s)
        have l2 := kk_cntnn (kk_bs h s)
        refine fin _ ⟨_, rfl, by omega, by omega⟩ ?_
        rw [r_256_e (hy := hy), if_neg t0]
        refine m181t hy (kk_nmC hc0) (kk_NC hc0) ht.1 ht.2 (fun s2 q1 q2 q3 => ?_) (fun q => absurd hs (fun w => kk_tpn (kk_npu.1 q) w))
        have e := kk_tp1 (kk_tpu.1 q3) hs
        subst e
        rw [mm_pI, r_256_3_3 (hy := hy), if_neg (by omega), if_pos n0]
        refine m200 hy (by omega) (kk_brC hc0 (by omega)) (fun h2 a2 => ?_)
        rw [mm_pI, r_256_4_5 (hy := hy), kk_bsu]
        exact ⟨rfl, _, rfl, kk_see hb hc a2⟩
      · rename_i n0
        refine s163 hsT hx (fun n2 a1 a2 => (kk_NWC hc hsT ⟨a1, a2⟩).2.2.2.2.2.2.1) ?_
        rw [mm_pI, r_34_4_4 (hx := hx), r_34_6 (hx := hx), kk_aln hc.1 hs.1]
        have l1 := kk_cntub (fun b => kk_bs h s b ∧ ¬ kk_lb h s b)
        have l2 := kk_cntnn (fun b => kk_bs h s b ∧ ¬ kk_lb h s b)
        refine fin _ ⟨_, rfl, by omega, by omega⟩ ?_
        rw [r_256_e (hy := hy), if_neg t0]
        refine m181t hy (kk_nmC hc0) (kk_NC hc0) ht.1 ht.2 (fun s2 q1 q2 q3 => ?_) (fun q => absurd hs (fun w => kk_tpn (kk_npu.1 q) w))
        have e := kk_tp1 (kk_tpu.1 q3) hs
        subst e
        rw [mm_pI, r_256_3_3 (hy := hy), if_neg (by omega), if_neg n0]
        refine m199 hy brs (fun h2 a1 a2 => ?_)
        rw [mm_pI, r_256_5_3 (hy := hy)]
        have br2 : kk_br h2 s2 := fun n2 p n1 n3 p0 p1 => by
          rw [a2 (43, 0, 0) _ (by simp)]; exact kk_brC hc0 (s := s2) (by omega) n2 p n1 n3 p0 p1
        have bs2 : kk_bs h2 s2 = kk_bs h s2 := by
          rw [← kk_bsu (h := h) (j := 0) (v := 0)]
          funext b2
          unfold kk_bs
          simp only [a2 (41, 0, 0) _ (by simp), a2 (43, 0, 0) _ (by simp)]
        refine m197 hy (by omega) br2 (fun h3 a3 a4 => ?_)
        rw [mm_pI, r_256_5_7 (hy := hy)]
        have e1 : kk_cnt (fun b => h2 (56, 0, 0) b ≠ 0) = kk_cnt (kk_lb h s2) := kk_cntc (fun b2 b0 b1 => by rw [a1 b2 b0 b1, kk_lbu])
        have e2 : kk_cnt (fun b => h3 (56, 0, 0) b ≠ 0) = kk_cnt (fun b => kk_lb h s2 b ∨ kk_bs h s2 b) := kk_cntc (fun b2 b0 b1 => by rw [a3 b2 b0 b1, a1 b2 b0 b1, kk_lbu, bs2])
        rw [e1, e2, kk_cntd]
        refine ⟨rfl, _, rfl, kk_see hb hc (fun x j q => ?_)⟩
        rw [a4 x j q, a2 x j q]
    · rw [mm_pR, r_34_3_3 (hx := hx)]
      refine fin _ ⟨_, rfl, by omega, by omega⟩ ?_
      rw [r_256_e (hy := hy), if_neg t0]
      refine m181t hy (kk_nmC hc0) (kk_NC hc0) ht.1 ht.2 (fun s2 q1 q2 q3 => absurd (kk_tpu.1 q3) (fun w => kk_tpn hs w)) (fun q => ?_)
      rw [mm_pI, r_256_3_3 (hy := hy), if_pos (by decide)]
      exact mfin _ _ rfl

