/-! a tree becomes as a stream's: its bytes come from bytes -/
def kk_ba (g h : mm_Id → Int → Int) : Prop := ∀ j, 0 ≤ j → j < 102060 → ∃ k, (0 ≤ k ∧ k < 102060) ∧ h (16, 0, 0) j = g (16, 0, 0) k
def kk_jnv (g h : mm_Id → Int → Int) (t t1 i j : Int) : Prop :=
  kk_R h ∧ (∀ n p, mm_isN n → 0 ≤ p → p < 36 → kk_dn i j n p → kk_pa g h t t1 n p) ∧ (∀ t2 n p, mm_isT t2 → mm_isN n → 0 ≤ p → p < 36 → ¬ (t2 = t ∧ kk_dn i j n p) → kk_ps g h t2 n p) ∧ ((∀ e, 0 ≤ e → e < 60 → h (16, 0, 0) e = g (16, 0, 0) e) ∧ kk_ba g h) ∧
  (∀ x j, ¬ kk_ct x j → ¬ (x = (15, 0, 0) ∧ j = 8) → x.1 ≠ 16 → ¬ kk_tr t 1 37 x → h x j = g x j)
/-- one piece's turn: nothing moves -/
theorem kk_jnv0 {g h : mm_Id → Int → Int} {t t1 i j : Int} (hi : kk_jnv g h t t1 i j) (hn : 1 ≤ i ∧ i < 37) (hj : 0 ≤ j ∧ j < 36) (hp : kk_pa g h t t1 i j) : kk_jnv g h t t1 i (j + 1) := by
  obtain ⟨a1, a2, a3, a4, a5⟩ := hi
  refine ⟨a1, fun n p b1 b2 b3 b4 => ?_, fun t2 n p b0 b1 b2 b3 b4 => a3 t2 n p b0 b1 b2 b3 (fun q => b4 ⟨q.1, q.2.1, by have := q.2.2; omega⟩), a4, a5⟩
  by_cases c : n = i ∧ p = j
  · rw [c.1, c.2]; exact hp
  · exact a2 n p b1 b2 b3 ⟨b4.1, by have := b4.2; omega⟩
/-- one piece's turn: the piece changes -/
theorem kk_jnv1 {g h h2 : mm_Id → Int → Int} {t t1 i j v : Int} (ht : mm_isT t) (hi : kk_jnv g h t t1 i j) (hn : 1 ≤ i ∧ i < 37) (hj : 0 ≤ j ∧ j < 36) (hR : kk_R h2) (hv : h2 (27, t, i) j = v) (hv2 : v = 0 ∨ ∀ t2 n2 p2, mm_isT t2 → mm_isN n2 → 0 ≤ p2 → p2 < 36 → h (27, t2, n2) p2 ≠ v) (hv3 : 0 ≤ v)
    (h16 : ∀ e, ¬ (v ≠ 0 ∧ 60 * v ≤ e ∧ e < 60 * v + 60) → h2 (16, 0, 0) e = h (16, 0, 0) e) (hf : ∀ x k, ¬ kk_ct x k → ¬ (x = (15, 0, 0) ∧ k = 8) → x.1 ≠ 16 → ¬ (x = (27, t, i) ∧ k = j) → ¬ (x = (24, t, i) ∧ k = 9) → h2 x k = h x k) (hp : kk_pa g h2 t t1 i j) (hba : kk_ba h h2) : kk_jnv g h2 t t1 i (j + 1) := by
  obtain ⟨a1, a2, a3, a4, a5⟩ := hi
  have oth : ∀ t2 n2 p2, ¬ (t2 = t ∧ n2 = i ∧ p2 = j) → h2 (27, t2, n2) p2 = h (27, t2, n2) p2 := fun t2 n2 p2 hq =>
    hf _ _ (by unfold kk_ct; simp) (by simp) (by simp) (by intro q; apply hq; obtain ⟨q, q3⟩ := q; injection q with _ q; injection q with q1 q2; exact ⟨q1, q2, q3⟩) (by simp)
  have byt : ∀ t2 n2 p2 e, mm_isT t2 → mm_isN n2 → 0 ≤ p2 → p2 < 36 → 0 ≤ e → e < 60 → h2 (16, 0, 0) (60 * h (27, t2, n2) p2 + e) = h (16, 0, 0) (60 * h (27, t2, n2) p2 + e) := fun t2 n2 p2 e b0 b1 b2 b3 b4 b5 => h16 _ (by
    intro q
    rcases hv2 with q2 | q2
    · exact q.1 q2
    · have := q2 t2 n2 p2 b0 b1 b2 b3
      omega)
  refine ⟨hR, fun n p b1 b2 b3 b4 => ?_, fun t2 n p b0 b1 b2 b3 b4 => ?_, ⟨fun e b1 b2 => ?_, fun q q0 q1 => ?_⟩, fun x k b1 b2 b3 b4 => ?_⟩
  · by_cases c : n = i ∧ p = j
    · rw [c.1, c.2]; exact hp
    · obtain ⟨q1, q2, q3⟩ := a2 n p b1 b2 b3 ⟨b4.1, by have := b4.2; omega⟩
      have o := oth t n p (by omega)
      refine ⟨fun k => ?_, fun k1 k2 => by rw [o]; exact q2 k1 k2, fun k1 k2 => ?_⟩
      · obtain ⟨k1, k2⟩ := q1 k
        refine ⟨by rw [o]; exact k1, fun e c1 c2 => ?_⟩
        rw [← k2 e c1 c2, ← k1, byt t n p e ht b1 b2 b3 c1 c2]
      · obtain ⟨k3, k4, k5⟩ := q3 k1 k2
        rw [o]
        refine ⟨k3, fun e c1 c2 => ?_, fun t2 n2 p2 c0 c1 c2 c3 c4 => ?_⟩
        · rw [byt t n p e ht b1 b2 b3 c1 c2]; exact k4 e c1 c2
        · by_cases c5 : t2 = t ∧ n2 = i ∧ p2 = j
          · obtain ⟨rfl, rfl, rfl⟩ := c5
            rw [hv]
            rcases hv2 with q | q
            · rw [q]; exact Ne.symm k3
            · exact Ne.symm (q _ n p ht b1 b2 b3)
          · rw [oth t2 n2 p2 c5]; exact k5 t2 n2 p2 c0 c1 c2 c3 c4
  · obtain ⟨q1, q2⟩ := a3 t2 n p b0 b1 b2 b3 (fun q => b4 ⟨q.1, q.2.1, by have := q.2.2; omega⟩)
    have o := oth t2 n p (fun q => b4 ⟨q.1, by unfold kk_dn; omega⟩)
    refine ⟨by rw [o]; exact q1, fun e c1 c2 => ?_⟩
    rw [← q2 e c1 c2, ← q1, byt t2 n p e b0 b1 b2 b3 c1 c2]
  · rw [h16 e (by omega)]; exact a4.1 e b1 b2
  · obtain ⟨k, hk, e⟩ := hba q q0 q1
    obtain ⟨k2, hk2, e2⟩ := a4.2 k hk.1 hk.2
    exact ⟨k2, hk2, e.trans e2⟩
  · have b5 : ∀ f, (24 ≤ f ∧ f ≤ 30) → x ≠ (f, t, i) := fun f hf2 q => b4 (by rw [q]; exact ⟨hf2.1, hf2.2, rfl, hn.1, hn.2⟩)
    rw [hf x k b1 b2 b3 (fun q => b5 27 (by omega) q.1) (fun q => b5 24 (by omega) q.1)]
    exact a5 x k b1 b2 b3 b4
theorem kk_jnvg {g h : mm_Id → Int → Int} {t t1 i j j2 : Int} (hi : kk_jnv g h t t1 i j) (hj : j ≤ j2) (hp : ∀ p, j ≤ p → p < j2 → 0 ≤ p → p < 36 → kk_pa g h t t1 i p) : kk_jnv g h t t1 i j2 := by
  obtain ⟨a1, a2, a3, a4, a5⟩ := hi
  refine ⟨a1, fun n p b1 b2 b3 b4 => ?_, fun t2 n p b0 b1 b2 b3 b4 => a3 t2 n p b0 b1 b2 b3 (fun q => b4 ⟨q.1, q.2.1, by have := q.2.2; omega⟩), a4, a5⟩
  by_cases c : n = i ∧ j ≤ p
  · have := b4.2
    rw [c.1]; exact hp p c.2 (by omega) b2 b3
  · exact a2 n p b1 b2 b3 ⟨b4.1, by have := b4.2; omega⟩
theorem kk_jnvs {g h : mm_Id → Int → Int} {t t1 i : Int} (hi : kk_jnv g h t t1 i 36) (h1 : 1 ≤ i) : kk_jnv g h t t1 (i + 1) 0 := by
  obtain ⟨a1, a2, a3, a4, a5⟩ := hi
  exact ⟨a1, fun n p b1 b2 b3 b4 => a2 n p b1 b2 b3 ⟨b4.1, by have := b4.2; omega⟩, fun t2 n p b0 b1 b2 b3 b4 => a3 t2 n p b0 b1 b2 b3 (fun q => b4 ⟨q.1, q.2.1, by have := q.2.2; omega⟩), a4, a5⟩
theorem kk_jnvn {g h h2 : mm_Id → Int → Int} {t t1 i j n : Int} (hi : kk_jnv g h t t1 i j) (hn : 1 ≤ n ∧ n < 37) (hf : ∀ x k, ¬ kk_nd t n x k → ¬ (x = (24, t, n) ∧ k = 9) → h2 x k = h x k) : kk_jnv g h2 t t1 i j := by
  obtain ⟨a1, a2, a3, a4, a5⟩ := hi
  have o : ∀ t2 n2 p2, h2 (27, t2, n2) p2 = h (27, t2, n2) p2 := fun _ _ _ => hf _ _ (by unfold kk_nd; simp) (by simp)
  have b : ∀ e, h2 (16, 0, 0) e = h (16, 0, 0) e := fun _ => hf _ _ (by unfold kk_nd; simp) (by simp)
  refine ⟨kk_Rcong o (hf _ _ (by unfold kk_nd; simp) (by simp)) (hf _ _ (by unfold kk_nd; simp) (by simp)) (fun _ => hf _ _ (by unfold kk_nd; simp) (by simp)) (fun _ => hf _ _ (by unfold kk_nd; simp) (by simp)) (fun _ => hf _ _ (by unfold kk_nd; simp) (by simp)) a1, fun m p b1 b2 b3 b4 => ?_, fun t2 m p b0 b1 b2 b3 b4 => ?_, ⟨fun e b1 b2 => by rw [b]; exact a4.1 e b1 b2, fun q q0 q1 => by rw [b]; exact a4.2 q q0 q1⟩, fun x k b1 b2 b3 b4 => ?_⟩
  · have := a2 m p b1 b2 b3 b4
    unfold kk_pa at this ⊢
    simp only [o, b]
    exact this
  · have := a3 t2 m p b0 b1 b2 b3 b4
    unfold kk_ps at this ⊢
    simp only [o, b]
    exact this
  · have c : ∀ f, (24 ≤ f ∧ f ≤ 30) → x ≠ (f, t, n) := fun f hf2 q => b4 (by rw [q]; exact ⟨hf2.1, hf2.2, rfl, hn.1, hn.2⟩)
    rw [hf x k (by unfold kk_nd; intro q; rcases q with ⟨q, _⟩ | q | q | q | q | q; exact c 24 (by omega) q; exact c 25 (by omega) q; exact c 26 (by omega) q; exact c 28 (by omega) q; exact c 29 (by omega) q; exact c 30 (by omega) q) (fun q => c 24 (by omega) q.1)]
    exact a5 x k b1 b2 b3 b4
section
variable {g : mm_Id → Int → Int} {dh : Int → Int} {nx ns : Int} {Q : mm_V → mm_H → Prop} {t t1 : Int}
theorem kk_kpj {h : mm_Id → Int → Int} {i j : Int} (ht : mm_isT t) (ht1 : mm_isT t1) (hne : t1 ≠ t) (hn : 1 ≤ i ∧ i < 37) (hj : 0 ≤ j ∧ j < 36) (hi : kk_jnv g h t t1 i j) (hu : kk_nu g h t i) : kk_kp h t i t1 i j ↔ kk_kp g t i t1 i j := by
  obtain ⟨a1, a2, a3, a4, a5⟩ := hi
  have hn1 : mm_isN i := ⟨by omega, hn.2⟩
  obtain ⟨p1, p2⟩ := a3 t i j ht hn1 hj.1 hj.2 (by unfold kk_dn; omega)
  obtain ⟨q1, q2⟩ := a3 t1 i j ht1 hn1 hj.1 hj.2 (fun q => hne q.1)
  unfold kk_kp
  rw [hu 24 i 0 (by omega) (by omega) (by omega) (by omega), hu 24 i 5 (by omega) (by omega) (by omega) (by omega), a5 (24, t1, i) 0 (kk_ctn (by omega)) (by simp) (by simp) (by unfold kk_tr; simp [hne]), p1, q1]
  have e : kk_rb h (g (27, t, i) j) (g (27, t1, i) j) ↔ kk_rb g (g (27, t, i) j) (g (27, t1, i) j) := by
    unfold kk_rb
    constructor
    · intro q e b1 b2
      rw [← p2 e b1 b2, ← q2 e b1 b2]; exact q e b1 b2
    · intro q e b1 b2
      rw [p2 e b1 b2, q2 e b1 b2]; exact q e b1 b2
  rw [e]
theorem s171b (ht : 0 ≤ t ∧ t < 13) (ht1 : mm_isT t1) (hx : 5275 ≤ nx) (hne : t1 ≠ t) (hR : kk_R g) (hw : ∀ n, 1 ≤ n → n < 37 → g (24, t, n) 9 = kk_nz (g (27, t, n))) (hw1 : ∀ n, 1 ≤ n → n < 37 → kk_nw g t1 n) (ha : g (22, t, 0) 2 = 0)
    (hu : kk_us g + kk_S (fun n => kk_nz (g (27, t1, n))) 36 ≤ 1699)
    (K : ∀ h2, kk_R h2 → (∀ n p, 1 ≤ n → n < 37 → 0 ≤ p → p < 36 → kk_pa g h2 t t1 n p) → (∀ t2 n p, mm_isT t2 → mm_isN n → 0 ≤ p → p < 36 → ¬ (t2 = t ∧ 1 ≤ n) → kk_ps g h2 t2 n p) → ((∀ e, 0 ≤ e → e < 60 → h2 (16, 0, 0) e = g (16, 0, 0) e) ∧ kk_ba g h2) →
      (∀ n, 1 ≤ n → n < 37 → kk_sd h2 t n g t1 n ∧ h2 (24, t, n) 9 = g (24, t1, n) 9) → (∀ x j, ¬ kk_ct x j → ¬ (x = (15, 0, 0) ∧ j = 8) → x.1 ≠ 16 → ¬ kk_tr t 1 37 x → h2 x j = g x j) → Q zU (mm_z h2 dh nx ns)) :
    mm_Cl 171 [zR (22, t, 0), zR (22, t1, 0)] (mm_z g dh nx ns) Q := by
  have htT : mm_isT t := Or.inl ⟨ht.1, by omega⟩
  -- one node's pieces
  have inner : ∀ (i c0 : Int), 1 ≤ i → i < 37 → c0 + kk_nz (g (27, t1, i)) ≤ 1699 →
      (∀ h v5 v6, kk_jnv g h t t1 i 36 → kk_nu g h t i → (∀ n, 1 ≤ n → n < i → kk_sd h t n g t1 n ∧ h (24, t, n) 9 = g (24, t1, n) 9) → kk_us h ≤ c0 + kk_nz (g (27, t1, i)) → mm_Wp 171 (mm_blk 171 7) [zR (22, t, 0), zR (22, t1, 0), zI i, zR (24, t, i), zR (24, t1, i), v5, v6] [] (mm_z h dh nx ns) Q) →
      ∀ (d j : Nat), j + d = 36 → ∀ h v6, kk_jnv g h t t1 i j → kk_nu g h t i → (∀ n, 1 ≤ n → n < i → kk_sd h t n g t1 n ∧ h (24, t, n) 9 = g (24, t1, n) 9) → kk_us h ≤ c0 + mm_sm (fun p => if g (27, t1, i) p = 0 then 0 else 1) j →
        mm_Wp 171 (mm_blk 171 2) [zR (22, t, 0), zR (22, t1, 0), zI i, zR (24, t, i), zR (24, t1, i), zI j, v6] [] (mm_z h dh nx ns) Q := by
    intro i c0 i1 i2 hc0 fin d
    have hn : mm_isN i := ⟨by omega, i2⟩
    induction d with
    | zero =>
      intro j ej h v6 b1 b2 b3 b4
      have ej : j = 36 := by omega
      subst ej
      have q := fin h (zI 36) v6 b1 b2 b3 b4
      have q2 : mm_Wp 171 (mm_blk 171 3) [zR (22, t, 0), zR (22, t1, 0), zI i, zR (24, t, i), zR (24, t1, i), zI 36, v6] [] (mm_z h dh nx ns) Q := by
        rw [r_171_3 (htx0 := htT) (htx1 := ht1) (htx3 := htT) (hnx3 := hn) (htx4 := ht1) (hnx4 := hn) (hx := hx), if_neg (by omega)]; exact q
      rw [r_171_2 (htx0 := htT) (htx1 := ht1) (htx3 := htT) (hnx3 := hn) (htx4 := ht1) (hnx4 := hn) (hx := hx)]
      split
      · exact q2
      · split
        · exact q2
        · exact q
    | succ d ih =>
      intro j ej h v6 b1 b2 b3 b4
      have hj : 0 ≤ (j : Int) ∧ (j : Int) < 36 := by omega
      obtain ⟨a1, a2, a3, a4, a5⟩ := id b1
      obtain ⟨p1, p2⟩ := a3 t i j htT hn hj.1 hj.2 (by unfold kk_dn; omega)
      obtain ⟨q1, q2⟩ := a3 t1 i j ht1 hn hj.1 hj.2 (fun q => hne q.1)
      have kpi := kk_kpj htT ht1 hne ⟨i1, i2⟩ hj b1 b2
      have g9 : h (24, t1, i) 9 = g (24, t1, i) 9 := a5 _ _ (kk_ctn (by omega)) (by simp) (by simp) (by unfold kk_tr; simp [hne])
      have h9 : h (24, t, i) 9 = g (24, t, i) 9 := b2 24 i 9 (by omega) (by omega) (by omega) (by omega)
      have ss : mm_sm (fun p => if g (27, t1, i) p = 0 then 0 else 1) (j + 1) = mm_sm (fun p => if g (27, t1, i) p = 0 then 0 else 1) j + (if g (27, t1, i) j = 0 then 0 else 1) := rfl
      have nxt : ∀ h2 v, kk_jnv g h2 t t1 i (j + 1) → (∀ x k, ¬ kk_ct x k → ¬ (x = (15, 0, 0) ∧ k = 8) → x.1 ≠ 16 → x.1 ≠ 27 → h2 x k = h x k) → kk_us h2 ≤ kk_us h + (if g (27, t1, i) j = 0 then 0 else 1) → mm_Wp 171 (mm_blk 171 6) [zR (22, t, 0), zR (22, t1, 0), zI i, zR (24, t, i), zR (24, t1, i), zI j, v] [] (mm_z h2 dh nx ns) Q := by
        intro h2 v c1 c2 c3
        have k : ∀ f n k, 24 ≤ f → f ≠ 27 → h2 (f, t, n) k = h (f, t, n) k := fun f n k k1 k2 => c2 _ _ (kk_ctn k1) (by simp; omega) (by simp; omega) (by simp; omega)
        rw [r_171_6 (htx0 := htT) (htx1 := ht1) (htx3 := htT) (hnx3 := hn) (htx4 := ht1) (hnx4 := hn) (hx := hx), mm_wi (by omega) (by omega)]
        refine ih (j + 1) (by omega) h2 v c1 (fun f n k2 k3 k4 k5 k6 => by rw [k f n k2 k3 k5]; exact b2 f n k2 k3 k4 k5 k6) (fun n k1 k2 => ?_) (by omega)
        obtain ⟨⟨w1, w2, w3, w4⟩, w5⟩ := b3 n k1 k2
        refine ⟨⟨fun f hf => by rw [k 24 n f (by omega) (by omega)]; exact w1 f hf, fun e5 e e6 e7 => ?_, fun e5 e e6 e7 => ?_, fun e e6 e7 => ?_⟩, by rw [k 24 n 9 (by omega) (by omega)]; exact w5⟩
        · rw [k 25 n e (by omega) (by omega), k 26 n e (by omega) (by omega)]; exact w2 e5 e e6 e7
        · rw [k 30 n e (by omega) (by omega)]; exact w3 e5 e e6 e7
        · rw [k 28 n e (by omega) (by omega), k 29 n e (by omega) (by omega)]; exact w4 e e6 e7
      have go : mm_Wp 171 (mm_blk 171 3) [zR (22, t, 0), zR (22, t1, 0), zI i, zR (24, t, i), zR (24, t1, i), zI j, v6] [] (mm_z h dh nx ns) Q := by
        rw [r_171_3 (htx0 := htT) (htx1 := ht1) (htx3 := htT) (hnx3 := hn) (htx4 := ht1) (hnx4 := hn) (hx := hx), if_pos hj.2]
        refine s113 htT hn ht1 hn hx a1.1 hj (fun k1 => ?_) (fun k1 => ?_)
        · rw [kpi] at k1
          rw [mm_pI, r_171_3_9 (htx0 := htT) (htx1 := ht1) (htx3 := htT) (hnx3 := hn) (htx4 := ht1) (hnx4 := hn) (hx := hx), if_neg (by decide)]
          refine nxt h v6 (kk_jnv0 b1 ⟨i1, i2⟩ hj ⟨fun _ => ⟨p1, p2⟩, fun q => absurd k1 q, fun q => absurd k1 q⟩) (fun _ _ _ _ _ _ => rfl) (by split <;> omega)
        · rw [kpi] at k1
          rw [mm_pI, r_171_3_9 (htx0 := htT) (htx1 := ht1) (htx3 := htT) (hnx3 := hn) (htx4 := ht1) (hnx4 := hn) (hx := hx), if_pos rfl]
          refine ⟨hj, hj, ?_⟩
          rw [q1]
          split
          · rename_i k2
            rw [r_171_5 (htx0 := htT) (htx1 := ht1) (htx3 := htT) (hnx3 := hn) (htx4 := ht1) (hnx4 := hn) (hty2 := htT) (hny2 := hn) (hx := hx), mm_upf (by decide), a5 (22, t, 0) 2 (by unfold kk_ct; simp) (by simp) (by simp) (by unfold kk_tr; simp), ha]
            have hs : kk_sm (mm_up h (27, t, i) j 0) := by
              have q := kk_smR a1
              refine ⟨fun r r1 r2 => ?_, ?_⟩
              · rw [mm_upf (by decide), mm_upf (by decide)]; exact q.1 r r1 r2
              · rw [mm_upf (by decide)]; exact q.2
            refine ⟨hj, s129 hx hs ?_⟩
            rw [kk_ltgup, mm_pU, r_171_5_7 (htx0 := htT) (htx1 := ht1) (htx3 := htT) (hnx3 := hn) (htx4 := ht1) (hnx4 := hn) (hx := hx)]
            have hR2 : kk_R (mm_up (kk_ltg h (h (27, t, i) j) 0) (27, t, i) j 0) := by
              by_cases z : h (27, t, i) j = 0
              · have e : kk_ltg h (h (27, t, i) j) 0 = h := by unfold kk_ltg; rw [if_pos (by omega)]
                rw [e]
                have e2 : mm_up h (27, t, i) j 0 = h := by
                  have := mm_upself h (27, t, i) j
                  rw [z] at this; exact this
                rw [e2]; exact a1
              · have := kk_drop1 a1 htT hn hj z
                rw [show kk_as t = 0 from if_pos ht] at this
                exact this
            refine nxt _ _ (kk_jnv1 htT b1 ⟨i1, i2⟩ hj hR2 mm_ups (Or.inl rfl) (by omega) (fun e _ => ?_) (fun x k c1 c2 c3 c4 c5 => ?_) ⟨fun q => absurd q k1, fun _ _ => mm_ups, fun _ q => absurd k2 q⟩ (fun q q0 q1' => ⟨q, ⟨q0, q1'⟩, by rw [mm_upf (by decide), kk_ltgf (by unfold kk_ct; simp)]⟩)) (fun x k c1 c2 c3 c4 => ?_) ?_
            · rw [mm_upf (by decide), kk_ltgf (by unfold kk_ct; simp)]
            · rw [mm_upne' c4, kk_ltgf c1]
            · rw [mm_upx (by intro q; apply c4; rw [q]), kk_ltgf c1]
            · have := kk_us0 (h := h) a1 ht hn hj
              split <;> omega
          · rename_i k2
            have nzs := sm_ge (f := fun p => if g (27, t1, i) p = 0 then 0 else 1) 36 (fun _ _ _ => by split <;> omega) hj.1 hj.2
            have le1 : mm_sm (fun p => if g (27, t1, i) p = 0 then 0 else 1) (j + 1) ≤ kk_nz (g (27, t1, i)) := kk_smle (fun p => by split <;> omega) (by omega)
            rw [ss, if_neg k2] at le1
            have uf := kk_free a1 (by omega)
            have r1' := a1.1 t1 i j ht1 hn hj.1 hj.2
            rw [q1] at r1'
            refine ⟨hj, s127 hx r1' ⟨a1.2.2.2.1, a1.2.2.2.2.1⟩ (kk_smR a1).2 uf (fun r r1 r2 r3 => ?_)⟩
            rw [mm_pI, r_171_4_7 (htx0 := htT) (htx1 := ht1) (htx3 := htT) (hnx3 := hn) (htx4 := ht1) (hnx4 := hn) (hty2 := htT) (hny2 := hn) (hx := hx), r_171_5 (htx0 := htT) (htx1 := ht1) (htx3 := htT) (hnx3 := hn) (htx4 := ht1) (hnx4 := hn) (hty2 := htT) (hny2 := hn) (hx := hx), mm_upf (by decide), kk_tf (by unfold kk_ct; simp) (by simp) (by simp), a5 (22, t, 0) 2 (by unfold kk_ct; simp) (by simp) (by simp) (by unfold kk_tr; simp), ha]
            have hs2 : kk_sm (mm_up (kk_tak h (g (27, t1, i) j) r) (27, t, i) j r) := by
              have hs := kk_smR a1
              refine ⟨fun q q1 q2 => ?_, ?_⟩
              · rw [mm_upf (by decide), mm_upf (by decide), kk_t17, kk_t18]
                have := hs.1 q q1 q2
                split <;> omega
              · rw [mm_upf (by decide), kk_t15]
                have := hs.2
                have := kk_hdub h
                have := a1.2.2.1
                omega
            refine ⟨hj, s129 hx hs2 ?_⟩
            rw [kk_ltgup, mm_pU, r_171_5_7 (htx0 := htT) (htx1 := ht1) (htx3 := htT) (hnx3 := hn) (htx4 := ht1) (hnx4 := hn) (hx := hx)]
            have mv := kk_move2 (o' := g (27, t1, i) j) a1 ht hn hj ⟨r1, r2⟩ r3
            have fr : ∀ t2 n2 p2, mm_isT t2 → mm_isN n2 → 0 ≤ p2 → p2 < 36 → h (27, t2, n2) p2 ≠ r := fun t2 n2 p2 c0 c1 c2 c3 => kk_freeN a1 r1 r2 r3 c0 c1 ⟨c2, c3⟩
            refine nxt _ _ (kk_jnv1 htT b1 ⟨i1, i2⟩ hj mv mm_ups (Or.inr fr) (by omega) (fun e c => ?_) (fun x k c1 c2 c3 c4 c5 => ?_) ⟨fun q => absurd q k1, fun _ q => absurd q k2, fun _ _ => ⟨by rw [mm_ups]; omega, fun e c1 c2 => ?_, fun t2 n2 p2 c0 c1 c2 c3 c4 => ?_⟩⟩ (fun q q0 q1' => ?_)) (fun x k c1 c2 c3 c4 => ?_) ?_
            · rw [mm_upf (by decide), kk_ltgf (by unfold kk_ct; simp), kk_tf (by unfold kk_ct; simp) (by simp) (by intro q; exact c ⟨by omega, q.2⟩)]
            · rw [mm_upne' c4, kk_ltgf c1, kk_tf c1 c2 (fun q => c3 (by rw [q.1]))]
            · rw [mm_ups, mm_upf (by decide), kk_ltgf (by unfold kk_ct; simp), kk_t16 ⟨c1, c2⟩]
              exact q2 e c1 c2
            · rw [mm_ups, kk_upne c4, kk_ltgf (by unfold kk_ct; simp), kk_tf (by unfold kk_ct; simp) (by simp) (by simp)]
              exact fr t2 n2 p2 c0 c1 c2 c3
            · rw [mm_upf (by decide), kk_ltgf (by unfold kk_ct; simp)]
              by_cases c : 60 * r ≤ q ∧ q < 60 * r + 60
              · have z := kk_t16 (hi := h) (o := g (27, t1, i) j) (r := r) (i := q - 60 * r) ⟨by omega, by omega⟩
                rw [show 60 * r + (q - 60 * r) = q by omega] at z
                exact ⟨60 * g (27, t1, i) j + (q - 60 * r), ⟨by omega, by omega⟩, z⟩
              · exact ⟨q, ⟨q0, q1'⟩, kk_tf (by unfold kk_ct; simp) (by simp) (by intro v; exact c v.2)⟩
            · rw [mm_upx (by intro q; apply c4; rw [q]), kk_ltgf c1, kk_tf c1 c2 (fun q => c3 (by rw [q.1]))]
            · have := kk_moveu (o' := g (27, t1, i) j) a1 ht hn hj ⟨r1, r2⟩
              rw [if_neg k2]
              omega
      rw [r_171_2 (htx0 := htT) (htx1 := ht1) (htx3 := htT) (hnx3 := hn) (htx4 := ht1) (hnx4 := hn) (hx := hx)]
      split
      · exact go
      · split
        · exact go
        · rename_i z1 z2
          have zt : ∀ p, 0 ≤ p → p < 36 → g (27, t, i) p = 0 := fun p c1 c2 => kk_nzI (f := g (27, t, i)) (by have := hw i i1 i2; omega) c1 c2
          have zt1 : ∀ p, 0 ≤ p → p < 36 → g (27, t1, i) p = 0 := fun p c1 c2 => kk_nzI (f := g (27, t1, i)) (by have := (hw1 i i1 i2).2.2; omega) c1 c2
          refine fin h _ _ (kk_jnvg b1 (by omega) (fun p c1 c2 c3 c4 => ?_)) b2 b3 ?_
          · obtain ⟨w1, w2⟩ := a3 t i p htT hn c3 c4 (by unfold kk_dn; omega)
            exact ⟨fun _ => ⟨w1, w2⟩, fun _ _ => by rw [w1]; exact zt p c3 c4, fun _ q => absurd (zt1 p c3 c4) q⟩
          · have le1 : mm_sm (fun p => if g (27, t1, i) p = 0 then 0 else 1) j ≤ kk_nz (g (27, t1, i)) := kk_smle (fun p => by split <;> omega) (by omega)
            omega
  have outer : ∀ (d k : Nat), k + d = 36 → ∀ h v3 v4 v5 v6, kk_jnv g h t t1 (k + 1) 0 → kk_nu g h t (k + 1) → (∀ n, 1 ≤ n → n < (k : Int) + 1 → kk_sd h t n g t1 n ∧ h (24, t, n) 9 = g (24, t1, n) 9) → kk_us h ≤ kk_us g + kk_S (fun n => kk_nz (g (27, t1, n))) k →
      mm_Wp 171 (mm_blk 171 1) [zR (22, t, 0), zR (22, t1, 0), zI ((k : Int) + 1), v3, v4, v5, v6] [] (mm_z h dh nx ns) Q := by
    intro d
    induction d with
    | zero =>
      intro k ek h v3 v4 v5 v6 b1 b2 b3 b4
      have ek : k = 36 := by omega
      subst ek
      rw [r_171_1 (htx0 := htT) (htx1 := ht1) (hx := hx), if_pos (by omega)]
      obtain ⟨a1, a2, a3, a4, a5⟩ := b1
      exact K h a1 (fun n p c1 c2 c3 c4 => a2 n p ⟨by omega, by omega⟩ c3 c4 ⟨c1, by omega⟩) (fun t2 n p c0 c1 c2 c3 c4 => a3 t2 n p c0 c1 c2 c3 (fun q => c4 ⟨q.1, q.2.1⟩)) a4 (fun n c1 c2 => b3 n c1 (by omega)) a5
    | succ d ih =>
      intro k ek h v3 v4 v5 v6 b1 b2 b3 b4
      have hn : mm_isN ((k : Int) + 1) := ⟨by omega, by omega⟩
      have sS : kk_S (fun n => kk_nz (g (27, t1, n))) (k + 1) = kk_S (fun n => kk_nz (g (27, t1, n))) k + kk_nz (g (27, t1, (k : Int) + 1)) := rfl
      have sle : kk_S (fun n => kk_nz (g (27, t1, n))) (k + 1) ≤ kk_S (fun n => kk_nz (g (27, t1, n))) 36 := kk_smle (fun p => kk_nznn _) (by omega)
      rw [r_171_1 (htx0 := htT) (htx1 := ht1) (hx := hx), if_neg (by omega)]
      refine ⟨by omega, by omega, inner ((k : Int) + 1) (kk_us g + kk_S (fun n => kk_nz (g (27, t1, n))) k) (by omega) (by omega) (by omega) (fun h2 w5 w6 c1 c2 c3 c4 => ?_) 36 0 (by omega) h v6 b1 b2 b3 (by show _ ≤ _ + 0; omega)⟩
      obtain ⟨a1, a2, a3, a4, a5⟩ := id c1
      have src : ∀ f j, 24 ≤ f → h2 (f, t1, (k : Int) + 1) j = g (f, t1, (k : Int) + 1) j := fun f j hf => a5 _ _ (kk_ctn hf) (by simp; omega) (by simp; omega) (by unfold kk_tr; simp [hne])
      obtain ⟨x1, x2, x3⟩ := hw1 ((k : Int) + 1) (by omega) (by omega)
      have d24 : ¬ ((24, t1, (k : Int) + 1) : mm_Id) = (24, t, (k : Int) + 1) := kk_idt (fun q => hne q.1)
      rw [r_171_7 (htx0 := htT) (htx1 := ht1) (htx3 := htT) (hnx3 := hn) (htx4 := ht1) (hnx4 := hn) (hx := hx)]
      refine s112 htT hn ht1 hn hx (fun q => hne q.1) (by rw [mm_upx d24, src 24 14 (by omega)]; exact x1) (by rw [mm_upx d24, src 24 11 (by omega)]; exact x2) (fun h3 y1 y2 => ?_)
      rw [mm_pU, r_171_7_7 (htx0 := htT) (htx1 := ht1) (hx := hx), mm_wi (by omega) (by omega)]
      have fr : ∀ x j, ¬ kk_nd t ((k : Int) + 1) x j → ¬ (x = (24, t, (k : Int) + 1) ∧ j = 9) → h3 x j = h2 x j := fun x j z1 z2 => by rw [y2 x j z1, mm_upne' z2]
      have inv := kk_jnvs (kk_jnvn c1 ⟨by omega, by omega⟩ fr) (by omega)
      have kp : ∀ f n j, 24 ≤ f → n ≠ (k : Int) + 1 → h3 (f, t, n) j = h2 (f, t, n) j := fun f n j z1 z2 => fr _ _ (by unfold kk_nd; simp [z2]) (by simp [z2])
      refine ih (k + 1) (by omega) h3 _ _ _ _ inv (fun f n j z1 z2 z3 z4 => by rw [kp f n j z1 (by omega)]; exact c2 f n j z1 z2 z3 (by omega)) (fun n z1 z2 => ?_) ?_
      · by_cases z : n = (k : Int) + 1
        · subst z
          obtain ⟨w1, w2, w3, w4⟩ := y1
          have sr : ∀ f j, 24 ≤ f → mm_up h2 (24, t, (k : Int) + 1) 9 (h2 (24, t1, (k : Int) + 1) 9) (f, t1, (k : Int) + 1) j = g (f, t1, (k : Int) + 1) j := fun f j hf => by
            rw [mm_upx (by intro q; injection q with _ q; injection q with q; exact hne q)]; exact src f j hf
          refine ⟨⟨fun f hf => by rw [w1 f hf, sr 24 f (by omega)], fun e5 e e6 e7 => ?_, fun e5 e e6 e7 => ?_, fun e e6 e7 => ?_⟩, ?_⟩
          · have := w2 (by rw [sr 24 0 (by omega)]; exact e5) e e6 e7
            rw [sr 25 e (by omega), sr 26 e (by omega)] at this
            exact this
          · have := w3 (by rw [sr 24 0 (by omega)]; exact e5) e e6 e7
            rw [sr 30 e (by omega)] at this
            exact this
          · have := w4 e e6 (by rw [sr 24 11 (by omega)]; exact e7)
            rw [sr 28 e (by omega), sr 29 e (by omega)] at this
            exact this
          · rw [y2 _ _ (by unfold kk_nd; simp), mm_ups, src 24 9 (by omega)]
        · obtain ⟨⟨w1, w2, w3, w4⟩, w5⟩ := c3 n z1 (by omega)
          refine ⟨⟨fun f hf => by rw [kp 24 n f (by omega) z]; exact w1 f hf, fun e5 e e6 e7 => ?_, fun e5 e e6 e7 => ?_, fun e e6 e7 => ?_⟩, by rw [kp 24 n 9 (by omega) z]; exact w5⟩
          · rw [kp 25 n e (by omega) z, kp 26 n e (by omega) z]; exact w2 e5 e e6 e7
          · rw [kp 30 n e (by omega) z]; exact w3 e5 e e6 e7
          · rw [kp 28 n e (by omega) z, kp 29 n e (by omega) z]; exact w4 e e6 e7
      · rw [sS]
        have e : kk_us h3 = kk_us h2 := kk_uscong (fun _ _ _ => fr _ _ (by unfold kk_nd; simp) (by simp))
        omega
  rw [r_171_e (htx0 := htT) (htx1 := ht1) (hx := hx)]
  refine outer 36 0 (by omega) g _ _ _ _ ⟨hR, fun n p c1 c2 c3 c4 => ?_, fun t2 n p _ _ _ _ _ => ⟨rfl, fun _ _ _ => rfl⟩, ⟨fun _ _ _ => rfl, fun q q0 q1 => ⟨q, ⟨q0, q1⟩, rfl⟩⟩, fun _ _ _ _ _ _ => rfl⟩ (fun _ _ _ _ _ _ _ => rfl) (fun n c1 c2 => by omega) (by show _ ≤ _ + 0; omega)
  have := c4.1
  have := c4.2
  omega
end

