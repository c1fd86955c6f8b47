/-! write, the cls: shifts, room, pieces counted, renewed, bytes put -/
theorem kk_bt (z : BitVec 64) : z.toInt % 256 = ((z.setWidth 8).toNat : Int) := by
  rw [BitVec.toNat_setWidth, BitVec.toInt_eq_toNat_cond]
  have := z.isLt
  split <;> omega
theorem kk_shf (x : BitVec 64) (k : Nat) (hk : k ≤ 56) : (x.sshiftRight k).setWidth 8 = (x >>> k).setWidth 8 := by
  apply BitVec.eq_of_getLsbD_eq
  intro i hi
  simp only [BitVec.getLsbD_setWidth, BitVec.getLsbD_sshiftRight, BitVec.getLsbD_ushiftRight]
  have h1 : ¬ 64 ≤ i := by omega
  have h2 : k + i < 64 := by omega
  simp [h1, h2]
theorem kk_shb (v s : Int) (hs : s = 0 ∨ s = 8 ∨ s = 16 ∨ s = 24 ∨ s = 32 ∨ s = 40 ∨ s = 48 ∨ s = 56) : mm_b (mm_w (mm_lushr v s)) = mm_b (mm_b (mm_w (mm_lshr v s))) := by
  have key : mm_lushr v s % 256 = mm_lshr v s % 256 := by
    unfold mm_lushr mm_lshr
    have e : ∀ k : Nat, k ≤ 56 → ∀ (c : Int64) (d : UInt64), c.toBitVec.smod 64 = BitVec.ofNat 64 k → d.toBitVec % 64 = BitVec.ofNat 64 k → ((Int64.ofInt v).toUInt64 >>> d).toInt64.toInt % 256 = (Int64.ofInt v >>> c).toInt % 256 := fun k hk c d hc hd => by
      show ((Int64.ofInt v).toUInt64 >>> d).toInt64.toBitVec.toInt % 256 = (Int64.ofInt v >>> c).toBitVec.toInt % 256
      rw [kk_bt, kk_bt, Int64.toBitVec_shiftRight]
      have e1 : ((Int64.ofInt v).toUInt64 >>> d).toInt64.toBitVec = (Int64.ofInt v).toBitVec >>> (d.toBitVec % 64) := rfl
      rw [e1, hd]
      show ((((Int64.ofInt v).toBitVec >>> (BitVec.ofNat 64 k).toNat).setWidth 8).toNat : Int) = ((((Int64.ofInt v).toBitVec.sshiftRight (c.toBitVec.smod 64).toNat).setWidth 8).toNat : Int)
      rw [hc, BitVec.toNat_ofNat, Nat.mod_eq_of_lt (by omega), kk_shf _ k hk]
    rcases hs with h | h | h | h | h | h | h | h <;> subst h
    · exact e 0 (by decide) _ _ (by decide) (by decide)
    · exact e 8 (by decide) _ _ (by decide) (by decide)
    · exact e 16 (by decide) _ _ (by decide) (by decide)
    · exact e 24 (by decide) _ _ (by decide) (by decide)
    · exact e 32 (by decide) _ _ (by decide) (by decide)
    · exact e 40 (by decide) _ _ (by decide) (by decide)
    · exact e 48 (by decide) _ _ (by decide) (by decide)
    · exact e 56 (by decide) _ _ (by decide) (by decide)
  unfold mm_b mm_w
  omega
section
variable {h : mm_Id → Int → Int} {dh dh0 : Int → Int} {nx ns b : Int} {Q : mm_V → mm_H → Prop}
theorem kk_9b (hc : kk_core b h dh0) {t : Int} (ht : 0 ≤ t ∧ t < 5) : ∀ n, 1 ≤ n → n < 37 → 0 ≤ h (24, t, n) 9 ∧ h (24, t, n) 9 ≤ 36 := fun n n0 n1 => by
  have W := hc.1.1.2.1 t n (mm_T13 ⟨ht.1, by omega⟩) n0 n1
  rw [W.2.2.2.2.2.2.1]
  exact ⟨kk_nznn _, kk_nzub _⟩
theorem s82 (hx : 5275 ≤ nx) (hc : kk_core b h dh0) {t u v : Int} (ht : 0 ≤ t ∧ t < 5) (hu : 0 ≤ u ∧ u < 8) (hv : 0 ≤ v ∧ v ≤ 36)
    (K1 : kk_ub h t u + v ≤ h (32, t, 0) u → kk_cnt (kk_bs h t) + v ≤ h (31, t, 0) 5 → Q (zI 1) (mm_z h dh nx ns)) (K0 : ¬ (kk_ub h t u + v ≤ h (32, t, 0) u ∧ kk_cnt (kk_bs h t) + v ≤ h (31, t, 0) 5) → Q (zI 0) (mm_z h dh nx ns)) : mm_Cl 82 [zR (31, t, 0), zI u, zI v] (mm_z h dh nx ns) Q := by
  have hT := mm_T13 (s := t) ⟨ht.1, by omega⟩
  have b9 := kk_9b hc ht
  have eN := kk_tbl hc.1 (t := t) ⟨ht.1, by omega⟩
  generalize kk_cnt (kk_bs h t) = N at K1 K0 eN
  have z3 : ∀ y (_ : ¬ (kk_ub h t u + v ≤ h (32, t, 0) u ∧ N + v ≤ h (31, t, 0) 5)), mm_Wp 82 (mm_blk 82 3) [zR (31, t, 0), zI u, zI v, y] [] (mm_z h dh nx ns) Q := fun y q => by
    rw [r_82_3 (hx := hx), r_82_4 (hx := hx)]
    exact ⟨Or.inl rfl, K0 q⟩
  have l1 := kk_Snn (f := fun n => h (24, t, n) 9) 36 (fun i i1 i2 => (b9 i i1 (by omega)).1)
  have l2 := kk_Sub (f := fun n => h (24, t, n) 9) 36 36 (fun i i1 i2 => (b9 i i1 (by omega)).2)
  have l3 := kk_Snn (f := fun n => if h (24, t, n) 2 = u then h (24, t, n) 9 else 0) 36 (fun i i1 i2 => by have := b9 i i1 (by omega); show 0 ≤ (if h (24, t, i) 2 = u then h (24, t, i) 9 else 0); split <;> omega)
  have l4 := kk_Sub (f := fun n => if h (24, t, n) 2 = u then h (24, t, n) 9 else 0) 36 36 (fun i i1 i2 => by have := b9 i i1 (by omega); show (if h (24, t, i) 2 = u then h (24, t, i) 9 else 0) ≤ 36; split <;> omega)
  rw [r_82_e (htx0 := ht) (hx := hx), if_neg (by omega), if_pos hu.2]
  refine s162 hT hx b9 ?_
  rw [mm_pI, r_82_0_9 (htx0 := ht) (hx := hx), mm_wi (z := kk_S (fun n => if h (24, t, n) 2 = u then h (24, t, n) 9 else 0) 36 + v) (by omega) (by omega)]
  rw [kk_ubE hc.1 (t := t) (u := u) ⟨ht.1, by omega⟩]
  refine ⟨hu, ?_⟩
  by_cases c1 : h (32, t, 0) u < kk_ub h t u + v
  · rw [if_pos c1, r_82_1 (htx0 := ht) (hx := hx), r_82_2 (htx0 := ht) (hx := hx), if_pos rfl]
    exact z3 _ (fun q => by omega)
  · rw [if_neg c1, r_82_2 (htx0 := ht) (hx := hx), if_neg (by decide)]
    refine s160 hT hx b9 ?_
    rw [mm_pI, r_82_2_6 (htx0 := ht) (hx := hx), mm_wi (z := kk_S (fun n => h (24, t, n) 9) 36 + v) (by omega) (by omega)]
    rw [eN]
    by_cases c2 : h (31, t, 0) 5 < N + v
    · rw [if_pos c2]
      exact z3 _ (fun q => by omega)
    · rw [if_neg c2, r_82_4 (hx := hx)]
      exact ⟨Or.inr rfl, K1 (by omega) (by omega)⟩
theorem kk_nab (h : mm_Id → Int → Int) (t m p : Int) : 0 ≤ kk_na h t m p ∧ kk_na h t m p ≤ 1 := by unfold kk_na; split <;> omega
theorem kk_frb (h : mm_Id → Int → Int) (t m p : Int) : 0 ≤ kk_fr h t m p ∧ kk_fr h t m p ≤ 1 := by unfold kk_fr; split <;> omega
/-- pieces are counted -/
theorem s7c (hx : 5275 ≤ nx) {t m lo p1 x3 x4 x6 : Int} {vx1 vx2 : mm_V} (ht : mm_isD t) (hm : mm_isN m) (hl : 0 ≤ lo) (hp : p1 < 36) (hw : ∀ p, 0 ≤ p → p < 36 → 0 ≤ h (27, t, m) p) :
    ∀ (k : Nat) (j : Int), p1 + 1 - j = k → lo ≤ j → mm_Wp 7 (mm_blk 7 7) [zR (1, 0, 0), vx1, vx2, zI x3, zL x4, zU, zI x6, zR (24, t, m), zR (31, t, 0), zI lo, zI p1, zI (kk_sf (kk_na h t m) lo (p1 + 1)), zI (kk_sf (kk_fr h t m) lo (p1 + 1)), zI (p1 + 1)] [] (mm_z h dh nx ns) Q →
      mm_Wp 7 (mm_blk 7 7) [zR (1, 0, 0), vx1, vx2, zI x3, zL x4, zU, zI x6, zR (24, t, m), zR (31, t, 0), zI lo, zI p1, zI (kk_sf (kk_na h t m) lo j), zI (kk_sf (kk_fr h t m) lo j), zI j] [] (mm_z h dh nx ns) Q := by
  have hT : mm_isT t := mm_T13 ⟨ht.1, by have := ht.2; omega⟩
  intro k
  induction k with
  | zero =>
    intro j e1 e2 K
    rw [show j = p1 + 1 by omega]; exact K
  | succ k ih =>
    intro j e1 e2 K
    have b1 := kk_sfb (f := kk_na h t m) (lo := lo) (j - lo).toNat (fun p _ _ => kk_nab h t m p)
    have b2 := kk_sfb (f := kk_fr h t m) (lo := lo) (j - lo).toNat (fun p _ _ => kk_frb h t m p)
    rw [show lo + ((j - lo).toNat : Int) = j by omega] at b1 b2
    have n1 := kk_nab h t m j
    have n2 := kk_frb h t m j
    rw [r_7_7 (htx7 := hT) (hnx7 := hm) (htx8 := ht) (hx := hx), if_neg (by omega)]
    refine ⟨by omega, ?_⟩
    have go : ∀ f, f = kk_fr h t m j → mm_Wp 7 (mm_blk 7 9) [zR (1, 0, 0), vx1, vx2, zI x3, zL x4, zU, zI x6, zR (24, t, m), zR (31, t, 0), zI lo, zI p1, zI (kk_sf (kk_na h t m) lo j), zI (kk_sf (kk_fr h t m) lo j), zI j] [zI f, zI (kk_sf (kk_fr h t m) lo j)] (mm_z h dh nx ns) Q := fun f hf => by
      rw [r_7_9 (htx7 := hT) (hnx7 := hm) (htx8 := ht) (hx := hx), hf, mm_wi (z := kk_sf (kk_fr h t m) lo j + kk_fr h t m j) (by omega) (by omega), ← kk_sf1 _ e2]
      refine ⟨by omega, s126 hx (fun q hq => ?_)⟩
      rw [mm_pI, r_7_9_10 (htx7 := hT) (hnx7 := hm) (htx8 := ht) (hx := hx)]
      have q1 : q = 1 - kk_na h t m j := by rw [hq]; unfold kk_na; split <;> rfl
      have fin : ∀ v, v = kk_na h t m j → mm_Wp 7 (mm_blk 7 11) [zR (1, 0, 0), vx1, vx2, zI x3, zL x4, zU, zI x6, zR (24, t, m), zR (31, t, 0), zI lo, zI p1, zI (kk_sf (kk_na h t m) lo j), zI (kk_sf (kk_fr h t m) lo (j + 1)), zI j] [zI v, zI (kk_sf (kk_na h t m) lo j)] (mm_z h dh nx ns) Q := fun v hv => by
        rw [r_7_11 (htx7 := hT) (hnx7 := hm) (htx8 := ht) (hx := hx), hv, mm_wi (z := kk_sf (kk_na h t m) lo j + kk_na h t m j) (by omega) (by omega), ← kk_sf1 _ e2, mm_wi (z := j + 1) (by omega) (by omega)]
        exact ih (j + 1) (by omega) (by omega) K
      split
      · exact fin 1 (by omega)
      · exact fin 0 (by omega)
    split
    · rename_i c; exact go 1 (by unfold kk_fr; rw [if_pos c])
    · rename_i c; exact go 0 (by unfold kk_fr; rw [if_neg c])
/-- pieces are renewed -/
theorem s7r (hx : 5275 ≤ nx) {t m lo p1 x3 x4 x6 : Int} {vx1 vx2 vx9 vx11 vx12 : mm_V} (hc : kk_core b h dh0) (ht : mm_isD t) (hm : 1 ≤ m ∧ m < 37) (hl : 0 ≤ lo) (hp : p1 < 36) (h12 : mm_wt vx12 = 1)
    (K : ∀ c, kk_RN t m (fun p => lo ≤ p ∧ p < p1 + 1) h c → mm_Wp 7 (mm_blk 7 17) [zR (1, 0, 0), vx1, vx2, zI x3, zL x4, zU, zI x6, zR (24, t, m), zR (31, t, 0), vx9, zI p1, vx11, vx12, zI 0] [] (mm_z c dh nx ns) Q) :
    ∀ (k : Nat) (j : Int) (c : mm_Id → Int → Int), p1 + 1 - j = k → lo ≤ j → kk_RN t m (fun p => lo ≤ p ∧ p < j) h c → kk_us c ≤ 1200 + (j - lo) → mm_Wp 7 (mm_blk 7 15) [zR (1, 0, 0), vx1, vx2, zI x3, zL x4, zU, zI x6, zR (24, t, m), zR (31, t, 0), vx9, zI p1, vx11, vx12, zI j] [] (mm_z c dh nx ns) Q := by
  have t13 : 0 ≤ t ∧ t < 13 := ⟨ht.1, by have := ht.2; omega⟩
  have hT : mm_isT t := mm_T13 t13
  have hN : mm_isN m := ⟨by omega, hm.2⟩
  intro k
  induction k with
  | zero =>
    intro j c e1 e2 I U
    rw [r_7_15 (htx7 := hT) (hnx7 := hN) (htx8 := ht) (hvx12 := h12) (hx := hx), if_pos (by omega)]
    rw [show j = p1 + 1 by omega] at I
    exact K c I
  | succ k ih =>
    intro j c e1 e2 I U
    rw [r_7_15 (htx7 := hT) (hnx7 := hN) (htx8 := ht) (hvx12 := h12) (hx := hx), if_neg (by omega)]
    refine s107 t13 hN hx (by omega) I.1 I.2.1 (kk_free I.1 (by omega)) (fun g r r1 r2 r0 gR gq gn gb gf => ?_)
    rw [mm_pU, r_7_15_8 (htx7 := hT) (hnx7 := hN) (htx8 := ht) (hx := hx), mm_wi (z := j + 1) (by omega) (by omega)]
    refine ih (j + 1) g (by omega) (by omega) (kk_RN1 I t13 hm (q := j) (by omega) (by omega) (fun p => by omega) (fun p p0 p1 => hc.1.1.2.2.2.2.2.2.2.1.1 t m p hT hN p0 p1) r1 r2 r0 gR gq gn gb gf) ?_
    have := kk_us2 (c := c) t13 hm (q := j) (by omega) ⟨r1, r2⟩ gq (fun t2 n2 p2 w => gf _ _ (by unfold kk_ct; simp) (by simp) (by simp) (fun v => w (by have v1 := v.1; simp at v1; exact ⟨v1.1, v1.2, v.2⟩)) (by simp))
    omega
/-- bytes are put -/
theorem s7p (hx : 5275 ≤ nx) {t m lo p1 x3 x4 x6 : Int} {vx1 vx2 vx9 vx10 vx11 vx12 : mm_V} {c : mm_Id → Int → Int} (hc : kk_core b h dh0) (ht : mm_isD t) (hm : 1 ≤ m ∧ m < 37) (h3 : 0 ≤ x3 ∧ x3 + x6 ≤ 2160) (h6 : 1 ≤ x6 ∧ x6 ≤ 8) (hlo : lo = x3 / 60) (hp1 : p1 = (x3 + x6 - 1) / 60) (I : kk_RN t m (fun p => lo ≤ p ∧ p < p1 + 1) h c)
    (K : ∀ g, kk_PW 16 (c (27, t, m)) (fun p => lo ≤ p ∧ p < p1 + 1) x3 (fun i => mm_b (mm_w (mm_lushr x4 (8 * (x6 - 1 - i))))) x6 c g → mm_Cl 63 [zR (1, 0, 0), zR (31, t, 0)] (mm_z (mm_up g (24, t, m) 1 (if h (24, t, m) 1 < x3 + x6 then x3 + x6 else h (24, t, m) 1)) dh nx ns) (fun r h3 => mm_Wp 7 (bk_7_18.drop 11) [zR (1, 0, 0), vx1, vx2, zI x3, zL x4, zU, zI x6, zR (24, t, m), zR (31, t, 0), vx9, vx10, vx11, vx12, zI x6] (mm_push r []) h3 Q)) :
    ∀ (k : Nat) (i : Int) (g : mm_Id → Int → Int), x6 - i = k → 0 ≤ i → kk_PW 16 (c (27, t, m)) (fun p => lo ≤ p ∧ p < p1 + 1) x3 (fun i => mm_b (mm_w (mm_lushr x4 (8 * (x6 - 1 - i))))) i c g → mm_Wp 7 (mm_blk 7 17) [zR (1, 0, 0), vx1, vx2, zI x3, zL x4, zU, zI x6, zR (24, t, m), zR (31, t, 0), vx9, vx10, vx11, vx12, zI i] [] (mm_z g dh nx ns) Q := by
  have t13 : 0 ≤ t ∧ t < 13 := ⟨ht.1, by have := ht.2; omega⟩
  have hT : mm_isT t := mm_T13 t13
  have hN : mm_isN m := ⟨by omega, hm.2⟩
  intro k
  induction k with
  | zero =>
    intro i g e1 e2 J
    have i6 : i = x6 := by omega
    rw [i6] at J ⊢
    have e24 : g (24, t, m) 1 = h (24, t, m) 1 := by
      rw [J.1 _ _ (by simp)]
      exact I.2.2.2.2.2.2.2.2.1 _ _ (by unfold kk_ct; simp) (by simp) (by simp) (by simp) (by simp)
    rw [r_7_17 (htx7 := hT) (hnx7 := hN) (htx8 := ht) (hx := hx), if_neg (by omega), e24, mm_wi (z := x3 + x6) (by omega) (by omega)]
    exact K g J
  | succ k ih =>
    intro i g e1 e2 J
    have w1 := I.2.2.1 ((x3 + i) / 60) (by omega)
    have e27 : g (27, t, m) = c (27, t, m) := by funext q; exact J.1 _ _ (by simp)
    rw [r_7_17 (htx7 := hT) (hnx7 := hN) (htx8 := ht) (hx := hx), if_pos (by omega), mm_wi (z := x3 + i) (by omega) (by omega), mm_wi (z := x6 - 1) (by omega) (by omega), mm_wi (z := x6 - 1 - i) (by omega) (by omega), mm_wi (z := 8 * (x6 - 1 - i)) (by omega) (by omega)]
    refine s108 hT hN hx (by omega) (by rw [e27]; exact w1.2) ?_
    rw [e27, mm_pU, r_7_17_20 (htx7 := hT) (hnx7 := hN) (htx8 := ht) (hx := hx), mm_wi (z := i + 1) (by omega) (by omega)]
    exact ih (i + 1) _ (by omega) (by omega) (kk_PW1 J h3.1 e2 (by omega) I.2.2.2.2.1)
end

