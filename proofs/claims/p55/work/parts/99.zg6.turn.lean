/-! the law's turn: one call, which the two numbers choose -/
theorem kk_a63 (z : Int) : mm_and z 63 = z % 64 := by
  unfold mm_and
  rw [← Int32.toInt_toBitVec, Int32.toBitVec_and]
  have h1 : (Int32.ofInt 63).toBitVec.msb = false := by decide
  have hm : ((Int32.ofInt z).toBitVec &&& (Int32.ofInt 63).toBitVec).msb = false := by
    rw [BitVec.msb_and, h1]; simp
  rw [BitVec.toInt_eq_toNat_of_msb hm, BitVec.toNat_and]
  have h2 : (Int32.ofInt 63).toBitVec.toNat = 2 ^ 6 - 1 := by decide
  rw [h2, Nat.and_two_pow_sub_one_eq_mod]
  have h3 : (Int32.ofInt z).toBitVec.toNat = (z % 4294967296).toNat := by
    show (BitVec.ofInt 32 z).toNat = _
    rw [BitVec.toNat_ofInt]
    rfl
  rw [h3]
  omega
theorem tt_wI (z : Int) : -2147483648 ≤ mm_w z ∧ mm_w z < 2147483648 := by unfold mm_w; omega
theorem tt_WI (z : Int) : -9223372036854775808 ≤ mm_W z ∧ mm_W z < 9223372036854775808 := by unfold mm_W; omega
theorem tt_aI (a b : Int) : -2147483648 ≤ mm_and a b ∧ mm_and a b < 2147483648 := mm_r32 _
theorem tt_SI {r : mm_V} (h : kk_SI r) : ∃ n, r = zI n := by
  obtain ⟨n, e, -⟩ := h
  exact ⟨n, e⟩
theorem tt_mkG {y k2 : Nat} {a : List mm_V} (hy : tt_D y = true) (ha : ∀ v, v ∈ a → ∀ x, v ≠ zR x) (hc : ∀ b h dh, kk_core b h dh → b + 1 ≤ 1000000 → kk_call y k2 a b h dh 10581 0 kk_SI) : tt_G y a kk_SI := ⟨⟨hy, ha, fun _ q => tt_SI q⟩, fun b h dh c q => ⟨k2, hc b h dh c q⟩⟩
def tt_P (b : Nat) (l s : mm_V → List mm_V) : Prop := ∃ y a S, tt_G y a S ∧ ∀ (z : mm_Id) (k : mm_H) (Q : mm_V → mm_H → Prop), mm_ok z k.2.2.1 1 0 = true → mm_Cl y (zR z :: a) k (fun r k1 => ∃ n, r = zI n ∧ Q (zL n) k1) → mm_Wp 307 (mm_blk 307 b) (l (zR z)) (s (zR z)) k Q
theorem tt_Pe {b b2 : Nat} {l s l2 s2 : mm_V → List mm_V} (h : tt_P b2 l2 s2) (e : ∀ (z : mm_Id) (k : mm_H) (Q : mm_V → mm_H → Prop), mm_Wp 307 (mm_blk 307 b) (l (zR z)) (s (zR z)) k Q = mm_Wp 307 (mm_blk 307 b2) (l2 (zR z)) (s2 (zR z)) k Q) : tt_P b l s := by
  obtain ⟨y, a, S, G, K⟩ := h
  exact ⟨y, a, S, G, fun z k Q ho q => by rw [e]; exact K z k Q ho q⟩
theorem tt_Pl {b y : Nat} {a : List mm_V} {l s : mm_V → List mm_V} {W : mm_V → mm_V → mm_H → (mm_V → mm_H → Prop) → Prop} (G : tt_G y a kk_SI) (e : ∀ (z : mm_Id) (k : mm_H) (Q : mm_V → mm_H → Prop), mm_ok z k.2.2.1 1 0 = true → mm_Wp 307 (mm_blk 307 b) (l (zR z)) (s (zR z)) k Q = mm_Cl y (zR z :: a) k (fun r h3 => W (zR z) r h3 Q))
    (w : ∀ z n k (Q : mm_V → mm_H → Prop), W z (zI n) k Q = Q (zL n) k) : tt_P b l s := ⟨y, a, _, G, fun z k Q ho q => by
  rw [e z k Q ho]
  refine mm_Clm ?_ q
  rintro r k1 ⟨n, er, hq⟩
  subst er
  rw [w]
  exact hq⟩
def tt_I (x : Int) : Prop := -2147483648 ≤ x ∧ x < 2147483648
section
variable {x1 x2 x3 x4 x5 x6 : Int} {v0 v1 v2 v4 v5 v6 : mm_V}

theorem tt_t5 {w1 w4 : mm_V} (h3 : tt_I x3) (h5 : tt_I x5) (h6 : tt_I x6) : tt_P 5 (fun z => [z, w1, zI x2, zI x3, w4, zI x5, zI x6]) (fun _ => []) := by
  refine tt_Pl (W := fun z r h3 Q => mm_Wp 307 (bk_307_5.drop 12) [z, w1, zI x2, zI x3, w4, zI x5, zI x6] (mm_push r []) h3 Q) (tt_mkG (y := 1) (k2 := 212) (a := [zI x3, zI x5, zI x6, zI (mm_w (1 + (Int.tmod (mm_and x2 3) 2)))]) (by decide) (fun v q x e => by subst e; simp at q) (fun b h dh c q => c_1 (Int.le_refl _) c q h3 h5 h6 (tt_wI _))) (fun z k Q ho => ?_) (fun z n k Q => ?_)
  · exact q_307_5 _ _ _ _ _ _ ho
  · rw [mm_pI]; exact q_307_5_12 _ _ _ _ _ _ _ _
theorem tt_t6 {w5 w6 : mm_V} (h3 : tt_I x3) (h4 : tt_I x4) : tt_P 6 (fun z => [z, zI x1, zI x2, zI x3, zI x4, w5, w6]) (fun _ => []) := by
  refine tt_Pl (W := fun z r h3 Q => mm_Wp 307 (bk_307_6.drop 19) [z, zI x1, zI x2, zI x3, zI x4, w5, w6] (mm_push r []) h3 Q) (tt_mkG (y := 7) (k2 := 220) (a := [zI x3, zI x4, zI (mm_and x2 255), zL (mm_W (x1 * x2)), zI (mm_w (1 + (mm_and (mm_shr x1 19) 7)))]) (by decide) (fun v q x e => by subst e; simp at q) (fun b h dh c q => c_7 (Int.le_refl _) c q h3 h4 (tt_aI _ _) (tt_WI _) (tt_wI _))) (fun z k Q ho => ?_) (fun z n k Q => ?_)
  · exact q_307_6 _ _ _ _ _ _ ho
  · rw [mm_pI]; exact q_307_6_19 _ _ _ _ _ _ _ _
theorem tt_t7 {w1 w5 w6 : mm_V} (h3 : tt_I x3) (h4 : tt_I x4) : tt_P 7 (fun z => [z, w1, zI x2, zI x3, zI x4, w5, w6]) (fun _ => []) := by
  refine tt_Pl (W := fun z r h3 Q => mm_Wp 307 (bk_307_7.drop 7) [z, w1, zI x2, zI x3, zI x4, w5, w6] (mm_push r []) h3 Q) (tt_mkG (y := 9) (k2 := 222) (a := [zI x3, zI x4, zI (mm_and x2 511)]) (by decide) (fun v q x e => by subst e; simp at q) (fun b h dh c q => c_9 (Int.le_refl _) c q h3 h4 (tt_aI _ _))) (fun z k Q ho => ?_) (fun z n k Q => ?_)
  · exact q_307_7 _ _ _ _ _ _ ho
  · rw [mm_pI]; exact q_307_7_7 _ _ _ _ _ _ _ _
theorem tt_t8 {w1 w2 w5 : mm_V} (h3 : tt_I x3) (h4 : tt_I x4) (h6 : tt_I x6) : tt_P 8 (fun z => [z, w1, w2, zI x3, zI x4, w5, zI x6]) (fun _ => []) := by
  refine tt_Pl (W := fun z r h3 Q => mm_Wp 307 (bk_307_8.drop 6) [z, w1, w2, zI x3, zI x4, w5, zI x6] (mm_push r []) h3 Q) (tt_mkG (y := 10) (k2 := 223) (a := [zI x3, zI x4, zI 1, zI x6]) (by decide) (fun v q x e => by subst e; simp at q) (fun b h dh c q => c_10 (Int.le_refl _) c q h3 h4 ⟨by decide, by decide⟩ h6)) (fun z k Q ho => ?_) (fun z n k Q => ?_)
  · exact q_307_8 _ _ _ _ _ _ ho
  · rw [mm_pI]; exact q_307_8_6 _ _ _ _ _ _ _ _
theorem tt_t9 {w1 w2 w4 : mm_V} (h3 : tt_I x3) (h5 : tt_I x5) (h6 : tt_I x6) : tt_P 9 (fun z => [z, w1, w2, zI x3, w4, zI x5, zI x6]) (fun _ => []) := by
  refine tt_Pl (W := fun z r h3 Q => mm_Wp 307 (bk_307_9.drop 5) [z, w1, w2, zI x3, w4, zI x5, zI x6] (mm_push r []) h3 Q) (tt_mkG (y := 11) (k2 := 225) (a := [zI x3, zI x5, zI x6]) (by decide) (fun v q x e => by subst e; simp at q) (fun b h dh c q => c_11 (Int.le_refl _) c q h3 h5 h6)) (fun z k Q ho => ?_) (fun z n k Q => ?_)
  · exact q_307_9 _ _ _ _ _ _ ho
  · rw [mm_pI]; exact q_307_9_5 _ _ _ _ _ _ _ _
theorem tt_t10 {w1 w4 : mm_V} (h3 : tt_I x3) (h5 : tt_I x5) (h6 : tt_I x6) : tt_P 10 (fun z => [z, w1, zI x2, zI x3, w4, zI x5, zI x6]) (fun _ => []) := by
  refine tt_Pl (W := fun z r h3 Q => mm_Wp 307 (bk_307_10.drop 17) [z, w1, zI x2, zI x3, w4, zI x5, zI x6] (mm_push r []) h3 Q) (tt_mkG (y := 12) (k2 := 227) (a := [zI x3, zI x5, zI x6, zI (mm_w (1 + (mm_and x2 7))), zI (mm_w (1 + (mm_and (mm_shr x2 3) 7)))]) (by decide) (fun v q x e => by subst e; simp at q) (fun b h dh c q => c_12 (Int.le_refl _) c q h3 h5 h6 (tt_wI _) (tt_wI _))) (fun z k Q ho => ?_) (fun z n k Q => ?_)
  · exact q_307_10 _ _ _ _ _ _ ho
  · rw [mm_pI]; exact q_307_10_17 _ _ _ _ _ _ _ _
theorem tt_t11 {w1 w2 w5 w6 : mm_V} (h3 : tt_I x3) (h4 : tt_I x4) : tt_P 11 (fun z => [z, w1, w2, zI x3, zI x4, w5, w6]) (fun _ => []) := by
  refine tt_Pl (W := fun z r h3 Q => mm_Wp 307 (bk_307_11.drop 4) [z, w1, w2, zI x3, zI x4, w5, w6] (mm_push r []) h3 Q) (tt_mkG (y := 25) (k2 := 241) (a := [zI x3, zI x4]) (by decide) (fun v q x e => by subst e; simp at q) (fun b h dh c q => c_25 (Int.le_refl _) c q h3 h4)) (fun z k Q ho => ?_) (fun z n k Q => ?_)
  · exact q_307_11 _ _ _ _ _ _ ho
  · rw [mm_pI]; exact q_307_11_4 _ _ _ _ _ _ _ _
theorem tt_t12 {w1 w3 w4 w5 w6 : mm_V} : tt_P 12 (fun z => [z, w1, zI x2, w3, w4, w5, w6]) (fun _ => []) := by
  refine tt_Pl (W := fun z r h3 Q => mm_Wp 307 (bk_307_12.drop 7) [z, w1, zI x2, w3, w4, w5, w6] (mm_push r []) h3 Q) (tt_mkG (y := 26) (k2 := 243) (a := [zI (mm_w (1 + (mm_and x2 3)))]) (by decide) (fun v q x e => by subst e; simp at q) (fun b h dh c q => c_26 (Int.le_refl _) c q (tt_wI _))) (fun z k Q ho => ?_) (fun z n k Q => ?_)
  · exact q_307_12 _ _ _ _ _ _ ho
  · rw [mm_pI]; exact q_307_12_7 _ _ _ _ _ _ _ _
theorem tt_t13 {w1 w2 w4 w5 w6 : mm_V} (h3 : tt_I x3) : tt_P 13 (fun z => [z, w1, w2, zI x3, w4, w5, w6]) (fun _ => []) := by
  refine tt_Pl (W := fun z r h3 Q => mm_Wp 307 (bk_307_13.drop 3) [z, w1, w2, zI x3, w4, w5, w6] (mm_push r []) h3 Q) (tt_mkG (y := 28) (k2 := 250) (a := [zI x3]) (by decide) (fun v q x e => by subst e; simp at q) (fun b h dh c q => c_28 (Int.le_refl _) c q h3)) (fun z k Q ho => ?_) (fun z n k Q => ?_)
  · exact q_307_13 _ _ _ _ _ _ ho
  · rw [mm_pI]; exact q_307_13_3 _ _ _ _ _ _ _ _
theorem tt_t14 {w1 w3 w4 w5 w6 : mm_V} : tt_P 14 (fun z => [z, w1, zI x2, w3, w4, w5, w6]) (fun _ => []) := by
  refine tt_Pl (W := fun z r h3 Q => mm_Wp 307 (bk_307_14.drop 7) [z, w1, zI x2, w3, w4, w5, w6] (mm_push r []) h3 Q) (tt_mkG (y := 29) (k2 := 251) (a := [zI (mm_w (1 + (mm_and x2 3)))]) (by decide) (fun v q x e => by subst e; simp at q) (fun b h dh c q => c_29 (Int.le_refl _) c q (tt_wI _))) (fun z k Q ho => ?_) (fun z n k Q => ?_)
  · exact q_307_14 _ _ _ _ _ _ ho
  · rw [mm_pI]; exact q_307_14_7 _ _ _ _ _ _ _ _
theorem tt_t15 {w1 w3 w4 w5 w6 : mm_V} : tt_P 15 (fun z => [z, w1, zI x2, w3, w4, w5, w6]) (fun _ => []) := by
  refine tt_Pl (W := fun z r h3 Q => mm_Wp 307 (bk_307_15.drop 14) [z, w1, zI x2, w3, w4, w5, w6] (mm_push r []) h3 Q) (tt_mkG (y := 30) (k2 := 252) (a := [zI (mm_w (1 + (mm_and x2 1))), zI (mm_w (1 + (mm_and (mm_shr x2 1) 3)))]) (by decide) (fun v q x e => by subst e; simp at q) (fun b h dh c q => c_30 (Int.le_refl _) c q (tt_wI _) (tt_wI _))) (fun z k Q ho => ?_) (fun z n k Q => ?_)
  · exact q_307_15 _ _ _ _ _ _ ho
  · rw [mm_pI]; exact q_307_15_14 _ _ _ _ _ _ _ _
theorem tt_t19 {w1 w3 w4 w5 w6 : mm_V} : tt_P 19 (fun z => [z, w1, zI x2, w3, w4, w5, w6]) (fun _ => []) := by
  refine tt_Pl (W := fun z r h3 Q => mm_Wp 307 (bk_307_19.drop 14) [z, w1, zI x2, w3, w4, w5, w6] (mm_push r []) h3 Q) (tt_mkG (y := 37) (k2 := 260) (a := [zI (mm_w (1 + (mm_and x2 3))), zI (mm_w (1 + (mm_and (mm_shr x2 2) 3)))]) (by decide) (fun v q x e => by subst e; simp at q) (fun b h dh c q => c_37 (Int.le_refl _) c q (tt_wI _) (tt_wI _))) (fun z k Q ho => ?_) (fun z n k Q => ?_)
  · exact q_307_19 _ _ _ _ _ _ ho
  · rw [mm_pI]; exact q_307_19_14 _ _ _ _ _ _ _ _
theorem tt_t20 {w1 w3 w4 w5 w6 : mm_V} : tt_P 20 (fun z => [z, w1, zI x2, w3, w4, w5, w6]) (fun _ => []) := by
  refine tt_Pl (W := fun z r h3 Q => mm_Wp 307 (bk_307_20.drop 7) [z, w1, zI x2, w3, w4, w5, w6] (mm_push r []) h3 Q) (tt_mkG (y := 38) (k2 := 264) (a := [zI (mm_w (1 + (mm_and x2 1)))]) (by decide) (fun v q x e => by subst e; simp at q) (fun b h dh c q => c_38 (Int.le_refl _) c q (tt_wI _))) (fun z k Q ho => ?_) (fun z n k Q => ?_)
  · exact q_307_20 _ _ _ _ _ _ ho
  · rw [mm_pI]; exact q_307_20_7 _ _ _ _ _ _ _ _
theorem tt_t18 {t : Int} {w1 w2 w3 w4 w5 w6 : mm_V} (ht : tt_I t) : tt_P 18 (fun z => [z, w1, w2, w3, w4, w5, w6]) (fun z => [zI t, z]) := by
  refine tt_Pl (W := fun z r h3 Q => mm_Wp 307 (bk_307_18.drop 1) [z, w1, w2, w3, w4, w5, w6] (mm_push r []) h3 Q) (tt_mkG (y := 31) (k2 := 253) (a := [zI t]) (by decide) (fun v q x e => by subst e; simp at q) (fun b h dh c q => c_31 (Int.le_refl _) c q ht)) (fun z k Q ho => ?_) (fun z n k Q => ?_)
  · exact q_307_18 _ _ _ _ _ _ _ _ ho
  · rw [mm_pI]; exact q_307_18_1 _ _ _ _ _ _ _ _
theorem tt_t16 {w1 w3 w4 w5 w6 : mm_V} : tt_P 16 (fun z => [z, w1, zI x2, w3, w4, w5, w6]) (fun _ => []) := by
  by_cases c : mm_and x2 1 = 0
  · exact tt_Pe (tt_t18 (tt_wI _)) (fun z k Q => (q_307_16 _ _ _ _ _ _).trans (if_pos c))
  · exact tt_Pe (tt_t18 (tt_wI _)) (fun z k Q => (q_307_16 _ _ _ _ _ _).trans (if_neg c))
theorem tt_t23 {a b : Int} {w1 w2 w3 w4 w5 w6 : mm_V} (ha : tt_I a) (hb : b = 0 ∨ b = 1) : tt_P 23 (fun z => [z, w1, w2, w3, w4, w5, w6]) (fun z => [zI b, zI a, z]) := by
  refine tt_Pl (W := fun z r h3 Q => mm_Wp 307 (bk_307_23.drop 1) [z, w1, w2, w3, w4, w5, w6] (mm_push r []) h3 Q) (tt_mkG (y := 32) (k2 := 254) (a := [zI a, zI b]) (by decide) (fun v q x e => by subst e; simp at q) (fun _ h dh c q => c_32 (Int.le_refl _) c q ha hb)) (fun z k Q ho => ?_) (fun z n k Q => ?_)
  · exact q_307_23 _ _ _ _ _ _ _ _ _ ho
  · rw [mm_pI]; exact (q_307_23_1 _ _ _ _ _ _ _ _).trans (q_307_27 _ _ _ _ _ _ _ _)
theorem tt_t21 {w1 w3 w4 w5 w6 : mm_V} : tt_P 21 (fun z => [z, w1, zI x2, w3, w4, w5, w6]) (fun _ => []) := by
  have E := fun (z : mm_Id) (k : mm_H) (Q : mm_V → mm_H → Prop) (ho : mm_ok z k.2.2.1 1 0 = true) => q_307_21 (x0 := z) w1 x2 w3 w4 w5 w6 (h := k) (Q := Q) ho
  by_cases c : mm_and x2 3 = 0
  · by_cases d : mm_and x2 16 = 16
    · obtain ⟨y, a, S, G, K⟩ := tt_t23 (w1 := w1) (w2 := zI x2) (w3 := w3) (w4 := w4) (w5 := w5) (w6 := w6) (tt_wI (1 + (mm_and (mm_shr x2 2) 3))) (Or.inr rfl)
      exact ⟨y, a, S, G, fun z k Q ho q => by rw [E z k Q ho, if_pos c, if_pos d]; exact K z k Q ho q⟩
    · obtain ⟨y, a, S, G, K⟩ := tt_t23 (w1 := w1) (w2 := zI x2) (w3 := w3) (w4 := w4) (w5 := w5) (w6 := w6) (tt_wI (1 + (mm_and (mm_shr x2 2) 3))) (Or.inl rfl)
      exact ⟨y, a, S, G, fun z k Q ho q => by rw [E z k Q ho, if_pos c, if_neg d]; exact K z k Q ho q⟩
  · by_cases d : mm_and x2 3 = 1
    · refine tt_Pl (W := fun z r h3 Q => mm_Wp 307 (bk_307_24.drop 19) [z, w1, zI x2, w3, w4, w5, w6] (mm_push r []) h3 Q) (tt_mkG (y := 33) (k2 := 255) (a := [zI (mm_w (1 + (mm_and (mm_shr x2 2) 1))), zI (mm_and (mm_shr x2 3) 63)]) (by decide) (fun v q x e => by subst e; simp at q) (fun b h dh c q => c_33 (Int.le_refl _) c q (tt_wI _) (tt_aI _ _))) (fun z k Q ho => ?_) (fun z n k Q => ?_)
      · exact (E z k Q ho).trans ((if_neg c).trans (if_pos d))
      · rw [mm_pI]; exact (q_307_24_19 _ _ _ _ _ _ _ _).trans (q_307_27 _ _ _ _ _ _ _ _)
    · by_cases f : mm_and x2 3 = 2
      · refine tt_Pl (W := fun z r h3 Q => mm_Wp 307 (bk_307_25.drop 7) [z, w1, zI x2, w3, w4, w5, w6] (mm_push r []) h3 Q) (tt_mkG (y := 39) (k2 := 265) (a := []) (by decide) (fun v q x e => by cases q) (fun b h dh c q => c_39 (Int.le_refl _) c q)) (fun z k Q ho => ?_) (fun z n k Q => ?_)
        · exact (E z k Q ho).trans ((if_neg c).trans ((if_neg d).trans (if_pos f)))
        · rw [mm_pI]; exact (q_307_25_7 _ _ _ _ _ _ _ _).trans (q_307_27 _ _ _ _ _ _ _ _)
      · refine tt_Pl (W := fun z r h3 Q => mm_Wp 307 (bk_307_26.drop 2) [z, w1, zI x2, w3, w4, w5, w6] (mm_push r []) h3 Q) (tt_mkG (y := 40) (k2 := 266) (a := []) (by decide) (fun v q x e => by cases q) (fun b h dh c q => c_40 (Int.le_refl _) c q)) (fun z k Q ho => ?_) (fun z n k Q => ?_)
        · exact (E z k Q ho).trans ((if_neg c).trans ((if_neg d).trans (if_neg f)))
        · rw [mm_pI]; exact (q_307_26_2 _ _ _ _ _ _ _ _).trans (q_307_27 _ _ _ _ _ _ _ _)
theorem tt_p4 {w5 w6 : mm_V} (h3 : tt_I x3) (h4 : tt_I x4) (h5 : tt_I x5) : tt_P 4 (fun z => [z, zI x1, zI x2, zI x3, zI x4, w5, w6]) (fun _ => [zI x5]) := by
  have h6 : tt_I (mm_w (1 + (mm_and (mm_shr x1 16) 7))) := tt_wI _
  have go : ∀ (v : Int) (b : Nat), Int.tmod (mm_and x1 63) 20 = v → mm_sw 10 v = b → tt_P b (fun z => [z, zI x1, zI x2, zI x3, zI x4, zI x5, zI (mm_w (1 + (mm_and (mm_shr x1 16) 7)))]) (fun _ => []) → tt_P 4 (fun z => [z, zI x1, zI x2, zI x3, zI x4, w5, w6]) (fun _ => [zI x5]) := fun v b e1 e2 h => tt_Pe h (fun z k Q => (q_307_4 _ _ _ _ _ _ _).trans (by rw [e1, e2]))
  have r : 0 ≤ Int.tmod (mm_and x1 63) 20 ∧ Int.tmod (mm_and x1 63) 20 < 20 := by
    rw [kk_a63]
    have h0 : 0 ≤ x1 % 64 := by omega
    exact ⟨Int.tmod_nonneg _ h0, Int.tmod_lt_of_pos _ (by decide)⟩
  obtain ⟨v, hv⟩ : ∃ v, v = Int.tmod (mm_and x1 63) 20 := ⟨_, rfl⟩
  rw [← hv] at r
  have q : v = 0 ∨ v = 1 ∨ v = 2 ∨ v = 3 ∨ v = 4 ∨ v = 5 ∨ v = 6 ∨ v = 7 ∨ v = 8 ∨ v = 9 ∨ v = 10 ∨ v = 11 ∨ v = 12 ∨ v = 13 ∨ v = 14 ∨ v = 15 ∨ v = 16 ∨ v = 17 ∨ v = 18 ∨ v = 19 := by omega
  rcases q with q | q | q | q | q | q | q | q | q | q | q | q | q | q | q | q | q | q | q | q <;> subst q

  · exact go _ 5 hv.symm (by decide) (tt_t5 h3 h5 h6)
  · exact go _ 5 hv.symm (by decide) (tt_t5 h3 h5 h6)
  · exact go _ 5 hv.symm (by decide) (tt_t5 h3 h5 h6)
  · exact go _ 6 hv.symm (by decide) (tt_t6 h3 h4)
  · exact go _ 6 hv.symm (by decide) (tt_t6 h3 h4)
  · exact go _ 6 hv.symm (by decide) (tt_t6 h3 h4)
  · exact go _ 6 hv.symm (by decide) (tt_t6 h3 h4)
  · exact go _ 7 hv.symm (by decide) (tt_t7 h3 h4)
  · exact go _ 8 hv.symm (by decide) (tt_t8 h3 h4 h6)
  · exact go _ 9 hv.symm (by decide) (tt_t9 h3 h5 h6)
  · exact go _ 10 hv.symm (by decide) (tt_t10 h3 h5 h6)
  · exact go _ 11 hv.symm (by decide) (tt_t11 h3 h4)
  · exact go _ 12 hv.symm (by decide) (tt_t12)
  · exact go _ 13 hv.symm (by decide) (tt_t13 h3)
  · exact go _ 14 hv.symm (by decide) (tt_t14)
  · exact go _ 15 hv.symm (by decide) (tt_t15)
  · exact go _ 16 hv.symm (by decide) (tt_t16)
  · exact go _ 19 hv.symm (by decide) (tt_t19)
  · exact go _ 20 hv.symm (by decide) (tt_t20)
  · exact go _ 21 hv.symm (by decide) (tt_t21)
theorem tt_p2 {w3 w4 w5 w6 : mm_V} (h3 : tt_I x3) : tt_P 2 (fun z => [z, zI x1, zI x2, w3, w4, w5, w6]) (fun _ => [zI x3]) := by
  by_cases c : mm_and (mm_shr x1 14) 3 = 0
  · exact tt_Pe (tt_p4 h3 (tt_wI _) (tt_wI _)) (fun z k Q => (q_307_2 _ _ _ _ _ _ _).trans (if_pos c))
  · exact tt_Pe (tt_p4 h3 (tt_wI _) ⟨by decide, by decide⟩) (fun z k Q => (q_307_2 _ _ _ _ _ _ _).trans (if_neg c))
/-- which call it is -/
theorem tt_turn (x y : Int) : ∃ m a S, tt_G m a S ∧ ∀ (z : mm_Id) (k : mm_H) (Q : mm_V → mm_H → Prop), mm_ok z k.2.2.1 1 0 = true → mm_Cl m (zR z :: a) k (fun r k1 => ∃ n, r = zI n ∧ Q (zL n) k1) → mm_Cl 307 [zR z, zI x, zI y] k Q := by
  by_cases c : mm_and (mm_shr x 6) 7 = 0
  · obtain ⟨m, a, S, G, K⟩ := tt_p2 (x1 := x) (x2 := y) (w3 := zU) (w4 := zU) (w5 := zU) (w6 := zU) (tt_wI (-(mm_and (mm_shr x 9) 3)))
    exact ⟨m, a, S, G, fun z k Q ho q => by rw [q_307_e, if_pos c]; exact K z k Q ho q⟩
  · obtain ⟨m, a, S, G, K⟩ := tt_p2 (x1 := x) (x2 := y) (w3 := zU) (w4 := zU) (w5 := zU) (w6 := zU) (tt_wI (1 + (Int.tmod (mm_and (mm_shr x 9) 3) 2)))
    exact ⟨m, a, S, G, fun z k Q ho q => by rw [q_307_e, if_neg c]; exact K z k Q ho q⟩
end
