/-! scripts: the reference packs letters -/
theorem kk_WW {P u : Int} : mm_W (mm_W P * 256 + u) = mm_W (u + 256 * P) := by unfold mm_W; omega
section
variable {h : mm_Id → Int → Int} {dh : Int → Int} {nx ns : Int} {Q : mm_V → mm_H → Prop}
theorem m278 (hy : 5306 ≤ nx) {a b : Int} (h0 : 0 ≤ a ∧ a ≤ b ∧ b ≤ 8000) (K : Q (zL (mm_W (kk_pk (h (67, 0, 0)) a (b - a).toNat))) (mm_z h dh nx ns)) :
    mm_Cl 278 [zR (40, 0, 0), zI a, zI b] (mm_z h dh nx ns) Q := by
  have L : ∀ (d : Nat) (i : Int), i - a = d → i ≤ b → mm_Wp 278 (mm_blk 278 1) [zR (40, 0, 0), zI a, zI b, zL (mm_W (kk_pk (h (67, 0, 0)) i (b - i).toNat)), zU, zI (i - 1)] [] (mm_z h dh nx ns) Q := by
    intro d
    induction d with
    | zero =>
      intro i e1 e2
      rw [r_278_1 (hvx2 := rfl) (hy := hy), if_pos (by omega)]
      rw [show i = a by omega]
      exact K
    | succ d ih =>
      intro i e1 e2
      rw [r_278_1 (hvx2 := rfl) (hy := hy), if_neg (by omega), kk_a255, kk_lor8 (by omega) (by omega), kk_WW, mm_wi (by omega) (by omega)]
      refine ⟨by omega, ?_⟩
      have z := ih (i - 1) (by omega) (by omega)
      rw [show (b - (i - 1)).toNat = (b - i).toNat + 1 by omega] at z
      have e : kk_pk (h (67, 0, 0)) (i - 1) ((b - i).toNat + 1) = h (67, 0, 0) (i - 1) % 256 + 256 * kk_pk (h (67, 0, 0)) i (b - i).toNat := by
        show h (67, 0, 0) (i - 1) % 256 + 256 * kk_pk (h (67, 0, 0)) (i - 1 + 1) (b - i).toNat = _
        rw [show i - 1 + 1 = i by omega]
      rw [e, show i - 1 - 1 = i - 1 + -1 by omega] at z
      exact z
  rw [r_278_e (hy := hy), mm_wi (by omega) (by omega)]
  have z := L (b - a).toNat b (by omega) (by omega)
  rw [show (b - b).toNat = 0 by omega] at z
  exact z
/-- the reference's table of names -/
def kk_nmv (c : Int) : Int × Int := (mm_W (kk_pkl ((mm_words.getD (2 * c).toNat []).take 8)), mm_W (kk_pkl ((mm_words.getD (2 * c).toNat []).drop 8)))
theorem kk_ch {x y p q c : Int} {A B : Prop} (e : kk_nmv c = (p, q)) (hA : (x, y) = kk_nmv c → A) (hB : (x, y) ≠ kk_nmv c → B) : (if mm_cmp x p = 0 then (if mm_cmp y q = 0 then A else B) else B) := by
  rw [e] at hA hB
  by_cases c1 : mm_cmp x p = 0
  · rw [if_pos c1]
    by_cases c2 : mm_cmp y q = 0
    · rw [if_pos c2]
      exact hA (by rw [mm_cmp0.1 c1, mm_cmp0.1 c2])
    · rw [if_neg c2]
      exact hB (fun k => c2 (mm_cmp0.2 (Prod.mk.inj k).2))
  · rw [if_neg c1]
    exact hB (fun k => c1 (mm_cmp0.2 (Prod.mk.inj k).1))
theorem kk_nst {P : Int → Prop} {l c d : Int} (n : ∀ e : Int, l ≤ e → e < c → P e) (q : P c) (hd : d = c + 1) : ∀ e : Int, l ≤ e → e < d → P e := fun e e0 e1 => by
  by_cases w : e = c
  · rw [w]; exact q
  · exact n e e0 (by omega)
theorem m279 (hy : 5306 ≤ nx) {x y : Int} (K1 : ∀ c : Int, 0 ≤ c → c < 16 → (x, y) = kk_nmv c → (∀ e : Int, 0 ≤ e → e < c → (x, y) ≠ kk_nmv e) → Q (zI c) (mm_z h dh nx ns)) (K2 : (∀ e : Int, 0 ≤ e → e < 16 → (x, y) ≠ kk_nmv e) → Q (zI (-1)) (mm_z h dh nx ns)) :
    mm_Cl 279 [zL x, zL y] (mm_z h dh nx ns) Q := by
  have n0 : ∀ e : Int, 0 ≤ e → e < 0 → (x, y) ≠ kk_nmv e := fun e e0 e1 => by omega
  rw [r_279_e (hy := hy)]
  refine kk_ch (c := 0) (by decide +kernel) (fun e => K1 0 (by omega) (by omega) e n0) (fun q => ?_)
  have n1 := kk_nst (d := 1) n0 q (by omega)
  clear q n0
  rw [r_279_1 (hy := hy)]
  refine kk_ch (c := 1) (by decide +kernel) (fun e => K1 1 (by omega) (by omega) e n1) (fun q => ?_)
  have n2 := kk_nst (d := 2) n1 q (by omega)
  clear q n1
  rw [r_279_2 (hy := hy)]
  refine kk_ch (c := 2) (by decide +kernel) (fun e => K1 2 (by omega) (by omega) e n2) (fun q => ?_)
  have n3 := kk_nst (d := 3) n2 q (by omega)
  clear q n2
  rw [r_279_3 (hy := hy)]
  refine kk_ch (c := 3) (by decide +kernel) (fun e => K1 3 (by omega) (by omega) e n3) (fun q => ?_)
  have n4 := kk_nst (d := 4) n3 q (by omega)
  clear q n3
  rw [r_279_4 (hy := hy)]
  refine kk_ch (c := 4) (by decide +kernel) (fun e => K1 4 (by omega) (by omega) e n4) (fun q => ?_)
  have n5 := kk_nst (d := 5) n4 q (by omega)
  clear q n4
  rw [r_279_5 (hy := hy)]
  refine kk_ch (c := 5) (by decide +kernel) (fun e => K1 5 (by omega) (by omega) e n5) (fun q => ?_)
  have n6 := kk_nst (d := 6) n5 q (by omega)
  clear q n5
  rw [r_279_6 (hy := hy)]
  refine kk_ch (c := 6) (by decide +kernel) (fun e => K1 6 (by omega) (by omega) e n6) (fun q => ?_)
  have n7 := kk_nst (d := 7) n6 q (by omega)
  clear q n6
  rw [r_279_7 (hy := hy)]
  refine kk_ch (c := 7) (by decide +kernel) (fun e => K1 7 (by omega) (by omega) e n7) (fun q => ?_)
  have n8 := kk_nst (d := 8) n7 q (by omega)
  clear q n7
  rw [r_279_8 (hy := hy)]
  refine kk_ch (c := 8) (by decide +kernel) (fun e => K1 8 (by omega) (by omega) e n8) (fun q => ?_)
  have n9 := kk_nst (d := 9) n8 q (by omega)
  clear q n8
  rw [r_279_9 (hy := hy)]
  refine kk_ch (c := 9) (by decide +kernel) (fun e => K1 9 (by omega) (by omega) e n9) (fun q => ?_)
  have n10 := kk_nst (d := 10) n9 q (by omega)
  clear q n9
  rw [r_279_10 (hy := hy)]
  refine kk_ch (c := 10) (by decide +kernel) (fun e => K1 10 (by omega) (by omega) e n10) (fun q => ?_)
  have n11 := kk_nst (d := 11) n10 q (by omega)
  clear q n10
  rw [r_279_11 (hy := hy)]
  refine kk_ch (c := 11) (by decide +kernel) (fun e => K1 11 (by omega) (by omega) e n11) (fun q => ?_)
  have n12 := kk_nst (d := 12) n11 q (by omega)
  clear q n11
  rw [r_279_12 (hy := hy)]
  refine kk_ch (c := 12) (by decide +kernel) (fun e => K1 12 (by omega) (by omega) e n12) (fun q => ?_)
  have n13 := kk_nst (d := 13) n12 q (by omega)
  clear q n12
  rw [r_279_13 (hy := hy)]
  refine kk_ch (c := 13) (by decide +kernel) (fun e => K1 13 (by omega) (by omega) e n13) (fun q => ?_)
  have n14 := kk_nst (d := 14) n13 q (by omega)
  clear q n13
  rw [r_279_14 (hy := hy)]
  refine kk_ch (c := 14) (by decide +kernel) (fun e => K1 14 (by omega) (by omega) e n14) (fun q => ?_)
  have n15 := kk_nst (d := 15) n14 q (by omega)
  clear q n14
  rw [r_279_15 (hy := hy)]
  refine kk_ch (c := 15) (by decide +kernel) (fun e => K1 15 (by omega) (by omega) e n15) (fun q => ?_)
  have n16 := kk_nst (d := 16) n15 q (by omega)
  clear q n15
  rw [r_279_16 (hy := hy)]
  exact K2 n16
theorem m280 (hy : 5306 ≤ nx) {x y : Int} (K1 : ∀ c : Int, 16 ≤ c → c < 32 → (x, y) = kk_nmv c → (∀ e : Int, 16 ≤ e → e < c → (x, y) ≠ kk_nmv e) → Q (zI c) (mm_z h dh nx ns)) (K2 : (∀ e : Int, 16 ≤ e → e < 32 → (x, y) ≠ kk_nmv e) → Q (zI (-1)) (mm_z h dh nx ns)) :
    mm_Cl 280 [zL x, zL y] (mm_z h dh nx ns) Q := by
  have n16 : ∀ e : Int, 16 ≤ e → e < 16 → (x, y) ≠ kk_nmv e := fun e e0 e1 => by omega
  rw [r_280_e (hy := hy)]
  refine kk_ch (c := 16) (by decide +kernel) (fun e => K1 16 (by omega) (by omega) e n16) (fun q => ?_)
  have n17 := kk_nst (d := 17) n16 q (by omega)
  clear q n16
  rw [r_280_1 (hy := hy)]
  refine kk_ch (c := 17) (by decide +kernel) (fun e => K1 17 (by omega) (by omega) e n17) (fun q => ?_)
  have n18 := kk_nst (d := 18) n17 q (by omega)
  clear q n17
  rw [r_280_2 (hy := hy)]
  refine kk_ch (c := 18) (by decide +kernel) (fun e => K1 18 (by omega) (by omega) e n18) (fun q => ?_)
  have n19 := kk_nst (d := 19) n18 q (by omega)
  clear q n18
  rw [r_280_3 (hy := hy)]
  refine kk_ch (c := 19) (by decide +kernel) (fun e => K1 19 (by omega) (by omega) e n19) (fun q => ?_)
  have n20 := kk_nst (d := 20) n19 q (by omega)
  clear q n19
  rw [r_280_4 (hy := hy)]
  refine kk_ch (c := 20) (by decide +kernel) (fun e => K1 20 (by omega) (by omega) e n20) (fun q => ?_)
  have n21 := kk_nst (d := 21) n20 q (by omega)
  clear q n20
  rw [r_280_5 (hy := hy)]
  refine kk_ch (c := 21) (by decide +kernel) (fun e => K1 21 (by omega) (by omega) e n21) (fun q => ?_)
  have n22 := kk_nst (d := 22) n21 q (by omega)
  clear q n21
  rw [r_280_6 (hy := hy)]
  refine kk_ch (c := 22) (by decide +kernel) (fun e => K1 22 (by omega) (by omega) e n22) (fun q => ?_)
  have n23 := kk_nst (d := 23) n22 q (by omega)
  clear q n22
  rw [r_280_7 (hy := hy)]
  refine kk_ch (c := 23) (by decide +kernel) (fun e => K1 23 (by omega) (by omega) e n23) (fun q => ?_)
  have n24 := kk_nst (d := 24) n23 q (by omega)
  clear q n23
  rw [r_280_8 (hy := hy)]
  refine kk_ch (c := 24) (by decide +kernel) (fun e => K1 24 (by omega) (by omega) e n24) (fun q => ?_)
  have n25 := kk_nst (d := 25) n24 q (by omega)
  clear q n24
  rw [r_280_9 (hy := hy)]
  refine kk_ch (c := 25) (by decide +kernel) (fun e => K1 25 (by omega) (by omega) e n25) (fun q => ?_)
  have n26 := kk_nst (d := 26) n25 q (by omega)
  clear q n25
  rw [r_280_10 (hy := hy)]
  refine kk_ch (c := 26) (by decide +kernel) (fun e => K1 26 (by omega) (by omega) e n26) (fun q => ?_)
  have n27 := kk_nst (d := 27) n26 q (by omega)
  clear q n26
  rw [r_280_11 (hy := hy)]
  refine kk_ch (c := 27) (by decide +kernel) (fun e => K1 27 (by omega) (by omega) e n27) (fun q => ?_)
  have n28 := kk_nst (d := 28) n27 q (by omega)
  clear q n27
  rw [r_280_12 (hy := hy)]
  refine kk_ch (c := 28) (by decide +kernel) (fun e => K1 28 (by omega) (by omega) e n28) (fun q => ?_)
  have n29 := kk_nst (d := 29) n28 q (by omega)
  clear q n28
  rw [r_280_13 (hy := hy)]
  refine kk_ch (c := 29) (by decide +kernel) (fun e => K1 29 (by omega) (by omega) e n29) (fun q => ?_)
  have n30 := kk_nst (d := 30) n29 q (by omega)
  clear q n29
  rw [r_280_14 (hy := hy)]
  refine kk_ch (c := 30) (by decide +kernel) (fun e => K1 30 (by omega) (by omega) e n30) (fun q => ?_)
  have n31 := kk_nst (d := 31) n30 q (by omega)
  clear q n30
  rw [r_280_15 (hy := hy)]
  refine kk_ch (c := 31) (by decide +kernel) (fun e => K1 31 (by omega) (by omega) e n31) (fun q => ?_)
  have n32 := kk_nst (d := 32) n31 q (by omega)
  clear q n31
  rw [r_280_16 (hy := hy)]
  exact K2 n32
theorem m281 (hy : 5306 ≤ nx) {x y : Int} (K1 : ∀ c : Int, 32 ≤ c → c < 47 → (x, y) = kk_nmv c → (∀ e : Int, 32 ≤ e → e < c → (x, y) ≠ kk_nmv e) → Q (zI c) (mm_z h dh nx ns)) (K2 : (∀ e : Int, 32 ≤ e → e < 47 → (x, y) ≠ kk_nmv e) → Q (zI (-1)) (mm_z h dh nx ns)) :
    mm_Cl 281 [zL x, zL y] (mm_z h dh nx ns) Q := by
  have n32 : ∀ e : Int, 32 ≤ e → e < 32 → (x, y) ≠ kk_nmv e := fun e e0 e1 => by omega
  rw [r_281_e (hy := hy)]
  refine kk_ch (c := 32) (by decide +kernel) (fun e => K1 32 (by omega) (by omega) e n32) (fun q => ?_)
  have n33 := kk_nst (d := 33) n32 q (by omega)
  clear q n32
  rw [r_281_1 (hy := hy)]
  refine kk_ch (c := 33) (by decide +kernel) (fun e => K1 33 (by omega) (by omega) e n33) (fun q => ?_)
  have n34 := kk_nst (d := 34) n33 q (by omega)
  clear q n33
  rw [r_281_2 (hy := hy)]
  refine kk_ch (c := 34) (by decide +kernel) (fun e => K1 34 (by omega) (by omega) e n34) (fun q => ?_)
  have n35 := kk_nst (d := 35) n34 q (by omega)
  clear q n34
  rw [r_281_3 (hy := hy)]
  refine kk_ch (c := 35) (by decide +kernel) (fun e => K1 35 (by omega) (by omega) e n35) (fun q => ?_)
  have n36 := kk_nst (d := 36) n35 q (by omega)
  clear q n35
  rw [r_281_4 (hy := hy)]
  refine kk_ch (c := 36) (by decide +kernel) (fun e => K1 36 (by omega) (by omega) e n36) (fun q => ?_)
  have n37 := kk_nst (d := 37) n36 q (by omega)
  clear q n36
  rw [r_281_5 (hy := hy)]
  refine kk_ch (c := 37) (by decide +kernel) (fun e => K1 37 (by omega) (by omega) e n37) (fun q => ?_)
  have n38 := kk_nst (d := 38) n37 q (by omega)
  clear q n37
  rw [r_281_6 (hy := hy)]
  refine kk_ch (c := 38) (by decide +kernel) (fun e => K1 38 (by omega) (by omega) e n38) (fun q => ?_)
  have n39 := kk_nst (d := 39) n38 q (by omega)
  clear q n38
  rw [r_281_7 (hy := hy)]
  refine kk_ch (c := 39) (by decide +kernel) (fun e => K1 39 (by omega) (by omega) e n39) (fun q => ?_)
  have n40 := kk_nst (d := 40) n39 q (by omega)
  clear q n39
  rw [r_281_8 (hy := hy)]
  refine kk_ch (c := 40) (by decide +kernel) (fun e => K1 40 (by omega) (by omega) e n40) (fun q => ?_)
  have n41 := kk_nst (d := 41) n40 q (by omega)
  clear q n40
  rw [r_281_9 (hy := hy)]
  refine kk_ch (c := 41) (by decide +kernel) (fun e => K1 41 (by omega) (by omega) e n41) (fun q => ?_)
  have n42 := kk_nst (d := 42) n41 q (by omega)
  clear q n41
  rw [r_281_10 (hy := hy)]
  refine kk_ch (c := 42) (by decide +kernel) (fun e => K1 42 (by omega) (by omega) e n42) (fun q => ?_)
  have n43 := kk_nst (d := 43) n42 q (by omega)
  clear q n42
  rw [r_281_11 (hy := hy)]
  refine kk_ch (c := 43) (by decide +kernel) (fun e => K1 43 (by omega) (by omega) e n43) (fun q => ?_)
  have n44 := kk_nst (d := 44) n43 q (by omega)
  clear q n43
  rw [r_281_12 (hy := hy)]
  refine kk_ch (c := 44) (by decide +kernel) (fun e => K1 44 (by omega) (by omega) e n44) (fun q => ?_)
  have n45 := kk_nst (d := 45) n44 q (by omega)
  clear q n44
  rw [r_281_13 (hy := hy)]
  refine kk_ch (c := 45) (by decide +kernel) (fun e => K1 45 (by omega) (by omega) e n45) (fun q => ?_)
  have n46 := kk_nst (d := 46) n45 q (by omega)
  clear q n45
  rw [r_281_14 (hy := hy)]
  refine kk_ch (c := 46) (by decide +kernel) (fun e => K1 46 (by omega) (by omega) e n46) (fun q => ?_)
  have n47 := kk_nst (d := 47) n46 q (by omega)
  clear q n46
  rw [r_281_15 (hy := hy)]
  exact K2 n47
end
