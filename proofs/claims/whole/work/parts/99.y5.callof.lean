/-! scripts: the reference's callOf -/
theorem kk_sc1 {c i : Int} (c0 : 0 ≤ c ∧ c < 47) (i0 : 0 ≤ i) (i1 : i < mm_sl (2 * c)) : 1 ≤ mm_sc (2 * c) i := by
  obtain ⟨w, hw⟩ : ∃ w, w = mm_words.getD (2 * c).toNat [] := ⟨_, rfl⟩
  have T := (kk_tb (2 * c).toNat (by omega)).2.2
  have e : mm_sl (2 * c) = (w.length : Int) := by rw [hw]; rfl
  have e2 : mm_sc (2 * c) i = w.getD i.toNat 0 := by rw [hw]; rfl
  rw [← hw] at T
  have l : i.toNat < w.length := by omega
  have m : w.getD i.toNat 0 ∈ w := by
    rw [List.getD_eq_getElem?_getD, List.getElem?_eq_getElem l]
    exact List.getElem_mem l
  rw [e2]
  exact (T _ m).1
section
variable {h : mm_Id → Int → Int} {dh : Int → Int} {nx ns : Int} {Q : mm_V → mm_H → Prop}
theorem m282 (hy : 5306 ≤ nx) {a b : Int} (ha : h (40, 0, 0) 44 = a) (hb : h (40, 0, 0) 45 = b) (h0 : 0 ≤ a ∧ a ≤ b ∧ b ≤ 8000) (hr : ∀ i, a ≤ i → i < b → -128 ≤ h (67, 0, 0) i ∧ h (67, 0, 0) i < 128)
    (K1 : ∀ c : Int, 0 ≤ c → c < 47 → kk_isw (h (67, 0, 0)) a b (2 * c) → (∀ e : Int, 0 ≤ e → e < c → ¬ kk_isw (h (67, 0, 0)) a b (2 * e)) → Q (zI c) (mm_z h dh nx ns)) (K2 : (∀ e : Int, 0 ≤ e → e < 47 → ¬ kk_isw (h (67, 0, 0)) a b (2 * e)) → Q (zI (-1)) (mm_z h dh nx ns)) :
    mm_Cl 282 [zR (40, 0, 0)] (mm_z h dh nx ns) Q := by
  have Z : (∀ e : Int, 0 ≤ e → e < 47 → ¬ kk_isw (h (67, 0, 0)) a b (2 * e)) → ∀ (x1 : Int) (d : Nat) (i : Int), b - i = d → 0 ≤ i → mm_Wp 282 (mm_blk 282 3) [zR (40, 0, 0), zI x1, zI 1, zI i, zU, zU, zU, zU] [] (mm_z h dh nx ns) Q := by
    intro n x1 d
    induction d with
    | zero =>
      intro i e1 e2
      rw [r_282_3 (hy := hy), hb, if_neg (by omega), if_neg (by omega)]
      exact K2 n
    | succ d ih =>
      intro i e1 e2
      rw [r_282_3 (hy := hy), hb, if_pos (by omega), if_neg (by omega), r_282_4 (hy := hy), r_282_6 (hy := hy), mm_wi (by omega) (by omega)]
      exact ih (i + 1) (by omega) (by omega)
  have F : b - a ≤ 16 → (∀ i, a ≤ i → i < b → h (67, 0, 0) i ≠ 0) → ∀ (p r : Nat), (p ≤ 8 ∧ r ≤ 8 ∧ (p : Int) + r = b - a ∧ (p = 8 ∨ r = 0)) → ∀ x y : Int, x = mm_W (kk_pk (h (67, 0, 0)) a p) → y = mm_W (kk_pk (h (67, 0, 0)) (a + 8) r) → mm_Wp 282 (mm_blk 282 12) [zR (40, 0, 0), zI (b - a), zI 0, zL x, zU, zU, zU, zU] [zL y] (mm_z h dh nx ns) Q := by
    intro q1 q2 p r hp x y hx hy2
    have M : ∀ c : Int, 0 ≤ c → c < 47 → ((x, y) = kk_nmv c ↔ kk_isw (h (67, 0, 0)) a b (2 * c)) := fun c c0 c1 => by
      rw [hx, hy2]
      exact kk_iswn ⟨c0, c1⟩ ⟨by omega, q1⟩ (fun i i0 i1 => ⟨q2 i i0 i1, hr i i0 i1⟩) hp
    have J : ∀ c : Int, 0 ≤ c → c < 47 → (x, y) = kk_nmv c → (∀ e : Int, 0 ≤ e → e < c → (x, y) ≠ kk_nmv e) → Q (zI c) (mm_z h dh nx ns) := fun c c0 c1 q n => K1 c c0 c1 ((M c c0 c1).1 q) (fun e e0 e1 k => n e e0 e1 ((M e e0 (by omega)).2 k))
    rw [r_282_12 (hy := hy)]
    refine m279 hy (fun c c0 c1 q n => ?_) (fun n1 => ?_)
    · show mm_Wp 282 (bk_282_12.drop 4) [zR (40, 0, 0), zI (b - a), zI 0, zL x, zU, zL y, zU, zU] [zI c] (mm_z h dh nx ns) Q
      rw [r_282_12_4 (hy := hy), if_neg (by omega), r_282_14 (hy := hy), if_neg (by omega), r_282_16 (hy := hy)]
      exact J c c0 (by omega) q n
    · show mm_Wp 282 (bk_282_12.drop 4) [zR (40, 0, 0), zI (b - a), zI 0, zL x, zU, zL y, zU, zU] [zI (-1)] (mm_z h dh nx ns) Q
      rw [r_282_12_4 (hy := hy), if_pos (by omega)]
      refine m280 hy (fun c c0 c1 q n => ?_) (fun n2 => ?_)
      · show mm_Wp 282 (bk_282_12.drop 10) [zR (40, 0, 0), zI (b - a), zI 0, zL x, zU, zL y, zU, zI (-1)] [zI c] (mm_z h dh nx ns) Q
        rw [r_282_12_10 (hy := hy), r_282_14 (hy := hy), if_neg (by omega), r_282_16 (hy := hy)]
        exact J c (by omega) (by omega) q (fun e e0 e1 => by
          by_cases w : e < 16
          · exact n1 e e0 w
          · exact n e (by omega) e1)
      · show mm_Wp 282 (bk_282_12.drop 10) [zR (40, 0, 0), zI (b - a), zI 0, zL x, zU, zL y, zU, zI (-1)] [zI (-1)] (mm_z h dh nx ns) Q
        rw [r_282_12_10 (hy := hy), r_282_14 (hy := hy), if_pos (by omega)]
        refine m281 hy (fun c c0 c1 q n => ?_) (fun n3 => ?_)
        · show mm_Wp 282 (bk_282_14.drop 6) [zR (40, 0, 0), zI (b - a), zI 0, zL x, zU, zL y, zU, zI (-1)] [zI c] (mm_z h dh nx ns) Q
          rw [r_282_14_6 (hy := hy), r_282_16 (hy := hy)]
          exact J c (by omega) (by omega) q (fun e e0 e1 => by
            by_cases w : e < 16
            · exact n1 e e0 w
            · by_cases w2 : e < 32
              · exact n2 e (by omega) w2
              · exact n e (by omega) e1)
        · show mm_Wp 282 (bk_282_14.drop 6) [zR (40, 0, 0), zI (b - a), zI 0, zL x, zU, zL y, zU, zI (-1)] [zI (-1)] (mm_z h dh nx ns) Q
          rw [r_282_14_6 (hy := hy), r_282_16 (hy := hy)]
          exact K2 (fun e e0 e1 k => by
            have k2 := (M e e0 e1).2 k
            by_cases w : e < 16
            · exact n1 e e0 w k2
            · by_cases w2 : e < 32
              · exact n2 e (by omega) w2 k2
              · exact n3 e (by omega) e1 k2)
  have L : b - a ≤ 16 → ∀ (d : Nat) (i : Int), b - i = d → a ≤ i → (∀ j, a ≤ j → j < i → h (67, 0, 0) j ≠ 0) → mm_Wp 282 (mm_blk 282 3) [zR (40, 0, 0), zI (b - a), zI 0, zI i, zU, zU, zU, zU] [] (mm_z h dh nx ns) Q := by
    intro q d
    induction d with
    | zero =>
      intro i e1 e2 e3
      rw [r_282_3 (hy := hy), hb, ha, if_neg (by omega), if_pos rfl]
      by_cases c : 8 < b - a
      · rw [if_pos c, r_282_10 (hy := hy), mm_wi (by omega) (by omega)]
        refine m278 hy (by omega) ?_
        show mm_Wp 282 (bk_282_10.drop 1) [zR (40, 0, 0), zI (b - a), zI 0, zI i, zU, zU, zU, zU] [zL _] (mm_z h dh nx ns) Q
        rw [r_282_10_1 (hvx2 := rfl) (hy := hy), if_pos c, hb, ha, mm_wi (by omega) (by omega)]
        refine m278 hy (by omega) ?_
        show mm_Wp 282 (bk_282_10.drop 13) [zR (40, 0, 0), zI (b - a), zI 0, zL _, zU, zU, zU, zU] [zL _] (mm_z h dh nx ns) Q
        rw [r_282_10_13 (hy := hy)]
        exact F q (fun j j0 j1 => e3 j j0 (by omega)) 8 (b - (a + 8)).toNat ⟨by omega, by omega, by omega, Or.inl rfl⟩ _ _ (by rw [show (a + 8 - a).toNat = 8 by omega]) rfl
      · rw [if_neg c, r_282_10 (hy := hy)]
        refine m278 hy (by omega) ?_
        show mm_Wp 282 (bk_282_10.drop 1) [zR (40, 0, 0), zI (b - a), zI 0, zI i, zU, zU, zU, zU] [zL _] (mm_z h dh nx ns) Q
        rw [r_282_10_1 (hvx2 := rfl) (hy := hy), if_neg c]
        exact F q (fun j j0 j1 => e3 j j0 (by omega)) (b - a).toNat 0 ⟨by omega, by omega, by omega, Or.inr rfl⟩ _ _ rfl rfl
    | succ d ih =>
      intro i e1 e2 e3
      rw [r_282_3 (hy := hy), hb, if_pos (by omega), if_pos rfl]
      refine ⟨by omega, ?_⟩
      by_cases c : h (67, 0, 0) i = 0
      · rw [if_pos c, r_282_4 (hy := hy), r_282_6 (hy := hy), mm_wi (by omega) (by omega)]
        exact Z (fun e e0 e4 k => by
          have z := k.2 (i - a) (by omega) (by have := k.1; omega)
          have w := kk_sc1 (c := e) (i := i - a) ⟨e0, e4⟩ (by omega) (by have := k.1; omega)
          rw [show a + (i - a) = i by omega] at z
          omega) _ d (i + 1) (by omega) (by omega)
      · rw [if_neg c, r_282_6 (hy := hy), mm_wi (by omega) (by omega)]
        exact ih (i + 1) (by omega) (by omega) (fun j j0 j1 => by
          by_cases w : j = i
          · rw [w]; exact c
          · exact e3 j j0 (by omega))
  rw [r_282_e (hy := hy), ha, hb, mm_wi (by omega) (by omega)]
  by_cases c : 16 < b - a
  · rw [if_pos c, r_282_2 (hy := hy), ha]
    exact Z (fun e e0 e4 k => by
      have z := (kk_slb (t := 2 * e) ⟨by omega, by omega⟩).2.2
      have w := k.1
      omega) _ (b - a).toNat a (by omega) (by omega)
  · rw [if_neg c, r_282_2 (hy := hy), ha]
    exact L (by omega) (b - a).toNat a (by omega) (by omega) (fun j j0 j1 => by omega)
end
