/-! the law's rows and the turn's are its bytes' -/
theorem mm_pc {T : Type} {l : List T} {f : T → Bool} (a k : Nat) (h : ((l.drop a).take k).all f = true) {j : Nat} {q : T} (h1 : a ≤ j) (h2 : j < a + k) (hq : l[j]? = some q) : f q = true := by
  rw [List.all_eq_true] at h
  refine h q (List.mem_of_getElem? (i := j - a) ?_)
  rw [List.getElem?_take, if_pos (by omega), List.getElem?_drop, show a + (j - a) = j by omega]
  exact hq
theorem mm_okc297_0 : (((mm_code.getD 297 []).drop 0).take 1).all (fun q => mm_chk 297 q.1 q.2) = true := by decide +kernel
theorem mm_okc297_1 : (((mm_code.getD 297 []).drop 1).take 1).all (fun q => mm_chk 297 q.1 q.2) = true := by decide +kernel
theorem mm_okc297_2 : (((mm_code.getD 297 []).drop 2).take 1).all (fun q => mm_chk 297 q.1 q.2) = true := by decide +kernel
theorem mm_okc297_3 : (((mm_code.getD 297 []).drop 3).take 1).all (fun q => mm_chk 297 q.1 q.2) = true := by decide +kernel
theorem mm_okc297_4 : (((mm_code.getD 297 []).drop 4).take 1).all (fun q => mm_chk 297 q.1 q.2) = true := by decide +kernel
theorem mm_okc297_5 : (((mm_code.getD 297 []).drop 5).take 1).all (fun q => mm_chk 297 q.1 q.2) = true := by decide +kernel
theorem mm_okc297_6 : (((mm_code.getD 297 []).drop 6).take 1).all (fun q => mm_chk 297 q.1 q.2) = true := by decide +kernel
theorem mm_okc297_7 : (((mm_code.getD 297 []).drop 7).take 1).all (fun q => mm_chk 297 q.1 q.2) = true := by decide +kernel
theorem mm_okc297_8 : (((mm_code.getD 297 []).drop 8).take 1).all (fun q => mm_chk 297 q.1 q.2) = true := by decide +kernel
theorem mm_okc297_9 : (((mm_code.getD 297 []).drop 9).take 1).all (fun q => mm_chk 297 q.1 q.2) = true := by decide +kernel
theorem mm_okc297_10 : (((mm_code.getD 297 []).drop 10).take 1).all (fun q => mm_chk 297 q.1 q.2) = true := by decide +kernel
theorem mm_okc297_11 : (((mm_code.getD 297 []).drop 11).take 1).all (fun q => mm_chk 297 q.1 q.2) = true := by decide +kernel
theorem mm_okc297_12 : (((mm_code.getD 297 []).drop 12).take 1).all (fun q => mm_chk 297 q.1 q.2) = true := by decide +kernel
theorem mm_okc297_13 : (((mm_code.getD 297 []).drop 13).take 1).all (fun q => mm_chk 297 q.1 q.2) = true := by decide +kernel
theorem mm_okc297_14 : (((mm_code.getD 297 []).drop 14).take 1).all (fun q => mm_chk 297 q.1 q.2) = true := by decide +kernel
theorem mm_okc297_15 : (((mm_code.getD 297 []).drop 15).take 1).all (fun q => mm_chk 297 q.1 q.2) = true := by decide +kernel
theorem mm_okc297_16 : (((mm_code.getD 297 []).drop 16).take 1).all (fun q => mm_chk 297 q.1 q.2) = true := by decide +kernel
theorem mm_okc297_17 : (((mm_code.getD 297 []).drop 17).take 1).all (fun q => mm_chk 297 q.1 q.2) = true := by decide +kernel
theorem mm_okc297_18 : (((mm_code.getD 297 []).drop 18).take 1).all (fun q => mm_chk 297 q.1 q.2) = true := by decide +kernel
theorem mm_okc297_19 : (((mm_code.getD 297 []).drop 19).take 1).all (fun q => mm_chk 297 q.1 q.2) = true := by decide +kernel
theorem mm_okc297_20 : (((mm_code.getD 297 []).drop 20).take 1).all (fun q => mm_chk 297 q.1 q.2) = true := by decide +kernel
theorem mm_okc297_21 : (((mm_code.getD 297 []).drop 21).take 1).all (fun q => mm_chk 297 q.1 q.2) = true := by decide +kernel
theorem mm_okc297_22 : (((mm_code.getD 297 []).drop 22).take 1).all (fun q => mm_chk 297 q.1 q.2) = true := by decide +kernel
theorem mm_okc297_23 : (((mm_code.getD 297 []).drop 23).take 1).all (fun q => mm_chk 297 q.1 q.2) = true := by decide +kernel
theorem mm_okc297_24 : (((mm_code.getD 297 []).drop 24).take 1).all (fun q => mm_chk 297 q.1 q.2) = true := by decide +kernel
theorem mm_okc297_25 : (((mm_code.getD 297 []).drop 25).take 1).all (fun q => mm_chk 297 q.1 q.2) = true := by decide +kernel
theorem mm_okc297_26 : (((mm_code.getD 297 []).drop 26).take 1).all (fun q => mm_chk 297 q.1 q.2) = true := by decide +kernel
theorem mm_okc297_27 : (((mm_code.getD 297 []).drop 27).take 1).all (fun q => mm_chk 297 q.1 q.2) = true := by decide +kernel
theorem mm_okc297_28 : (((mm_code.getD 297 []).drop 28).take 1).all (fun q => mm_chk 297 q.1 q.2) = true := by decide +kernel
theorem mm_okc297_29 : (((mm_code.getD 297 []).drop 29).take 1).all (fun q => mm_chk 297 q.1 q.2) = true := by decide +kernel
theorem mm_okc297_30 : (((mm_code.getD 297 []).drop 30).take 1).all (fun q => mm_chk 297 q.1 q.2) = true := by decide +kernel
theorem mm_okc297_31 : (((mm_code.getD 297 []).drop 31).take 1).all (fun q => mm_chk 297 q.1 q.2) = true := by decide +kernel
theorem mm_okc297_32 : (((mm_code.getD 297 []).drop 32).take 1).all (fun q => mm_chk 297 q.1 q.2) = true := by decide +kernel
theorem mm_okc297_33 : (((mm_code.getD 297 []).drop 33).take 1).all (fun q => mm_chk 297 q.1 q.2) = true := by decide +kernel
theorem mm_okc297_34 : (((mm_code.getD 297 []).drop 34).take 1).all (fun q => mm_chk 297 q.1 q.2) = true := by decide +kernel
theorem mm_okc297_35 : (((mm_code.getD 297 []).drop 35).take 1).all (fun q => mm_chk 297 q.1 q.2) = true := by decide +kernel
theorem mm_okc297_36 : (((mm_code.getD 297 []).drop 36).take 1).all (fun q => mm_chk 297 q.1 q.2) = true := by decide +kernel
theorem mm_okc297_37 : (((mm_code.getD 297 []).drop 37).take 1).all (fun q => mm_chk 297 q.1 q.2) = true := by decide +kernel
theorem mm_okc297_38 : (((mm_code.getD 297 []).drop 38).take 1).all (fun q => mm_chk 297 q.1 q.2) = true := by decide +kernel
theorem mm_okc297_39 : (((mm_code.getD 297 []).drop 39).take 1).all (fun q => mm_chk 297 q.1 q.2) = true := by decide +kernel
theorem mm_okc297_40 : (((mm_code.getD 297 []).drop 40).take 1).all (fun q => mm_chk 297 q.1 q.2) = true := by decide +kernel
theorem mm_okc297_41 : (((mm_code.getD 297 []).drop 41).take 1).all (fun q => mm_chk 297 q.1 q.2) = true := by decide +kernel
theorem mm_okc297_42 : (((mm_code.getD 297 []).drop 42).take 1).all (fun q => mm_chk 297 q.1 q.2) = true := by decide +kernel
theorem mm_okc297_43 : (((mm_code.getD 297 []).drop 43).take 1).all (fun q => mm_chk 297 q.1 q.2) = true := by decide +kernel
theorem mm_okc297_44 : (((mm_code.getD 297 []).drop 44).take 1).all (fun q => mm_chk 297 q.1 q.2) = true := by decide +kernel
theorem mm_okc297_45 : (((mm_code.getD 297 []).drop 45).take 1).all (fun q => mm_chk 297 q.1 q.2) = true := by decide +kernel
theorem mm_okc297_46 : (((mm_code.getD 297 []).drop 46).take 1).all (fun q => mm_chk 297 q.1 q.2) = true := by decide +kernel
theorem mm_okc297_47 : (((mm_code.getD 297 []).drop 47).take 1).all (fun q => mm_chk 297 q.1 q.2) = true := by decide +kernel
set_option maxRecDepth 20000 in
theorem mm_okq297 : mm_okM 297 = true := by
  unfold mm_okM
  rw [List.all_eq_true]
  intro q hq
  obtain ⟨j, hj⟩ := List.mem_iff_getElem?.mp hq
  have hl : j < 48 := by
    have a := (List.getElem?_eq_some_iff.mp hj).1
    have e : (mm_code.getD 297 []).length = 48 := by decide +kernel
    omega
  by_cases c0 : j < 1
  · exact mm_pc (T := Nat × List mm_I) (l := mm_code.getD 297 []) (f := fun q : Nat × List mm_I => mm_chk 297 q.1 q.2) 0 1 mm_okc297_0 (by omega) (by omega) hj
  by_cases c1 : j < 2
  · exact mm_pc (T := Nat × List mm_I) (l := mm_code.getD 297 []) (f := fun q : Nat × List mm_I => mm_chk 297 q.1 q.2) 1 1 mm_okc297_1 (by omega) (by omega) hj
  by_cases c2 : j < 3
  · exact mm_pc (T := Nat × List mm_I) (l := mm_code.getD 297 []) (f := fun q : Nat × List mm_I => mm_chk 297 q.1 q.2) 2 1 mm_okc297_2 (by omega) (by omega) hj
  by_cases c3 : j < 4
  · exact mm_pc (T := Nat × List mm_I) (l := mm_code.getD 297 []) (f := fun q : Nat × List mm_I => mm_chk 297 q.1 q.2) 3 1 mm_okc297_3 (by omega) (by omega) hj
  by_cases c4 : j < 5
  · exact mm_pc (T := Nat × List mm_I) (l := mm_code.getD 297 []) (f := fun q : Nat × List mm_I => mm_chk 297 q.1 q.2) 4 1 mm_okc297_4 (by omega) (by omega) hj
  by_cases c5 : j < 6
  · exact mm_pc (T := Nat × List mm_I) (l := mm_code.getD 297 []) (f := fun q : Nat × List mm_I => mm_chk 297 q.1 q.2) 5 1 mm_okc297_5 (by omega) (by omega) hj
  by_cases c6 : j < 7
  · exact mm_pc (T := Nat × List mm_I) (l := mm_code.getD 297 []) (f := fun q : Nat × List mm_I => mm_chk 297 q.1 q.2) 6 1 mm_okc297_6 (by omega) (by omega) hj
  by_cases c7 : j < 8
  · exact mm_pc (T := Nat × List mm_I) (l := mm_code.getD 297 []) (f := fun q : Nat × List mm_I => mm_chk 297 q.1 q.2) 7 1 mm_okc297_7 (by omega) (by omega) hj
  by_cases c8 : j < 9
  · exact mm_pc (T := Nat × List mm_I) (l := mm_code.getD 297 []) (f := fun q : Nat × List mm_I => mm_chk 297 q.1 q.2) 8 1 mm_okc297_8 (by omega) (by omega) hj
  by_cases c9 : j < 10
  · exact mm_pc (T := Nat × List mm_I) (l := mm_code.getD 297 []) (f := fun q : Nat × List mm_I => mm_chk 297 q.1 q.2) 9 1 mm_okc297_9 (by omega) (by omega) hj
  by_cases c10 : j < 11
  · exact mm_pc (T := Nat × List mm_I) (l := mm_code.getD 297 []) (f := fun q : Nat × List mm_I => mm_chk 297 q.1 q.2) 10 1 mm_okc297_10 (by omega) (by omega) hj
  by_cases c11 : j < 12
  · exact mm_pc (T := Nat × List mm_I) (l := mm_code.getD 297 []) (f := fun q : Nat × List mm_I => mm_chk 297 q.1 q.2) 11 1 mm_okc297_11 (by omega) (by omega) hj
  by_cases c12 : j < 13
  · exact mm_pc (T := Nat × List mm_I) (l := mm_code.getD 297 []) (f := fun q : Nat × List mm_I => mm_chk 297 q.1 q.2) 12 1 mm_okc297_12 (by omega) (by omega) hj
  by_cases c13 : j < 14
  · exact mm_pc (T := Nat × List mm_I) (l := mm_code.getD 297 []) (f := fun q : Nat × List mm_I => mm_chk 297 q.1 q.2) 13 1 mm_okc297_13 (by omega) (by omega) hj
  by_cases c14 : j < 15
  · exact mm_pc (T := Nat × List mm_I) (l := mm_code.getD 297 []) (f := fun q : Nat × List mm_I => mm_chk 297 q.1 q.2) 14 1 mm_okc297_14 (by omega) (by omega) hj
  by_cases c15 : j < 16
  · exact mm_pc (T := Nat × List mm_I) (l := mm_code.getD 297 []) (f := fun q : Nat × List mm_I => mm_chk 297 q.1 q.2) 15 1 mm_okc297_15 (by omega) (by omega) hj
  by_cases c16 : j < 17
  · exact mm_pc (T := Nat × List mm_I) (l := mm_code.getD 297 []) (f := fun q : Nat × List mm_I => mm_chk 297 q.1 q.2) 16 1 mm_okc297_16 (by omega) (by omega) hj
  by_cases c17 : j < 18
  · exact mm_pc (T := Nat × List mm_I) (l := mm_code.getD 297 []) (f := fun q : Nat × List mm_I => mm_chk 297 q.1 q.2) 17 1 mm_okc297_17 (by omega) (by omega) hj
  by_cases c18 : j < 19
  · exact mm_pc (T := Nat × List mm_I) (l := mm_code.getD 297 []) (f := fun q : Nat × List mm_I => mm_chk 297 q.1 q.2) 18 1 mm_okc297_18 (by omega) (by omega) hj
  by_cases c19 : j < 20
  · exact mm_pc (T := Nat × List mm_I) (l := mm_code.getD 297 []) (f := fun q : Nat × List mm_I => mm_chk 297 q.1 q.2) 19 1 mm_okc297_19 (by omega) (by omega) hj
  by_cases c20 : j < 21
  · exact mm_pc (T := Nat × List mm_I) (l := mm_code.getD 297 []) (f := fun q : Nat × List mm_I => mm_chk 297 q.1 q.2) 20 1 mm_okc297_20 (by omega) (by omega) hj
  by_cases c21 : j < 22
  · exact mm_pc (T := Nat × List mm_I) (l := mm_code.getD 297 []) (f := fun q : Nat × List mm_I => mm_chk 297 q.1 q.2) 21 1 mm_okc297_21 (by omega) (by omega) hj
  by_cases c22 : j < 23
  · exact mm_pc (T := Nat × List mm_I) (l := mm_code.getD 297 []) (f := fun q : Nat × List mm_I => mm_chk 297 q.1 q.2) 22 1 mm_okc297_22 (by omega) (by omega) hj
  by_cases c23 : j < 24
  · exact mm_pc (T := Nat × List mm_I) (l := mm_code.getD 297 []) (f := fun q : Nat × List mm_I => mm_chk 297 q.1 q.2) 23 1 mm_okc297_23 (by omega) (by omega) hj
  by_cases c24 : j < 25
  · exact mm_pc (T := Nat × List mm_I) (l := mm_code.getD 297 []) (f := fun q : Nat × List mm_I => mm_chk 297 q.1 q.2) 24 1 mm_okc297_24 (by omega) (by omega) hj
  by_cases c25 : j < 26
  · exact mm_pc (T := Nat × List mm_I) (l := mm_code.getD 297 []) (f := fun q : Nat × List mm_I => mm_chk 297 q.1 q.2) 25 1 mm_okc297_25 (by omega) (by omega) hj
  by_cases c26 : j < 27
  · exact mm_pc (T := Nat × List mm_I) (l := mm_code.getD 297 []) (f := fun q : Nat × List mm_I => mm_chk 297 q.1 q.2) 26 1 mm_okc297_26 (by omega) (by omega) hj
  by_cases c27 : j < 28
  · exact mm_pc (T := Nat × List mm_I) (l := mm_code.getD 297 []) (f := fun q : Nat × List mm_I => mm_chk 297 q.1 q.2) 27 1 mm_okc297_27 (by omega) (by omega) hj
  by_cases c28 : j < 29
  · exact mm_pc (T := Nat × List mm_I) (l := mm_code.getD 297 []) (f := fun q : Nat × List mm_I => mm_chk 297 q.1 q.2) 28 1 mm_okc297_28 (by omega) (by omega) hj
  by_cases c29 : j < 30
  · exact mm_pc (T := Nat × List mm_I) (l := mm_code.getD 297 []) (f := fun q : Nat × List mm_I => mm_chk 297 q.1 q.2) 29 1 mm_okc297_29 (by omega) (by omega) hj
  by_cases c30 : j < 31
  · exact mm_pc (T := Nat × List mm_I) (l := mm_code.getD 297 []) (f := fun q : Nat × List mm_I => mm_chk 297 q.1 q.2) 30 1 mm_okc297_30 (by omega) (by omega) hj
  by_cases c31 : j < 32
  · exact mm_pc (T := Nat × List mm_I) (l := mm_code.getD 297 []) (f := fun q : Nat × List mm_I => mm_chk 297 q.1 q.2) 31 1 mm_okc297_31 (by omega) (by omega) hj
  by_cases c32 : j < 33
  · exact mm_pc (T := Nat × List mm_I) (l := mm_code.getD 297 []) (f := fun q : Nat × List mm_I => mm_chk 297 q.1 q.2) 32 1 mm_okc297_32 (by omega) (by omega) hj
  by_cases c33 : j < 34
  · exact mm_pc (T := Nat × List mm_I) (l := mm_code.getD 297 []) (f := fun q : Nat × List mm_I => mm_chk 297 q.1 q.2) 33 1 mm_okc297_33 (by omega) (by omega) hj
  by_cases c34 : j < 35
  · exact mm_pc (T := Nat × List mm_I) (l := mm_code.getD 297 []) (f := fun q : Nat × List mm_I => mm_chk 297 q.1 q.2) 34 1 mm_okc297_34 (by omega) (by omega) hj
  by_cases c35 : j < 36
  · exact mm_pc (T := Nat × List mm_I) (l := mm_code.getD 297 []) (f := fun q : Nat × List mm_I => mm_chk 297 q.1 q.2) 35 1 mm_okc297_35 (by omega) (by omega) hj
  by_cases c36 : j < 37
  · exact mm_pc (T := Nat × List mm_I) (l := mm_code.getD 297 []) (f := fun q : Nat × List mm_I => mm_chk 297 q.1 q.2) 36 1 mm_okc297_36 (by omega) (by omega) hj
  by_cases c37 : j < 38
  · exact mm_pc (T := Nat × List mm_I) (l := mm_code.getD 297 []) (f := fun q : Nat × List mm_I => mm_chk 297 q.1 q.2) 37 1 mm_okc297_37 (by omega) (by omega) hj
  by_cases c38 : j < 39
  · exact mm_pc (T := Nat × List mm_I) (l := mm_code.getD 297 []) (f := fun q : Nat × List mm_I => mm_chk 297 q.1 q.2) 38 1 mm_okc297_38 (by omega) (by omega) hj
  by_cases c39 : j < 40
  · exact mm_pc (T := Nat × List mm_I) (l := mm_code.getD 297 []) (f := fun q : Nat × List mm_I => mm_chk 297 q.1 q.2) 39 1 mm_okc297_39 (by omega) (by omega) hj
  by_cases c40 : j < 41
  · exact mm_pc (T := Nat × List mm_I) (l := mm_code.getD 297 []) (f := fun q : Nat × List mm_I => mm_chk 297 q.1 q.2) 40 1 mm_okc297_40 (by omega) (by omega) hj
  by_cases c41 : j < 42
  · exact mm_pc (T := Nat × List mm_I) (l := mm_code.getD 297 []) (f := fun q : Nat × List mm_I => mm_chk 297 q.1 q.2) 41 1 mm_okc297_41 (by omega) (by omega) hj
  by_cases c42 : j < 43
  · exact mm_pc (T := Nat × List mm_I) (l := mm_code.getD 297 []) (f := fun q : Nat × List mm_I => mm_chk 297 q.1 q.2) 42 1 mm_okc297_42 (by omega) (by omega) hj
  by_cases c43 : j < 44
  · exact mm_pc (T := Nat × List mm_I) (l := mm_code.getD 297 []) (f := fun q : Nat × List mm_I => mm_chk 297 q.1 q.2) 43 1 mm_okc297_43 (by omega) (by omega) hj
  by_cases c44 : j < 45
  · exact mm_pc (T := Nat × List mm_I) (l := mm_code.getD 297 []) (f := fun q : Nat × List mm_I => mm_chk 297 q.1 q.2) 44 1 mm_okc297_44 (by omega) (by omega) hj
  by_cases c45 : j < 46
  · exact mm_pc (T := Nat × List mm_I) (l := mm_code.getD 297 []) (f := fun q : Nat × List mm_I => mm_chk 297 q.1 q.2) 45 1 mm_okc297_45 (by omega) (by omega) hj
  by_cases c46 : j < 47
  · exact mm_pc (T := Nat × List mm_I) (l := mm_code.getD 297 []) (f := fun q : Nat × List mm_I => mm_chk 297 q.1 q.2) 46 1 mm_okc297_46 (by omega) (by omega) hj
  exact mm_pc (T := Nat × List mm_I) (l := mm_code.getD 297 []) (f := fun q : Nat × List mm_I => mm_chk 297 q.1 q.2) 47 1 mm_okc297_47 (by omega) (by omega) hj
theorem mm_okc307_0 : (((mm_code.getD 307 []).drop 0).take 1).all (fun q => mm_chk 307 q.1 q.2) = true := by decide +kernel
theorem mm_okc307_1 : (((mm_code.getD 307 []).drop 1).take 1).all (fun q => mm_chk 307 q.1 q.2) = true := by decide +kernel
theorem mm_okc307_2 : (((mm_code.getD 307 []).drop 2).take 1).all (fun q => mm_chk 307 q.1 q.2) = true := by decide +kernel
theorem mm_okc307_3 : (((mm_code.getD 307 []).drop 3).take 1).all (fun q => mm_chk 307 q.1 q.2) = true := by decide +kernel
theorem mm_okc307_4 : (((mm_code.getD 307 []).drop 4).take 1).all (fun q => mm_chk 307 q.1 q.2) = true := by decide +kernel
theorem mm_okc307_5 : (((mm_code.getD 307 []).drop 5).take 1).all (fun q => mm_chk 307 q.1 q.2) = true := by decide +kernel
theorem mm_okc307_6 : (((mm_code.getD 307 []).drop 6).take 1).all (fun q => mm_chk 307 q.1 q.2) = true := by decide +kernel
theorem mm_okc307_7 : (((mm_code.getD 307 []).drop 7).take 1).all (fun q => mm_chk 307 q.1 q.2) = true := by decide +kernel
theorem mm_okc307_8 : (((mm_code.getD 307 []).drop 8).take 1).all (fun q => mm_chk 307 q.1 q.2) = true := by decide +kernel
theorem mm_okc307_9 : (((mm_code.getD 307 []).drop 9).take 1).all (fun q => mm_chk 307 q.1 q.2) = true := by decide +kernel
theorem mm_okc307_10 : (((mm_code.getD 307 []).drop 10).take 1).all (fun q => mm_chk 307 q.1 q.2) = true := by decide +kernel
theorem mm_okc307_11 : (((mm_code.getD 307 []).drop 11).take 1).all (fun q => mm_chk 307 q.1 q.2) = true := by decide +kernel
theorem mm_okc307_12 : (((mm_code.getD 307 []).drop 12).take 1).all (fun q => mm_chk 307 q.1 q.2) = true := by decide +kernel
theorem mm_okc307_13 : (((mm_code.getD 307 []).drop 13).take 1).all (fun q => mm_chk 307 q.1 q.2) = true := by decide +kernel
theorem mm_okc307_14 : (((mm_code.getD 307 []).drop 14).take 1).all (fun q => mm_chk 307 q.1 q.2) = true := by decide +kernel
theorem mm_okc307_15 : (((mm_code.getD 307 []).drop 15).take 1).all (fun q => mm_chk 307 q.1 q.2) = true := by decide +kernel
theorem mm_okc307_16 : (((mm_code.getD 307 []).drop 16).take 1).all (fun q => mm_chk 307 q.1 q.2) = true := by decide +kernel
theorem mm_okc307_17 : (((mm_code.getD 307 []).drop 17).take 1).all (fun q => mm_chk 307 q.1 q.2) = true := by decide +kernel
theorem mm_okc307_18 : (((mm_code.getD 307 []).drop 18).take 1).all (fun q => mm_chk 307 q.1 q.2) = true := by decide +kernel
theorem mm_okc307_19 : (((mm_code.getD 307 []).drop 19).take 1).all (fun q => mm_chk 307 q.1 q.2) = true := by decide +kernel
theorem mm_okc307_20 : (((mm_code.getD 307 []).drop 20).take 1).all (fun q => mm_chk 307 q.1 q.2) = true := by decide +kernel
theorem mm_okc307_21 : (((mm_code.getD 307 []).drop 21).take 1).all (fun q => mm_chk 307 q.1 q.2) = true := by decide +kernel
theorem mm_okc307_22 : (((mm_code.getD 307 []).drop 22).take 1).all (fun q => mm_chk 307 q.1 q.2) = true := by decide +kernel
theorem mm_okc307_23 : (((mm_code.getD 307 []).drop 23).take 1).all (fun q => mm_chk 307 q.1 q.2) = true := by decide +kernel
theorem mm_okc307_24 : (((mm_code.getD 307 []).drop 24).take 1).all (fun q => mm_chk 307 q.1 q.2) = true := by decide +kernel
theorem mm_okc307_25 : (((mm_code.getD 307 []).drop 25).take 1).all (fun q => mm_chk 307 q.1 q.2) = true := by decide +kernel
theorem mm_okc307_26 : (((mm_code.getD 307 []).drop 26).take 1).all (fun q => mm_chk 307 q.1 q.2) = true := by decide +kernel
theorem mm_okc307_27 : (((mm_code.getD 307 []).drop 27).take 1).all (fun q => mm_chk 307 q.1 q.2) = true := by decide +kernel
set_option maxRecDepth 20000 in
theorem mm_okq307 : mm_okM 307 = true := by
  unfold mm_okM
  rw [List.all_eq_true]
  intro q hq
  obtain ⟨j, hj⟩ := List.mem_iff_getElem?.mp hq
  have hl : j < 28 := by
    have a := (List.getElem?_eq_some_iff.mp hj).1
    have e : (mm_code.getD 307 []).length = 28 := by decide +kernel
    omega
  by_cases c0 : j < 1
  · exact mm_pc (T := Nat × List mm_I) (l := mm_code.getD 307 []) (f := fun q : Nat × List mm_I => mm_chk 307 q.1 q.2) 0 1 mm_okc307_0 (by omega) (by omega) hj
  by_cases c1 : j < 2
  · exact mm_pc (T := Nat × List mm_I) (l := mm_code.getD 307 []) (f := fun q : Nat × List mm_I => mm_chk 307 q.1 q.2) 1 1 mm_okc307_1 (by omega) (by omega) hj
  by_cases c2 : j < 3
  · exact mm_pc (T := Nat × List mm_I) (l := mm_code.getD 307 []) (f := fun q : Nat × List mm_I => mm_chk 307 q.1 q.2) 2 1 mm_okc307_2 (by omega) (by omega) hj
  by_cases c3 : j < 4
  · exact mm_pc (T := Nat × List mm_I) (l := mm_code.getD 307 []) (f := fun q : Nat × List mm_I => mm_chk 307 q.1 q.2) 3 1 mm_okc307_3 (by omega) (by omega) hj
  by_cases c4 : j < 5
  · exact mm_pc (T := Nat × List mm_I) (l := mm_code.getD 307 []) (f := fun q : Nat × List mm_I => mm_chk 307 q.1 q.2) 4 1 mm_okc307_4 (by omega) (by omega) hj
  by_cases c5 : j < 6
  · exact mm_pc (T := Nat × List mm_I) (l := mm_code.getD 307 []) (f := fun q : Nat × List mm_I => mm_chk 307 q.1 q.2) 5 1 mm_okc307_5 (by omega) (by omega) hj
  by_cases c6 : j < 7
  · exact mm_pc (T := Nat × List mm_I) (l := mm_code.getD 307 []) (f := fun q : Nat × List mm_I => mm_chk 307 q.1 q.2) 6 1 mm_okc307_6 (by omega) (by omega) hj
  by_cases c7 : j < 8
  · exact mm_pc (T := Nat × List mm_I) (l := mm_code.getD 307 []) (f := fun q : Nat × List mm_I => mm_chk 307 q.1 q.2) 7 1 mm_okc307_7 (by omega) (by omega) hj
  by_cases c8 : j < 9
  · exact mm_pc (T := Nat × List mm_I) (l := mm_code.getD 307 []) (f := fun q : Nat × List mm_I => mm_chk 307 q.1 q.2) 8 1 mm_okc307_8 (by omega) (by omega) hj
  by_cases c9 : j < 10
  · exact mm_pc (T := Nat × List mm_I) (l := mm_code.getD 307 []) (f := fun q : Nat × List mm_I => mm_chk 307 q.1 q.2) 9 1 mm_okc307_9 (by omega) (by omega) hj
  by_cases c10 : j < 11
  · exact mm_pc (T := Nat × List mm_I) (l := mm_code.getD 307 []) (f := fun q : Nat × List mm_I => mm_chk 307 q.1 q.2) 10 1 mm_okc307_10 (by omega) (by omega) hj
  by_cases c11 : j < 12
  · exact mm_pc (T := Nat × List mm_I) (l := mm_code.getD 307 []) (f := fun q : Nat × List mm_I => mm_chk 307 q.1 q.2) 11 1 mm_okc307_11 (by omega) (by omega) hj
  by_cases c12 : j < 13
  · exact mm_pc (T := Nat × List mm_I) (l := mm_code.getD 307 []) (f := fun q : Nat × List mm_I => mm_chk 307 q.1 q.2) 12 1 mm_okc307_12 (by omega) (by omega) hj
  by_cases c13 : j < 14
  · exact mm_pc (T := Nat × List mm_I) (l := mm_code.getD 307 []) (f := fun q : Nat × List mm_I => mm_chk 307 q.1 q.2) 13 1 mm_okc307_13 (by omega) (by omega) hj
  by_cases c14 : j < 15
  · exact mm_pc (T := Nat × List mm_I) (l := mm_code.getD 307 []) (f := fun q : Nat × List mm_I => mm_chk 307 q.1 q.2) 14 1 mm_okc307_14 (by omega) (by omega) hj
  by_cases c15 : j < 16
  · exact mm_pc (T := Nat × List mm_I) (l := mm_code.getD 307 []) (f := fun q : Nat × List mm_I => mm_chk 307 q.1 q.2) 15 1 mm_okc307_15 (by omega) (by omega) hj
  by_cases c16 : j < 17
  · exact mm_pc (T := Nat × List mm_I) (l := mm_code.getD 307 []) (f := fun q : Nat × List mm_I => mm_chk 307 q.1 q.2) 16 1 mm_okc307_16 (by omega) (by omega) hj
  by_cases c17 : j < 18
  · exact mm_pc (T := Nat × List mm_I) (l := mm_code.getD 307 []) (f := fun q : Nat × List mm_I => mm_chk 307 q.1 q.2) 17 1 mm_okc307_17 (by omega) (by omega) hj
  by_cases c18 : j < 19
  · exact mm_pc (T := Nat × List mm_I) (l := mm_code.getD 307 []) (f := fun q : Nat × List mm_I => mm_chk 307 q.1 q.2) 18 1 mm_okc307_18 (by omega) (by omega) hj
  by_cases c19 : j < 20
  · exact mm_pc (T := Nat × List mm_I) (l := mm_code.getD 307 []) (f := fun q : Nat × List mm_I => mm_chk 307 q.1 q.2) 19 1 mm_okc307_19 (by omega) (by omega) hj
  by_cases c20 : j < 21
  · exact mm_pc (T := Nat × List mm_I) (l := mm_code.getD 307 []) (f := fun q : Nat × List mm_I => mm_chk 307 q.1 q.2) 20 1 mm_okc307_20 (by omega) (by omega) hj
  by_cases c21 : j < 22
  · exact mm_pc (T := Nat × List mm_I) (l := mm_code.getD 307 []) (f := fun q : Nat × List mm_I => mm_chk 307 q.1 q.2) 21 1 mm_okc307_21 (by omega) (by omega) hj
  by_cases c22 : j < 23
  · exact mm_pc (T := Nat × List mm_I) (l := mm_code.getD 307 []) (f := fun q : Nat × List mm_I => mm_chk 307 q.1 q.2) 22 1 mm_okc307_22 (by omega) (by omega) hj
  by_cases c23 : j < 24
  · exact mm_pc (T := Nat × List mm_I) (l := mm_code.getD 307 []) (f := fun q : Nat × List mm_I => mm_chk 307 q.1 q.2) 23 1 mm_okc307_23 (by omega) (by omega) hj
  by_cases c24 : j < 25
  · exact mm_pc (T := Nat × List mm_I) (l := mm_code.getD 307 []) (f := fun q : Nat × List mm_I => mm_chk 307 q.1 q.2) 24 1 mm_okc307_24 (by omega) (by omega) hj
  by_cases c25 : j < 26
  · exact mm_pc (T := Nat × List mm_I) (l := mm_code.getD 307 []) (f := fun q : Nat × List mm_I => mm_chk 307 q.1 q.2) 25 1 mm_okc307_25 (by omega) (by omega) hj
  by_cases c26 : j < 27
  · exact mm_pc (T := Nat × List mm_I) (l := mm_code.getD 307 []) (f := fun q : Nat × List mm_I => mm_chk 307 q.1 q.2) 26 1 mm_okc307_26 (by omega) (by omega) hj
  exact mm_pc (T := Nat × List mm_I) (l := mm_code.getD 307 []) (f := fun q : Nat × List mm_I => mm_chk 307 q.1 q.2) 27 1 mm_okc307_27 (by omega) (by omega) hj
