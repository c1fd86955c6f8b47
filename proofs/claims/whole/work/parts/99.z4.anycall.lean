/-! scripts: any call of a line -/
section
variable {A B A2 B2 : mm_Id → Int → Int} {d d2 dm : Int → Int} {nx ns b b2 z n : Int} {G : mm_V → (mm_Id → Int → Int) → (Int → Int) → (mm_Id → Int → Int) → Prop} {KC KM : mm_V → mm_H → (mm_V → mm_H → Prop) → Prop}
theorem kk_doJ (hy : 5306 ≤ nx) {c m : Int} {u1 u2 u4 u6 u7 : mm_V} (hc : 0 ≤ c ∧ c < 47) (hm : m = mm_sl (2 * c + 1)) (l : kk_L b z n A B d) (hb : b + 1 ≤ 1000000) (gv : kk_gv c m A B)
    (K : ∀ v A2 d2 B2 v6 v7, (-9223372036854775808 ≤ v ∧ v < 9223372036854775808) → kk_L (b + 1) z n A2 B2 d2 → A2 (8, 0, 0) 10 = A (8, 0, 0) 10 → kk_J nx ns dm G (fun Q => KC (zL v) (mm_z A2 d2 nx ns) Q) (fun Q => mm_Wp 292 (mm_blk 292 10) [zR (40, 0, 0), u1, u2, zI c, u4, zI m, v6, v7] [zL v] (mm_z B2 dm nx ns) (fun r h => KM r h Q))) :
    kk_J nx ns dm G (fun Q => mm_Cl 78 [zR (1, 0, 0), zR (92, c, 0), zR (12, 0, 0)] (mm_z A d nx ns) (fun r h => KC r h Q)) (fun Q => mm_Wp 292 (bk_292_6.drop 5) [zR (40, 0, 0), u1, u2, zI c, u4, zI m, u6, u7] [zI 0] (mm_z B dm nx ns) (fun r h => KM r h Q)) := by
  by_cases q : c = 0
  · have e : m = 4 := by rw [hm, q]; decide +kernel
    clear hm hc
    subst q e
    exact kk_do0 hy l hb gv K
  have q0 := q
  clear q
  by_cases q : c = 1
  · have e : m = 1 := by rw [hm, q]; decide +kernel
    clear hm hc
    subst q e
    exact kk_do1 hy l hb gv K
  have q1 := q
  clear q
  by_cases q : c = 2
  · have e : m = 4 := by rw [hm, q]; decide +kernel
    clear hm hc
    subst q e
    exact kk_do2 hy l hb gv K
  have q2 := q
  clear q
  by_cases q : c = 3
  · have e : m = 3 := by rw [hm, q]; decide +kernel
    clear hm hc
    subst q e
    exact kk_do3 hy l hb gv K
  have q3 := q
  clear q
  by_cases q : c = 4
  · have e : m = 3 := by rw [hm, q]; decide +kernel
    clear hm hc
    subst q e
    exact kk_do4 hy l hb gv K
  have q4 := q
  clear q
  by_cases q : c = 5
  · have e : m = 3 := by rw [hm, q]; decide +kernel
    clear hm hc
    subst q e
    exact kk_do5 hy l hb gv K
  have q5 := q
  clear q
  by_cases q : c = 6
  · have e : m = 5 := by rw [hm, q]; decide +kernel
    clear hm hc
    subst q e
    exact kk_do6 hy l hb gv K
  have q6 := q
  clear q
  by_cases q : c = 7
  · have e : m = 3 := by rw [hm, q]; decide +kernel
    clear hm hc
    subst q e
    exact kk_do7 hy l hb gv K
  have q7 := q
  clear q
  by_cases q : c = 8
  · have e : m = 3 := by rw [hm, q]; decide +kernel
    clear hm hc
    subst q e
    exact kk_do8 hy l hb gv K
  have q8 := q
  clear q
  by_cases q : c = 9
  · have e : m = 4 := by rw [hm, q]; decide +kernel
    clear hm hc
    subst q e
    exact kk_do9 hy l hb gv K
  have q9 := q
  clear q
  by_cases q : c = 10
  · have e : m = 3 := by rw [hm, q]; decide +kernel
    clear hm hc
    subst q e
    exact kk_do10 hy l hb gv K
  have q10 := q
  clear q
  by_cases q : c = 11
  · have e : m = 5 := by rw [hm, q]; decide +kernel
    clear hm hc
    subst q e
    exact kk_do11 hy l hb gv K
  have q11 := q
  clear q
  by_cases q : c = 12
  · have e : m = 3 := by rw [hm, q]; decide +kernel
    clear hm hc
    subst q e
    exact kk_do12 hy l hb gv K
  have q12 := q
  clear q
  by_cases q : c = 13
  · have e : m = 3 := by rw [hm, q]; decide +kernel
    clear hm hc
    subst q e
    exact kk_do13 hy l hb gv K
  have q13 := q
  clear q
  by_cases q : c = 14
  · have e : m = 3 := by rw [hm, q]; decide +kernel
    clear hm hc
    subst q e
    exact kk_do14 hy l hb gv K
  have q14 := q
  clear q
  by_cases q : c = 15
  · have e : m = 3 := by rw [hm, q]; decide +kernel
    clear hm hc
    subst q e
    exact kk_do15 hy l hb gv K
  have q15 := q
  clear q
  by_cases q : c = 16
  · have e : m = 5 := by rw [hm, q]; decide +kernel
    clear hm hc
    subst q e
    exact kk_do16 hy l hb gv K
  have q16 := q
  clear q
  by_cases q : c = 17
  · have e : m = 3 := by rw [hm, q]; decide +kernel
    clear hm hc
    subst q e
    exact kk_do17 hy l hb gv K
  have q17 := q
  clear q
  by_cases q : c = 18
  · have e : m = 3 := by rw [hm, q]; decide +kernel
    clear hm hc
    subst q e
    exact kk_do18 hy l hb gv K
  have q18 := q
  clear q
  by_cases q : c = 19
  · have e : m = 1 := by rw [hm, q]; decide +kernel
    clear hm hc
    subst q e
    exact kk_do19 hy l hb gv K
  have q19 := q
  clear q
  by_cases q : c = 20
  · have e : m = 2 := by rw [hm, q]; decide +kernel
    clear hm hc
    subst q e
    exact kk_do20 hy l hb gv K
  have q20 := q
  clear q
  by_cases q : c = 21
  · have e : m = 3 := by rw [hm, q]; decide +kernel
    clear hm hc
    subst q e
    exact kk_do21 hy l hb gv K
  have q21 := q
  clear q
  by_cases q : c = 22
  · have e : m = 4 := by rw [hm, q]; decide +kernel
    clear hm hc
    subst q e
    exact kk_do22 hy l hb gv K
  have q22 := q
  clear q
  by_cases q : c = 23
  · have e : m = 2 := by rw [hm, q]; decide +kernel
    clear hm hc
    subst q e
    exact kk_do23 hy l hb gv K
  have q23 := q
  clear q
  by_cases q : c = 24
  · have e : m = 2 := by rw [hm, q]; decide +kernel
    clear hm hc
    subst q e
    exact kk_do24 hy l hb gv K
  have q24 := q
  clear q
  by_cases q : c = 25
  · have e : m = 1 := by rw [hm, q]; decide +kernel
    clear hm hc
    subst q e
    exact kk_do25 hy l hb gv K
  have q25 := q
  clear q
  by_cases q : c = 26
  · have e : m = 2 := by rw [hm, q]; decide +kernel
    clear hm hc
    subst q e
    exact kk_do26 hy l hb gv K
  have q26 := q
  clear q
  by_cases q : c = 27
  · have e : m = 1 := by rw [hm, q]; decide +kernel
    clear hm hc
    subst q e
    exact kk_do27 hy l hb gv K
  have q27 := q
  clear q
  by_cases q : c = 28
  · have e : m = 1 := by rw [hm, q]; decide +kernel
    clear hm hc
    subst q e
    exact kk_do28 hy l hb gv K
  have q28 := q
  clear q
  by_cases q : c = 29
  · have e : m = 2 := by rw [hm, q]; decide +kernel
    clear hm hc
    subst q e
    exact kk_do29 hy l hb gv K
  have q29 := q
  clear q
  by_cases q : c = 30
  · have e : m = 1 := by rw [hm, q]; decide +kernel
    clear hm hc
    subst q e
    exact kk_do30 hy l hb gv K
  have q30 := q
  clear q
  by_cases q : c = 31
  · have e : m = 2 := by rw [hm, q]; decide +kernel
    clear hm hc
    subst q e
    exact kk_do31 hy l hb gv K
  have q31 := q
  clear q
  by_cases q : c = 32
  · have e : m = 2 := by rw [hm, q]; decide +kernel
    clear hm hc
    subst q e
    exact kk_do32 hy l hb gv K
  have q32 := q
  clear q
  by_cases q : c = 33
  · have e : m = 2 := by rw [hm, q]; decide +kernel
    clear hm hc
    subst q e
    exact kk_do33 hy l hb gv K
  have q33 := q
  clear q
  by_cases q : c = 34
  · have e : m = 2 := by rw [hm, q]; decide +kernel
    clear hm hc
    subst q e
    exact kk_do34 hy l hb gv K
  have q34 := q
  clear q
  by_cases q : c = 35
  · have e : m = 3 := by rw [hm, q]; decide +kernel
    clear hm hc
    subst q e
    exact kk_do35 hy l hb gv K
  have q35 := q
  clear q
  by_cases q : c = 36
  · have e : m = 2 := by rw [hm, q]; decide +kernel
    clear hm hc
    subst q e
    exact kk_do36 hy l hb gv K
  have q36 := q
  clear q
  by_cases q : c = 37
  · have e : m = 1 := by rw [hm, q]; decide +kernel
    clear hm hc
    subst q e
    exact kk_do37 hy l hb gv K
  have q37 := q
  clear q
  by_cases q : c = 38
  · have e : m = 0 := by rw [hm, q]; decide +kernel
    clear hm hc
    subst q e
    exact kk_do38 hy l hb gv K
  have q38 := q
  clear q
  by_cases q : c = 39
  · have e : m = 0 := by rw [hm, q]; decide +kernel
    clear hm hc
    subst q e
    exact kk_do39 hy l hb gv K
  have q39 := q
  clear q
  by_cases q : c = 40
  · have e : m = 1 := by rw [hm, q]; decide +kernel
    clear hm hc
    subst q e
    exact kk_do40 hy l hb gv K
  have q40 := q
  clear q
  by_cases q : c = 41
  · have e : m = 3 := by rw [hm, q]; decide +kernel
    clear hm hc
    subst q e
    exact kk_do41 hy l hb gv K
  have q41 := q
  clear q
  by_cases q : c = 42
  · have e : m = 1 := by rw [hm, q]; decide +kernel
    clear hm hc
    subst q e
    exact kk_do42 hy l hb gv K
  have q42 := q
  clear q
  by_cases q : c = 43
  · have e : m = 2 := by rw [hm, q]; decide +kernel
    clear hm hc
    subst q e
    exact kk_do43 hy l hb gv K
  have q43 := q
  clear q
  by_cases q : c = 44
  · have e : m = 1 := by rw [hm, q]; decide +kernel
    clear hm hc
    subst q e
    exact kk_do44 hy l hb gv K
  have q44 := q
  clear q
  by_cases q : c = 45
  · have e : m = 1 := by rw [hm, q]; decide +kernel
    clear hm hc
    subst q e
    exact kk_do45 hy l hb gv K
  have q45 := q
  clear q
  by_cases q : c = 46
  · have e : m = 0 := by rw [hm, q]; decide +kernel
    clear hm hc
    subst q e
    exact kk_do46 hy l hb gv K
  have q46 := q
  clear q
  exact absurd hc (by omega)
end
