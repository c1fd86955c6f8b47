/-! the calls of both: scrub, hold, quota, limit -/
theorem kk_n5 {h : mm_Id → Int → Int} {s : Int} (h1 : s < 5) : kk_no h s = h (31, s, 0) 3 := if_pos h1
theorem kk_tpp {h : mm_Id → Int → Int} {x s : Int} (q : kk_tp h x s) : 0 < kk_no h s := q.2.1.1

