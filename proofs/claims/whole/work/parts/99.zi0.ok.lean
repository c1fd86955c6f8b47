/-! the law's rows are its bytes', 0 -/
theorem mm_ok297_0 : ((mm_code.getD 297 []).drop 0 |>.take 15).all (fun q => mm_chk 297 q.1 q.2) = true := by decide +kernel
theorem mm_ok297_15 : ((mm_code.getD 297 []).drop 15 |>.take 5).all (fun q => mm_chk 297 q.1 q.2) = true := by decide +kernel
theorem mm_ok297_20 : ((mm_code.getD 297 []).drop 20 |>.take 5).all (fun q => mm_chk 297 q.1 q.2) = true := by decide +kernel
theorem mm_ok297_25 : ((mm_code.getD 297 []).drop 25 |>.take 8).all (fun q => mm_chk 297 q.1 q.2) = true := by decide +kernel
