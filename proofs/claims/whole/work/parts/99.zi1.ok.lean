/-! the law's rows are its bytes', 1 -/
theorem mm_ok297_33 : ((mm_code.getD 297 []).drop 33 |>.take 1).all (fun q => mm_chk 297 q.1 q.2) = true := by decide +kernel
theorem mm_ok297_34 : ((mm_code.getD 297 []).drop 34 |>.take 1).all (fun q => mm_chk 297 q.1 q.2) = true := by decide +kernel
theorem mm_ok297_35 : ((mm_code.getD 297 []).drop 35 |>.take 1).all (fun q => mm_chk 297 q.1 q.2) = true := by decide +kernel
theorem mm_ok297_36 : ((mm_code.getD 297 []).drop 36 |>.take 1).all (fun q => mm_chk 297 q.1 q.2) = true := by decide +kernel
theorem mm_ok297_37 : ((mm_code.getD 297 []).drop 37 |>.take 1).all (fun q => mm_chk 297 q.1 q.2) = true := by decide +kernel
theorem mm_ok297_38 : ((mm_code.getD 297 []).drop 38 |>.take 1).all (fun q => mm_chk 297 q.1 q.2) = true := by decide +kernel
theorem mm_ok297_39 : ((mm_code.getD 297 []).drop 39 |>.take 1).all (fun q => mm_chk 297 q.1 q.2) = true := by decide +kernel
