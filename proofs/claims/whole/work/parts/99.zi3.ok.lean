/-! the law's rows are its bytes', 3 -/
theorem mm_ok297_56 : ((mm_code.getD 297 []).drop 56 |>.take 1).all (fun q => mm_chk 297 q.1 q.2) = true := by decide +kernel
theorem mm_ok297_57 : ((mm_code.getD 297 []).drop 57 |>.take 1).all (fun q => mm_chk 297 q.1 q.2) = true := by decide +kernel
theorem mm_ok297_58 : ((mm_code.getD 297 []).drop 58 |>.take 1).all (fun q => mm_chk 297 q.1 q.2) = true := by decide +kernel
theorem mm_ok297_59 : ((mm_code.getD 297 []).drop 59 |>.take 1).all (fun q => mm_chk 297 q.1 q.2) = true := by decide +kernel
theorem mm_ok297_60 : ((mm_code.getD 297 []).drop 60 |>.take 1).all (fun q => mm_chk 297 q.1 q.2) = true := by decide +kernel
theorem mm_ok297_61 : ((mm_code.getD 297 []).drop 61 |>.take 1).all (fun q => mm_chk 297 q.1 q.2) = true := by decide +kernel
theorem mm_ok297_62 : ((mm_code.getD 297 []).drop 62 |>.take 1).all (fun q => mm_chk 297 q.1 q.2) = true := by decide +kernel
theorem mm_ok297_63 : ((mm_code.getD 297 []).drop 63 |>.take 1).all (fun q => mm_chk 297 q.1 q.2) = true := by decide +kernel
theorem mm_ok297_64 : ((mm_code.getD 297 []).drop 64 |>.take 1).all (fun q => mm_chk 297 q.1 q.2) = true := by decide +kernel
theorem mm_ok297_65 : ((mm_code.getD 297 []).drop 65 |>.take 1).all (fun q => mm_chk 297 q.1 q.2) = true := by decide +kernel
theorem mm_ok297_66 : ((mm_code.getD 297 []).drop 66 |>.take 1).all (fun q => mm_chk 297 q.1 q.2) = true := by decide +kernel
