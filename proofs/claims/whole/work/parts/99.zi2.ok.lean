/-! the law's rows are its bytes', 2 -/
theorem mm_ok297_40 : ((mm_code.getD 297 []).drop 40 |>.take 1).all (fun q => mm_chk 297 q.1 q.2) = true := by decide +kernel
theorem mm_ok297_41 : ((mm_code.getD 297 []).drop 41 |>.take 1).all (fun q => mm_chk 297 q.1 q.2) = true := by decide +kernel
theorem mm_ok297_42 : ((mm_code.getD 297 []).drop 42 |>.take 1).all (fun q => mm_chk 297 q.1 q.2) = true := by decide +kernel
theorem mm_ok297_43 : ((mm_code.getD 297 []).drop 43 |>.take 1).all (fun q => mm_chk 297 q.1 q.2) = true := by decide +kernel
theorem mm_ok297_44 : ((mm_code.getD 297 []).drop 44 |>.take 1).all (fun q => mm_chk 297 q.1 q.2) = true := by decide +kernel
theorem mm_ok297_45 : ((mm_code.getD 297 []).drop 45 |>.take 1).all (fun q => mm_chk 297 q.1 q.2) = true := by decide +kernel
theorem mm_ok297_46 : ((mm_code.getD 297 []).drop 46 |>.take 1).all (fun q => mm_chk 297 q.1 q.2) = true := by decide +kernel
theorem mm_ok297_47 : ((mm_code.getD 297 []).drop 47 |>.take 1).all (fun q => mm_chk 297 q.1 q.2) = true := by decide +kernel
theorem mm_ok297_48 : ((mm_code.getD 297 []).drop 48 |>.take 1).all (fun q => mm_chk 297 q.1 q.2) = true := by decide +kernel
theorem mm_ok297_49 : ((mm_code.getD 297 []).drop 49 |>.take 1).all (fun q => mm_chk 297 q.1 q.2) = true := by decide +kernel
theorem mm_ok297_50 : ((mm_code.getD 297 []).drop 50 |>.take 1).all (fun q => mm_chk 297 q.1 q.2) = true := by decide +kernel
theorem mm_ok297_51 : ((mm_code.getD 297 []).drop 51 |>.take 1).all (fun q => mm_chk 297 q.1 q.2) = true := by decide +kernel
theorem mm_ok297_52 : ((mm_code.getD 297 []).drop 52 |>.take 1).all (fun q => mm_chk 297 q.1 q.2) = true := by decide +kernel
theorem mm_ok297_53 : ((mm_code.getD 297 []).drop 53 |>.take 1).all (fun q => mm_chk 297 q.1 q.2) = true := by decide +kernel
theorem mm_ok297_54 : ((mm_code.getD 297 []).drop 54 |>.take 1).all (fun q => mm_chk 297 q.1 q.2) = true := by decide +kernel
theorem mm_ok297_55 : ((mm_code.getD 297 []).drop 55 |>.take 1).all (fun q => mm_chk 297 q.1 q.2) = true := by decide +kernel
