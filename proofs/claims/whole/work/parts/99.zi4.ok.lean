/-! the law's rows are its bytes', 4 -/
theorem mm_ok297_67 : ((mm_code.getD 297 []).drop 67 |>.take 1).all (fun q => mm_chk 297 q.1 q.2) = true := by decide +kernel
theorem mm_ok297_68 : ((mm_code.getD 297 []).drop 68 |>.take 1).all (fun q => mm_chk 297 q.1 q.2) = true := by decide +kernel
theorem mm_ok297_69 : ((mm_code.getD 297 []).drop 69 |>.take 1).all (fun q => mm_chk 297 q.1 q.2) = true := by decide +kernel
theorem mm_ok297_70 : ((mm_code.getD 297 []).drop 70 |>.take 1).all (fun q => mm_chk 297 q.1 q.2) = true := by decide +kernel
theorem mm_ok297_71 : ((mm_code.getD 297 []).drop 71 |>.take 1).all (fun q => mm_chk 297 q.1 q.2) = true := by decide +kernel
theorem mm_ok297_72 : ((mm_code.getD 297 []).drop 72 |>.take 1).all (fun q => mm_chk 297 q.1 q.2) = true := by decide +kernel
theorem mm_ok297_73 : ((mm_code.getD 297 []).drop 73 |>.take 1).all (fun q => mm_chk 297 q.1 q.2) = true := by decide +kernel
theorem mm_ok297_74 : ((mm_code.getD 297 []).drop 74 |>.take 1).all (fun q => mm_chk 297 q.1 q.2) = true := by decide +kernel
theorem mm_ok297_75 : ((mm_code.getD 297 []).drop 75 |>.take 1).all (fun q => mm_chk 297 q.1 q.2) = true := by decide +kernel
theorem mm_ok297_76 : ((mm_code.getD 297 []).drop 76 |>.take 1).all (fun q => mm_chk 297 q.1 q.2) = true := by decide +kernel
theorem mm_ok297_77 : ((mm_code.getD 297 []).drop 77 |>.take 1).all (fun q => mm_chk 297 q.1 q.2) = true := by decide +kernel
theorem mm_ok297_78 : ((mm_code.getD 297 []).drop 78 |>.take 1).all (fun q => mm_chk 297 q.1 q.2) = true := by decide +kernel
theorem mm_ok297_79 : ((mm_code.getD 297 []).drop 79 |>.take 1).all (fun q => mm_chk 297 q.1 q.2) = true := by decide +kernel
theorem mm_ok297_80 : ((mm_code.getD 297 []).drop 80 |>.take 1).all (fun q => mm_chk 297 q.1 q.2) = true := by decide +kernel
theorem mm_ok297_81 : ((mm_code.getD 297 []).drop 81 |>.take 1).all (fun q => mm_chk 297 q.1 q.2) = true := by decide +kernel
theorem mm_ok297_82 : ((mm_code.getD 297 []).drop 82 |>.take 1).all (fun q => mm_chk 297 q.1 q.2) = true := by decide +kernel
theorem mm_ok297_83 : ((mm_code.getD 297 []).drop 83 |>.take 1).all (fun q => mm_chk 297 q.1 q.2) = true := by decide +kernel
