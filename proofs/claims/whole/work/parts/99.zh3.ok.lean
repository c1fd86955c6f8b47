/-! every method's rows are its bytes', 3 -/
theorem mm_ok285_0 : ((mm_code.getD 285 []).drop 0 |>.take 16).all (fun q => mm_chk 285 q.1 q.2) = true := by decide +kernel
theorem mm_ok285_16 : ((mm_code.getD 285 []).drop 16 |>.take 6).all (fun q => mm_chk 285 q.1 q.2) = true := by decide +kernel
theorem mm_ok285 : mm_okM 285 = true := by
  show (mm_code.getD 285 []).all _ = true
  have e : mm_code.getD 285 [] = ((mm_code.getD 285 []).drop 0 |>.take 16) ++ ((mm_code.getD 285 []).drop 16 |>.take 6) := by rfl
  rw [e]
  simp only [List.all_append, Bool.and_eq_true]
  exact ⟨mm_ok285_0, mm_ok285_16⟩
theorem mm_ok286 : mm_okM 286 = true := by decide +kernel
theorem mm_ok287 : mm_okM 287 = true := by decide +kernel
theorem mm_ok288 : mm_okM 288 = true := by decide +kernel
theorem mm_ok289 : mm_okM 289 = true := by decide +kernel
theorem mm_ok290 : mm_okM 290 = true := by decide +kernel
theorem mm_ok291 : mm_okM 291 = true := by decide +kernel
theorem mm_ok292 : mm_okM 292 = true := by decide +kernel
theorem mm_ok293 : mm_okM 293 = true := by decide +kernel
theorem mm_ok294 : mm_okM 294 = true := by decide +kernel
theorem mm_ok295 : mm_okM 295 = true := by decide +kernel
theorem mm_ok296 : mm_okM 296 = true := by decide +kernel
theorem mm_ok298 : mm_okM 298 = true := by decide +kernel
theorem mm_ok299 : mm_okM 299 = true := by decide +kernel
theorem mm_ok300 : mm_okM 300 = true := by decide +kernel
theorem mm_ok301 : mm_okM 301 = true := by decide +kernel
theorem mm_ok302 : mm_okM 302 = true := by decide +kernel
theorem mm_ok303 : mm_okM 303 = true := by decide +kernel
theorem mm_ok304 : mm_okM 304 = true := by decide +kernel
theorem mm_ok305 : mm_okM 305 = true := by decide +kernel
theorem mm_ok306 : mm_okM 306 = true := by decide +kernel
