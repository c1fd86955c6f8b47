/-! every method's rows are its bytes', 2 -/
theorem mm_ok221 : mm_okM 221 = true := by decide +kernel
theorem mm_ok222 : mm_okM 222 = true := by decide +kernel
theorem mm_ok223 : mm_okM 223 = true := by decide +kernel
theorem mm_ok224 : mm_okM 224 = true := by decide +kernel
theorem mm_ok225 : mm_okM 225 = true := by decide +kernel
theorem mm_ok226 : mm_okM 226 = true := by decide +kernel
theorem mm_ok227 : mm_okM 227 = true := by decide +kernel
theorem mm_ok228 : mm_okM 228 = true := by decide +kernel
theorem mm_ok229 : mm_okM 229 = true := by decide +kernel
theorem mm_ok230 : mm_okM 230 = true := by decide +kernel
theorem mm_ok231 : mm_okM 231 = true := by decide +kernel
theorem mm_ok232 : mm_okM 232 = true := by decide +kernel
theorem mm_ok233 : mm_okM 233 = true := by decide +kernel
theorem mm_ok234 : mm_okM 234 = true := by decide +kernel
theorem mm_ok235 : mm_okM 235 = true := by decide +kernel
theorem mm_ok236 : mm_okM 236 = true := by decide +kernel
theorem mm_ok237 : mm_okM 237 = true := by decide +kernel
theorem mm_ok238 : mm_okM 238 = true := by decide +kernel
theorem mm_ok239 : mm_okM 239 = true := by decide +kernel
theorem mm_ok240 : mm_okM 240 = true := by decide +kernel
theorem mm_ok241 : mm_okM 241 = true := by decide +kernel
theorem mm_ok242 : mm_okM 242 = true := by decide +kernel
theorem mm_ok243 : mm_okM 243 = true := by decide +kernel
theorem mm_ok244 : mm_okM 244 = true := by decide +kernel
theorem mm_ok245 : mm_okM 245 = true := by decide +kernel
theorem mm_ok246 : mm_okM 246 = true := by decide +kernel
theorem mm_ok247 : mm_okM 247 = true := by decide +kernel
theorem mm_ok248 : mm_okM 248 = true := by decide +kernel
theorem mm_ok249 : mm_okM 249 = true := by decide +kernel
theorem mm_ok250 : mm_okM 250 = true := by decide +kernel
theorem mm_ok251 : mm_okM 251 = true := by decide +kernel
theorem mm_ok252 : mm_okM 252 = true := by decide +kernel
theorem mm_ok253 : mm_okM 253 = true := by decide +kernel
theorem mm_ok254 : mm_okM 254 = true := by decide +kernel
theorem mm_ok255 : mm_okM 255 = true := by decide +kernel
theorem mm_ok256 : mm_okM 256 = true := by decide +kernel
theorem mm_ok257 : mm_okM 257 = true := by decide +kernel
theorem mm_ok258_0 : ((mm_code.getD 258 []).drop 0 |>.take 19).all (fun q => mm_chk 258 q.1 q.2) = true := by decide +kernel
theorem mm_ok258_19 : ((mm_code.getD 258 []).drop 19 |>.take 13).all (fun q => mm_chk 258 q.1 q.2) = true := by decide +kernel
theorem mm_ok258 : mm_okM 258 = true := by
  show (mm_code.getD 258 []).all _ = true
  have e : mm_code.getD 258 [] = ((mm_code.getD 258 []).drop 0 |>.take 19) ++ ((mm_code.getD 258 []).drop 19 |>.take 13) := by rfl
  rw [e]
  simp only [List.all_append, Bool.and_eq_true]
  exact ⟨mm_ok258_0, mm_ok258_19⟩
theorem mm_ok259 : mm_okM 259 = true := by decide +kernel
theorem mm_ok260 : mm_okM 260 = true := by decide +kernel
theorem mm_ok261 : mm_okM 261 = true := by decide +kernel
theorem mm_ok262 : mm_okM 262 = true := by decide +kernel
theorem mm_ok263 : mm_okM 263 = true := by decide +kernel
theorem mm_ok264 : mm_okM 264 = true := by decide +kernel
theorem mm_ok265 : mm_okM 265 = true := by decide +kernel
theorem mm_ok266 : mm_okM 266 = true := by decide +kernel
theorem mm_ok267 : mm_okM 267 = true := by decide +kernel
theorem mm_ok268 : mm_okM 268 = true := by decide +kernel
theorem mm_ok269 : mm_okM 269 = true := by decide +kernel
theorem mm_ok270 : mm_okM 270 = true := by decide +kernel
theorem mm_ok271 : mm_okM 271 = true := by decide +kernel
theorem mm_ok272 : mm_okM 272 = true := by decide +kernel
theorem mm_ok273 : mm_okM 273 = true := by decide +kernel
theorem mm_ok274 : mm_okM 274 = true := by decide +kernel
theorem mm_ok275 : mm_okM 275 = true := by decide +kernel
theorem mm_ok276 : mm_okM 276 = true := by decide +kernel
theorem mm_ok277 : mm_okM 277 = true := by decide +kernel
theorem mm_ok278 : mm_okM 278 = true := by decide +kernel
theorem mm_ok279 : mm_okM 279 = true := by decide +kernel
theorem mm_ok280 : mm_okM 280 = true := by decide +kernel
theorem mm_ok281 : mm_okM 281 = true := by decide +kernel
theorem mm_ok282 : mm_okM 282 = true := by decide +kernel
theorem mm_ok283 : mm_okM 283 = true := by decide +kernel
theorem mm_ok284_0 : ((mm_code.getD 284 []).drop 0 |>.take 15).all (fun q => mm_chk 284 q.1 q.2) = true := by decide +kernel
theorem mm_ok284_15 : ((mm_code.getD 284 []).drop 15 |>.take 7).all (fun q => mm_chk 284 q.1 q.2) = true := by decide +kernel
theorem mm_ok284 : mm_okM 284 = true := by
  show (mm_code.getD 284 []).all _ = true
  have e : mm_code.getD 284 [] = ((mm_code.getD 284 []).drop 0 |>.take 15) ++ ((mm_code.getD 284 []).drop 15 |>.take 7) := by rfl
  rw [e]
  simp only [List.all_append, Bool.and_eq_true]
  exact ⟨mm_ok284_0, mm_ok284_15⟩
