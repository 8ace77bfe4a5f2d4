/-! decode rows, method by method -/
theorem mjk_269_0 : mjChk (mjMeth 269).1.cls (mjIsInit 269) (mjMeth 269).2.1 (((mjCode.getD 269 []).drop 0).take 60) = true := by decide +kernel
theorem mjk_269_60 : mjChk (mjMeth 269).1.cls (mjIsInit 269) (mjMeth 269).2.1 ((mjCode.getD 269 []).drop 60) = true := by decide +kernel
theorem mjk_269 : mjChk (mjMeth 269).1.cls (mjIsInit 269) (mjMeth 269).2.1 (mjCode.getD 269 []) = true := by
  have h : mjChk (mjMeth 269).1.cls (mjIsInit 269) (mjMeth 269).2.1 ((mjCode.getD 269 []).drop 0) = true := mjChk_step (mjk_269_0) (mjk_269_60)
  exact h
theorem mjk_270 : mjChk (mjMeth 270).1.cls (mjIsInit 270) (mjMeth 270).2.1 (mjCode.getD 270 []) = true := by decide +kernel
theorem mjk_271 : mjChk (mjMeth 271).1.cls (mjIsInit 271) (mjMeth 271).2.1 (mjCode.getD 271 []) = true := by decide +kernel
theorem mjk_272 : mjChk (mjMeth 272).1.cls (mjIsInit 272) (mjMeth 272).2.1 (mjCode.getD 272 []) = true := by decide +kernel
theorem mjk_273 : mjChk (mjMeth 273).1.cls (mjIsInit 273) (mjMeth 273).2.1 (mjCode.getD 273 []) = true := by decide +kernel
theorem mjk_274 : mjChk (mjMeth 274).1.cls (mjIsInit 274) (mjMeth 274).2.1 (mjCode.getD 274 []) = true := by decide +kernel
theorem mjk_275 : mjChk (mjMeth 275).1.cls (mjIsInit 275) (mjMeth 275).2.1 (mjCode.getD 275 []) = true := by decide +kernel
theorem mjk_276 : mjChk (mjMeth 276).1.cls (mjIsInit 276) (mjMeth 276).2.1 (mjCode.getD 276 []) = true := by decide +kernel
theorem mjk_277 : mjChk (mjMeth 277).1.cls (mjIsInit 277) (mjMeth 277).2.1 (mjCode.getD 277 []) = true := by decide +kernel
theorem mjk_278 : mjChk (mjMeth 278).1.cls (mjIsInit 278) (mjMeth 278).2.1 (mjCode.getD 278 []) = true := by decide +kernel
theorem mjk_279 : mjChk (mjMeth 279).1.cls (mjIsInit 279) (mjMeth 279).2.1 (mjCode.getD 279 []) = true := by decide +kernel
theorem mjk_280 : mjChk (mjMeth 280).1.cls (mjIsInit 280) (mjMeth 280).2.1 (mjCode.getD 280 []) = true := by decide +kernel
theorem mjk_281 : mjChk (mjMeth 281).1.cls (mjIsInit 281) (mjMeth 281).2.1 (mjCode.getD 281 []) = true := by decide +kernel
theorem mjk_282 : mjChk (mjMeth 282).1.cls (mjIsInit 282) (mjMeth 282).2.1 (mjCode.getD 282 []) = true := by decide +kernel
theorem mjk_283 : mjChk (mjMeth 283).1.cls (mjIsInit 283) (mjMeth 283).2.1 (mjCode.getD 283 []) = true := by decide +kernel
theorem mjk_284_0 : mjChk (mjMeth 284).1.cls (mjIsInit 284) (mjMeth 284).2.1 (((mjCode.getD 284 []).drop 0).take 60) = true := by decide +kernel
theorem mjk_284_60 : mjChk (mjMeth 284).1.cls (mjIsInit 284) (mjMeth 284).2.1 ((mjCode.getD 284 []).drop 60) = true := by decide +kernel
theorem mjk_284 : mjChk (mjMeth 284).1.cls (mjIsInit 284) (mjMeth 284).2.1 (mjCode.getD 284 []) = true := by
  have h : mjChk (mjMeth 284).1.cls (mjIsInit 284) (mjMeth 284).2.1 ((mjCode.getD 284 []).drop 0) = true := mjChk_step (mjk_284_0) (mjk_284_60)
  exact h
theorem mjk_285 : mjChk (mjMeth 285).1.cls (mjIsInit 285) (mjMeth 285).2.1 (mjCode.getD 285 []) = true := by decide +kernel
theorem mjk_286 : mjChk (mjMeth 286).1.cls (mjIsInit 286) (mjMeth 286).2.1 (mjCode.getD 286 []) = true := by decide +kernel
theorem mjk_287 : mjChk (mjMeth 287).1.cls (mjIsInit 287) (mjMeth 287).2.1 (mjCode.getD 287 []) = true := by decide +kernel
theorem mjk_288 : mjChk (mjMeth 288).1.cls (mjIsInit 288) (mjMeth 288).2.1 (mjCode.getD 288 []) = true := by decide +kernel
theorem mjk_289 : mjChk (mjMeth 289).1.cls (mjIsInit 289) (mjMeth 289).2.1 (mjCode.getD 289 []) = true := by decide +kernel
theorem mjk_290 : mjChk (mjMeth 290).1.cls (mjIsInit 290) (mjMeth 290).2.1 (mjCode.getD 290 []) = true := by decide +kernel
theorem mjk_291 : mjChk (mjMeth 291).1.cls (mjIsInit 291) (mjMeth 291).2.1 (mjCode.getD 291 []) = true := by decide +kernel
theorem mjk_292 : mjChk (mjMeth 292).1.cls (mjIsInit 292) (mjMeth 292).2.1 (mjCode.getD 292 []) = true := by decide +kernel
theorem mjk_293 : mjChk (mjMeth 293).1.cls (mjIsInit 293) (mjMeth 293).2.1 (mjCode.getD 293 []) = true := by decide +kernel
theorem mjk_294 : mjChk (mjMeth 294).1.cls (mjIsInit 294) (mjMeth 294).2.1 (mjCode.getD 294 []) = true := by decide +kernel
theorem mjk_295 : mjChk (mjMeth 295).1.cls (mjIsInit 295) (mjMeth 295).2.1 (mjCode.getD 295 []) = true := by decide +kernel
theorem mjk_296 : mjChk (mjMeth 296).1.cls (mjIsInit 296) (mjMeth 296).2.1 (mjCode.getD 296 []) = true := by decide +kernel
theorem mjk_297 : mjChk (mjMeth 297).1.cls (mjIsInit 297) (mjMeth 297).2.1 (mjCode.getD 297 []) = true := by decide +kernel
theorem mjk_298 : mjChk (mjMeth 298).1.cls (mjIsInit 298) (mjMeth 298).2.1 (mjCode.getD 298 []) = true := by decide +kernel
theorem mjk_299 : mjChk (mjMeth 299).1.cls (mjIsInit 299) (mjMeth 299).2.1 (mjCode.getD 299 []) = true := by decide +kernel
theorem mjk_300 : mjChk (mjMeth 300).1.cls (mjIsInit 300) (mjMeth 300).2.1 (mjCode.getD 300 []) = true := by decide +kernel
theorem mjk_301 : mjChk (mjMeth 301).1.cls (mjIsInit 301) (mjMeth 301).2.1 (mjCode.getD 301 []) = true := by decide +kernel
theorem mjk_302 : mjChk (mjMeth 302).1.cls (mjIsInit 302) (mjMeth 302).2.1 (mjCode.getD 302 []) = true := by decide +kernel
theorem mjk_303 : mjChk (mjMeth 303).1.cls (mjIsInit 303) (mjMeth 303).2.1 (mjCode.getD 303 []) = true := by decide +kernel
theorem mjk_304 : mjChk (mjMeth 304).1.cls (mjIsInit 304) (mjMeth 304).2.1 (mjCode.getD 304 []) = true := by decide +kernel
theorem mjk_305 : mjChk (mjMeth 305).1.cls (mjIsInit 305) (mjMeth 305).2.1 (mjCode.getD 305 []) = true := by decide +kernel
theorem mjk_306 : mjChk (mjMeth 306).1.cls (mjIsInit 306) (mjMeth 306).2.1 (mjCode.getD 306 []) = true := by decide +kernel
theorem mjk_307 : mjChk (mjMeth 307).1.cls (mjIsInit 307) (mjMeth 307).2.1 (mjCode.getD 307 []) = true := by decide +kernel
theorem mjk_308 : mjChk (mjMeth 308).1.cls (mjIsInit 308) (mjMeth 308).2.1 (mjCode.getD 308 []) = true := by decide +kernel
