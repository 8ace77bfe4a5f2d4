/-! decode rows, method by method -/
theorem mjk_309_0 : mjChk (mjMeth 309).1.cls (mjIsInit 309) (mjMeth 309).2.1 (((mjCode.getD 309 []).drop 0).take 60) = true := by decide +kernel
theorem mjk_309_60 : mjChk (mjMeth 309).1.cls (mjIsInit 309) (mjMeth 309).2.1 (((mjCode.getD 309 []).drop 60).take 60) = true := by decide +kernel
theorem mjk_309_120 : mjChk (mjMeth 309).1.cls (mjIsInit 309) (mjMeth 309).2.1 (((mjCode.getD 309 []).drop 120).take 60) = true := by decide +kernel
theorem mjk_309_180 : mjChk (mjMeth 309).1.cls (mjIsInit 309) (mjMeth 309).2.1 (((mjCode.getD 309 []).drop 180).take 60) = true := by decide +kernel
theorem mjk_309_240 : mjChk (mjMeth 309).1.cls (mjIsInit 309) (mjMeth 309).2.1 (((mjCode.getD 309 []).drop 240).take 60) = true := by decide +kernel
theorem mjk_309_300 : mjChk (mjMeth 309).1.cls (mjIsInit 309) (mjMeth 309).2.1 (((mjCode.getD 309 []).drop 300).take 60) = true := by decide +kernel
theorem mjk_309_360 : mjChk (mjMeth 309).1.cls (mjIsInit 309) (mjMeth 309).2.1 ((mjCode.getD 309 []).drop 360) = true := by decide +kernel
theorem mjk_309 : mjChk (mjMeth 309).1.cls (mjIsInit 309) (mjMeth 309).2.1 (mjCode.getD 309 []) = true := by
  have h : mjChk (mjMeth 309).1.cls (mjIsInit 309) (mjMeth 309).2.1 ((mjCode.getD 309 []).drop 0) = true := mjChk_step (mjk_309_0) (mjChk_step (mjk_309_60) (mjChk_step (mjk_309_120) (mjChk_step (mjk_309_180) (mjChk_step (mjk_309_240) (mjChk_step (mjk_309_300) (mjk_309_360))))))
  exact h
