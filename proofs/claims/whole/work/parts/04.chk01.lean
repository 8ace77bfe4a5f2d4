/-! decode rows, method by method -/
theorem mjk_20_0 : mjChk (mjMeth 20).1.cls (mjIsInit 20) (mjMeth 20).2.1 (((mjCode.getD 20 []).drop 0).take 60) = true := by decide +kernel
theorem mjk_20_60 : mjChk (mjMeth 20).1.cls (mjIsInit 20) (mjMeth 20).2.1 (((mjCode.getD 20 []).drop 60).take 60) = true := by decide +kernel
theorem mjk_20_120 : mjChk (mjMeth 20).1.cls (mjIsInit 20) (mjMeth 20).2.1 (((mjCode.getD 20 []).drop 120).take 60) = true := by decide +kernel
theorem mjk_20_180 : mjChk (mjMeth 20).1.cls (mjIsInit 20) (mjMeth 20).2.1 (((mjCode.getD 20 []).drop 180).take 60) = true := by decide +kernel
theorem mjk_20_240 : mjChk (mjMeth 20).1.cls (mjIsInit 20) (mjMeth 20).2.1 ((mjCode.getD 20 []).drop 240) = true := by decide +kernel
theorem mjk_20 : mjChk (mjMeth 20).1.cls (mjIsInit 20) (mjMeth 20).2.1 (mjCode.getD 20 []) = true := by
  have h : mjChk (mjMeth 20).1.cls (mjIsInit 20) (mjMeth 20).2.1 ((mjCode.getD 20 []).drop 0) = true := mjChk_step (mjk_20_0) (mjChk_step (mjk_20_60) (mjChk_step (mjk_20_120) (mjChk_step (mjk_20_180) (mjk_20_240))))
  exact h
theorem mjk_21 : mjChk (mjMeth 21).1.cls (mjIsInit 21) (mjMeth 21).2.1 (mjCode.getD 21 []) = true := by decide +kernel
theorem mjk_22 : mjChk (mjMeth 22).1.cls (mjIsInit 22) (mjMeth 22).2.1 (mjCode.getD 22 []) = true := by decide +kernel
