/-! decode rows, method by method -/
theorem mjk_92_0 : mjChk (mjMeth 92).1.cls (mjIsInit 92) (mjMeth 92).2.1 (((mjCode.getD 92 []).drop 0).take 60) = true := by decide +kernel
theorem mjk_92_60 : mjChk (mjMeth 92).1.cls (mjIsInit 92) (mjMeth 92).2.1 (((mjCode.getD 92 []).drop 60).take 60) = true := by decide +kernel
theorem mjk_92_120 : mjChk (mjMeth 92).1.cls (mjIsInit 92) (mjMeth 92).2.1 (((mjCode.getD 92 []).drop 120).take 60) = true := by decide +kernel
theorem mjk_92_180 : mjChk (mjMeth 92).1.cls (mjIsInit 92) (mjMeth 92).2.1 (((mjCode.getD 92 []).drop 180).take 60) = true := by decide +kernel
theorem mjk_92_240 : mjChk (mjMeth 92).1.cls (mjIsInit 92) (mjMeth 92).2.1 ((mjCode.getD 92 []).drop 240) = true := by decide +kernel
theorem mjk_92 : mjChk (mjMeth 92).1.cls (mjIsInit 92) (mjMeth 92).2.1 (mjCode.getD 92 []) = true := by
  have h : mjChk (mjMeth 92).1.cls (mjIsInit 92) (mjMeth 92).2.1 ((mjCode.getD 92 []).drop 0) = true := mjChk_step (mjk_92_0) (mjChk_step (mjk_92_60) (mjChk_step (mjk_92_120) (mjChk_step (mjk_92_180) (mjk_92_240))))
  exact h
