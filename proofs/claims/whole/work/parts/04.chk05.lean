/-! decode rows, method by method -/
theorem mjk_49_0 : mjChk (mjMeth 49).1.cls (mjIsInit 49) (mjMeth 49).2.1 (((mjCode.getD 49 []).drop 0).take 60) = true := by decide +kernel
theorem mjk_49_60 : mjChk (mjMeth 49).1.cls (mjIsInit 49) (mjMeth 49).2.1 (((mjCode.getD 49 []).drop 60).take 60) = true := by decide +kernel
theorem mjk_49_120 : mjChk (mjMeth 49).1.cls (mjIsInit 49) (mjMeth 49).2.1 (((mjCode.getD 49 []).drop 120).take 60) = true := by decide +kernel
theorem mjk_49_180 : mjChk (mjMeth 49).1.cls (mjIsInit 49) (mjMeth 49).2.1 ((mjCode.getD 49 []).drop 180) = true := by decide +kernel
theorem mjk_49 : mjChk (mjMeth 49).1.cls (mjIsInit 49) (mjMeth 49).2.1 (mjCode.getD 49 []) = true := by
  have h : mjChk (mjMeth 49).1.cls (mjIsInit 49) (mjMeth 49).2.1 ((mjCode.getD 49 []).drop 0) = true := mjChk_step (mjk_49_0) (mjChk_step (mjk_49_60) (mjChk_step (mjk_49_120) (mjk_49_180)))
  exact h
theorem mjk_50_0 : mjChk (mjMeth 50).1.cls (mjIsInit 50) (mjMeth 50).2.1 (((mjCode.getD 50 []).drop 0).take 60) = true := by decide +kernel
theorem mjk_50_60 : mjChk (mjMeth 50).1.cls (mjIsInit 50) (mjMeth 50).2.1 ((mjCode.getD 50 []).drop 60) = true := by decide +kernel
theorem mjk_50 : mjChk (mjMeth 50).1.cls (mjIsInit 50) (mjMeth 50).2.1 (mjCode.getD 50 []) = true := by
  have h : mjChk (mjMeth 50).1.cls (mjIsInit 50) (mjMeth 50).2.1 ((mjCode.getD 50 []).drop 0) = true := mjChk_step (mjk_50_0) (mjk_50_60)
  exact h
