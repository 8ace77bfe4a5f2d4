/-! decode rows, method by method -/
theorem mjk_23_0 : mjChk (mjMeth 23).1.cls (mjIsInit 23) (mjMeth 23).2.1 (((mjCode.getD 23 []).drop 0).take 60) = true := by decide +kernel
theorem mjk_23_60 : mjChk (mjMeth 23).1.cls (mjIsInit 23) (mjMeth 23).2.1 (((mjCode.getD 23 []).drop 60).take 60) = true := by decide +kernel
theorem mjk_23_120 : mjChk (mjMeth 23).1.cls (mjIsInit 23) (mjMeth 23).2.1 ((mjCode.getD 23 []).drop 120) = true := by decide +kernel
theorem mjk_23 : mjChk (mjMeth 23).1.cls (mjIsInit 23) (mjMeth 23).2.1 (mjCode.getD 23 []) = true := by
  have h : mjChk (mjMeth 23).1.cls (mjIsInit 23) (mjMeth 23).2.1 ((mjCode.getD 23 []).drop 0) = true := mjChk_step (mjk_23_0) (mjChk_step (mjk_23_60) (mjk_23_120))
  exact h
theorem mjk_24 : mjChk (mjMeth 24).1.cls (mjIsInit 24) (mjMeth 24).2.1 (mjCode.getD 24 []) = true := by decide +kernel
theorem mjk_25 : mjChk (mjMeth 25).1.cls (mjIsInit 25) (mjMeth 25).2.1 (mjCode.getD 25 []) = true := by decide +kernel
theorem mjk_26 : mjChk (mjMeth 26).1.cls (mjIsInit 26) (mjMeth 26).2.1 (mjCode.getD 26 []) = true := by decide +kernel
theorem mjk_27 : mjChk (mjMeth 27).1.cls (mjIsInit 27) (mjMeth 27).2.1 (mjCode.getD 27 []) = true := by decide +kernel
theorem mjk_28 : mjChk (mjMeth 28).1.cls (mjIsInit 28) (mjMeth 28).2.1 (mjCode.getD 28 []) = true := by decide +kernel
theorem mjk_29 : mjChk (mjMeth 29).1.cls (mjIsInit 29) (mjMeth 29).2.1 (mjCode.getD 29 []) = true := by decide +kernel
theorem mjk_30_0 : mjChk (mjMeth 30).1.cls (mjIsInit 30) (mjMeth 30).2.1 (((mjCode.getD 30 []).drop 0).take 60) = true := by decide +kernel
theorem mjk_30_60 : mjChk (mjMeth 30).1.cls (mjIsInit 30) (mjMeth 30).2.1 ((mjCode.getD 30 []).drop 60) = true := by decide +kernel
theorem mjk_30 : mjChk (mjMeth 30).1.cls (mjIsInit 30) (mjMeth 30).2.1 (mjCode.getD 30 []) = true := by
  have h : mjChk (mjMeth 30).1.cls (mjIsInit 30) (mjMeth 30).2.1 ((mjCode.getD 30 []).drop 0) = true := mjChk_step (mjk_30_0) (mjk_30_60)
  exact h
theorem mjk_31_0 : mjChk (mjMeth 31).1.cls (mjIsInit 31) (mjMeth 31).2.1 (((mjCode.getD 31 []).drop 0).take 60) = true := by decide +kernel
theorem mjk_31_60 : mjChk (mjMeth 31).1.cls (mjIsInit 31) (mjMeth 31).2.1 (((mjCode.getD 31 []).drop 60).take 60) = true := by decide +kernel
theorem mjk_31_120 : mjChk (mjMeth 31).1.cls (mjIsInit 31) (mjMeth 31).2.1 ((mjCode.getD 31 []).drop 120) = true := by decide +kernel
theorem mjk_31 : mjChk (mjMeth 31).1.cls (mjIsInit 31) (mjMeth 31).2.1 (mjCode.getD 31 []) = true := by
  have h : mjChk (mjMeth 31).1.cls (mjIsInit 31) (mjMeth 31).2.1 ((mjCode.getD 31 []).drop 0) = true := mjChk_step (mjk_31_0) (mjChk_step (mjk_31_60) (mjk_31_120))
  exact h
theorem mjk_32_0 : mjChk (mjMeth 32).1.cls (mjIsInit 32) (mjMeth 32).2.1 (((mjCode.getD 32 []).drop 0).take 60) = true := by decide +kernel
theorem mjk_32_60 : mjChk (mjMeth 32).1.cls (mjIsInit 32) (mjMeth 32).2.1 ((mjCode.getD 32 []).drop 60) = true := by decide +kernel
theorem mjk_32 : mjChk (mjMeth 32).1.cls (mjIsInit 32) (mjMeth 32).2.1 (mjCode.getD 32 []) = true := by
  have h : mjChk (mjMeth 32).1.cls (mjIsInit 32) (mjMeth 32).2.1 ((mjCode.getD 32 []).drop 0) = true := mjChk_step (mjk_32_0) (mjk_32_60)
  exact h
