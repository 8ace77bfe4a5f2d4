/-! decode rows, method by method -/
theorem mjk_51_0 : mjChk (mjMeth 51).1.cls (mjIsInit 51) (mjMeth 51).2.1 (((mjCode.getD 51 []).drop 0).take 60) = true := by decide +kernel
theorem mjk_51_60 : mjChk (mjMeth 51).1.cls (mjIsInit 51) (mjMeth 51).2.1 (((mjCode.getD 51 []).drop 60).take 60) = true := by decide +kernel
theorem mjk_51_120 : mjChk (mjMeth 51).1.cls (mjIsInit 51) (mjMeth 51).2.1 ((mjCode.getD 51 []).drop 120) = true := by decide +kernel
theorem mjk_51 : mjChk (mjMeth 51).1.cls (mjIsInit 51) (mjMeth 51).2.1 (mjCode.getD 51 []) = true := by
  have h : mjChk (mjMeth 51).1.cls (mjIsInit 51) (mjMeth 51).2.1 ((mjCode.getD 51 []).drop 0) = true := mjChk_step (mjk_51_0) (mjChk_step (mjk_51_60) (mjk_51_120))
  exact h
theorem mjk_52 : mjChk (mjMeth 52).1.cls (mjIsInit 52) (mjMeth 52).2.1 (mjCode.getD 52 []) = true := by decide +kernel
theorem mjk_53 : mjChk (mjMeth 53).1.cls (mjIsInit 53) (mjMeth 53).2.1 (mjCode.getD 53 []) = true := by decide +kernel
theorem mjk_54 : mjChk (mjMeth 54).1.cls (mjIsInit 54) (mjMeth 54).2.1 (mjCode.getD 54 []) = true := by decide +kernel
theorem mjk_55_0 : mjChk (mjMeth 55).1.cls (mjIsInit 55) (mjMeth 55).2.1 (((mjCode.getD 55 []).drop 0).take 60) = true := by decide +kernel
theorem mjk_55_60 : mjChk (mjMeth 55).1.cls (mjIsInit 55) (mjMeth 55).2.1 ((mjCode.getD 55 []).drop 60) = true := by decide +kernel
theorem mjk_55 : mjChk (mjMeth 55).1.cls (mjIsInit 55) (mjMeth 55).2.1 (mjCode.getD 55 []) = true := by
  have h : mjChk (mjMeth 55).1.cls (mjIsInit 55) (mjMeth 55).2.1 ((mjCode.getD 55 []).drop 0) = true := mjChk_step (mjk_55_0) (mjk_55_60)
  exact h
