/-! decode rows, method by method -/
theorem mjk_33_0 : mjChk (mjMeth 33).1.cls (mjIsInit 33) (mjMeth 33).2.1 (((mjCode.getD 33 []).drop 0).take 60) = true := by decide +kernel
theorem mjk_33_60 : mjChk (mjMeth 33).1.cls (mjIsInit 33) (mjMeth 33).2.1 (((mjCode.getD 33 []).drop 60).take 60) = true := by decide +kernel
theorem mjk_33_120 : mjChk (mjMeth 33).1.cls (mjIsInit 33) (mjMeth 33).2.1 ((mjCode.getD 33 []).drop 120) = true := by decide +kernel
theorem mjk_33 : mjChk (mjMeth 33).1.cls (mjIsInit 33) (mjMeth 33).2.1 (mjCode.getD 33 []) = true := by
  have h : mjChk (mjMeth 33).1.cls (mjIsInit 33) (mjMeth 33).2.1 ((mjCode.getD 33 []).drop 0) = true := mjChk_step (mjk_33_0) (mjChk_step (mjk_33_60) (mjk_33_120))
  exact h
theorem mjk_34 : mjChk (mjMeth 34).1.cls (mjIsInit 34) (mjMeth 34).2.1 (mjCode.getD 34 []) = true := by decide +kernel
theorem mjk_35 : mjChk (mjMeth 35).1.cls (mjIsInit 35) (mjMeth 35).2.1 (mjCode.getD 35 []) = true := by decide +kernel
theorem mjk_36_0 : mjChk (mjMeth 36).1.cls (mjIsInit 36) (mjMeth 36).2.1 (((mjCode.getD 36 []).drop 0).take 60) = true := by decide +kernel
theorem mjk_36_60 : mjChk (mjMeth 36).1.cls (mjIsInit 36) (mjMeth 36).2.1 ((mjCode.getD 36 []).drop 60) = true := by decide +kernel
theorem mjk_36 : mjChk (mjMeth 36).1.cls (mjIsInit 36) (mjMeth 36).2.1 (mjCode.getD 36 []) = true := by
  have h : mjChk (mjMeth 36).1.cls (mjIsInit 36) (mjMeth 36).2.1 ((mjCode.getD 36 []).drop 0) = true := mjChk_step (mjk_36_0) (mjk_36_60)
  exact h
theorem mjk_37 : mjChk (mjMeth 37).1.cls (mjIsInit 37) (mjMeth 37).2.1 (mjCode.getD 37 []) = true := by decide +kernel
theorem mjk_38 : mjChk (mjMeth 38).1.cls (mjIsInit 38) (mjMeth 38).2.1 (mjCode.getD 38 []) = true := by decide +kernel
theorem mjk_39 : mjChk (mjMeth 39).1.cls (mjIsInit 39) (mjMeth 39).2.1 (mjCode.getD 39 []) = true := by decide +kernel
theorem mjk_40_0 : mjChk (mjMeth 40).1.cls (mjIsInit 40) (mjMeth 40).2.1 (((mjCode.getD 40 []).drop 0).take 60) = true := by decide +kernel
theorem mjk_40_60 : mjChk (mjMeth 40).1.cls (mjIsInit 40) (mjMeth 40).2.1 ((mjCode.getD 40 []).drop 60) = true := by decide +kernel
theorem mjk_40 : mjChk (mjMeth 40).1.cls (mjIsInit 40) (mjMeth 40).2.1 (mjCode.getD 40 []) = true := by
  have h : mjChk (mjMeth 40).1.cls (mjIsInit 40) (mjMeth 40).2.1 ((mjCode.getD 40 []).drop 0) = true := mjChk_step (mjk_40_0) (mjk_40_60)
  exact h
