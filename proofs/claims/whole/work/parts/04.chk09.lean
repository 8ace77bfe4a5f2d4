/-! decode rows, method by method -/
theorem mjk_90 : mjChk (mjMeth 90).1.cls (mjIsInit 90) (mjMeth 90).2.1 (mjCode.getD 90 []) = true := by decide +kernel
theorem mjk_91 : mjChk (mjMeth 91).1.cls (mjIsInit 91) (mjMeth 91).2.1 (mjCode.getD 91 []) = true := by decide +kernel
