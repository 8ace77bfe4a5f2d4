/-! decode rows, method by method -/
theorem mjk_109_0 : mjChk (mjMeth 109).1.cls (mjIsInit 109) (mjMeth 109).2.1 (((mjCode.getD 109 []).drop 0).take 60) = true := by decide +kernel
theorem mjk_109_60 : mjChk (mjMeth 109).1.cls (mjIsInit 109) (mjMeth 109).2.1 (((mjCode.getD 109 []).drop 60).take 60) = true := by decide +kernel
theorem mjk_109_120 : mjChk (mjMeth 109).1.cls (mjIsInit 109) (mjMeth 109).2.1 ((mjCode.getD 109 []).drop 120) = true := by decide +kernel
theorem mjk_109 : mjChk (mjMeth 109).1.cls (mjIsInit 109) (mjMeth 109).2.1 (mjCode.getD 109 []) = true := by
  have h : mjChk (mjMeth 109).1.cls (mjIsInit 109) (mjMeth 109).2.1 ((mjCode.getD 109 []).drop 0) = true := mjChk_step (mjk_109_0) (mjChk_step (mjk_109_60) (mjk_109_120))
  exact h
theorem mjk_110 : mjChk (mjMeth 110).1.cls (mjIsInit 110) (mjMeth 110).2.1 (mjCode.getD 110 []) = true := by decide +kernel
theorem mjk_111 : mjChk (mjMeth 111).1.cls (mjIsInit 111) (mjMeth 111).2.1 (mjCode.getD 111 []) = true := by decide +kernel
theorem mjk_112 : mjChk (mjMeth 112).1.cls (mjIsInit 112) (mjMeth 112).2.1 (mjCode.getD 112 []) = true := by decide +kernel
theorem mjk_113 : mjChk (mjMeth 113).1.cls (mjIsInit 113) (mjMeth 113).2.1 (mjCode.getD 113 []) = true := by decide +kernel
theorem mjk_114 : mjChk (mjMeth 114).1.cls (mjIsInit 114) (mjMeth 114).2.1 (mjCode.getD 114 []) = true := by decide +kernel
theorem mjk_115 : mjChk (mjMeth 115).1.cls (mjIsInit 115) (mjMeth 115).2.1 (mjCode.getD 115 []) = true := by decide +kernel
theorem mjk_116 : mjChk (mjMeth 116).1.cls (mjIsInit 116) (mjMeth 116).2.1 (mjCode.getD 116 []) = true := by decide +kernel
theorem mjk_117 : mjChk (mjMeth 117).1.cls (mjIsInit 117) (mjMeth 117).2.1 (mjCode.getD 117 []) = true := by decide +kernel
theorem mjk_118_0 : mjChk (mjMeth 118).1.cls (mjIsInit 118) (mjMeth 118).2.1 (((mjCode.getD 118 []).drop 0).take 60) = true := by decide +kernel
theorem mjk_118_60 : mjChk (mjMeth 118).1.cls (mjIsInit 118) (mjMeth 118).2.1 ((mjCode.getD 118 []).drop 60) = true := by decide +kernel
theorem mjk_118 : mjChk (mjMeth 118).1.cls (mjIsInit 118) (mjMeth 118).2.1 (mjCode.getD 118 []) = true := by
  have h : mjChk (mjMeth 118).1.cls (mjIsInit 118) (mjMeth 118).2.1 ((mjCode.getD 118 []).drop 0) = true := mjChk_step (mjk_118_0) (mjk_118_60)
  exact h
theorem mjk_119 : mjChk (mjMeth 119).1.cls (mjIsInit 119) (mjMeth 119).2.1 (mjCode.getD 119 []) = true := by decide +kernel
theorem mjk_120_0 : mjChk (mjMeth 120).1.cls (mjIsInit 120) (mjMeth 120).2.1 (((mjCode.getD 120 []).drop 0).take 60) = true := by decide +kernel
theorem mjk_120_60 : mjChk (mjMeth 120).1.cls (mjIsInit 120) (mjMeth 120).2.1 ((mjCode.getD 120 []).drop 60) = true := by decide +kernel
theorem mjk_120 : mjChk (mjMeth 120).1.cls (mjIsInit 120) (mjMeth 120).2.1 (mjCode.getD 120 []) = true := by
  have h : mjChk (mjMeth 120).1.cls (mjIsInit 120) (mjMeth 120).2.1 ((mjCode.getD 120 []).drop 0) = true := mjChk_step (mjk_120_0) (mjk_120_60)
  exact h
theorem mjk_121 : mjChk (mjMeth 121).1.cls (mjIsInit 121) (mjMeth 121).2.1 (mjCode.getD 121 []) = true := by decide +kernel
theorem mjk_122 : mjChk (mjMeth 122).1.cls (mjIsInit 122) (mjMeth 122).2.1 (mjCode.getD 122 []) = true := by decide +kernel
theorem mjk_123 : mjChk (mjMeth 123).1.cls (mjIsInit 123) (mjMeth 123).2.1 (mjCode.getD 123 []) = true := by decide +kernel
