/-! decode rows, method by method -/
theorem mjk_93_0 : mjChk (mjMeth 93).1.cls (mjIsInit 93) (mjMeth 93).2.1 (((mjCode.getD 93 []).drop 0).take 60) = true := by decide +kernel
theorem mjk_93_60 : mjChk (mjMeth 93).1.cls (mjIsInit 93) (mjMeth 93).2.1 (((mjCode.getD 93 []).drop 60).take 60) = true := by decide +kernel
theorem mjk_93_120 : mjChk (mjMeth 93).1.cls (mjIsInit 93) (mjMeth 93).2.1 (((mjCode.getD 93 []).drop 120).take 60) = true := by decide +kernel
theorem mjk_93_180 : mjChk (mjMeth 93).1.cls (mjIsInit 93) (mjMeth 93).2.1 ((mjCode.getD 93 []).drop 180) = true := by decide +kernel
theorem mjk_93 : mjChk (mjMeth 93).1.cls (mjIsInit 93) (mjMeth 93).2.1 (mjCode.getD 93 []) = true := by
  have h : mjChk (mjMeth 93).1.cls (mjIsInit 93) (mjMeth 93).2.1 ((mjCode.getD 93 []).drop 0) = true := mjChk_step (mjk_93_0) (mjChk_step (mjk_93_60) (mjChk_step (mjk_93_120) (mjk_93_180)))
  exact h
theorem mjk_94 : mjChk (mjMeth 94).1.cls (mjIsInit 94) (mjMeth 94).2.1 (mjCode.getD 94 []) = true := by decide +kernel
theorem mjk_95 : mjChk (mjMeth 95).1.cls (mjIsInit 95) (mjMeth 95).2.1 (mjCode.getD 95 []) = true := by decide +kernel
theorem mjk_96_0 : mjChk (mjMeth 96).1.cls (mjIsInit 96) (mjMeth 96).2.1 (((mjCode.getD 96 []).drop 0).take 60) = true := by decide +kernel
theorem mjk_96_60 : mjChk (mjMeth 96).1.cls (mjIsInit 96) (mjMeth 96).2.1 ((mjCode.getD 96 []).drop 60) = true := by decide +kernel
theorem mjk_96 : mjChk (mjMeth 96).1.cls (mjIsInit 96) (mjMeth 96).2.1 (mjCode.getD 96 []) = true := by
  have h : mjChk (mjMeth 96).1.cls (mjIsInit 96) (mjMeth 96).2.1 ((mjCode.getD 96 []).drop 0) = true := mjChk_step (mjk_96_0) (mjk_96_60)
  exact h
theorem mjk_97 : mjChk (mjMeth 97).1.cls (mjIsInit 97) (mjMeth 97).2.1 (mjCode.getD 97 []) = true := by decide +kernel
theorem mjk_98 : mjChk (mjMeth 98).1.cls (mjIsInit 98) (mjMeth 98).2.1 (mjCode.getD 98 []) = true := by decide +kernel
theorem mjk_99 : mjChk (mjMeth 99).1.cls (mjIsInit 99) (mjMeth 99).2.1 (mjCode.getD 99 []) = true := by decide +kernel
theorem mjk_100 : mjChk (mjMeth 100).1.cls (mjIsInit 100) (mjMeth 100).2.1 (mjCode.getD 100 []) = true := by decide +kernel
theorem mjk_101 : mjChk (mjMeth 101).1.cls (mjIsInit 101) (mjMeth 101).2.1 (mjCode.getD 101 []) = true := by decide +kernel
theorem mjk_102 : mjChk (mjMeth 102).1.cls (mjIsInit 102) (mjMeth 102).2.1 (mjCode.getD 102 []) = true := by decide +kernel
theorem mjk_103 : mjChk (mjMeth 103).1.cls (mjIsInit 103) (mjMeth 103).2.1 (mjCode.getD 103 []) = true := by decide +kernel
theorem mjk_104 : mjChk (mjMeth 104).1.cls (mjIsInit 104) (mjMeth 104).2.1 (mjCode.getD 104 []) = true := by decide +kernel
theorem mjk_105 : mjChk (mjMeth 105).1.cls (mjIsInit 105) (mjMeth 105).2.1 (mjCode.getD 105 []) = true := by decide +kernel
theorem mjk_106 : mjChk (mjMeth 106).1.cls (mjIsInit 106) (mjMeth 106).2.1 (mjCode.getD 106 []) = true := by decide +kernel
theorem mjk_107 : mjChk (mjMeth 107).1.cls (mjIsInit 107) (mjMeth 107).2.1 (mjCode.getD 107 []) = true := by decide +kernel
theorem mjk_108 : mjChk (mjMeth 108).1.cls (mjIsInit 108) (mjMeth 108).2.1 (mjCode.getD 108 []) = true := by decide +kernel
