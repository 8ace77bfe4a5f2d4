/-! decode rows, method by method -/
theorem mjk_75_0 : mjChk (mjMeth 75).1.cls (mjIsInit 75) (mjMeth 75).2.1 (((mjCode.getD 75 []).drop 0).take 60) = true := by decide +kernel
theorem mjk_75_60 : mjChk (mjMeth 75).1.cls (mjIsInit 75) (mjMeth 75).2.1 (((mjCode.getD 75 []).drop 60).take 60) = true := by decide +kernel
theorem mjk_75_120 : mjChk (mjMeth 75).1.cls (mjIsInit 75) (mjMeth 75).2.1 ((mjCode.getD 75 []).drop 120) = true := by decide +kernel
theorem mjk_75 : mjChk (mjMeth 75).1.cls (mjIsInit 75) (mjMeth 75).2.1 (mjCode.getD 75 []) = true := by
  have h : mjChk (mjMeth 75).1.cls (mjIsInit 75) (mjMeth 75).2.1 ((mjCode.getD 75 []).drop 0) = true := mjChk_step (mjk_75_0) (mjChk_step (mjk_75_60) (mjk_75_120))
  exact h
theorem mjk_76_0 : mjChk (mjMeth 76).1.cls (mjIsInit 76) (mjMeth 76).2.1 (((mjCode.getD 76 []).drop 0).take 60) = true := by decide +kernel
theorem mjk_76_60 : mjChk (mjMeth 76).1.cls (mjIsInit 76) (mjMeth 76).2.1 ((mjCode.getD 76 []).drop 60) = true := by decide +kernel
theorem mjk_76 : mjChk (mjMeth 76).1.cls (mjIsInit 76) (mjMeth 76).2.1 (mjCode.getD 76 []) = true := by
  have h : mjChk (mjMeth 76).1.cls (mjIsInit 76) (mjMeth 76).2.1 ((mjCode.getD 76 []).drop 0) = true := mjChk_step (mjk_76_0) (mjk_76_60)
  exact h
theorem mjk_77 : mjChk (mjMeth 77).1.cls (mjIsInit 77) (mjMeth 77).2.1 (mjCode.getD 77 []) = true := by decide +kernel
theorem mjk_78 : mjChk (mjMeth 78).1.cls (mjIsInit 78) (mjMeth 78).2.1 (mjCode.getD 78 []) = true := by decide +kernel
theorem mjk_79 : mjChk (mjMeth 79).1.cls (mjIsInit 79) (mjMeth 79).2.1 (mjCode.getD 79 []) = true := by decide +kernel
theorem mjk_80 : mjChk (mjMeth 80).1.cls (mjIsInit 80) (mjMeth 80).2.1 (mjCode.getD 80 []) = true := by decide +kernel
theorem mjk_81 : mjChk (mjMeth 81).1.cls (mjIsInit 81) (mjMeth 81).2.1 (mjCode.getD 81 []) = true := by decide +kernel
theorem mjk_82 : mjChk (mjMeth 82).1.cls (mjIsInit 82) (mjMeth 82).2.1 (mjCode.getD 82 []) = true := by decide +kernel
theorem mjk_83_0 : mjChk (mjMeth 83).1.cls (mjIsInit 83) (mjMeth 83).2.1 (((mjCode.getD 83 []).drop 0).take 60) = true := by decide +kernel
theorem mjk_83_60 : mjChk (mjMeth 83).1.cls (mjIsInit 83) (mjMeth 83).2.1 ((mjCode.getD 83 []).drop 60) = true := by decide +kernel
theorem mjk_83 : mjChk (mjMeth 83).1.cls (mjIsInit 83) (mjMeth 83).2.1 (mjCode.getD 83 []) = true := by
  have h : mjChk (mjMeth 83).1.cls (mjIsInit 83) (mjMeth 83).2.1 ((mjCode.getD 83 []).drop 0) = true := mjChk_step (mjk_83_0) (mjk_83_60)
  exact h
theorem mjk_84_0 : mjChk (mjMeth 84).1.cls (mjIsInit 84) (mjMeth 84).2.1 (((mjCode.getD 84 []).drop 0).take 60) = true := by decide +kernel
theorem mjk_84_60 : mjChk (mjMeth 84).1.cls (mjIsInit 84) (mjMeth 84).2.1 (((mjCode.getD 84 []).drop 60).take 60) = true := by decide +kernel
theorem mjk_84_120 : mjChk (mjMeth 84).1.cls (mjIsInit 84) (mjMeth 84).2.1 ((mjCode.getD 84 []).drop 120) = true := by decide +kernel
theorem mjk_84 : mjChk (mjMeth 84).1.cls (mjIsInit 84) (mjMeth 84).2.1 (mjCode.getD 84 []) = true := by
  have h : mjChk (mjMeth 84).1.cls (mjIsInit 84) (mjMeth 84).2.1 ((mjCode.getD 84 []).drop 0) = true := mjChk_step (mjk_84_0) (mjChk_step (mjk_84_60) (mjk_84_120))
  exact h
theorem mjk_85_0 : mjChk (mjMeth 85).1.cls (mjIsInit 85) (mjMeth 85).2.1 (((mjCode.getD 85 []).drop 0).take 60) = true := by decide +kernel
theorem mjk_85_60 : mjChk (mjMeth 85).1.cls (mjIsInit 85) (mjMeth 85).2.1 ((mjCode.getD 85 []).drop 60) = true := by decide +kernel
theorem mjk_85 : mjChk (mjMeth 85).1.cls (mjIsInit 85) (mjMeth 85).2.1 (mjCode.getD 85 []) = true := by
  have h : mjChk (mjMeth 85).1.cls (mjIsInit 85) (mjMeth 85).2.1 ((mjCode.getD 85 []).drop 0) = true := mjChk_step (mjk_85_0) (mjk_85_60)
  exact h
theorem mjk_86 : mjChk (mjMeth 86).1.cls (mjIsInit 86) (mjMeth 86).2.1 (mjCode.getD 86 []) = true := by decide +kernel
theorem mjk_87 : mjChk (mjMeth 87).1.cls (mjIsInit 87) (mjMeth 87).2.1 (mjCode.getD 87 []) = true := by decide +kernel
theorem mjk_88 : mjChk (mjMeth 88).1.cls (mjIsInit 88) (mjMeth 88).2.1 (mjCode.getD 88 []) = true := by decide +kernel
theorem mjk_89 : mjChk (mjMeth 89).1.cls (mjIsInit 89) (mjMeth 89).2.1 (mjCode.getD 89 []) = true := by decide +kernel
