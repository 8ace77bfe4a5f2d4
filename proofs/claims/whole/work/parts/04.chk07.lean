/-! decode rows, method by method -/
theorem mjk_56_0 : mjChk (mjMeth 56).1.cls (mjIsInit 56) (mjMeth 56).2.1 (((mjCode.getD 56 []).drop 0).take 60) = true := by decide +kernel
theorem mjk_56_60 : mjChk (mjMeth 56).1.cls (mjIsInit 56) (mjMeth 56).2.1 (((mjCode.getD 56 []).drop 60).take 60) = true := by decide +kernel
theorem mjk_56_120 : mjChk (mjMeth 56).1.cls (mjIsInit 56) (mjMeth 56).2.1 (((mjCode.getD 56 []).drop 120).take 60) = true := by decide +kernel
theorem mjk_56_180 : mjChk (mjMeth 56).1.cls (mjIsInit 56) (mjMeth 56).2.1 ((mjCode.getD 56 []).drop 180) = true := by decide +kernel
theorem mjk_56 : mjChk (mjMeth 56).1.cls (mjIsInit 56) (mjMeth 56).2.1 (mjCode.getD 56 []) = true := by
  have h : mjChk (mjMeth 56).1.cls (mjIsInit 56) (mjMeth 56).2.1 ((mjCode.getD 56 []).drop 0) = true := mjChk_step (mjk_56_0) (mjChk_step (mjk_56_60) (mjChk_step (mjk_56_120) (mjk_56_180)))
  exact h
theorem mjk_57 : mjChk (mjMeth 57).1.cls (mjIsInit 57) (mjMeth 57).2.1 (mjCode.getD 57 []) = true := by decide +kernel
theorem mjk_58 : mjChk (mjMeth 58).1.cls (mjIsInit 58) (mjMeth 58).2.1 (mjCode.getD 58 []) = true := by decide +kernel
theorem mjk_59_0 : mjChk (mjMeth 59).1.cls (mjIsInit 59) (mjMeth 59).2.1 (((mjCode.getD 59 []).drop 0).take 60) = true := by decide +kernel
theorem mjk_59_60 : mjChk (mjMeth 59).1.cls (mjIsInit 59) (mjMeth 59).2.1 ((mjCode.getD 59 []).drop 60) = true := by decide +kernel
theorem mjk_59 : mjChk (mjMeth 59).1.cls (mjIsInit 59) (mjMeth 59).2.1 (mjCode.getD 59 []) = true := by
  have h : mjChk (mjMeth 59).1.cls (mjIsInit 59) (mjMeth 59).2.1 ((mjCode.getD 59 []).drop 0) = true := mjChk_step (mjk_59_0) (mjk_59_60)
  exact h
theorem mjk_60 : mjChk (mjMeth 60).1.cls (mjIsInit 60) (mjMeth 60).2.1 (mjCode.getD 60 []) = true := by decide +kernel
theorem mjk_61 : mjChk (mjMeth 61).1.cls (mjIsInit 61) (mjMeth 61).2.1 (mjCode.getD 61 []) = true := by decide +kernel
theorem mjk_62 : mjChk (mjMeth 62).1.cls (mjIsInit 62) (mjMeth 62).2.1 (mjCode.getD 62 []) = true := by decide +kernel
theorem mjk_63 : mjChk (mjMeth 63).1.cls (mjIsInit 63) (mjMeth 63).2.1 (mjCode.getD 63 []) = true := by decide +kernel
theorem mjk_64 : mjChk (mjMeth 64).1.cls (mjIsInit 64) (mjMeth 64).2.1 (mjCode.getD 64 []) = true := by decide +kernel
theorem mjk_65 : mjChk (mjMeth 65).1.cls (mjIsInit 65) (mjMeth 65).2.1 (mjCode.getD 65 []) = true := by decide +kernel
theorem mjk_66 : mjChk (mjMeth 66).1.cls (mjIsInit 66) (mjMeth 66).2.1 (mjCode.getD 66 []) = true := by decide +kernel
theorem mjk_67 : mjChk (mjMeth 67).1.cls (mjIsInit 67) (mjMeth 67).2.1 (mjCode.getD 67 []) = true := by decide +kernel
theorem mjk_68 : mjChk (mjMeth 68).1.cls (mjIsInit 68) (mjMeth 68).2.1 (mjCode.getD 68 []) = true := by decide +kernel
theorem mjk_69 : mjChk (mjMeth 69).1.cls (mjIsInit 69) (mjMeth 69).2.1 (mjCode.getD 69 []) = true := by decide +kernel
theorem mjk_70 : mjChk (mjMeth 70).1.cls (mjIsInit 70) (mjMeth 70).2.1 (mjCode.getD 70 []) = true := by decide +kernel
theorem mjk_71 : mjChk (mjMeth 71).1.cls (mjIsInit 71) (mjMeth 71).2.1 (mjCode.getD 71 []) = true := by decide +kernel
theorem mjk_72 : mjChk (mjMeth 72).1.cls (mjIsInit 72) (mjMeth 72).2.1 (mjCode.getD 72 []) = true := by decide +kernel
theorem mjk_73_0 : mjChk (mjMeth 73).1.cls (mjIsInit 73) (mjMeth 73).2.1 (((mjCode.getD 73 []).drop 0).take 60) = true := by decide +kernel
theorem mjk_73_60 : mjChk (mjMeth 73).1.cls (mjIsInit 73) (mjMeth 73).2.1 ((mjCode.getD 73 []).drop 60) = true := by decide +kernel
theorem mjk_73 : mjChk (mjMeth 73).1.cls (mjIsInit 73) (mjMeth 73).2.1 (mjCode.getD 73 []) = true := by
  have h : mjChk (mjMeth 73).1.cls (mjIsInit 73) (mjMeth 73).2.1 ((mjCode.getD 73 []).drop 0) = true := mjChk_step (mjk_73_0) (mjk_73_60)
  exact h
theorem mjk_74 : mjChk (mjMeth 74).1.cls (mjIsInit 74) (mjMeth 74).2.1 (mjCode.getD 74 []) = true := by decide +kernel
