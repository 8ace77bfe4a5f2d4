/-! decode rows, method by method -/
theorem mjk_41_0 : mjChk (mjMeth 41).1.cls (mjIsInit 41) (mjMeth 41).2.1 (((mjCode.getD 41 []).drop 0).take 60) = true := by decide +kernel
theorem mjk_41_60 : mjChk (mjMeth 41).1.cls (mjIsInit 41) (mjMeth 41).2.1 (((mjCode.getD 41 []).drop 60).take 60) = true := by decide +kernel
theorem mjk_41_120 : mjChk (mjMeth 41).1.cls (mjIsInit 41) (mjMeth 41).2.1 (((mjCode.getD 41 []).drop 120).take 60) = true := by decide +kernel
theorem mjk_41_180 : mjChk (mjMeth 41).1.cls (mjIsInit 41) (mjMeth 41).2.1 ((mjCode.getD 41 []).drop 180) = true := by decide +kernel
theorem mjk_41 : mjChk (mjMeth 41).1.cls (mjIsInit 41) (mjMeth 41).2.1 (mjCode.getD 41 []) = true := by
  have h : mjChk (mjMeth 41).1.cls (mjIsInit 41) (mjMeth 41).2.1 ((mjCode.getD 41 []).drop 0) = true := mjChk_step (mjk_41_0) (mjChk_step (mjk_41_60) (mjChk_step (mjk_41_120) (mjk_41_180)))
  exact h
theorem mjk_42 : mjChk (mjMeth 42).1.cls (mjIsInit 42) (mjMeth 42).2.1 (mjCode.getD 42 []) = true := by decide +kernel
theorem mjk_43_0 : mjChk (mjMeth 43).1.cls (mjIsInit 43) (mjMeth 43).2.1 (((mjCode.getD 43 []).drop 0).take 60) = true := by decide +kernel
theorem mjk_43_60 : mjChk (mjMeth 43).1.cls (mjIsInit 43) (mjMeth 43).2.1 (((mjCode.getD 43 []).drop 60).take 60) = true := by decide +kernel
theorem mjk_43_120 : mjChk (mjMeth 43).1.cls (mjIsInit 43) (mjMeth 43).2.1 ((mjCode.getD 43 []).drop 120) = true := by decide +kernel
theorem mjk_43 : mjChk (mjMeth 43).1.cls (mjIsInit 43) (mjMeth 43).2.1 (mjCode.getD 43 []) = true := by
  have h : mjChk (mjMeth 43).1.cls (mjIsInit 43) (mjMeth 43).2.1 ((mjCode.getD 43 []).drop 0) = true := mjChk_step (mjk_43_0) (mjChk_step (mjk_43_60) (mjk_43_120))
  exact h
theorem mjk_44 : mjChk (mjMeth 44).1.cls (mjIsInit 44) (mjMeth 44).2.1 (mjCode.getD 44 []) = true := by decide +kernel
theorem mjk_45 : mjChk (mjMeth 45).1.cls (mjIsInit 45) (mjMeth 45).2.1 (mjCode.getD 45 []) = true := by decide +kernel
theorem mjk_46 : mjChk (mjMeth 46).1.cls (mjIsInit 46) (mjMeth 46).2.1 (mjCode.getD 46 []) = true := by decide +kernel
theorem mjk_47 : mjChk (mjMeth 47).1.cls (mjIsInit 47) (mjMeth 47).2.1 (mjCode.getD 47 []) = true := by decide +kernel
theorem mjk_48 : mjChk (mjMeth 48).1.cls (mjIsInit 48) (mjMeth 48).2.1 (mjCode.getD 48 []) = true := by decide +kernel
