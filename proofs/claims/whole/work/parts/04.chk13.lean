/-! decode rows, method by method -/
theorem mjk_124 : mjChk (mjMeth 124).1.cls (mjIsInit 124) (mjMeth 124).2.1 (mjCode.getD 124 []) = true := by decide +kernel
theorem mjk_125 : mjChk (mjMeth 125).1.cls (mjIsInit 125) (mjMeth 125).2.1 (mjCode.getD 125 []) = true := by decide +kernel
theorem mjk_126 : mjChk (mjMeth 126).1.cls (mjIsInit 126) (mjMeth 126).2.1 (mjCode.getD 126 []) = true := by decide +kernel
theorem mjk_127 : mjChk (mjMeth 127).1.cls (mjIsInit 127) (mjMeth 127).2.1 (mjCode.getD 127 []) = true := by decide +kernel
theorem mjk_128 : mjChk (mjMeth 128).1.cls (mjIsInit 128) (mjMeth 128).2.1 (mjCode.getD 128 []) = true := by decide +kernel
theorem mjk_129 : mjChk (mjMeth 129).1.cls (mjIsInit 129) (mjMeth 129).2.1 (mjCode.getD 129 []) = true := by decide +kernel
theorem mjk_130 : mjChk (mjMeth 130).1.cls (mjIsInit 130) (mjMeth 130).2.1 (mjCode.getD 130 []) = true := by decide +kernel
theorem mjk_131_0 : mjChk (mjMeth 131).1.cls (mjIsInit 131) (mjMeth 131).2.1 (((mjCode.getD 131 []).drop 0).take 60) = true := by decide +kernel
theorem mjk_131_60 : mjChk (mjMeth 131).1.cls (mjIsInit 131) (mjMeth 131).2.1 ((mjCode.getD 131 []).drop 60) = true := by decide +kernel
theorem mjk_131 : mjChk (mjMeth 131).1.cls (mjIsInit 131) (mjMeth 131).2.1 (mjCode.getD 131 []) = true := by
  have h : mjChk (mjMeth 131).1.cls (mjIsInit 131) (mjMeth 131).2.1 ((mjCode.getD 131 []).drop 0) = true := mjChk_step (mjk_131_0) (mjk_131_60)
  exact h
theorem mjk_132 : mjChk (mjMeth 132).1.cls (mjIsInit 132) (mjMeth 132).2.1 (mjCode.getD 132 []) = true := by decide +kernel
theorem mjk_133 : mjChk (mjMeth 133).1.cls (mjIsInit 133) (mjMeth 133).2.1 (mjCode.getD 133 []) = true := by decide +kernel
theorem mjk_134 : mjChk (mjMeth 134).1.cls (mjIsInit 134) (mjMeth 134).2.1 (mjCode.getD 134 []) = true := by decide +kernel
theorem mjk_135 : mjChk (mjMeth 135).1.cls (mjIsInit 135) (mjMeth 135).2.1 (mjCode.getD 135 []) = true := by decide +kernel
theorem mjk_136 : mjChk (mjMeth 136).1.cls (mjIsInit 136) (mjMeth 136).2.1 (mjCode.getD 136 []) = true := by decide +kernel
theorem mjk_137 : mjChk (mjMeth 137).1.cls (mjIsInit 137) (mjMeth 137).2.1 (mjCode.getD 137 []) = true := by decide +kernel
theorem mjk_138 : mjChk (mjMeth 138).1.cls (mjIsInit 138) (mjMeth 138).2.1 (mjCode.getD 138 []) = true := by decide +kernel
theorem mjk_139 : mjChk (mjMeth 139).1.cls (mjIsInit 139) (mjMeth 139).2.1 (mjCode.getD 139 []) = true := by decide +kernel
theorem mjk_140 : mjChk (mjMeth 140).1.cls (mjIsInit 140) (mjMeth 140).2.1 (mjCode.getD 140 []) = true := by decide +kernel
theorem mjk_141_0 : mjChk (mjMeth 141).1.cls (mjIsInit 141) (mjMeth 141).2.1 (((mjCode.getD 141 []).drop 0).take 60) = true := by decide +kernel
theorem mjk_141_60 : mjChk (mjMeth 141).1.cls (mjIsInit 141) (mjMeth 141).2.1 ((mjCode.getD 141 []).drop 60) = true := by decide +kernel
theorem mjk_141 : mjChk (mjMeth 141).1.cls (mjIsInit 141) (mjMeth 141).2.1 (mjCode.getD 141 []) = true := by
  have h : mjChk (mjMeth 141).1.cls (mjIsInit 141) (mjMeth 141).2.1 ((mjCode.getD 141 []).drop 0) = true := mjChk_step (mjk_141_0) (mjk_141_60)
  exact h
theorem mjk_142 : mjChk (mjMeth 142).1.cls (mjIsInit 142) (mjMeth 142).2.1 (mjCode.getD 142 []) = true := by decide +kernel
theorem mjk_143 : mjChk (mjMeth 143).1.cls (mjIsInit 143) (mjMeth 143).2.1 (mjCode.getD 143 []) = true := by decide +kernel
theorem mjk_144 : mjChk (mjMeth 144).1.cls (mjIsInit 144) (mjMeth 144).2.1 (mjCode.getD 144 []) = true := by decide +kernel
theorem mjk_145 : mjChk (mjMeth 145).1.cls (mjIsInit 145) (mjMeth 145).2.1 (mjCode.getD 145 []) = true := by decide +kernel
theorem mjk_146_0 : mjChk (mjMeth 146).1.cls (mjIsInit 146) (mjMeth 146).2.1 (((mjCode.getD 146 []).drop 0).take 60) = true := by decide +kernel
theorem mjk_146_60 : mjChk (mjMeth 146).1.cls (mjIsInit 146) (mjMeth 146).2.1 ((mjCode.getD 146 []).drop 60) = true := by decide +kernel
theorem mjk_146 : mjChk (mjMeth 146).1.cls (mjIsInit 146) (mjMeth 146).2.1 (mjCode.getD 146 []) = true := by
  have h : mjChk (mjMeth 146).1.cls (mjIsInit 146) (mjMeth 146).2.1 ((mjCode.getD 146 []).drop 0) = true := mjChk_step (mjk_146_0) (mjk_146_60)
  exact h
theorem mjk_147 : mjChk (mjMeth 147).1.cls (mjIsInit 147) (mjMeth 147).2.1 (mjCode.getD 147 []) = true := by decide +kernel
theorem mjk_148 : mjChk (mjMeth 148).1.cls (mjIsInit 148) (mjMeth 148).2.1 (mjCode.getD 148 []) = true := by decide +kernel
