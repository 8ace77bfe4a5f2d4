/-! decode rows, method by method -/
theorem mjk_12 : ((List.range 33).all fun i => mjChk (mjMeth (276 + i)).1.cls (mjIsInit (276 + i)) (mjMeth (276 + i)).2.1 (mjCode.getD (276 + i) [])) = true := by decide +kernel
