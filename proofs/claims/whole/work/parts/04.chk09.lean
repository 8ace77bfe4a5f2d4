/-! decode rows, method by method -/
theorem mjk_9 : ((List.range 34).all fun i => mjChk (mjMeth (164 + i)).1.cls (mjIsInit (164 + i)) (mjMeth (164 + i)).2.1 (mjCode.getD (164 + i) [])) = true := by decide +kernel
