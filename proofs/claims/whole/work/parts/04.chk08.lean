/-! decode rows, method by method -/
theorem mjk_8 : ((List.range 25).all fun i => mjChk (mjMeth (139 + i)).1.cls (mjIsInit (139 + i)) (mjMeth (139 + i)).2.1 (mjCode.getD (139 + i) [])) = true := by decide +kernel
