/-! decode rows, method by method -/
theorem mjk_0 : ((List.range 27).all fun i => mjChk (mjMeth (0 + i)).1.cls (mjIsInit (0 + i)) (mjMeth (0 + i)).2.1 (mjCode.getD (0 + i) [])) = true := by decide +kernel
