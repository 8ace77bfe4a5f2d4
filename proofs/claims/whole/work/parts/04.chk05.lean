/-! decode rows, method by method -/
theorem mjk_5 : ((List.range 11).all fun i => mjChk (mjMeth (85 + i)).1.cls (mjIsInit (85 + i)) (mjMeth (85 + i)).2.1 (mjCode.getD (85 + i) [])) = true := by decide +kernel
