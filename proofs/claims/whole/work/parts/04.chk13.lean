/-! decode rows, method by method -/
theorem mjk_13 : ((List.range 1).all fun i => mjChk (mjMeth (309 + i)).1.cls (mjIsInit (309 + i)) (mjMeth (309 + i)).2.1 (mjCode.getD (309 + i) [])) = true := by decide +kernel
