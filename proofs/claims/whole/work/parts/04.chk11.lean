/-! decode rows, method by method -/
theorem mjk_11 : ((List.range 34).all fun i => mjChk (mjMeth (242 + i)).1.cls (mjIsInit (242 + i)) (mjMeth (242 + i)).2.1 (mjCode.getD (242 + i) [])) = true := by decide +kernel
