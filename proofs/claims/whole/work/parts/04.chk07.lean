/-! decode rows, method by method -/
theorem mjk_7 : ((List.range 22).all fun i => mjChk (mjMeth (117 + i)).1.cls (mjIsInit (117 + i)) (mjMeth (117 + i)).2.1 (mjCode.getD (117 + i) [])) = true := by decide +kernel
