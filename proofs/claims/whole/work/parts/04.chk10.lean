/-! decode rows, method by method -/
theorem mjk_10 : ((List.range 44).all fun i => mjChk (mjMeth (198 + i)).1.cls (mjIsInit (198 + i)) (mjMeth (198 + i)).2.1 (mjCode.getD (198 + i) [])) = true := by decide +kernel
