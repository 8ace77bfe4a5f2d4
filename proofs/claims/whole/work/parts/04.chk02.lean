/-! decode rows, method by method -/
theorem mjk_2 : ((List.range 10).all fun i => mjChk (mjMeth (41 + i)).1.cls (mjIsInit (41 + i)) (mjMeth (41 + i)).2.1 (mjCode.getD (41 + i) [])) = true := by decide +kernel
