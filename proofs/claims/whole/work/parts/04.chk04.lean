/-! decode rows, method by method -/
theorem mjk_4 : ((List.range 17).all fun i => mjChk (mjMeth (68 + i)).1.cls (mjIsInit (68 + i)) (mjMeth (68 + i)).2.1 (mjCode.getD (68 + i) [])) = true := by decide +kernel
