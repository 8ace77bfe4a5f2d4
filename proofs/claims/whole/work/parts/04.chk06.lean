/-! decode rows, method by method -/
theorem mjk_6 : ((List.range 21).all fun i => mjChk (mjMeth (96 + i)).1.cls (mjIsInit (96 + i)) (mjMeth (96 + i)).2.1 (mjCode.getD (96 + i) [])) = true := by decide +kernel
