/-! decode rows, method by method -/
theorem mjk_3 : ((List.range 17).all fun i => mjChk (mjMeth (51 + i)).1.cls (mjIsInit (51 + i)) (mjMeth (51 + i)).2.1 (mjCode.getD (51 + i) [])) = true := by decide +kernel
