/-! decode rows, method by method -/
theorem mjk_1 : ((List.range 14).all fun i => mjChk (mjMeth (27 + i)).1.cls (mjIsInit (27 + i)) (mjMeth (27 + i)).2.1 (mjCode.getD (27 + i) [])) = true := by decide +kernel
