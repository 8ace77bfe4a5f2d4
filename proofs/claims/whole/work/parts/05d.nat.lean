/-! words of what the machine does itself -/
theorem mjAcp_ok : tables_1[638]? = some (Cond.native arraycopyName) ∧ tables_1[637]? = some (Cond.static arraycopyName) ∧ tables_1[15]? = some (Cond.initialized "java/lang/System") ∧ tables_1[14]? = some (Cond.initialized "java/lang/Math") ∧ tables_1[634]? = some (Cond.static Lib.Math.max.name) ∧ tables_1[631]? = some (Cond.static Lib.Math.min.name) := by decide +kernel
set_option maxRecDepth 100000 in
theorem mjMmax_code : Cond.code Lib.Math.max.name Lib.Math.max.code 2 (some .int) ∈ lw_tbl := mjSub_3 (List.mem_of_getElem? (i := 155) rfl)
set_option maxRecDepth 100000 in
theorem mjMmin_code : Cond.code Lib.Math.min.name Lib.Math.min.code 2 (some .int) ∈ lw_tbl := mjSub_3 (List.mem_of_getElem? (i := 152) rfl)
theorem mjCpy_ok : (mjCpy.all fun q => decide (tables_1[q.2.2]? = some (Cond.methodLink q.1 q.2.1 arraycopyName))) = true := by decide +kernel
theorem mjMa_ok : (mjMa.all fun q => decide (tables_1[q.2.2.2]? = some (Cond.methodLink q.1 q.2.1 (if q.2.2.1 = 77 then Lib.Math.max.name else Lib.Math.min.name)))) = true := by decide +kernel
