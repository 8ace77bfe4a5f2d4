/-! THE TWO CONSTRUCTORS, run by the kernel -/
def mjCX : Option (Option Value × MjH) := mjRun mjNone 4000 0 0 [some (.ref 0)] [] [.inr (11, mjDef 11)]
theorem mjCX_ok : (mjCX.map (fun q => (q.1, q.2.length))) = some (none, 1) := by decide +kernel
