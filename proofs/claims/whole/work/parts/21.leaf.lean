/-! leaves: tests of a number -/
set_option maxRecDepth 100000 in
set_option maxHeartbeats 4000000 in
theorem g_within {o : MjO} {h : MjH} (v a b : Int32) : Go o 16 0 [some (.int v), some (.int a), some (.int b)] [] h (some (.int (if a ≤ v ∧ v ≤ b then 1 else 0))) h := by
  repeat' (first
    | (refine Go.if1 rfl rfl rfl (fun hc => ?_) (fun hc => ?_) <;> first | (exact absurd hc (by decide)) | (replace hc := of_decide_eq_true hc) | (replace hc := of_decide_eq_false hc))
    | (refine Go.if2 rfl rfl rfl (fun hc => ?_) (fun hc => ?_) <;> first | (exact absurd hc (by decide)) | (replace hc := of_decide_eq_true hc) | (replace hc := of_decide_eq_false hc))
    | refine Go.step rfl rfl rfl rfl ?_)
  all_goals (refine Go.iretE rfl rfl rfl rfl ?_ rfl)
  all_goals (simp only [Int32.le_iff_toInt_le, Int32.lt_iff_toInt_lt] at *; first | (rw [if_pos (by omega)] <;> rfl) | (rw [if_neg (by omega)] <;> rfl) | rw [if_pos (by omega)] | rw [if_neg (by omega)])
set_option maxRecDepth 100000 in
set_option maxHeartbeats 4000000 in
theorem g_isIn {o : MjO} {h : MjH} (v a b : Int32) : Go o 21 0 [some (.int v), some (.int a), some (.int b)] [] h (some (.int (if a ≤ v ∧ v ≤ b then 1 else 0))) h := by
  repeat' (first
    | (refine Go.if1 rfl rfl rfl (fun hc => ?_) (fun hc => ?_) <;> first | (exact absurd hc (by decide)) | (replace hc := of_decide_eq_true hc) | (replace hc := of_decide_eq_false hc))
    | (refine Go.if2 rfl rfl rfl (fun hc => ?_) (fun hc => ?_) <;> first | (exact absurd hc (by decide)) | (replace hc := of_decide_eq_true hc) | (replace hc := of_decide_eq_false hc))
    | refine Go.step rfl rfl rfl rfl ?_)
  all_goals (refine Go.iretE rfl rfl rfl rfl ?_ rfl)
  all_goals (simp only [Int32.le_iff_toInt_le, Int32.lt_iff_toInt_lt] at *; first | (rw [if_pos (by omega)] <;> rfl) | (rw [if_neg (by omega)] <;> rfl) | rw [if_pos (by omega)] | rw [if_neg (by omega)])
