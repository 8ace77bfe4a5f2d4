/-! told, out: both sides -/
section
variable {o : MjO} {φ : Nat → Int32} {σ : Nat → Nat → Int32} {dn : Int64} {ρ : Nat → Nat} {κ : Nat → Nat → Option Nat} {d : MjH}
theorem go_sw {q : MjIns} {pc : Nat} {ml : MjL} {st : List Value} {h : MjH} {x : Int32} {t : Nat} (e : mjSw x q.2.2.1 q.2.2.2.2.2 = t) : mjSwitch o q pc ml (.int x :: st) h = some (t, ml, st, h) := by
  unfold mjSwitch
  dsimp only
  rw [e]
def cTold (φ : Nat → Int32) (w : Int32) : Int32 := if w = 0 then φ 101 else if w = 1 then φ 102 else if w = 2 then φ 3000 else if w = 3 then φ 5900 else if w = 4 then φ 4002 else if w = 5 then 2 * (φ 4107 - 1) else if w = 6 then φ 4100 else if w = 7 then φ 4701 else if w = 8 then φ 4700 else if w = 9 then φ 3500 else -1
def mTold (φ : Nat → Int32) (dn : Int64) (w : Int32) : Int32 := if w = 0 then φ 6003 else if w = 1 then φ 6015 else if w = 2 then φ 6037 else if w = 3 then dn.toInt32 else if w = 4 then φ 6061 else if w = 5 then φ 6087 else if w = 6 then φ 6088 else if w = 7 then φ 6078 else if w = 8 then φ 6076 else if w = 9 then φ 6042 else -1
set_option maxRecDepth 100000 in
set_option maxHeartbeats 4000000 in
theorem g_used : Go o 196 0 [some (.ref 41)] [] (hF φ σ dn ρ κ d) (some (.int (2 * (φ 4107 - 1)))) (hF φ σ dn ρ κ d) := by
  repeat' (first
    | (refine Go.if1 rfl rfl rfl (fun hc => ?_) (fun hc => ?_) <;> first | (exact absurd hc (by decide)) | (replace hc := of_decide_eq_true hc) | (replace hc := of_decide_eq_false hc))
    | (refine Go.if2 rfl rfl rfl (fun hc => ?_) (fun hc => ?_) <;> first | (exact absurd hc (by decide)) | (replace hc := of_decide_eq_true hc) | (replace hc := of_decide_eq_false hc))
    | refine Go.step rfl rfl rfl rfl ?_)
  exact Go.iret rfl rfl rfl rfl
set_option maxRecDepth 100000 in
set_option maxHeartbeats 4000000 in
theorem g_told (w : Int32) : Go o 15 0 [some (.ref 0), some (.int w)] [] (hF φ σ dn ρ κ d) (some (.int (cTold φ w))) (hF φ σ dn ρ κ d) := by
  unfold cTold
  by_cases h0 : w = 0
  · subst h0
    show Go _ _ _ _ _ _ (some (.int (φ 101))) _
    repeat' (first
    | (refine Go.if1 rfl rfl rfl (fun hc => ?_) (fun hc => ?_) <;> first | (exact absurd hc (by decide)) | (replace hc := of_decide_eq_true hc) | (replace hc := of_decide_eq_false hc))
    | (refine Go.if2 rfl rfl rfl (fun hc => ?_) (fun hc => ?_) <;> first | (exact absurd hc (by decide)) | (replace hc := of_decide_eq_true hc) | (replace hc := of_decide_eq_false hc))
    | refine Go.step rfl rfl rfl rfl ?_)
    exact Go.iret rfl rfl rfl rfl
  by_cases h1 : w = 1
  · subst h1
    show Go _ _ _ _ _ _ (some (.int (φ 102))) _
    repeat' (first
    | (refine Go.if1 rfl rfl rfl (fun hc => ?_) (fun hc => ?_) <;> first | (exact absurd hc (by decide)) | (replace hc := of_decide_eq_true hc) | (replace hc := of_decide_eq_false hc))
    | (refine Go.if2 rfl rfl rfl (fun hc => ?_) (fun hc => ?_) <;> first | (exact absurd hc (by decide)) | (replace hc := of_decide_eq_true hc) | (replace hc := of_decide_eq_false hc))
    | refine Go.step rfl rfl rfl rfl ?_)
    exact Go.iret rfl rfl rfl rfl
  by_cases h2 : w = 2
  · subst h2
    show Go _ _ _ _ _ _ (some (.int (φ 3000))) _
    repeat' (first
    | (refine Go.if1 rfl rfl rfl (fun hc => ?_) (fun hc => ?_) <;> first | (exact absurd hc (by decide)) | (replace hc := of_decide_eq_true hc) | (replace hc := of_decide_eq_false hc))
    | (refine Go.if2 rfl rfl rfl (fun hc => ?_) (fun hc => ?_) <;> first | (exact absurd hc (by decide)) | (replace hc := of_decide_eq_true hc) | (replace hc := of_decide_eq_false hc))
    | refine Go.step rfl rfl rfl rfl ?_)
    exact Go.iret rfl rfl rfl rfl
  by_cases h3 : w = 3
  · subst h3
    show Go _ _ _ _ _ _ (some (.int (φ 5900))) _
    repeat' (first
    | (refine Go.if1 rfl rfl rfl (fun hc => ?_) (fun hc => ?_) <;> first | (exact absurd hc (by decide)) | (replace hc := of_decide_eq_true hc) | (replace hc := of_decide_eq_false hc))
    | (refine Go.if2 rfl rfl rfl (fun hc => ?_) (fun hc => ?_) <;> first | (exact absurd hc (by decide)) | (replace hc := of_decide_eq_true hc) | (replace hc := of_decide_eq_false hc))
    | refine Go.step rfl rfl rfl rfl ?_)
    exact Go.iret rfl rfl rfl rfl
  by_cases h4 : w = 4
  · subst h4
    show Go _ _ _ _ _ _ (some (.int (φ 4002))) _
    repeat' (first
    | (refine Go.if1 rfl rfl rfl (fun hc => ?_) (fun hc => ?_) <;> first | (exact absurd hc (by decide)) | (replace hc := of_decide_eq_true hc) | (replace hc := of_decide_eq_false hc))
    | (refine Go.if2 rfl rfl rfl (fun hc => ?_) (fun hc => ?_) <;> first | (exact absurd hc (by decide)) | (replace hc := of_decide_eq_true hc) | (replace hc := of_decide_eq_false hc))
    | refine Go.step rfl rfl rfl rfl ?_)
    exact Go.iret rfl rfl rfl rfl
  by_cases h5 : w = 5
  · subst h5
    show Go _ _ _ _ _ _ (some (.int (2 * (φ 4107 - 1)))) _
    iterate 5 refine Go.step rfl rfl rfl rfl ?_
    refine Go.call rfl rfl rfl (go_recv (by decide) rfl (by decide +kernel)) g_used ?_
    exact Go.iret rfl rfl rfl rfl
  by_cases h6 : w = 6
  · subst h6
    show Go _ _ _ _ _ _ (some (.int (φ 4100))) _
    repeat' (first
    | (refine Go.if1 rfl rfl rfl (fun hc => ?_) (fun hc => ?_) <;> first | (exact absurd hc (by decide)) | (replace hc := of_decide_eq_true hc) | (replace hc := of_decide_eq_false hc))
    | (refine Go.if2 rfl rfl rfl (fun hc => ?_) (fun hc => ?_) <;> first | (exact absurd hc (by decide)) | (replace hc := of_decide_eq_true hc) | (replace hc := of_decide_eq_false hc))
    | refine Go.step rfl rfl rfl rfl ?_)
    exact Go.iret rfl rfl rfl rfl
  by_cases h7 : w = 7
  · subst h7
    show Go _ _ _ _ _ _ (some (.int (φ 4701))) _
    repeat' (first
    | (refine Go.if1 rfl rfl rfl (fun hc => ?_) (fun hc => ?_) <;> first | (exact absurd hc (by decide)) | (replace hc := of_decide_eq_true hc) | (replace hc := of_decide_eq_false hc))
    | (refine Go.if2 rfl rfl rfl (fun hc => ?_) (fun hc => ?_) <;> first | (exact absurd hc (by decide)) | (replace hc := of_decide_eq_true hc) | (replace hc := of_decide_eq_false hc))
    | refine Go.step rfl rfl rfl rfl ?_)
    exact Go.iret rfl rfl rfl rfl
  by_cases h8 : w = 8
  · subst h8
    show Go _ _ _ _ _ _ (some (.int (φ 4700))) _
    repeat' (first
    | (refine Go.if1 rfl rfl rfl (fun hc => ?_) (fun hc => ?_) <;> first | (exact absurd hc (by decide)) | (replace hc := of_decide_eq_true hc) | (replace hc := of_decide_eq_false hc))
    | (refine Go.if2 rfl rfl rfl (fun hc => ?_) (fun hc => ?_) <;> first | (exact absurd hc (by decide)) | (replace hc := of_decide_eq_true hc) | (replace hc := of_decide_eq_false hc))
    | refine Go.step rfl rfl rfl rfl ?_)
    exact Go.iret rfl rfl rfl rfl
  by_cases h9 : w = 9
  · subst h9
    show Go _ _ _ _ _ _ (some (.int (φ 3500))) _
    repeat' (first
    | (refine Go.if1 rfl rfl rfl (fun hc => ?_) (fun hc => ?_) <;> first | (exact absurd hc (by decide)) | (replace hc := of_decide_eq_true hc) | (replace hc := of_decide_eq_false hc))
    | (refine Go.if2 rfl rfl rfl (fun hc => ?_) (fun hc => ?_) <;> first | (exact absurd hc (by decide)) | (replace hc := of_decide_eq_true hc) | (replace hc := of_decide_eq_false hc))
    | refine Go.step rfl rfl rfl rfl ?_)
    exact Go.iret rfl rfl rfl rfl
  rw [if_neg h0, if_neg h1, if_neg h2, if_neg h3, if_neg h4, if_neg h5, if_neg h6, if_neg h7, if_neg h8, if_neg h9]
  refine Go.step rfl rfl rfl rfl ?_
  refine Go.step rfl rfl rfl (go_sw (t := 148) (mjSw_out _ (by
    intro q hq
    simp only [List.mem_cons, List.not_mem_nil, or_false] at hq
    rcases hq with rfl | rfl | rfl | rfl | rfl | rfl | rfl | rfl | rfl | rfl
    · exact h0
    · exact h1
    · exact h2
    · exact h3
    · exact h4
    · exact h5
    · exact h6
    · exact h7
    · exact h8
    · exact h9))) ?_
  refine Go.step rfl rfl rfl rfl ?_
  exact Go.iret rfl rfl rfl rfl
set_option maxRecDepth 100000 in
set_option maxHeartbeats 4000000 in
theorem g_mtold (w : Int32) : Go o 102 0 [some (.ref 60), some (.int w)] [] (hF φ σ dn ρ κ d) (some (.int (mTold φ dn w))) (hF φ σ dn ρ κ d) := by
  unfold mTold
  by_cases h0 : w = 0
  · subst h0
    show Go _ _ _ _ _ _ (some (.int (φ 6003))) _
    repeat' (first
    | (refine Go.if1 rfl rfl rfl (fun hc => ?_) (fun hc => ?_) <;> first | (exact absurd hc (by decide)) | (replace hc := of_decide_eq_true hc) | (replace hc := of_decide_eq_false hc))
    | (refine Go.if2 rfl rfl rfl (fun hc => ?_) (fun hc => ?_) <;> first | (exact absurd hc (by decide)) | (replace hc := of_decide_eq_true hc) | (replace hc := of_decide_eq_false hc))
    | refine Go.step rfl rfl rfl rfl ?_)
    exact Go.iret rfl rfl rfl rfl
  by_cases h1 : w = 1
  · subst h1
    show Go _ _ _ _ _ _ (some (.int (φ 6015))) _
    repeat' (first
    | (refine Go.if1 rfl rfl rfl (fun hc => ?_) (fun hc => ?_) <;> first | (exact absurd hc (by decide)) | (replace hc := of_decide_eq_true hc) | (replace hc := of_decide_eq_false hc))
    | (refine Go.if2 rfl rfl rfl (fun hc => ?_) (fun hc => ?_) <;> first | (exact absurd hc (by decide)) | (replace hc := of_decide_eq_true hc) | (replace hc := of_decide_eq_false hc))
    | refine Go.step rfl rfl rfl rfl ?_)
    exact Go.iret rfl rfl rfl rfl
  by_cases h2 : w = 2
  · subst h2
    show Go _ _ _ _ _ _ (some (.int (φ 6037))) _
    repeat' (first
    | (refine Go.if1 rfl rfl rfl (fun hc => ?_) (fun hc => ?_) <;> first | (exact absurd hc (by decide)) | (replace hc := of_decide_eq_true hc) | (replace hc := of_decide_eq_false hc))
    | (refine Go.if2 rfl rfl rfl (fun hc => ?_) (fun hc => ?_) <;> first | (exact absurd hc (by decide)) | (replace hc := of_decide_eq_true hc) | (replace hc := of_decide_eq_false hc))
    | refine Go.step rfl rfl rfl rfl ?_)
    exact Go.iret rfl rfl rfl rfl
  by_cases h3 : w = 3
  · subst h3
    show Go _ _ _ _ _ _ (some (.int (dn.toInt32))) _
    repeat' (first
    | (refine Go.if1 rfl rfl rfl (fun hc => ?_) (fun hc => ?_) <;> first | (exact absurd hc (by decide)) | (replace hc := of_decide_eq_true hc) | (replace hc := of_decide_eq_false hc))
    | (refine Go.if2 rfl rfl rfl (fun hc => ?_) (fun hc => ?_) <;> first | (exact absurd hc (by decide)) | (replace hc := of_decide_eq_true hc) | (replace hc := of_decide_eq_false hc))
    | refine Go.step rfl rfl rfl rfl ?_)
    exact Go.iret rfl rfl rfl rfl
  by_cases h4 : w = 4
  · subst h4
    show Go _ _ _ _ _ _ (some (.int (φ 6061))) _
    repeat' (first
    | (refine Go.if1 rfl rfl rfl (fun hc => ?_) (fun hc => ?_) <;> first | (exact absurd hc (by decide)) | (replace hc := of_decide_eq_true hc) | (replace hc := of_decide_eq_false hc))
    | (refine Go.if2 rfl rfl rfl (fun hc => ?_) (fun hc => ?_) <;> first | (exact absurd hc (by decide)) | (replace hc := of_decide_eq_true hc) | (replace hc := of_decide_eq_false hc))
    | refine Go.step rfl rfl rfl rfl ?_)
    exact Go.iret rfl rfl rfl rfl
  by_cases h5 : w = 5
  · subst h5
    show Go _ _ _ _ _ _ (some (.int (φ 6087))) _
    repeat' (first
    | (refine Go.if1 rfl rfl rfl (fun hc => ?_) (fun hc => ?_) <;> first | (exact absurd hc (by decide)) | (replace hc := of_decide_eq_true hc) | (replace hc := of_decide_eq_false hc))
    | (refine Go.if2 rfl rfl rfl (fun hc => ?_) (fun hc => ?_) <;> first | (exact absurd hc (by decide)) | (replace hc := of_decide_eq_true hc) | (replace hc := of_decide_eq_false hc))
    | refine Go.step rfl rfl rfl rfl ?_)
    exact Go.iret rfl rfl rfl rfl
  by_cases h6 : w = 6
  · subst h6
    show Go _ _ _ _ _ _ (some (.int (φ 6088))) _
    repeat' (first
    | (refine Go.if1 rfl rfl rfl (fun hc => ?_) (fun hc => ?_) <;> first | (exact absurd hc (by decide)) | (replace hc := of_decide_eq_true hc) | (replace hc := of_decide_eq_false hc))
    | (refine Go.if2 rfl rfl rfl (fun hc => ?_) (fun hc => ?_) <;> first | (exact absurd hc (by decide)) | (replace hc := of_decide_eq_true hc) | (replace hc := of_decide_eq_false hc))
    | refine Go.step rfl rfl rfl rfl ?_)
    exact Go.iret rfl rfl rfl rfl
  by_cases h7 : w = 7
  · subst h7
    show Go _ _ _ _ _ _ (some (.int (φ 6078))) _
    repeat' (first
    | (refine Go.if1 rfl rfl rfl (fun hc => ?_) (fun hc => ?_) <;> first | (exact absurd hc (by decide)) | (replace hc := of_decide_eq_true hc) | (replace hc := of_decide_eq_false hc))
    | (refine Go.if2 rfl rfl rfl (fun hc => ?_) (fun hc => ?_) <;> first | (exact absurd hc (by decide)) | (replace hc := of_decide_eq_true hc) | (replace hc := of_decide_eq_false hc))
    | refine Go.step rfl rfl rfl rfl ?_)
    exact Go.iret rfl rfl rfl rfl
  by_cases h8 : w = 8
  · subst h8
    show Go _ _ _ _ _ _ (some (.int (φ 6076))) _
    repeat' (first
    | (refine Go.if1 rfl rfl rfl (fun hc => ?_) (fun hc => ?_) <;> first | (exact absurd hc (by decide)) | (replace hc := of_decide_eq_true hc) | (replace hc := of_decide_eq_false hc))
    | (refine Go.if2 rfl rfl rfl (fun hc => ?_) (fun hc => ?_) <;> first | (exact absurd hc (by decide)) | (replace hc := of_decide_eq_true hc) | (replace hc := of_decide_eq_false hc))
    | refine Go.step rfl rfl rfl rfl ?_)
    exact Go.iret rfl rfl rfl rfl
  by_cases h9 : w = 9
  · subst h9
    show Go _ _ _ _ _ _ (some (.int (φ 6042))) _
    repeat' (first
    | (refine Go.if1 rfl rfl rfl (fun hc => ?_) (fun hc => ?_) <;> first | (exact absurd hc (by decide)) | (replace hc := of_decide_eq_true hc) | (replace hc := of_decide_eq_false hc))
    | (refine Go.if2 rfl rfl rfl (fun hc => ?_) (fun hc => ?_) <;> first | (exact absurd hc (by decide)) | (replace hc := of_decide_eq_true hc) | (replace hc := of_decide_eq_false hc))
    | refine Go.step rfl rfl rfl rfl ?_)
    exact Go.iret rfl rfl rfl rfl
  rw [if_neg h0, if_neg h1, if_neg h2, if_neg h3, if_neg h4, if_neg h5, if_neg h6, if_neg h7, if_neg h8, if_neg h9]
  refine Go.step rfl rfl rfl rfl ?_
  refine Go.step rfl rfl rfl (go_sw (t := 107) (mjSw_out _ (by
    intro q hq
    simp only [List.mem_cons, List.not_mem_nil, or_false] at hq
    rcases hq with rfl | rfl | rfl | rfl | rfl | rfl | rfl | rfl | rfl | rfl
    · exact h0
    · exact h1
    · exact h2
    · exact h3
    · exact h4
    · exact h5
    · exact h6
    · exact h7
    · exact h8
    · exact h9))) ?_
  refine Go.step rfl rfl rfl rfl ?_
  exact Go.iret rfl rfl rfl rfl
set_option maxRecDepth 100000 in
set_option maxHeartbeats 4000000 in
theorem g_sent (i : Int32) : Go o 239 0 [some (.ref 47), some (.int i)] [] (hF φ σ dn ρ κ d) (some (.int (if 0 ≤ i ∧ i < φ 4701 ∧ i < 300 then σ 49 i.toNatClampNeg else -2))) (hF φ σ dn ρ κ d) := by
  by_cases hP : 0 ≤ i ∧ i < φ 4701 ∧ i < 300
  · rw [if_pos hP]
    refine Go.step rfl rfl rfl rfl ?_
    refine Go.step rfl rfl rfl (go_iff (decide_eq_false (Int32.not_lt.mpr hP.1))) ?_
    iterate 3 refine Go.step rfl rfl rfl rfl ?_
    refine Go.step rfl rfl rfl (go_if2f (decide_eq_false (Int32.not_le.mpr hP.2.1))) ?_
    iterate 2 refine Go.step rfl rfl rfl rfl ?_
    refine Go.step rfl rfl rfl (go_if2f (decide_eq_false (Int32.not_le.mpr hP.2.2))) ?_
    iterate 3 refine Go.step rfl rfl rfl rfl ?_
    refine Go.step rfl rfl rfl (go_ld rfl (ix_ok (N := 300) rfl hP.1 hP.2.2)) ?_
    refine Go.step rfl rfl rfl rfl ?_
    exact Go.iret rfl rfl rfl rfl
  · rw [if_neg hP]
    refine Go.step rfl rfl rfl rfl ?_
    refine Go.if1 rfl rfl rfl (fun hc => ?_) (fun h1 => ?_)
    · refine Go.step rfl rfl rfl rfl ?_
      exact Go.iret rfl rfl rfl rfl
    iterate 3 refine Go.step rfl rfl rfl rfl ?_
    refine Go.if2 rfl rfl rfl (fun hc => ?_) (fun h2 => ?_)
    · refine Go.step rfl rfl rfl rfl ?_
      exact Go.iret rfl rfl rfl rfl
    iterate 2 refine Go.step rfl rfl rfl rfl ?_
    refine Go.if2 rfl rfl rfl (fun hc => ?_) (fun h3 => ?_)
    · refine Go.step rfl rfl rfl rfl ?_
      exact Go.iret rfl rfl rfl rfl
    exact absurd ⟨Int32.not_lt.mp (of_decide_eq_false h1), Int32.not_le.mp (of_decide_eq_false h2), Int32.not_le.mp (of_decide_eq_false h3)⟩ hP
set_option maxRecDepth 100000 in
set_option maxHeartbeats 4000000 in
theorem g_mout (i : Int32) : Go o 99 0 [some (.ref 60), some (.int i)] [] (hF φ σ dn ρ κ d) (some (.int (if 0 ≤ i ∧ i < φ 6078 ∧ i < 300 then σ 120 i.toNatClampNeg else -2))) (hF φ σ dn ρ κ d) := by
  by_cases hP : 0 ≤ i ∧ i < φ 6078 ∧ i < 300
  · rw [if_pos hP]
    refine Go.step rfl rfl rfl rfl ?_
    refine Go.step rfl rfl rfl (go_iff (decide_eq_false (Int32.not_lt.mpr hP.1))) ?_
    iterate 3 refine Go.step rfl rfl rfl rfl ?_
    refine Go.step rfl rfl rfl (go_if2f (decide_eq_false (Int32.not_le.mpr hP.2.1))) ?_
    iterate 2 refine Go.step rfl rfl rfl rfl ?_
    refine Go.step rfl rfl rfl (go_if2f (decide_eq_false (Int32.not_le.mpr hP.2.2))) ?_
    iterate 3 refine Go.step rfl rfl rfl rfl ?_
    refine Go.step rfl rfl rfl (go_ld rfl (ix_ok (N := 300) rfl hP.1 hP.2.2)) ?_
    refine Go.step rfl rfl rfl rfl ?_
    exact Go.iret rfl rfl rfl rfl
  · rw [if_neg hP]
    refine Go.step rfl rfl rfl rfl ?_
    refine Go.if1 rfl rfl rfl (fun hc => ?_) (fun h1 => ?_)
    · refine Go.step rfl rfl rfl rfl ?_
      exact Go.iret rfl rfl rfl rfl
    iterate 3 refine Go.step rfl rfl rfl rfl ?_
    refine Go.if2 rfl rfl rfl (fun hc => ?_) (fun h2 => ?_)
    · refine Go.step rfl rfl rfl rfl ?_
      exact Go.iret rfl rfl rfl rfl
    iterate 2 refine Go.step rfl rfl rfl rfl ?_
    refine Go.if2 rfl rfl rfl (fun hc => ?_) (fun h3 => ?_)
    · refine Go.step rfl rfl rfl rfl ?_
      exact Go.iret rfl rfl rfl rfl
    exact absurd ⟨Int32.not_lt.mp (of_decide_eq_false h1), Int32.not_le.mp (of_decide_eq_false h2), Int32.not_le.mp (of_decide_eq_false h3)⟩ hP
set_option maxRecDepth 100000 in
set_option maxHeartbeats 4000000 in
theorem g_out (i : Int32) : Go o 12 0 [some (.ref 0), some (.int i)] [] (hF φ σ dn ρ κ d) (some (.int (if 0 ≤ i ∧ i < φ 4701 ∧ i < 300 then σ 49 i.toNatClampNeg else -2))) (hF φ σ dn ρ κ d) := by
  iterate 4 refine Go.step rfl rfl rfl rfl ?_
  refine Go.call rfl rfl rfl (go_recv (by decide) rfl (by decide +kernel)) (g_sent i) ?_
  exact Go.iret rfl rfl rfl rfl
end
