/-! the class's source, and the reference's: leaves, cls -/
section
variable {o : MjO} {φ : Nat → Int32} {σ : Nat → Nat → Int32} {dn : Int64} {ρ : Nat → Nat} {κ : Nat → Nat → Option Nat} {d : MjH}
set_option maxRecDepth 100000 in
set_option maxHeartbeats 4000000 in
theorem g_isKind (c : Int32) : Go o 261 0 [some (.ref 1), some (.int c)] [] (hF φ σ dn ρ κ d) (some (.int (if 0 ≤ c ∧ c < φ 101 ∧ c < 10 then 1 else 0))) (hF φ σ dn ρ κ d) := by
  by_cases hP : 0 ≤ c ∧ c < φ 101 ∧ c < 10
  · rw [if_pos hP]
    refine Go.step rfl rfl rfl rfl ?_
    refine Go.step rfl rfl rfl (go_iff (decide_eq_false (Int32.not_lt.mpr hP.1))) ?_
    iterate 3 refine Go.step rfl rfl rfl rfl ?_
    refine Go.step rfl rfl rfl (go_if2f (decide_eq_false (Int32.not_le.mpr hP.2.1))) ?_
    iterate 2 refine Go.step rfl rfl rfl rfl ?_
    refine Go.step rfl rfl rfl (go_if2f (decide_eq_false (Int32.not_le.mpr hP.2.2))) ?_
    iterate 2 refine Go.step rfl rfl rfl rfl ?_
    exact Go.iret rfl rfl rfl rfl
  · rw [if_neg hP]
    refine Go.step rfl rfl rfl rfl ?_
    refine Go.if1 rfl rfl rfl (fun hc => ?_) (fun h1 => ?_)
    · refine Go.step rfl rfl rfl rfl ?_
      exact Go.iret rfl rfl rfl rfl
    iterate 3 refine Go.step rfl rfl rfl rfl ?_
    refine Go.if2 rfl rfl rfl (fun hc => ?_) (fun h2 => ?_)
    · refine Go.step rfl rfl rfl rfl ?_
      exact Go.iret rfl rfl rfl rfl
    iterate 2 refine Go.step rfl rfl rfl rfl ?_
    refine Go.if2 rfl rfl rfl (fun hc => ?_) (fun h3 => ?_)
    · refine Go.step rfl rfl rfl rfl ?_
      exact Go.iret rfl rfl rfl rfl
    exact absurd ⟨Int32.not_lt.mp (of_decide_eq_false h1), Int32.not_le.mp (of_decide_eq_false h2), Int32.not_le.mp (of_decide_eq_false h3)⟩ hP
set_option maxRecDepth 100000 in
set_option maxHeartbeats 4000000 in
theorem g_above (c : Int32) : Go o 266 0 [some (.ref 1), some (.int c)] [] (hF φ σ dn ρ κ d) (some (.int (if 0 ≤ c ∧ c < φ 101 ∧ c < 10 then σ 3 c.toNatClampNeg else -1))) (hF φ σ dn ρ κ d) := by
  have hk := g_isKind (o := o) (φ := φ) (σ := σ) (dn := dn) (ρ := ρ) (κ := κ) (d := d) c
  by_cases hP : 0 ≤ c ∧ c < φ 101 ∧ c < 10
  · rw [if_pos hP] at hk ⊢
    refine Go.step rfl rfl rfl rfl ?_
    refine Go.step rfl rfl rfl rfl ?_
    refine Go.call rfl rfl rfl (go_recv (by decide) rfl (by decide +kernel)) hk ?_
    refine Go.step rfl rfl rfl rfl ?_
    refine Go.step rfl rfl rfl rfl ?_
    refine Go.step rfl rfl rfl rfl ?_
    refine Go.step rfl rfl rfl rfl ?_
    refine Go.step rfl rfl rfl (go_ld rfl (ix_ok (N := 10) rfl hP.1 hP.2.2)) ?_
    refine Go.step rfl rfl rfl rfl ?_
    exact Go.iret rfl rfl rfl rfl
  · rw [if_neg hP] at hk ⊢
    refine Go.step rfl rfl rfl rfl ?_
    refine Go.step rfl rfl rfl rfl ?_
    refine Go.call rfl rfl rfl (go_recv (by decide) rfl (by decide +kernel)) hk ?_
    refine Go.step rfl rfl rfl rfl ?_
    refine Go.step rfl rfl rfl rfl ?_
    exact Go.iret rfl rfl rfl rfl
end
