/-! cls of the reference, and the class's face -/
section
variable {o : MjO} {φ : Nat → Int32} {σ : Nat → Nat → Int32} {dn : Int64} {ρ : Nat → Nat} {κ : Nat → Nat → Option Nat} {d : MjH}
def mKind (φ : Nat → Int32) (a b c : Int32) : Prop := (a = -1 ∨ 0 ≤ a ∧ a ≤ φ 6003 - 1) ∧ (0 ≤ b ∧ b ≤ 6) ∧ (0 ≤ c ∧ c ≤ 6)
set_option maxRecDepth 100000 in
set_option maxHeartbeats 4000000 in
theorem g_mcls_head {r : Option Value} {h' : MjH} (a b c : Int32) (kt : (¬ φ 6003 = 10 ∧ mKind φ a b c) → Go o 22 50 [some (.ref 60), some (.int a), some (.int b), some (.int c)] [] (hF φ σ dn ρ κ d) r h') (kf : ¬ (¬ φ 6003 = 10 ∧ mKind φ a b c) → Go o 22 48 [some (.ref 60), some (.int a), some (.int b), some (.int c)] [] (hF φ σ dn ρ κ d) r h') : Go o 22 0 [some (.ref 60), some (.int a), some (.int b), some (.int c)] [] (hF φ σ dn ρ κ d) r h' := by
  iterate 3 refine Go.step rfl rfl rfl rfl ?_
  refine Go.if2 rfl rfl rfl (fun h10 => ?_) (fun h10 => ?_)
  · exact kf (fun e => e.1 (of_decide_eq_true h10))
  have h10 : ¬ φ 6003 = 10 := of_decide_eq_false h10
  have key : (a = -1 ∨ 0 ≤ a ∧ a ≤ φ 6003 - 1) → Go o 22 28 [some (.ref 60), some (.int a), some (.int b), some (.int c)] [] (hF φ σ dn ρ κ d) r h' := by
    intro hA
    iterate 3 refine Go.step rfl rfl rfl rfl ?_
    refine Go.callB rfl rfl rfl rfl (g_isIn b 0 6) (fun hB => ?_) (fun hB => ?_)
    · iterate 4 refine Go.step rfl rfl rfl rfl ?_
      refine Go.callB rfl rfl rfl rfl (g_isIn c 0 6) (fun hC => ?_) (fun hC => ?_)
      · refine Go.step rfl rfl rfl rfl ?_
        exact kt ⟨h10, hA, hB, hC⟩
      · refine Go.step rfl rfl rfl rfl ?_
        exact kf (fun e => hC e.2.2.2)
    · refine Go.step rfl rfl rfl rfl ?_
      exact kf (fun e => hB e.2.2.1)
  iterate 2 refine Go.step rfl rfl rfl rfl ?_
  refine Go.if2 rfl rfl rfl (fun hc => ?_) (fun hc => ?_)
  · exact key (Or.inl (of_decide_eq_true hc))
  · iterate 6 refine Go.step rfl rfl rfl rfl ?_
    refine Go.callB rfl rfl rfl rfl (g_isIn a 0 (φ 6003 - 1)) (fun hP => ?_) (fun hP => ?_)
    · refine Go.step rfl rfl rfl rfl ?_
      exact key (Or.inr hP)
    · refine Go.step rfl rfl rfl rfl ?_
      exact kf (fun e => e.2.1.elim (of_decide_eq_false hc) hP)
set_option maxRecDepth 100000 in
set_option maxHeartbeats 4000000 in
theorem g_mcls_bad (a b c : Int32) (hbad : ¬ (¬ φ 6003 = 10 ∧ mKind φ a b c)) : Go o 22 0 [some (.ref 60), some (.int a), some (.int b), some (.int c)] [] (hF φ σ dn ρ κ d) (some (.int (-1))) (hF φ σ dn ρ κ d) := by
  refine g_mcls_head a b c (fun hk => absurd hk hbad) (fun _ => ?_)
  refine Go.step rfl rfl rfl rfl ?_
  exact Go.iret rfl rfl rfl rfl
def mCls (φ : Nat → Int32) (σ : Nat → Nat → Int32) (a b c : Int32) : Nat → Nat → Int32 :=
  let k := (φ 6003).toNatClampNeg
  va_up (va_up (va_up σ 61 (upd (σ 61) k a)) 62 (upd (σ 62) k b)) 63 (upd (σ 63) k c)
set_option maxRecDepth 100000 in
set_option maxHeartbeats 4000000 in
theorem g_mcls_ok (a b c : Int32) (h0 : 0 ≤ φ 6003) (h10 : φ 6003 < 10) (hk : mKind φ a b c) : Go o 22 0 [some (.ref 60), some (.int a), some (.int b), some (.int c)] [] (hF φ σ dn ρ κ d) (some (.int (φ 6003 + 1 - 1))) (hF (upd φ 6003 (φ 6003 + 1)) (mCls φ σ a b c) dn ρ κ d) := by
  have hix := ix_ok (N := 10) (n := 10) rfl h0 h10
  have hne : ¬ φ 6003 = 10 := fun e => by rw [e] at h10; exact absurd h10 (by decide)
  refine g_mcls_head a b c (fun _ => ?_) (fun e => absurd ⟨hne, hk⟩ e)
  iterate 5 refine Go.step rfl rfl rfl rfl ?_
  refine Go.step (h1 := hF φ (va_up σ 61 (upd (σ 61) (φ 6003).toNatClampNeg a)) dn ρ κ d) rfl rfl rfl (go_st rfl hix) ?_
  iterate 5 refine Go.step rfl rfl rfl rfl ?_
  refine Go.step (h1 := hF φ (va_up (va_up σ 61 (upd (σ 61) (φ 6003).toNatClampNeg a)) 62 (upd (σ 62) (φ 6003).toNatClampNeg b)) dn ρ κ d) rfl rfl rfl (go_st rfl hix) ?_
  iterate 5 refine Go.step rfl rfl rfl rfl ?_
  refine Go.step (h1 := hF φ (mCls φ σ a b c) dn ρ κ d) rfl rfl rfl (go_st rfl hix) ?_
  iterate 5 refine Go.step rfl rfl rfl rfl ?_
  refine Go.step (h1 := hF (upd φ 6003 (φ 6003 + 1)) (mCls φ σ a b c) dn ρ κ d) rfl rfl rfl rfl ?_
  iterate 4 refine Go.step rfl rfl rfl rfl ?_
  exact Go.iret rfl rfl rfl rfl
set_option maxRecDepth 100000 in
set_option maxHeartbeats 4000000 in
theorem g_cls {r : Int32} {h' : MjH} (a b c : Int32) (hk : Go o 265 0 [some (.ref 1), some (.int a), some (.int b), some (.int c), none] [] (hF φ σ dn ρ κ d) (some (.int r)) h') : Go o 1 0 [some (.ref 0), some (.int a), some (.int b), some (.int c)] [] (hF φ σ dn ρ κ d) (some (.int r)) h' := by
  iterate 5 refine Go.step rfl rfl rfl rfl ?_
  refine Go.call rfl rfl rfl (go_recv (by decide) rfl (by decide +kernel)) hk ?_
  exact Go.iret rfl rfl rfl rfl
end
