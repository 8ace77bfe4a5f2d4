/-! cls: both sides -/
section
variable {o : MjO} {φ : Nat → Int32} {σ : Nat → Nat → Int32} {dn : Int64} {ρ : Nat → Nat} {κ : Nat → Nat → Option Nat} {d : MjH}
set_option maxRecDepth 100000 in
set_option maxHeartbeats 4000000 in
theorem g_allInts (c : Int32) : Go o 267 0 [some (.ref 1), some (.int c)] [] (hF φ σ dn ρ κ d) (some (.int (if 0 ≤ c ∧ c < φ 101 ∧ c < 10 then σ 6 c.toNatClampNeg else 0))) (hF φ σ dn ρ κ d) := by
  iterate 2 refine Go.step rfl rfl rfl rfl ?_
  refine Go.callB rfl rfl rfl (go_recv (by decide) rfl (by decide +kernel)) (g_isKind c) (fun hP => ?_) (fun hP => ?_)
  · rw [if_pos hP]
    iterate 4 refine Go.step rfl rfl rfl rfl ?_
    refine Go.step rfl rfl rfl (go_ld rfl (ix_ok (N := 10) rfl hP.1 hP.2.2)) ?_
    refine Go.step rfl rfl rfl rfl ?_
    exact Go.iret rfl rfl rfl rfl
  · rw [if_neg hP]
    iterate 2 refine Go.step rfl rfl rfl rfl ?_
    exact Go.iret rfl rfl rfl rfl
set_option maxRecDepth 100000 in
set_option maxHeartbeats 4000000 in
theorem g_allRefs (c : Int32) : Go o 268 0 [some (.ref 1), some (.int c)] [] (hF φ σ dn ρ κ d) (some (.int (if 0 ≤ c ∧ c < φ 101 ∧ c < 10 then σ 7 c.toNatClampNeg else 0))) (hF φ σ dn ρ κ d) := by
  iterate 2 refine Go.step rfl rfl rfl rfl ?_
  refine Go.callB rfl rfl rfl (go_recv (by decide) rfl (by decide +kernel)) (g_isKind c) (fun hP => ?_) (fun hP => ?_)
  · rw [if_pos hP]
    iterate 4 refine Go.step rfl rfl rfl rfl ?_
    refine Go.step rfl rfl rfl (go_ld rfl (ix_ok (N := 10) rfl hP.1 hP.2.2)) ?_
    refine Go.step rfl rfl rfl rfl ?_
    exact Go.iret rfl rfl rfl rfl
  · rw [if_neg hP]
    iterate 2 refine Go.step rfl rfl rfl rfl ?_
    exact Go.iret rfl rfl rfl rfl
/-- a new class that is told right -/
def cKind (φ : Nat → Int32) (a b c : Int32) : Prop := (a = -1 ∨ 0 ≤ a ∧ a < φ 101 ∧ a < 10) ∧ (0 ≤ b ∧ b ≤ 6) ∧ (0 ≤ c ∧ c ≤ 6)
set_option maxRecDepth 100000 in
set_option maxHeartbeats 4000000 in
theorem g_addKind_head {r : Option Value} {h' : MjH} (a b c : Int32) (kt : cKind φ a b c → Go o 265 38 [some (.ref 1), some (.int a), some (.int b), some (.int c), none] [.int 1] (hF φ σ dn ρ κ d) r h') (kf : ¬ cKind φ a b c → Go o 265 38 [some (.ref 1), some (.int a), some (.int b), some (.int c), none] [.int 0] (hF φ σ dn ρ κ d) r h') : Go o 265 0 [some (.ref 1), some (.int a), some (.int b), some (.int c), none] [] (hF φ σ dn ρ κ d) r h' := by
  have key : (a = -1 ∨ 0 ≤ a ∧ a < φ 101 ∧ a < 10) → Go o 265 13 [some (.ref 1), some (.int a), some (.int b), some (.int c), none] [] (hF φ σ dn ρ κ d) r h' := by
    intro hA
    iterate 3 refine Go.step rfl rfl rfl rfl ?_
    refine Go.callB rfl rfl rfl rfl (g_within b 0 6) (fun hB => ?_) (fun hB => ?_)
    · iterate 4 refine Go.step rfl rfl rfl rfl ?_
      refine Go.callB rfl rfl rfl rfl (g_within c 0 6) (fun hC => ?_) (fun hC => ?_)
      · iterate 3 refine Go.step rfl rfl rfl rfl ?_
        exact kt ⟨hA, hB, hC⟩
      · iterate 2 refine Go.step rfl rfl rfl rfl ?_
        exact kf (fun e => hC e.2.2)
    · iterate 2 refine Go.step rfl rfl rfl rfl ?_
      exact kf (fun e => hB e.2.1)
  iterate 2 refine Go.step rfl rfl rfl rfl ?_
  refine Go.if2 rfl rfl rfl (fun hc => ?_) (fun hc => ?_)
  · exact key (Or.inl (of_decide_eq_true hc))
  · iterate 2 refine Go.step rfl rfl rfl rfl ?_
    refine Go.callB rfl rfl rfl (go_recv (by decide) rfl (by decide +kernel)) (g_isKind a) (fun hP => ?_) (fun hP => ?_)
    · refine Go.step rfl rfl rfl rfl ?_
      exact key (Or.inr hP)
    · iterate 2 refine Go.step rfl rfl rfl rfl ?_
      exact kf (fun e => e.1.elim (of_decide_eq_false hc) hP)
set_option maxRecDepth 100000 in
set_option maxHeartbeats 4000000 in
theorem g_addKind_bad (a b c : Int32) (hbad : ¬ (cKind φ a b c ∧ φ 101 < 10)) : Go o 265 0 [some (.ref 1), some (.int a), some (.int b), some (.int c), none] [] (hF φ σ dn ρ κ d) (some (.int (-1))) (hF φ σ dn ρ κ d) := by
  refine g_addKind_head a b c (fun hk => ?_) (fun hk => ?_)
  · iterate 6 refine Go.step rfl rfl rfl rfl ?_
    refine Go.if2 rfl rfl rfl (fun hc => ?_) (fun hc => ?_)
    · exact absurd ⟨hk, of_decide_eq_true hc⟩ hbad
    · refine Go.step rfl rfl rfl rfl ?_
      exact Go.iret rfl rfl rfl rfl
  · iterate 4 refine Go.step rfl rfl rfl rfl ?_
    exact Go.iret rfl rfl rfl rfl
/-- what the class's rows hold behind a new class -/
def cCls (φ : Nat → Int32) (σ : Nat → Nat → Int32) (a b c : Int32) : Nat → Nat → Int32 :=
  let k := (φ 101).toNatClampNeg
  let ai := if 0 ≤ a ∧ a < φ 101 ∧ a < 10 then σ 6 a.toNatClampNeg else 0
  let ar := if 0 ≤ a ∧ a < φ 101 ∧ a < 10 then σ 7 a.toNatClampNeg else 0
  va_up (va_up (va_up (va_up (va_up σ 3 (upd (σ 3) k a)) 4 (upd (σ 4) k b)) 5 (upd (σ 5) k c)) 6 (upd (σ 6) k (b + ai))) 7 (upd (σ 7) k (c + ar))
set_option maxRecDepth 100000 in
set_option maxHeartbeats 4000000 in
theorem g_addKind_ok (a b c : Int32) (h0 : 0 ≤ φ 101) (hk : cKind φ a b c) (h10 : φ 101 < 10) : Go o 265 0 [some (.ref 1), some (.int a), some (.int b), some (.int c), none] [] (hF φ σ dn ρ κ d) (some (.int (φ 101))) (hF (upd φ 101 (φ 101 + 1)) (cCls φ σ a b c) dn ρ κ d) := by
  have hix := ix_ok (N := 10) (n := 10) rfl h0 h10
  refine g_addKind_head a b c (fun _ => ?_) (fun e => absurd hk e)
  iterate 6 refine Go.step rfl rfl rfl rfl ?_
  refine Go.step rfl rfl rfl (go_if2t (decide_eq_true h10)) ?_
  iterate 5 refine Go.step rfl rfl rfl rfl ?_
  refine Go.step (h1 := hF φ (va_up σ 3 (upd (σ 3) (φ 101).toNatClampNeg a)) dn ρ κ d) rfl rfl rfl (go_st rfl hix) ?_
  iterate 5 refine Go.step rfl rfl rfl rfl ?_
  refine Go.step (h1 := hF φ (va_up (va_up σ 3 (upd (σ 3) (φ 101).toNatClampNeg a)) 4 (upd (σ 4) (φ 101).toNatClampNeg b)) dn ρ κ d) rfl rfl rfl (go_st rfl hix) ?_
  iterate 5 refine Go.step rfl rfl rfl rfl ?_
  refine Go.step (h1 := hF φ (va_up (va_up (va_up σ 3 (upd (σ 3) (φ 101).toNatClampNeg a)) 4 (upd (σ 4) (φ 101).toNatClampNeg b)) 5 (upd (σ 5) (φ 101).toNatClampNeg c)) dn ρ κ d) rfl rfl rfl (go_st rfl hix) ?_
  iterate 7 refine Go.step rfl rfl rfl rfl ?_
  refine Go.call rfl rfl rfl (go_recv (by decide) rfl (by decide +kernel)) (g_allInts a) ?_
  refine Go.step rfl rfl rfl rfl ?_
  refine Go.step (h1 := hF φ (va_up (va_up (va_up (va_up σ 3 (upd (σ 3) (φ 101).toNatClampNeg a)) 4 (upd (σ 4) (φ 101).toNatClampNeg b)) 5 (upd (σ 5) (φ 101).toNatClampNeg c)) 6 (upd (σ 6) (φ 101).toNatClampNeg (b + (if 0 ≤ a ∧ a < φ 101 ∧ a < 10 then σ 6 a.toNatClampNeg else 0)))) dn ρ κ d) rfl rfl rfl (go_st rfl hix) ?_
  iterate 7 refine Go.step rfl rfl rfl rfl ?_
  refine Go.call rfl rfl rfl (go_recv (by decide) rfl (by decide +kernel)) (g_allRefs a) ?_
  refine Go.step rfl rfl rfl rfl ?_
  refine Go.step (h1 := hF φ (cCls φ σ a b c) dn ρ κ d) rfl rfl rfl (go_st rfl hix) ?_
  iterate 6 refine Go.step rfl rfl rfl rfl ?_
  refine Go.step (h1 := hF (upd φ 101 (φ 101 + 1)) (cCls φ σ a b c) dn ρ κ d) rfl rfl rfl rfl ?_
  exact Go.iret rfl rfl rfl rfl
end
