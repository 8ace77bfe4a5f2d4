/-! reads over the fixed cells, by program -/
theorem go_div {f : Int32 → Int32 → Int32} {o : MjO} {q : MjIns} {pc : Nat} {ml : MjL} {st : List Value} {h : MjH} {x y : Int32} (hy : ¬ y = 0) : mjDiv f o q pc ml (.int y :: .int x :: st) h = some (pc + 1, ml, .int (f x y) :: st, h) := by
  unfold mjDiv
  dsimp only
  rw [if_neg hy]
section
variable {o : MjO} {φ : Nat → Int32} {σ : Nat → Nat → Int32} {dn : Int64} {ρ : Nat → Nat} {κ : Nat → Nat → Option Nat} {d : MjH}
def sp_Model_isClass (φ : Nat → Int32) (x : Int32) : Int32 := (if 0 ≤ x ∧ x ≤ (φ 6003) - 1 then 1 else 0)
set_option maxRecDepth 100000 in
set_option maxHeartbeats 4000000 in
theorem gp_Model_isClass (x : Int32)  : Go o 27 0 [some (.ref 60), some (.int x)] [] (hF φ σ dn ρ κ d) (some (.int (sp_Model_isClass φ x))) (hF φ σ dn ρ κ d) := by
  unfold sp_Model_isClass
  refine Go.step rfl rfl rfl rfl ?_
  refine Go.step rfl rfl rfl rfl ?_
  refine Go.step rfl rfl rfl rfl ?_
  refine Go.step rfl rfl rfl rfl ?_
  refine Go.step rfl rfl rfl rfl ?_
  refine Go.step rfl rfl rfl rfl ?_
  refine Go.callB rfl rfl rfl rfl (g_isIn x 0 ((φ 6003) - 1)) (fun e1 => ?_) (fun e1 => ?_)
  · rw [if_pos (show 0 ≤ x ∧ x ≤ (φ 6003) - 1 from e1)]
    exact Go.iret rfl rfl rfl rfl
  · rw [if_neg (show ¬ (0 ≤ x ∧ x ≤ (φ 6003) - 1) from e1)]
    exact Go.iret rfl rfl rfl rfl
def sp_Model_isStatic (φ : Nat → Int32) (σ : Nat → Nat → Int32) (x : Int32) : Int32 := (if 0 ≤ x ∧ x ≤ (φ 6015) - 1 then (if ¬ σ 65 x.toNatClampNeg = (-2) then 0 else 1) else 0)
set_option maxRecDepth 100000 in
set_option maxHeartbeats 4000000 in
theorem gp_Model_isStatic (x : Int32) (hb1 : (0 ≤ x ∧ x ≤ (φ 6015) - 1) → ¬ (x < 0 ∨ 24 ≤ x.toNatClampNeg)) : Go o 28 0 [some (.ref 60), some (.int x)] [] (hF φ σ dn ρ κ d) (some (.int (sp_Model_isStatic φ σ x))) (hF φ σ dn ρ κ d) := by
  unfold sp_Model_isStatic
  refine Go.step rfl rfl rfl rfl ?_
  refine Go.step rfl rfl rfl rfl ?_
  refine Go.step rfl rfl rfl rfl ?_
  refine Go.step rfl rfl rfl rfl ?_
  refine Go.step rfl rfl rfl rfl ?_
  refine Go.step rfl rfl rfl rfl ?_
  refine Go.callB rfl rfl rfl rfl (g_isIn x 0 ((φ 6015) - 1)) (fun e1 => ?_) (fun e1 => ?_)
  · rw [if_pos (show 0 ≤ x ∧ x ≤ (φ 6015) - 1 from e1)]
    refine Go.step rfl rfl rfl rfl ?_
    refine Go.step rfl rfl rfl rfl ?_
    refine Go.step rfl rfl rfl rfl ?_
    refine Go.step rfl rfl rfl rfl ?_
    refine Go.step rfl rfl rfl (go_ld rfl (hb1 e1)) ?_
    refine Go.step rfl rfl rfl rfl ?_
    refine Go.if2 rfl rfl rfl (fun e3 => ?_) (fun e3 => ?_)
    · rw [if_pos (show ¬ σ 65 x.toNatClampNeg = (-2) from of_decide_eq_true e3)]
      refine Go.step rfl rfl rfl rfl ?_
      exact Go.iret rfl rfl rfl rfl
    · rw [if_neg (show ¬ (¬ σ 65 x.toNatClampNeg = (-2)) from of_decide_eq_false e3)]
      refine Go.step rfl rfl rfl rfl ?_
      refine Go.step rfl rfl rfl rfl ?_
      exact Go.iret rfl rfl rfl rfl
  · rw [if_neg (show ¬ (0 ≤ x ∧ x ≤ (φ 6015) - 1) from e1)]
    refine Go.step rfl rfl rfl rfl ?_
    refine Go.step rfl rfl rfl rfl ?_
    exact Go.iret rfl rfl rfl rfl
def sp_Model_topAt (φ : Nat → Int32) (σ : Nat → Nat → Int32)  : Int32 := ((22 * (φ 6089)) + 12) + (σ 114 (φ 6089).toNatClampNeg)
set_option maxRecDepth 100000 in
set_option maxHeartbeats 4000000 in
theorem gp_Model_topAt  (hb1 : ¬ (φ 6089 < 0 ∨ 120 ≤ (φ 6089).toNatClampNeg)) : Go o 63 0 [some (.ref 60)] [] (hF φ σ dn ρ κ d) (some (.int (sp_Model_topAt φ σ))) (hF φ σ dn ρ κ d) := by
  unfold sp_Model_topAt
  refine Go.step rfl rfl rfl rfl ?_
  refine Go.step rfl rfl rfl rfl ?_
  refine Go.step rfl rfl rfl rfl ?_
  refine Go.step rfl rfl rfl rfl ?_
  refine Go.step rfl rfl rfl rfl ?_
  refine Go.step rfl rfl rfl rfl ?_
  refine Go.step rfl rfl rfl rfl ?_
  refine Go.step rfl rfl rfl rfl ?_
  refine Go.step rfl rfl rfl rfl ?_
  refine Go.step rfl rfl rfl rfl ?_
  refine Go.step rfl rfl rfl (go_ld rfl (hb1)) ?_
  refine Go.step rfl rfl rfl rfl ?_
  exact Go.iret rfl rfl rfl rfl
def sp_Model_op (σ : Nat → Nat → Int32) (x : Int32) : Int32 := σ 103 ((1440 + (60 * (σ 112 x.toNatClampNeg))) + (σ 113 x.toNatClampNeg)).toNatClampNeg
set_option maxRecDepth 100000 in
set_option maxHeartbeats 4000000 in
theorem gp_Model_op (x : Int32) (hb1 : ¬ (x < 0 ∨ 120 ≤ x.toNatClampNeg)) (hb2 : ¬ ((1440 + (60 * (σ 112 x.toNatClampNeg))) + (σ 113 x.toNatClampNeg) < 0 ∨ 2880 ≤ ((1440 + (60 * (σ 112 x.toNatClampNeg))) + (σ 113 x.toNatClampNeg)).toNatClampNeg)) : Go o 68 0 [some (.ref 60), some (.int x)] [] (hF φ σ dn ρ κ d) (some (.int (sp_Model_op σ x))) (hF φ σ dn ρ κ d) := by
  unfold sp_Model_op
  refine Go.step rfl rfl rfl rfl ?_
  refine Go.step rfl rfl rfl rfl ?_
  refine Go.step rfl rfl rfl rfl ?_
  refine Go.step rfl rfl rfl rfl ?_
  refine Go.step rfl rfl rfl rfl ?_
  refine Go.step rfl rfl rfl rfl ?_
  refine Go.step rfl rfl rfl rfl ?_
  refine Go.step rfl rfl rfl (go_ld rfl (hb1)) ?_
  refine Go.step rfl rfl rfl rfl ?_
  refine Go.step rfl rfl rfl rfl ?_
  refine Go.step rfl rfl rfl rfl ?_
  refine Go.step rfl rfl rfl rfl ?_
  refine Go.step rfl rfl rfl rfl ?_
  refine Go.step rfl rfl rfl (go_ld rfl (hb1)) ?_
  refine Go.step rfl rfl rfl rfl ?_
  refine Go.step rfl rfl rfl (go_ld rfl (hb2)) ?_
  exact Go.iret rfl rfl rfl rfl
def sp_Model_operand (σ : Nat → Nat → Int32) (x : Int32) : Int32 := σ 104 ((1440 + (60 * (σ 112 x.toNatClampNeg))) + (σ 113 x.toNatClampNeg)).toNatClampNeg
set_option maxRecDepth 100000 in
set_option maxHeartbeats 4000000 in
theorem gp_Model_operand (x : Int32) (hb1 : ¬ (x < 0 ∨ 120 ≤ x.toNatClampNeg)) (hb2 : ¬ ((1440 + (60 * (σ 112 x.toNatClampNeg))) + (σ 113 x.toNatClampNeg) < 0 ∨ 2880 ≤ ((1440 + (60 * (σ 112 x.toNatClampNeg))) + (σ 113 x.toNatClampNeg)).toNatClampNeg)) : Go o 69 0 [some (.ref 60), some (.int x)] [] (hF φ σ dn ρ κ d) (some (.int (sp_Model_operand σ x))) (hF φ σ dn ρ κ d) := by
  unfold sp_Model_operand
  refine Go.step rfl rfl rfl rfl ?_
  refine Go.step rfl rfl rfl rfl ?_
  refine Go.step rfl rfl rfl rfl ?_
  refine Go.step rfl rfl rfl rfl ?_
  refine Go.step rfl rfl rfl rfl ?_
  refine Go.step rfl rfl rfl rfl ?_
  refine Go.step rfl rfl rfl rfl ?_
  refine Go.step rfl rfl rfl (go_ld rfl (hb1)) ?_
  refine Go.step rfl rfl rfl rfl ?_
  refine Go.step rfl rfl rfl rfl ?_
  refine Go.step rfl rfl rfl rfl ?_
  refine Go.step rfl rfl rfl rfl ?_
  refine Go.step rfl rfl rfl rfl ?_
  refine Go.step rfl rfl rfl (go_ld rfl (hb1)) ?_
  refine Go.step rfl rfl rfl rfl ?_
  refine Go.step rfl rfl rfl (go_ld rfl (hb2)) ?_
  exact Go.iret rfl rfl rfl rfl
def sp_Model_sizeOf (σ : Nat → Nat → Int32) (x : Int32) (y : Int32) : Int32 := (if ¬ x = 10 then (if ¬ x = 11 then (8 + (4 * (σ 96 (10 + x).toNatClampNeg))) + (2 * (σ 97 (10 + x).toNatClampNeg)) else 10 + (2 * y)) else 10 + (4 * y))
set_option maxRecDepth 100000 in
set_option maxHeartbeats 4000000 in
theorem gp_Model_sizeOf (x : Int32) (y : Int32) (hb1 : (¬ x = 10) → (¬ x = 11) → ¬ (10 + x < 0 ∨ 20 ≤ (10 + x).toNatClampNeg)) : Go o 71 0 [some (.ref 60), some (.int x), some (.int y)] [] (hF φ σ dn ρ κ d) (some (.int (sp_Model_sizeOf σ x y))) (hF φ σ dn ρ κ d) := by
  unfold sp_Model_sizeOf
  refine Go.step rfl rfl rfl rfl ?_
  refine Go.step rfl rfl rfl rfl ?_
  refine Go.if2 rfl rfl rfl (fun e1 => ?_) (fun e1 => ?_)
  · rw [if_pos (show ¬ x = 10 from of_decide_eq_true e1)]
    refine Go.step rfl rfl rfl rfl ?_
    refine Go.step rfl rfl rfl rfl ?_
    refine Go.if2 rfl rfl rfl (fun e2 => ?_) (fun e2 => ?_)
    · rw [if_pos (show ¬ x = 11 from of_decide_eq_true e2)]
      refine Go.step rfl rfl rfl rfl ?_
      refine Go.step rfl rfl rfl rfl ?_
      refine Go.step rfl rfl rfl rfl ?_
      refine Go.step rfl rfl rfl rfl ?_
      refine Go.step rfl rfl rfl rfl ?_
      refine Go.step rfl rfl rfl rfl ?_
      refine Go.step rfl rfl rfl rfl ?_
      refine Go.step rfl rfl rfl (go_ld rfl (hb1 (of_decide_eq_true e1) (of_decide_eq_true e2))) ?_
      refine Go.step rfl rfl rfl rfl ?_
      refine Go.step rfl rfl rfl rfl ?_
      refine Go.step rfl rfl rfl rfl ?_
      refine Go.step rfl rfl rfl rfl ?_
      refine Go.step rfl rfl rfl rfl ?_
      refine Go.step rfl rfl rfl rfl ?_
      refine Go.step rfl rfl rfl rfl ?_
      refine Go.step rfl rfl rfl rfl ?_
      refine Go.step rfl rfl rfl (go_ld rfl (hb1 (of_decide_eq_true e1) (of_decide_eq_true e2))) ?_
      refine Go.step rfl rfl rfl rfl ?_
      refine Go.step rfl rfl rfl rfl ?_
      exact Go.iret rfl rfl rfl rfl
    · rw [if_neg (show ¬ (¬ x = 11) from of_decide_eq_false e2)]
      refine Go.step rfl rfl rfl rfl ?_
      refine Go.step rfl rfl rfl rfl ?_
      refine Go.step rfl rfl rfl rfl ?_
      refine Go.step rfl rfl rfl rfl ?_
      refine Go.step rfl rfl rfl rfl ?_
      refine Go.step rfl rfl rfl rfl ?_
      exact Go.iret rfl rfl rfl rfl
  · rw [if_neg (show ¬ (¬ x = 10) from of_decide_eq_false e1)]
    refine Go.step rfl rfl rfl rfl ?_
    refine Go.step rfl rfl rfl rfl ?_
    refine Go.step rfl rfl rfl rfl ?_
    refine Go.step rfl rfl rfl rfl ?_
    refine Go.step rfl rfl rfl rfl ?_
    refine Go.step rfl rfl rfl rfl ?_
    exact Go.iret rfl rfl rfl rfl
def sp_Model_cellsOf (σ : Nat → Nat → Int32) (x : Int32) (y : Int32) : Int32 := (if x < 10 then (σ 96 (10 + x).toNatClampNeg) + (σ 97 (10 + x).toNatClampNeg) else y)
set_option maxRecDepth 100000 in
set_option maxHeartbeats 4000000 in
theorem gp_Model_cellsOf (x : Int32) (y : Int32) (hb1 : (x < 10) → ¬ (10 + x < 0 ∨ 20 ≤ (10 + x).toNatClampNeg)) : Go o 72 0 [some (.ref 60), some (.int x), some (.int y)] [] (hF φ σ dn ρ κ d) (some (.int (sp_Model_cellsOf σ x y))) (hF φ σ dn ρ κ d) := by
  unfold sp_Model_cellsOf
  refine Go.step rfl rfl rfl rfl ?_
  refine Go.step rfl rfl rfl rfl ?_
  refine Go.if2 rfl rfl rfl (fun e1 => ?_) (fun e1 => ?_)
  · rw [if_pos (show x < 10 from of_decide_eq_true e1)]
    refine Go.step rfl rfl rfl rfl ?_
    refine Go.step rfl rfl rfl rfl ?_
    refine Go.step rfl rfl rfl rfl ?_
    refine Go.step rfl rfl rfl rfl ?_
    refine Go.step rfl rfl rfl rfl ?_
    refine Go.step rfl rfl rfl (go_ld rfl (hb1 (of_decide_eq_true e1))) ?_
    refine Go.step rfl rfl rfl rfl ?_
    refine Go.step rfl rfl rfl rfl ?_
    refine Go.step rfl rfl rfl rfl ?_
    refine Go.step rfl rfl rfl rfl ?_
    refine Go.step rfl rfl rfl rfl ?_
    refine Go.step rfl rfl rfl (go_ld rfl (hb1 (of_decide_eq_true e1))) ?_
    refine Go.step rfl rfl rfl rfl ?_
    exact Go.iret rfl rfl rfl rfl
  · rw [if_neg (show ¬ (x < 10) from of_decide_eq_false e1)]
    refine Go.step rfl rfl rfl rfl ?_
    refine Go.step rfl rfl rfl rfl ?_
    exact Go.iret rfl rfl rfl rfl
def sp_Model_image (φ : Nat → Int32) (σ : Nat → Nat → Int32) (x : Int32) : Int32 := (if 0 ≤ x ∧ x ≤ (φ 6037) - 1 then σ 91 x.toNatClampNeg else (-1))
set_option maxRecDepth 100000 in
set_option maxHeartbeats 4000000 in
theorem gp_Model_image (x : Int32) (hb1 : (0 ≤ x ∧ x ≤ (φ 6037) - 1) → ¬ (x < 0 ∨ 8000 ≤ x.toNatClampNeg)) : Go o 53 0 [some (.ref 60), some (.int x)] [] (hF φ σ dn ρ κ d) (some (.int (sp_Model_image φ σ x))) (hF φ σ dn ρ κ d) := by
  unfold sp_Model_image
  refine Go.step rfl rfl rfl rfl ?_
  refine Go.step rfl rfl rfl rfl ?_
  refine Go.step rfl rfl rfl rfl ?_
  refine Go.step rfl rfl rfl rfl ?_
  refine Go.step rfl rfl rfl rfl ?_
  refine Go.step rfl rfl rfl rfl ?_
  refine Go.callB rfl rfl rfl rfl (g_isIn x 0 ((φ 6037) - 1)) (fun e1 => ?_) (fun e1 => ?_)
  · rw [if_pos (show 0 ≤ x ∧ x ≤ (φ 6037) - 1 from e1)]
    refine Go.step rfl rfl rfl rfl ?_
    refine Go.step rfl rfl rfl rfl ?_
    refine Go.step rfl rfl rfl rfl ?_
    refine Go.step rfl rfl rfl rfl ?_
    refine Go.step rfl rfl rfl (go_ld rfl (hb1 e1)) ?_
    refine Go.step rfl rfl rfl rfl ?_
    exact Go.iret rfl rfl rfl rfl
  · rw [if_neg (show ¬ (0 ≤ x ∧ x ≤ (φ 6037) - 1) from e1)]
    refine Go.step rfl rfl rfl rfl ?_
    refine Go.step rfl rfl rfl rfl ?_
    exact Go.iret rfl rfl rfl rfl
def sp_Model_reckon (x : Int32) (y : Int32) (z : Int32) : Int32 := (if x = 4 then y + z else (if x = 5 then y - z else (if x = 6 then y * z else (if x = 7 then y / z else (if x = 8 then y - y / z * z else (if x = 9 then (y.toUInt32 >>> ((z : Int32).toUInt32 &&& Int32.toUInt32 31)).toInt32 else (if x = 10 then y &&& z else (if x = 11 then y ||| z else (if x = 12 then y ^^^ z else (if x = 13 then y <<< (z &&& 31) else (if x = 14 then y >>> (z &&& 31) else (y.toUInt32 >>> ((z : Int32).toUInt32 &&& Int32.toUInt32 31)).toInt32)))))))))))
set_option maxRecDepth 100000 in
set_option maxHeartbeats 4000000 in
theorem gp_Model_reckon (x : Int32) (y : Int32) (z : Int32) (hb1 : (¬ x = 4) → (¬ x = 5) → (¬ x = 6) → (x = 7) → ¬ z = 0) (hb2 : (¬ x = 4) → (¬ x = 5) → (¬ x = 6) → (¬ x = 7) → (x = 8) → ¬ z = 0) : Go o 80 0 [some (.int x), some (.int y), some (.int z)] [] (hF φ σ dn ρ κ d) (some (.int (sp_Model_reckon x y z))) (hF φ σ dn ρ κ d) := by
  unfold sp_Model_reckon
  refine Go.step rfl rfl rfl rfl ?_
  by_cases e_1 : x = 4
  · rw [if_pos e_1]
    refine Go.step rfl rfl rfl (go_sw (t := 60) (by rw [e_1]; rfl)) ?_
    refine Go.step rfl rfl rfl rfl ?_
    refine Go.step rfl rfl rfl rfl ?_
    refine Go.step rfl rfl rfl rfl ?_
    exact Go.iret rfl rfl rfl rfl
  · rw [if_neg e_1]
    by_cases e_2 : x = 5
    · rw [if_pos e_2]
      refine Go.step rfl rfl rfl (go_sw (t := 64) (by rw [e_2]; rfl)) ?_
      refine Go.step rfl rfl rfl rfl ?_
      refine Go.step rfl rfl rfl rfl ?_
      refine Go.step rfl rfl rfl rfl ?_
      exact Go.iret rfl rfl rfl rfl
    · rw [if_neg e_2]
      by_cases e_3 : x = 6
      · rw [if_pos e_3]
        refine Go.step rfl rfl rfl (go_sw (t := 68) (by rw [e_3]; rfl)) ?_
        refine Go.step rfl rfl rfl rfl ?_
        refine Go.step rfl rfl rfl rfl ?_
        refine Go.step rfl rfl rfl rfl ?_
        exact Go.iret rfl rfl rfl rfl
      · rw [if_neg e_3]
        by_cases e_4 : x = 7
        · rw [if_pos e_4]
          refine Go.step rfl rfl rfl (go_sw (t := 72) (by rw [e_4]; rfl)) ?_
          refine Go.step rfl rfl rfl rfl ?_
          refine Go.step rfl rfl rfl rfl ?_
          refine Go.step rfl rfl rfl (go_div (hb1 e_1 e_2 e_3 e_4)) ?_
          exact Go.iret rfl rfl rfl rfl
        · rw [if_neg e_4]
          by_cases e_5 : x = 8
          · rw [if_pos e_5]
            refine Go.step rfl rfl rfl (go_sw (t := 76) (by rw [e_5]; rfl)) ?_
            refine Go.step rfl rfl rfl rfl ?_
            refine Go.step rfl rfl rfl rfl ?_
            refine Go.step rfl rfl rfl (go_div (hb2 e_1 e_2 e_3 e_4 e_5)) ?_
            exact Go.iret rfl rfl rfl rfl
          · rw [if_neg e_5]
            by_cases e_6 : x = 9
            · rw [if_pos e_6]
              refine Go.step rfl rfl rfl (go_sw (t := 100) (by rw [e_6]; rfl)) ?_
              refine Go.step rfl rfl rfl rfl ?_
              refine Go.step rfl rfl rfl rfl ?_
              refine Go.step rfl rfl rfl rfl ?_
              exact Go.iret rfl rfl rfl rfl
            · rw [if_neg e_6]
              by_cases e_7 : x = 10
              · rw [if_pos e_7]
                refine Go.step rfl rfl rfl (go_sw (t := 80) (by rw [e_7]; rfl)) ?_
                refine Go.step rfl rfl rfl rfl ?_
                refine Go.step rfl rfl rfl rfl ?_
                refine Go.step rfl rfl rfl rfl ?_
                exact Go.iret rfl rfl rfl rfl
              · rw [if_neg e_7]
                by_cases e_8 : x = 11
                · rw [if_pos e_8]
                  refine Go.step rfl rfl rfl (go_sw (t := 84) (by rw [e_8]; rfl)) ?_
                  refine Go.step rfl rfl rfl rfl ?_
                  refine Go.step rfl rfl rfl rfl ?_
                  refine Go.step rfl rfl rfl rfl ?_
                  exact Go.iret rfl rfl rfl rfl
                · rw [if_neg e_8]
                  by_cases e_9 : x = 12
                  · rw [if_pos e_9]
                    refine Go.step rfl rfl rfl (go_sw (t := 88) (by rw [e_9]; rfl)) ?_
                    refine Go.step rfl rfl rfl rfl ?_
                    refine Go.step rfl rfl rfl rfl ?_
                    refine Go.step rfl rfl rfl rfl ?_
                    exact Go.iret rfl rfl rfl rfl
                  · rw [if_neg e_9]
                    by_cases e_10 : x = 13
                    · rw [if_pos e_10]
                      refine Go.step rfl rfl rfl (go_sw (t := 92) (by rw [e_10]; rfl)) ?_
                      refine Go.step rfl rfl rfl rfl ?_
                      refine Go.step rfl rfl rfl rfl ?_
                      refine Go.step rfl rfl rfl rfl ?_
                      exact Go.iret rfl rfl rfl rfl
                    · rw [if_neg e_10]
                      by_cases e_11 : x = 14
                      · rw [if_pos e_11]
                        refine Go.step rfl rfl rfl (go_sw (t := 96) (by rw [e_11]; rfl)) ?_
                        refine Go.step rfl rfl rfl rfl ?_
                        refine Go.step rfl rfl rfl rfl ?_
                        refine Go.step rfl rfl rfl rfl ?_
                        exact Go.iret rfl rfl rfl rfl
                      · rw [if_neg e_11]
                        refine Go.step rfl rfl rfl (go_sw (t := 100) (mjSw_out _ (by
                          intro q hq
                          simp only [List.mem_cons, List.not_mem_nil, or_false] at hq
                          rcases hq with rfl | rfl | rfl | rfl | rfl | rfl | rfl | rfl | rfl | rfl | rfl
                          · exact e_1
                          · exact e_2
                          · exact e_3
                          · exact e_4
                          · exact e_5
                          · exact e_6
                          · exact e_7
                          · exact e_8
                          · exact e_9
                          · exact e_10
                          · exact e_11))) ?_
                        refine Go.step rfl rfl rfl rfl ?_
                        refine Go.step rfl rfl rfl rfl ?_
                        refine Go.step rfl rfl rfl rfl ?_
                        exact Go.iret rfl rfl rfl rfl
def sp_Source_routineOfName (σ : Nat → Nat → Int32) (x : Int32) : Int32 := (if 0 ≤ x ∧ x ≤ 7 then σ 9 x.toNatClampNeg else (-1))
set_option maxRecDepth 100000 in
set_option maxHeartbeats 4000000 in
theorem gp_Source_routineOfName (x : Int32)  : Go o 274 0 [some (.ref 1), some (.int x)] [] (hF φ σ dn ρ κ d) (some (.int (sp_Source_routineOfName σ x))) (hF φ σ dn ρ κ d) := by
  unfold sp_Source_routineOfName
  refine Go.step rfl rfl rfl rfl ?_
  refine Go.step rfl rfl rfl rfl ?_
  refine Go.step rfl rfl rfl rfl ?_
  refine Go.callB rfl rfl rfl rfl (g_within x 0 7) (fun e1 => ?_) (fun e1 => ?_)
  · rw [if_pos (show 0 ≤ x ∧ x ≤ 7 from e1)]
    refine Go.step rfl rfl rfl rfl ?_
    refine Go.step rfl rfl rfl rfl ?_
    refine Go.step rfl rfl rfl rfl ?_
    refine Go.step rfl rfl rfl rfl ?_
    refine Go.step rfl rfl rfl (go_ld rfl (ix_le (N := 7) rfl e1.1 e1.2)) ?_
    refine Go.step rfl rfl rfl rfl ?_
    exact Go.iret rfl rfl rfl rfl
  · rw [if_neg (show ¬ (0 ≤ x ∧ x ≤ 7) from e1)]
    refine Go.step rfl rfl rfl rfl ?_
    refine Go.step rfl rfl rfl rfl ?_
    exact Go.iret rfl rfl rfl rfl
def sp_Source_ownRoutine (φ : Nat → Int32) (σ : Nat → Nat → Int32) (x : Int32) (y : Int32) : Int32 := (if 0 ≤ x ∧ x < φ 101 ∧ x < 10 then (if 0 ≤ y ∧ y ≤ 7 then σ 8 ((x * 8) + y).toNatClampNeg else (-1)) else (-1))
set_option maxRecDepth 100000 in
set_option maxHeartbeats 4000000 in
theorem gp_Source_ownRoutine (x : Int32) (y : Int32) (hb1 : (0 ≤ x ∧ x < φ 101 ∧ x < 10) → (0 ≤ y ∧ y ≤ 7) → ¬ ((x * 8) + y < 0 ∨ 80 ≤ ((x * 8) + y).toNatClampNeg)) : Go o 275 0 [some (.ref 1), some (.int x), some (.int y)] [] (hF φ σ dn ρ κ d) (some (.int (sp_Source_ownRoutine φ σ x y))) (hF φ σ dn ρ κ d) := by
  unfold sp_Source_ownRoutine
  refine Go.step rfl rfl rfl rfl ?_
  refine Go.step rfl rfl rfl rfl ?_
  refine Go.callB rfl rfl rfl (go_recv (by decide) rfl (by decide +kernel)) (g_isKind x) (fun e1 => ?_) (fun e1 => ?_)
  · rw [if_pos (show 0 ≤ x ∧ x < φ 101 ∧ x < 10 from e1)]
    refine Go.step rfl rfl rfl rfl ?_
    refine Go.step rfl rfl rfl rfl ?_
    refine Go.step rfl rfl rfl rfl ?_
    refine Go.step rfl rfl rfl rfl ?_
    refine Go.callB rfl rfl rfl rfl (g_within y 0 7) (fun e3 => ?_) (fun e3 => ?_)
    · rw [if_pos (show 0 ≤ y ∧ y ≤ 7 from e3)]
      refine Go.step rfl rfl rfl rfl ?_
      refine Go.step rfl rfl rfl rfl ?_
      refine Go.step rfl rfl rfl rfl ?_
      refine Go.step rfl rfl rfl rfl ?_
      refine Go.step rfl rfl rfl rfl ?_
      refine Go.step rfl rfl rfl rfl ?_
      refine Go.step rfl rfl rfl rfl ?_
      refine Go.step rfl rfl rfl rfl ?_
      refine Go.step rfl rfl rfl (go_ld rfl (hb1 e1 e3)) ?_
      refine Go.step rfl rfl rfl rfl ?_
      exact Go.iret rfl rfl rfl rfl
    · rw [if_neg (show ¬ (0 ≤ y ∧ y ≤ 7) from e3)]
      refine Go.step rfl rfl rfl rfl ?_
      refine Go.step rfl rfl rfl rfl ?_
      exact Go.iret rfl rfl rfl rfl
  · rw [if_neg (show ¬ (0 ≤ x ∧ x < φ 101 ∧ x < 10) from e1)]
    refine Go.step rfl rfl rfl rfl ?_
    refine Go.step rfl rfl rfl rfl ?_
    exact Go.iret rfl rfl rfl rfl
def sp_Source_fieldKind (φ : Nat → Int32) (x : Int32) : Int32 := (if x < 0 then (-1) else (if 0 ≤ x / 8 ∧ x / 8 < φ 101 ∧ x / 8 < 10 then x / 8 else (-1)))
set_option maxRecDepth 100000 in
set_option maxHeartbeats 4000000 in
theorem gp_Source_fieldKind (x : Int32)  : Go o 278 0 [some (.ref 1), some (.int x)] [] (hF φ σ dn ρ κ d) (some (.int (sp_Source_fieldKind φ x))) (hF φ σ dn ρ κ d) := by
  unfold sp_Source_fieldKind
  refine Go.step rfl rfl rfl rfl ?_
  refine Go.if1 rfl rfl rfl (fun e1 => ?_) (fun e1 => ?_)
  · rw [if_pos (show x < 0 from of_decide_eq_true e1)]
    refine Go.step rfl rfl rfl rfl ?_
    exact Go.iret rfl rfl rfl rfl
  · rw [if_neg (show ¬ (x < 0) from of_decide_eq_false e1)]
    refine Go.step rfl rfl rfl rfl ?_
    refine Go.step rfl rfl rfl rfl ?_
    refine Go.step rfl rfl rfl rfl ?_
    refine Go.step rfl rfl rfl rfl ?_
    refine Go.callB rfl rfl rfl (go_recv (by decide) rfl (by decide +kernel)) (g_isKind (x / 8)) (fun e2 => ?_) (fun e2 => ?_)
    · rw [if_pos (show 0 ≤ x / 8 ∧ x / 8 < φ 101 ∧ x / 8 < 10 from e2)]
      refine Go.step rfl rfl rfl rfl ?_
      refine Go.step rfl rfl rfl rfl ?_
      refine Go.step rfl rfl rfl rfl ?_
      refine Go.step rfl rfl rfl rfl ?_
      refine Go.step rfl rfl rfl rfl ?_
      exact Go.iret rfl rfl rfl rfl
    · rw [if_neg (show ¬ (0 ≤ x / 8 ∧ x / 8 < φ 101 ∧ x / 8 < 10) from e2)]
      refine Go.step rfl rfl rfl rfl ?_
      refine Go.step rfl rfl rfl rfl ?_
      exact Go.iret rfl rfl rfl rfl
def sp_Source_isField (φ : Nat → Int32) (σ : Nat → Nat → Int32) (x : Int32) (y : Int32) : Int32 := (if 0 ≤ sp_Source_fieldKind φ y ∧ sp_Source_fieldKind φ y < φ 101 ∧ sp_Source_fieldKind φ y < 10 then (if x = 27 then (if σ 4 (sp_Source_fieldKind φ y).toNatClampNeg ≤ y - y / 8 * 8 then 0 else 1) else (if ¬ x = 28 then (if σ 5 (sp_Source_fieldKind φ y).toNatClampNeg ≤ y - y / 8 * 8 then 0 else 1) else (if σ 4 (sp_Source_fieldKind φ y).toNatClampNeg ≤ y - y / 8 * 8 then 0 else 1))) else 0)
set_option maxRecDepth 100000 in
set_option maxHeartbeats 4000000 in
theorem gp_Source_isField (x : Int32) (y : Int32) (hb1 : (0 ≤ sp_Source_fieldKind φ y ∧ sp_Source_fieldKind φ y < φ 101 ∧ sp_Source_fieldKind φ y < 10) → (x = 27) → ¬ (sp_Source_fieldKind φ y < 0 ∨ 10 ≤ (sp_Source_fieldKind φ y).toNatClampNeg)) (hb2 : (0 ≤ sp_Source_fieldKind φ y ∧ sp_Source_fieldKind φ y < φ 101 ∧ sp_Source_fieldKind φ y < 10) → (¬ (x = 27)) → (¬ x = 28) → ¬ (sp_Source_fieldKind φ y < 0 ∨ 10 ≤ (sp_Source_fieldKind φ y).toNatClampNeg)) (hb3 : (0 ≤ sp_Source_fieldKind φ y ∧ sp_Source_fieldKind φ y < φ 101 ∧ sp_Source_fieldKind φ y < 10) → (¬ (x = 27)) → (¬ (¬ x = 28)) → ¬ (sp_Source_fieldKind φ y < 0 ∨ 10 ≤ (sp_Source_fieldKind φ y).toNatClampNeg)) : Go o 279 0 [some (.ref 1), some (.int x), some (.int y), none, none] [] (hF φ σ dn ρ κ d) (some (.int (sp_Source_isField φ σ x y))) (hF φ σ dn ρ κ d) := by
  unfold sp_Source_isField
  refine Go.step rfl rfl rfl rfl ?_
  refine Go.step rfl rfl rfl rfl ?_
  refine Go.call rfl rfl rfl (go_recv (by decide) rfl (by decide +kernel)) (gp_Source_fieldKind y) ?_
  refine Go.step rfl rfl rfl rfl ?_
  refine Go.step rfl rfl rfl rfl ?_
  refine Go.step rfl rfl rfl rfl ?_
  refine Go.callB rfl rfl rfl (go_recv (by decide) rfl (by decide +kernel)) (g_isKind (sp_Source_fieldKind φ y)) (fun e1 => ?_) (fun e1 => ?_)
  · rw [if_pos (show 0 ≤ sp_Source_fieldKind φ y ∧ sp_Source_fieldKind φ y < φ 101 ∧ sp_Source_fieldKind φ y < 10 from e1)]
    refine Go.step rfl rfl rfl rfl ?_
    refine Go.step rfl rfl rfl rfl ?_
    refine Go.step rfl rfl rfl rfl ?_
    refine Go.if2 rfl rfl rfl (fun e3 => ?_) (fun e3 => ?_)
    · rw [if_pos (show x = 27 from of_decide_eq_true e3)]
      refine Go.step rfl rfl rfl rfl ?_
      refine Go.step rfl rfl rfl rfl ?_
      refine Go.step rfl rfl rfl rfl ?_
      refine Go.step rfl rfl rfl (go_ld rfl (hb1 e1 (of_decide_eq_true e3))) ?_
      refine Go.step rfl rfl rfl rfl ?_
      refine Go.step rfl rfl rfl rfl ?_
      refine Go.step rfl rfl rfl rfl ?_
      refine Go.step rfl rfl rfl rfl ?_
      refine Go.step rfl rfl rfl rfl ?_
      refine Go.step rfl rfl rfl rfl ?_
      refine Go.if2 rfl rfl rfl (fun e4 => ?_) (fun e4 => ?_)
      · rw [if_pos (show σ 4 (sp_Source_fieldKind φ y).toNatClampNeg ≤ y - y / 8 * 8 from of_decide_eq_true e4)]
        refine Go.step rfl rfl rfl rfl ?_
        exact Go.iret rfl rfl rfl rfl
      · rw [if_neg (show ¬ (σ 4 (sp_Source_fieldKind φ y).toNatClampNeg ≤ y - y / 8 * 8) from of_decide_eq_false e4)]
        refine Go.step rfl rfl rfl rfl ?_
        refine Go.step rfl rfl rfl rfl ?_
        exact Go.iret rfl rfl rfl rfl
    · rw [if_neg (show ¬ (x = 27) from of_decide_eq_false e3)]
      refine Go.step rfl rfl rfl rfl ?_
      refine Go.step rfl rfl rfl rfl ?_
      refine Go.if2 rfl rfl rfl (fun e5 => ?_) (fun e5 => ?_)
      · rw [if_pos (show ¬ x = 28 from of_decide_eq_true e5)]
        refine Go.step rfl rfl rfl rfl ?_
        refine Go.step rfl rfl rfl rfl ?_
        refine Go.step rfl rfl rfl rfl ?_
        refine Go.step rfl rfl rfl (go_ld rfl (hb2 e1 (of_decide_eq_false e3) (of_decide_eq_true e5))) ?_
        refine Go.step rfl rfl rfl rfl ?_
        refine Go.step rfl rfl rfl rfl ?_
        refine Go.step rfl rfl rfl rfl ?_
        refine Go.step rfl rfl rfl rfl ?_
        refine Go.step rfl rfl rfl rfl ?_
        refine Go.if2 rfl rfl rfl (fun e6 => ?_) (fun e6 => ?_)
        · rw [if_pos (show σ 5 (sp_Source_fieldKind φ y).toNatClampNeg ≤ y - y / 8 * 8 from of_decide_eq_true e6)]
          refine Go.step rfl rfl rfl rfl ?_
          exact Go.iret rfl rfl rfl rfl
        · rw [if_neg (show ¬ (σ 5 (sp_Source_fieldKind φ y).toNatClampNeg ≤ y - y / 8 * 8) from of_decide_eq_false e6)]
          refine Go.step rfl rfl rfl rfl ?_
          refine Go.step rfl rfl rfl rfl ?_
          exact Go.iret rfl rfl rfl rfl
      · rw [if_neg (show ¬ (¬ x = 28) from of_decide_eq_false e5)]
        refine Go.step rfl rfl rfl rfl ?_
        refine Go.step rfl rfl rfl rfl ?_
        refine Go.step rfl rfl rfl rfl ?_
        refine Go.step rfl rfl rfl (go_ld rfl (hb3 e1 (of_decide_eq_false e3) (of_decide_eq_false e5))) ?_
        refine Go.step rfl rfl rfl rfl ?_
        refine Go.step rfl rfl rfl rfl ?_
        refine Go.step rfl rfl rfl rfl ?_
        refine Go.step rfl rfl rfl rfl ?_
        refine Go.step rfl rfl rfl rfl ?_
        refine Go.step rfl rfl rfl rfl ?_
        refine Go.if2 rfl rfl rfl (fun e7 => ?_) (fun e7 => ?_)
        · rw [if_pos (show σ 4 (sp_Source_fieldKind φ y).toNatClampNeg ≤ y - y / 8 * 8 from of_decide_eq_true e7)]
          refine Go.step rfl rfl rfl rfl ?_
          exact Go.iret rfl rfl rfl rfl
        · rw [if_neg (show ¬ (σ 4 (sp_Source_fieldKind φ y).toNatClampNeg ≤ y - y / 8 * 8) from of_decide_eq_false e7)]
          refine Go.step rfl rfl rfl rfl ?_
          refine Go.step rfl rfl rfl rfl ?_
          exact Go.iret rfl rfl rfl rfl
  · rw [if_neg (show ¬ (0 ≤ sp_Source_fieldKind φ y ∧ sp_Source_fieldKind φ y < φ 101 ∧ sp_Source_fieldKind φ y < 10) from e1)]
    refine Go.step rfl rfl rfl rfl ?_
    refine Go.step rfl rfl rfl rfl ?_
    exact Go.iret rfl rfl rfl rfl
def sp_Source_fieldNumber (φ : Nat → Int32) (σ : Nat → Nat → Int32) (x : Int32) (y : Int32) : Int32 := (if x = 27 then (if 0 ≤ (if 0 ≤ sp_Source_fieldKind φ y ∧ sp_Source_fieldKind φ y < φ 101 ∧ sp_Source_fieldKind φ y < 10 then σ 3 (sp_Source_fieldKind φ y).toNatClampNeg else -1) ∧ (if 0 ≤ sp_Source_fieldKind φ y ∧ sp_Source_fieldKind φ y < φ 101 ∧ sp_Source_fieldKind φ y < 10 then σ 3 (sp_Source_fieldKind φ y).toNatClampNeg else -1) < φ 101 ∧ (if 0 ≤ sp_Source_fieldKind φ y ∧ sp_Source_fieldKind φ y < φ 101 ∧ sp_Source_fieldKind φ y < 10 then σ 3 (sp_Source_fieldKind φ y).toNatClampNeg else -1) < 10 then σ 6 (if 0 ≤ sp_Source_fieldKind φ y ∧ sp_Source_fieldKind φ y < φ 101 ∧ sp_Source_fieldKind φ y < 10 then σ 3 (sp_Source_fieldKind φ y).toNatClampNeg else -1).toNatClampNeg else 0) + (y - y / 8 * 8) else (if ¬ x = 28 then (if 0 ≤ (if 0 ≤ sp_Source_fieldKind φ y ∧ sp_Source_fieldKind φ y < φ 101 ∧ sp_Source_fieldKind φ y < 10 then σ 3 (sp_Source_fieldKind φ y).toNatClampNeg else -1) ∧ (if 0 ≤ sp_Source_fieldKind φ y ∧ sp_Source_fieldKind φ y < φ 101 ∧ sp_Source_fieldKind φ y < 10 then σ 3 (sp_Source_fieldKind φ y).toNatClampNeg else -1) < φ 101 ∧ (if 0 ≤ sp_Source_fieldKind φ y ∧ sp_Source_fieldKind φ y < φ 101 ∧ sp_Source_fieldKind φ y < 10 then σ 3 (sp_Source_fieldKind φ y).toNatClampNeg else -1) < 10 then σ 7 (if 0 ≤ sp_Source_fieldKind φ y ∧ sp_Source_fieldKind φ y < φ 101 ∧ sp_Source_fieldKind φ y < 10 then σ 3 (sp_Source_fieldKind φ y).toNatClampNeg else -1).toNatClampNeg else 0) + (y - y / 8 * 8) else (if 0 ≤ (if 0 ≤ sp_Source_fieldKind φ y ∧ sp_Source_fieldKind φ y < φ 101 ∧ sp_Source_fieldKind φ y < 10 then σ 3 (sp_Source_fieldKind φ y).toNatClampNeg else -1) ∧ (if 0 ≤ sp_Source_fieldKind φ y ∧ sp_Source_fieldKind φ y < φ 101 ∧ sp_Source_fieldKind φ y < 10 then σ 3 (sp_Source_fieldKind φ y).toNatClampNeg else -1) < φ 101 ∧ (if 0 ≤ sp_Source_fieldKind φ y ∧ sp_Source_fieldKind φ y < φ 101 ∧ sp_Source_fieldKind φ y < 10 then σ 3 (sp_Source_fieldKind φ y).toNatClampNeg else -1) < 10 then σ 6 (if 0 ≤ sp_Source_fieldKind φ y ∧ sp_Source_fieldKind φ y < φ 101 ∧ sp_Source_fieldKind φ y < 10 then σ 3 (sp_Source_fieldKind φ y).toNatClampNeg else -1).toNatClampNeg else 0) + (y - y / 8 * 8)))
set_option maxRecDepth 100000 in
set_option maxHeartbeats 4000000 in
theorem gp_Source_fieldNumber (x : Int32) (y : Int32)  : Go o 280 0 [some (.ref 1), some (.int x), some (.int y), none, none] [] (hF φ σ dn ρ κ d) (some (.int (sp_Source_fieldNumber φ σ x y))) (hF φ σ dn ρ κ d) := by
  unfold sp_Source_fieldNumber
  refine Go.step rfl rfl rfl rfl ?_
  refine Go.step rfl rfl rfl rfl ?_
  refine Go.step rfl rfl rfl rfl ?_
  refine Go.call rfl rfl rfl (go_recv (by decide) rfl (by decide +kernel)) (gp_Source_fieldKind y) ?_
  refine Go.call rfl rfl rfl (go_recv (by decide) rfl (by decide +kernel)) (g_above (sp_Source_fieldKind φ y)) ?_
  refine Go.step rfl rfl rfl rfl ?_
  refine Go.step rfl rfl rfl rfl ?_
  refine Go.step rfl rfl rfl rfl ?_
  refine Go.if2 rfl rfl rfl (fun e1 => ?_) (fun e1 => ?_)
  · rw [if_pos (show x = 27 from of_decide_eq_true e1)]
    refine Go.step rfl rfl rfl rfl ?_
    refine Go.step rfl rfl rfl rfl ?_
    refine Go.call rfl rfl rfl (go_recv (by decide) rfl (by decide +kernel)) (g_allInts (if 0 ≤ sp_Source_fieldKind φ y ∧ sp_Source_fieldKind φ y < φ 101 ∧ sp_Source_fieldKind φ y < 10 then σ 3 (sp_Source_fieldKind φ y).toNatClampNeg else -1)) ?_
    refine Go.step rfl rfl rfl rfl ?_
    refine Go.step rfl rfl rfl rfl ?_
    refine Go.step rfl rfl rfl rfl ?_
    refine Go.step rfl rfl rfl rfl ?_
    refine Go.step rfl rfl rfl rfl ?_
    refine Go.step rfl rfl rfl rfl ?_
    refine Go.step rfl rfl rfl rfl ?_
    exact Go.iret rfl rfl rfl rfl
  · rw [if_neg (show ¬ (x = 27) from of_decide_eq_false e1)]
    refine Go.step rfl rfl rfl rfl ?_
    refine Go.step rfl rfl rfl rfl ?_
    refine Go.if2 rfl rfl rfl (fun e2 => ?_) (fun e2 => ?_)
    · rw [if_pos (show ¬ x = 28 from of_decide_eq_true e2)]
      refine Go.step rfl rfl rfl rfl ?_
      refine Go.step rfl rfl rfl rfl ?_
      refine Go.call rfl rfl rfl (go_recv (by decide) rfl (by decide +kernel)) (g_allRefs (if 0 ≤ sp_Source_fieldKind φ y ∧ sp_Source_fieldKind φ y < φ 101 ∧ sp_Source_fieldKind φ y < 10 then σ 3 (sp_Source_fieldKind φ y).toNatClampNeg else -1)) ?_
      refine Go.step rfl rfl rfl rfl ?_
      refine Go.step rfl rfl rfl rfl ?_
      refine Go.step rfl rfl rfl rfl ?_
      refine Go.step rfl rfl rfl rfl ?_
      refine Go.step rfl rfl rfl rfl ?_
      refine Go.step rfl rfl rfl rfl ?_
      exact Go.iret rfl rfl rfl rfl
    · rw [if_neg (show ¬ (¬ x = 28) from of_decide_eq_false e2)]
      refine Go.step rfl rfl rfl rfl ?_
      refine Go.step rfl rfl rfl rfl ?_
      refine Go.call rfl rfl rfl (go_recv (by decide) rfl (by decide +kernel)) (g_allInts (if 0 ≤ sp_Source_fieldKind φ y ∧ sp_Source_fieldKind φ y < φ 101 ∧ sp_Source_fieldKind φ y < 10 then σ 3 (sp_Source_fieldKind φ y).toNatClampNeg else -1)) ?_
      refine Go.step rfl rfl rfl rfl ?_
      refine Go.step rfl rfl rfl rfl ?_
      refine Go.step rfl rfl rfl rfl ?_
      refine Go.step rfl rfl rfl rfl ?_
      refine Go.step rfl rfl rfl rfl ?_
      refine Go.step rfl rfl rfl rfl ?_
      refine Go.step rfl rfl rfl rfl ?_
      exact Go.iret rfl rfl rfl rfl
def sp_Flow_wasSeen (σ : Nat → Nat → Int32) (x : Int32) : Int32 := (if 0 ≤ x ∧ x ≤ 59 then (if σ 23 x.toNatClampNeg = 0 then 0 else 1) else 0)
set_option maxRecDepth 100000 in
set_option maxHeartbeats 4000000 in
theorem gp_Flow_wasSeen (x : Int32)  : Go o 137 0 [some (.ref 22), some (.int x)] [] (hF φ σ dn ρ κ d) (some (.int (sp_Flow_wasSeen σ x))) (hF φ σ dn ρ κ d) := by
  unfold sp_Flow_wasSeen
  refine Go.step rfl rfl rfl rfl ?_
  refine Go.step rfl rfl rfl rfl ?_
  refine Go.step rfl rfl rfl rfl ?_
  refine Go.callB rfl rfl rfl rfl (g_within x 0 59) (fun e1 => ?_) (fun e1 => ?_)
  · rw [if_pos (show 0 ≤ x ∧ x ≤ 59 from e1)]
    refine Go.step rfl rfl rfl rfl ?_
    refine Go.step rfl rfl rfl rfl ?_
    refine Go.step rfl rfl rfl rfl ?_
    refine Go.step rfl rfl rfl rfl ?_
    refine Go.step rfl rfl rfl (go_ld rfl (ix_le (N := 59) rfl e1.1 e1.2)) ?_
    refine Go.if1 rfl rfl rfl (fun e3 => ?_) (fun e3 => ?_)
    · rw [if_pos (show σ 23 x.toNatClampNeg = 0 from of_decide_eq_true e3)]
      refine Go.step rfl rfl rfl rfl ?_
      exact Go.iret rfl rfl rfl rfl
    · rw [if_neg (show ¬ (σ 23 x.toNatClampNeg = 0) from of_decide_eq_false e3)]
      refine Go.step rfl rfl rfl rfl ?_
      refine Go.step rfl rfl rfl rfl ?_
      exact Go.iret rfl rfl rfl rfl
  · rw [if_neg (show ¬ (0 ≤ x ∧ x ≤ 59) from e1)]
    refine Go.step rfl rfl rfl rfl ?_
    refine Go.step rfl rfl rfl rfl ?_
    exact Go.iret rfl rfl rfl rfl
def sp_Linker_wasSeen (σ : Nat → Nat → Int32) (x : Int32) (y : Int32) : Int32 := (if 0 ≤ x ∧ x ≤ 23 then (if 0 ≤ y ∧ y ≤ 59 then (if σ 11 ((x * 60) + y).toNatClampNeg = 0 then 0 else 1) else 0) else 0)
set_option maxRecDepth 100000 in
set_option maxHeartbeats 4000000 in
theorem gp_Linker_wasSeen (x : Int32) (y : Int32) (hb1 : (0 ≤ x ∧ x ≤ 23) → (0 ≤ y ∧ y ≤ 59) → ¬ ((x * 60) + y < 0 ∨ 1440 ≤ ((x * 60) + y).toNatClampNeg)) : Go o 188 0 [some (.ref 10), some (.int x), some (.int y)] [] (hF φ σ dn ρ κ d) (some (.int (sp_Linker_wasSeen σ x y))) (hF φ σ dn ρ κ d) := by
  unfold sp_Linker_wasSeen
  refine Go.step rfl rfl rfl rfl ?_
  refine Go.step rfl rfl rfl rfl ?_
  refine Go.step rfl rfl rfl rfl ?_
  refine Go.callB rfl rfl rfl rfl (g_within x 0 23) (fun e1 => ?_) (fun e1 => ?_)
  · rw [if_pos (show 0 ≤ x ∧ x ≤ 23 from e1)]
    refine Go.step rfl rfl rfl rfl ?_
    refine Go.step rfl rfl rfl rfl ?_
    refine Go.step rfl rfl rfl rfl ?_
    refine Go.step rfl rfl rfl rfl ?_
    refine Go.callB rfl rfl rfl rfl (g_within y 0 59) (fun e3 => ?_) (fun e3 => ?_)
    · rw [if_pos (show 0 ≤ y ∧ y ≤ 59 from e3)]
      refine Go.step rfl rfl rfl rfl ?_
      refine Go.step rfl rfl rfl rfl ?_
      refine Go.step rfl rfl rfl rfl ?_
      refine Go.step rfl rfl rfl rfl ?_
      refine Go.step rfl rfl rfl rfl ?_
      refine Go.step rfl rfl rfl rfl ?_
      refine Go.step rfl rfl rfl rfl ?_
      refine Go.step rfl rfl rfl rfl ?_
      refine Go.step rfl rfl rfl (go_ld rfl (hb1 e1 e3)) ?_
      refine Go.if1 rfl rfl rfl (fun e5 => ?_) (fun e5 => ?_)
      · rw [if_pos (show σ 11 ((x * 60) + y).toNatClampNeg = 0 from of_decide_eq_true e5)]
        refine Go.step rfl rfl rfl rfl ?_
        exact Go.iret rfl rfl rfl rfl
      · rw [if_neg (show ¬ (σ 11 ((x * 60) + y).toNatClampNeg = 0) from of_decide_eq_false e5)]
        refine Go.step rfl rfl rfl rfl ?_
        refine Go.step rfl rfl rfl rfl ?_
        exact Go.iret rfl rfl rfl rfl
    · rw [if_neg (show ¬ (0 ≤ y ∧ y ≤ 59) from e3)]
      refine Go.step rfl rfl rfl rfl ?_
      refine Go.step rfl rfl rfl rfl ?_
      exact Go.iret rfl rfl rfl rfl
  · rw [if_neg (show ¬ (0 ≤ x ∧ x ≤ 23) from e1)]
    refine Go.step rfl rfl rfl rfl ?_
    refine Go.step rfl rfl rfl rfl ?_
    exact Go.iret rfl rfl rfl rfl
def sp_Linker_offsetOf (σ : Nat → Nat → Int32) (x : Int32) : Int32 := (if 0 ≤ x ∧ x ≤ 60 then σ 13 x.toNatClampNeg else 0)
set_option maxRecDepth 100000 in
set_option maxHeartbeats 4000000 in
theorem gp_Linker_offsetOf (x : Int32)  : Go o 189 0 [some (.ref 10), some (.int x)] [] (hF φ σ dn ρ κ d) (some (.int (sp_Linker_offsetOf σ x))) (hF φ σ dn ρ κ d) := by
  unfold sp_Linker_offsetOf
  refine Go.step rfl rfl rfl rfl ?_
  refine Go.step rfl rfl rfl rfl ?_
  refine Go.step rfl rfl rfl rfl ?_
  refine Go.callB rfl rfl rfl rfl (g_within x 0 60) (fun e1 => ?_) (fun e1 => ?_)
  · rw [if_pos (show 0 ≤ x ∧ x ≤ 60 from e1)]
    refine Go.step rfl rfl rfl rfl ?_
    refine Go.step rfl rfl rfl rfl ?_
    refine Go.step rfl rfl rfl rfl ?_
    refine Go.step rfl rfl rfl rfl ?_
    refine Go.step rfl rfl rfl (go_ld rfl (ix_le (N := 60) rfl e1.1 e1.2)) ?_
    refine Go.step rfl rfl rfl rfl ?_
    exact Go.iret rfl rfl rfl rfl
  · rw [if_neg (show ¬ (0 ≤ x ∧ x ≤ 60) from e1)]
    refine Go.step rfl rfl rfl rfl ?_
    refine Go.step rfl rfl rfl rfl ?_
    exact Go.iret rfl rfl rfl rfl
def sp_Linker_writtenOp (x : Int32) (y : Int32) : Int32 := (if ¬ x = 1 then x else (if (-128) ≤ y ∧ y ≤ 127 then x else 61))
set_option maxRecDepth 100000 in
set_option maxHeartbeats 4000000 in
theorem gp_Linker_writtenOp (x : Int32) (y : Int32)  : Go o 190 0 [some (.ref 10), some (.int x), some (.int y)] [] (hF φ σ dn ρ κ d) (some (.int (sp_Linker_writtenOp x y))) (hF φ σ dn ρ κ d) := by
  unfold sp_Linker_writtenOp
  refine Go.step rfl rfl rfl rfl ?_
  refine Go.step rfl rfl rfl rfl ?_
  refine Go.if2 rfl rfl rfl (fun e1 => ?_) (fun e1 => ?_)
  · rw [if_pos (show ¬ x = 1 from of_decide_eq_true e1)]
    refine Go.step rfl rfl rfl rfl ?_
    exact Go.iret rfl rfl rfl rfl
  · rw [if_neg (show ¬ (¬ x = 1) from of_decide_eq_false e1)]
    refine Go.step rfl rfl rfl rfl ?_
    refine Go.step rfl rfl rfl rfl ?_
    refine Go.step rfl rfl rfl rfl ?_
    refine Go.callB rfl rfl rfl rfl (g_within y (-128) 127) (fun e2 => ?_) (fun e2 => ?_)
    · rw [if_pos (show (-128) ≤ y ∧ y ≤ 127 from e2)]
      refine Go.step rfl rfl rfl rfl ?_
      refine Go.step rfl rfl rfl rfl ?_
      exact Go.iret rfl rfl rfl rfl
    · rw [if_neg (show ¬ ((-128) ≤ y ∧ y ≤ 127) from e2)]
      refine Go.step rfl rfl rfl rfl ?_
      refine Go.step rfl rfl rfl rfl ?_
      refine Go.step rfl rfl rfl rfl ?_
      exact Go.iret rfl rfl rfl rfl
def sp_Reach_hasKind (φ : Nat → Int32) (σ : Nat → Nat → Int32) (x : Int32) : Int32 := (if 0 ≤ x ∧ x < φ 101 ∧ x < 10 then (if σ 15 x.toNatClampNeg = 0 then 0 else 1) else 0)
set_option maxRecDepth 100000 in
set_option maxHeartbeats 4000000 in
theorem gp_Reach_hasKind (x : Int32) (hb1 : (0 ≤ x ∧ x < φ 101 ∧ x < 10) → ¬ (x < 0 ∨ 10 ≤ x.toNatClampNeg)) : Go o 242 0 [some (.ref 14), some (.int x)] [] (hF φ σ dn ρ κ d) (some (.int (sp_Reach_hasKind φ σ x))) (hF φ σ dn ρ κ d) := by
  unfold sp_Reach_hasKind
  refine Go.step rfl rfl rfl rfl ?_
  refine Go.step rfl rfl rfl rfl ?_
  refine Go.step rfl rfl rfl rfl ?_
  refine Go.callB rfl rfl rfl (go_recv (by decide) rfl (by decide +kernel)) (g_isKind x) (fun e1 => ?_) (fun e1 => ?_)
  · rw [if_pos (show 0 ≤ x ∧ x < φ 101 ∧ x < 10 from e1)]
    refine Go.step rfl rfl rfl rfl ?_
    refine Go.step rfl rfl rfl rfl ?_
    refine Go.step rfl rfl rfl rfl ?_
    refine Go.step rfl rfl rfl rfl ?_
    refine Go.step rfl rfl rfl (go_ld rfl (hb1 e1)) ?_
    refine Go.if1 rfl rfl rfl (fun e3 => ?_) (fun e3 => ?_)
    · rw [if_pos (show σ 15 x.toNatClampNeg = 0 from of_decide_eq_true e3)]
      refine Go.step rfl rfl rfl rfl ?_
      exact Go.iret rfl rfl rfl rfl
    · rw [if_neg (show ¬ (σ 15 x.toNatClampNeg = 0) from of_decide_eq_false e3)]
      refine Go.step rfl rfl rfl rfl ?_
      refine Go.step rfl rfl rfl rfl ?_
      exact Go.iret rfl rfl rfl rfl
  · rw [if_neg (show ¬ (0 ≤ x ∧ x < φ 101 ∧ x < 10) from e1)]
    refine Go.step rfl rfl rfl rfl ?_
    refine Go.step rfl rfl rfl rfl ?_
    exact Go.iret rfl rfl rfl rfl
def sp_Engine_reckon (x : Int32) (y : Int32) (z : Int32) : Int32 := (if x = 4 then y + z else (if x = 5 then y - z else (if x = 6 then y * z else (if x = 7 then (if ¬ z = 0 then y / z else 0) else (if x = 8 then (if ¬ z = 0 then y - y / z * z else 0) else (if x = 9 then 0 else (if x = 10 then y &&& z else (if x = 11 then y ||| z else (if x = 12 then y ^^^ z else (if x = 13 then y <<< (z &&& 31) else (if x = 14 then y >>> (z &&& 31) else (if x = 15 then (y.toUInt32 >>> ((z : Int32).toUInt32 &&& Int32.toUInt32 31)).toInt32 else 0))))))))))))
set_option maxRecDepth 100000 in
set_option maxHeartbeats 4000000 in
theorem gp_Engine_reckon (x : Int32) (y : Int32) (z : Int32) (hb1 : (¬ x = 4) → (¬ x = 5) → (¬ x = 6) → (x = 7) → (¬ z = 0) → ¬ z = 0) (hb2 : (¬ x = 4) → (¬ x = 5) → (¬ x = 6) → (¬ x = 7) → (x = 8) → (¬ z = 0) → ¬ z = 0) : Go o 112 0 [some (.int x), some (.int y), some (.int z)] [] (hF φ σ dn ρ κ d) (some (.int (sp_Engine_reckon x y z))) (hF φ σ dn ρ κ d) := by
  unfold sp_Engine_reckon
  refine Go.step rfl rfl rfl rfl ?_
  by_cases e_1 : x = 4
  · rw [if_pos e_1]
    refine Go.step rfl rfl rfl (go_sw (t := 64) (by rw [e_1]; rfl)) ?_
    refine Go.step rfl rfl rfl rfl ?_
    refine Go.step rfl rfl rfl rfl ?_
    refine Go.step rfl rfl rfl rfl ?_
    exact Go.iret rfl rfl rfl rfl
  · rw [if_neg e_1]
    by_cases e_2 : x = 5
    · rw [if_pos e_2]
      refine Go.step rfl rfl rfl (go_sw (t := 68) (by rw [e_2]; rfl)) ?_
      refine Go.step rfl rfl rfl rfl ?_
      refine Go.step rfl rfl rfl rfl ?_
      refine Go.step rfl rfl rfl rfl ?_
      exact Go.iret rfl rfl rfl rfl
    · rw [if_neg e_2]
      by_cases e_3 : x = 6
      · rw [if_pos e_3]
        refine Go.step rfl rfl rfl (go_sw (t := 72) (by rw [e_3]; rfl)) ?_
        refine Go.step rfl rfl rfl rfl ?_
        refine Go.step rfl rfl rfl rfl ?_
        refine Go.step rfl rfl rfl rfl ?_
        exact Go.iret rfl rfl rfl rfl
      · rw [if_neg e_3]
        by_cases e_4 : x = 7
        · rw [if_pos e_4]
          refine Go.step rfl rfl rfl (go_sw (t := 76) (by rw [e_4]; rfl)) ?_
          refine Go.step rfl rfl rfl rfl ?_
          refine Go.if1 rfl rfl rfl (fun e5 => ?_) (fun e5 => ?_)
          · rw [if_pos (show ¬ z = 0 from of_decide_eq_true e5)]
            refine Go.step rfl rfl rfl rfl ?_
            refine Go.step rfl rfl rfl rfl ?_
            refine Go.step rfl rfl rfl (go_div (hb1 e_1 e_2 e_3 e_4 (of_decide_eq_true e5))) ?_
            exact Go.iret rfl rfl rfl rfl
          · rw [if_neg (show ¬ (¬ z = 0) from of_decide_eq_false e5)]
            refine Go.step rfl rfl rfl rfl ?_
            refine Go.step rfl rfl rfl rfl ?_
            exact Go.iret rfl rfl rfl rfl
        · rw [if_neg e_4]
          by_cases e_6 : x = 8
          · rw [if_pos e_6]
            refine Go.step rfl rfl rfl (go_sw (t := 88) (by rw [e_6]; rfl)) ?_
            refine Go.step rfl rfl rfl rfl ?_
            refine Go.if1 rfl rfl rfl (fun e7 => ?_) (fun e7 => ?_)
            · rw [if_pos (show ¬ z = 0 from of_decide_eq_true e7)]
              refine Go.step rfl rfl rfl rfl ?_
              refine Go.step rfl rfl rfl rfl ?_
              refine Go.step rfl rfl rfl (go_div (hb2 e_1 e_2 e_3 e_4 e_6 (of_decide_eq_true e7))) ?_
              exact Go.iret rfl rfl rfl rfl
            · rw [if_neg (show ¬ (¬ z = 0) from of_decide_eq_false e7)]
              refine Go.step rfl rfl rfl rfl ?_
              refine Go.step rfl rfl rfl rfl ?_
              exact Go.iret rfl rfl rfl rfl
          · rw [if_neg e_6]
            by_cases e_8 : x = 9
            · rw [if_pos e_8]
              refine Go.step rfl rfl rfl (go_sw (t := 124) (by rw [e_8]; rfl)) ?_
              refine Go.step rfl rfl rfl rfl ?_
              exact Go.iret rfl rfl rfl rfl
            · rw [if_neg e_8]
              by_cases e_9 : x = 10
              · rw [if_pos e_9]
                refine Go.step rfl rfl rfl (go_sw (t := 100) (by rw [e_9]; rfl)) ?_
                refine Go.step rfl rfl rfl rfl ?_
                refine Go.step rfl rfl rfl rfl ?_
                refine Go.step rfl rfl rfl rfl ?_
                exact Go.iret rfl rfl rfl rfl
              · rw [if_neg e_9]
                by_cases e_10 : x = 11
                · rw [if_pos e_10]
                  refine Go.step rfl rfl rfl (go_sw (t := 104) (by rw [e_10]; rfl)) ?_
                  refine Go.step rfl rfl rfl rfl ?_
                  refine Go.step rfl rfl rfl rfl ?_
                  refine Go.step rfl rfl rfl rfl ?_
                  exact Go.iret rfl rfl rfl rfl
                · rw [if_neg e_10]
                  by_cases e_11 : x = 12
                  · rw [if_pos e_11]
                    refine Go.step rfl rfl rfl (go_sw (t := 108) (by rw [e_11]; rfl)) ?_
                    refine Go.step rfl rfl rfl rfl ?_
                    refine Go.step rfl rfl rfl rfl ?_
                    refine Go.step rfl rfl rfl rfl ?_
                    exact Go.iret rfl rfl rfl rfl
                  · rw [if_neg e_11]
                    by_cases e_12 : x = 13
                    · rw [if_pos e_12]
                      refine Go.step rfl rfl rfl (go_sw (t := 112) (by rw [e_12]; rfl)) ?_
                      refine Go.step rfl rfl rfl rfl ?_
                      refine Go.step rfl rfl rfl rfl ?_
                      refine Go.step rfl rfl rfl rfl ?_
                      exact Go.iret rfl rfl rfl rfl
                    · rw [if_neg e_12]
                      by_cases e_13 : x = 14
                      · rw [if_pos e_13]
                        refine Go.step rfl rfl rfl (go_sw (t := 116) (by rw [e_13]; rfl)) ?_
                        refine Go.step rfl rfl rfl rfl ?_
                        refine Go.step rfl rfl rfl rfl ?_
                        refine Go.step rfl rfl rfl rfl ?_
                        exact Go.iret rfl rfl rfl rfl
                      · rw [if_neg e_13]
                        by_cases e_14 : x = 15
                        · rw [if_pos e_14]
                          refine Go.step rfl rfl rfl (go_sw (t := 120) (by rw [e_14]; rfl)) ?_
                          refine Go.step rfl rfl rfl rfl ?_
                          refine Go.step rfl rfl rfl rfl ?_
                          refine Go.step rfl rfl rfl rfl ?_
                          exact Go.iret rfl rfl rfl rfl
                        · rw [if_neg e_14]
                          refine Go.step rfl rfl rfl (go_sw (t := 124) (mjSw_out _ (by
                            intro q hq
                            simp only [List.mem_cons, List.not_mem_nil, or_false] at hq
                            rcases hq with rfl | rfl | rfl | rfl | rfl | rfl | rfl | rfl | rfl | rfl | rfl | rfl
                            · exact e_1
                            · exact e_2
                            · exact e_3
                            · exact e_4
                            · exact e_6
                            · exact e_8
                            · exact e_9
                            · exact e_10
                            · exact e_11
                            · exact e_12
                            · exact e_13
                            · exact e_14))) ?_
                          refine Go.step rfl rfl rfl rfl ?_
                          exact Go.iret rfl rfl rfl rfl
end
