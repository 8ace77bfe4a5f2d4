/-- what one round of the law's loop asks of the two -/
def LawStep (o : MjO) (x m t : Nat) (xs : Nat → Int32) (h h2 : MjH) : Prop := (xs (7 * t) &&& 15 = nI 0 → LawCall o x m 1 22 [.int (xs (7 * t + 1)), .int (xs (7 * t + 2)), .int (xs (7 * t + 3))] h h2) ∧ (xs (7 * t) &&& 15 = nI 1 → LawCall o x m 2 23 [.int (xs (7 * t + 1)), .int (xs (7 * t + 2)), .int (xs (7 * t + 3)), .int (xs (7 * t + 4)), .int (xs (7 * t + 5)), .int (xs (7 * t + 6))] h h2) ∧ (xs (7 * t) &&& 15 = nI 2 → LawCall o x m 3 24 [.int (xs (7 * t + 1)), .int (xs (7 * t + 2))] h h2) ∧ (xs (7 * t) &&& 15 = nI 3 → LawCall o x m 4 25 [.int (xs (7 * t + 1)), .int (xs (7 * t + 2)), .int (xs (7 * t + 3)), .int (xs (7 * t + 4))] h h2) ∧ (xs (7 * t) &&& 15 = nI 4 → LawCall o x m 5 52 [.int (xs (7 * t + 1))] h h2) ∧ (xs (7 * t) &&& 15 = nI 5 → LawCall o x m 6 53 [.int (xs (7 * t + 1))] h h2) ∧ (xs (7 * t) &&& 15 = nI 6 → LawCall o x m 7 54 [.int (xs (7 * t + 1))] h h2) ∧ (xs (7 * t) &&& 15 = nI 7 → LawCall o x m 8 55 [] h h2) ∧ (xs (7 * t) &&& 15 = nI 8 → LawCall o x m 9 59 [.int (xs (7 * t + 1)), .int (xs (7 * t + 2))] h h2) ∧ (xs (7 * t) &&& 15 = nI 9 → LawCall o x m 10 62 [.int (xs (7 * t + 1))] h h2) ∧ (xs (7 * t) &&& 15 = nI 10 → LawCall o x m 11 98 [.int (xs (7 * t + 1))] h h2) ∧ (xs (7 * t) &&& 15 = nI 11 → LawCall o x m 12 99 [.int (xs (7 * t + 1))] h h2) ∧ (xs (7 * t) &&& 15 = nI 12 → LawCall o x m 13 100 [.int (xs (7 * t + 1)), .int (xs (7 * t + 2))] h h2) ∧ (xs (7 * t) &&& 15 = nI 13 → LawCall o x m 14 101 [] h h2) ∧ (xs (7 * t) &&& 15 = nI 14 → LawCall o x m 15 102 [.int (xs (7 * t + 1))] h h2) ∧ (xs (7 * t) &&& 15 = nI 15 → h2 = h)
set_option maxRecDepth 100000 in
set_option maxHeartbeats 4000000 in
theorem law_loop {o : MjO} {L x m : Nat} {xs : Nat → Int32} (ho : o 0 = some (L, xs)) (hL : L ≤ 3584) (I : Nat → MjH → Prop) (hI : ∀ t h, 7 * t + 7 ≤ L → I t h → ∃ h2, I (t + 1) h2 ∧ LawStep o x m t xs h h2) :
    ∀ (n t : Nat) (h : MjH), 7 * t ≤ L → L < 7 * t + 7 * n → I t h → ∃ h' t', I t' h' ∧ 7 * t' ≤ L ∧ Go o 309 18 [some (.retAddr 0), some (.ref x), some (.ref m), some (.int (nI (7 * t)))] [] h (some (.int 1)) h' := by
  intro n
  induction n with
  | zero => intro t h h1 h2; exact absurd h2 (by omega)
  | succ n ih =>
    intro t h h1 h2 hIt
    have hcmp : ∀ (hr : 7 * t + 7 ≤ L), decide (Int32.ofNat L - Int32.ofInt 7 < nI (7 * t)) = false := by
      intro hr
      have e : Int32.ofNat L - Int32.ofInt 7 = nI (L - 7) := pk_sub (a := L) (b := 7) (by omega)
      rw [e]
      exact decide_eq_false (nI_nlt (by omega) (by omega))
    have hcmp2 : ∀ (hr : ¬ 7 * t + 7 ≤ L), decide (Int32.ofNat L - Int32.ofInt 7 < nI (7 * t)) = true := by
      intro hr
      by_cases h7 : 7 ≤ L
      · have e : Int32.ofNat L - Int32.ofInt 7 = nI (L - 7) := pk_sub (a := L) (b := 7) h7
        rw [e]
        exact decide_eq_true (nI_lt (by omega) (by omega))
      · have e : Int32.ofNat L - Int32.ofInt 7 < 0 := pk_sneg (a := L) (b := 7) (by decide) (by omega)
        apply decide_eq_true
        rw [Int32.lt_iff_toInt_lt] at e ⊢
        rw [nI_toInt (by omega)]
        have : (0 : Int32).toInt = 0 := rfl
        omega
    by_cases hr : 7 * t + 7 ≤ L
    · obtain ⟨h2', hI2, hst⟩ := hI t h hr hIt
      obtain ⟨h', t', g1, g2, g3⟩ := ih (t + 1) h2' (by omega) (by omega) hI2
      refine ⟨h', t', g1, g2, ?_⟩
      have hend : Go o 309 565 [some (.retAddr 0), some (.ref x), some (.ref m), some (.int (nI (7 * t)))] [] h2' (some (.int 1)) h' := by
        refine Go.step (pc1 := 568) rfl rfl rfl rfl ?_
        refine Go.step (pc1 := 18) rfl rfl rfl rfl ?_
        have e : nI (7 * t) + Int32.ofInt 7 = nI (7 * (t + 1)) := by
          rw [show 7 * (t + 1) = 7 * t + 7 by omega, ← nI_add]; rfl
        show Go o 309 18 [some (.retAddr 0), some (.ref x), some (.ref m), some (.int (nI (7 * t) + Int32.ofInt 7))] [] h2' (some (.int 1)) h'
        rw [e]
        exact g3
      refine Go.step (pc1 := 19) rfl rfl rfl rfl ?_
      refine Go.step (pc1 := 20) rfl rfl rfl rfl ?_
      refine Go.step (pc1 := 21) rfl rfl rfl (go_slen ho) ?_
      refine Go.step (pc1 := 23) rfl rfl rfl rfl ?_
      refine Go.step (pc1 := 24) rfl rfl rfl rfl ?_
      refine Go.step (pc1 := 27) rfl rfl rfl (go_if2f (hcmp hr)) ?_
      refine Go.step (pc1 := 28) rfl rfl rfl rfl ?_
      refine Go.step (pc1 := 29) rfl rfl rfl rfl ?_
      refine Go.step (pc1 := 30) rfl rfl rfl (go_sld (j := 7 * t) ho rfl (by omega) (by omega)) ?_
      refine Go.step (pc1 := 32) rfl rfl rfl rfl ?_
      refine Go.step (pc1 := 33) rfl rfl rfl rfl ?_
      show Go o 309 33 _ [.int (xs (7 * t) &&& 15)] h _ _
      obtain ⟨j, hj, ej⟩ := pk_andE (xs (7 * t)) (m := 15) 4 (by decide)
      have hj : j < 16 := hj
      rcases (show j = 0 ∨ j = 1 ∨ j = 2 ∨ j = 3 ∨ j = 4 ∨ j = 5 ∨ j = 6 ∨ j = 7 ∨ j = 8 ∨ j = 9 ∨ j = 10 ∨ j = 11 ∨ j = 12 ∨ j = 13 ∨ j = 14 ∨ j = 15 by omega) with rfl | rfl | rfl | rfl | rfl | rfl | rfl | rfl | rfl | rfl | rfl | rfl | rfl | rfl | rfl | rfl
      · rw [ej]
        refine Go.step (pc1 := 108) rfl rfl rfl rfl ?_
        exact law_op_0 ho hr hL (hst.1 ej) hend
      · rw [ej]
        refine Go.step (pc1 := 151) rfl rfl rfl rfl ?_
        exact law_op_1 ho hr hL (hst.2.1 ej) hend
      · rw [ej]
        refine Go.step (pc1 := 226) rfl rfl rfl rfl ?_
        exact law_op_2 ho hr hL (hst.2.2.1 ej) hend
      · rw [ej]
        refine Go.step (pc1 := 259) rfl rfl rfl rfl ?_
        exact law_op_3 ho hr hL (hst.2.2.2.1 ej) hend
      · rw [ej]
        refine Go.step (pc1 := 312) rfl rfl rfl rfl ?_
        exact law_op_4 ho hr hL (hst.2.2.2.2.1 ej) hend
      · rw [ej]
        refine Go.step (pc1 := 335) rfl rfl rfl rfl ?_
        exact law_op_5 ho hr hL (hst.2.2.2.2.2.1 ej) hend
      · rw [ej]
        refine Go.step (pc1 := 358) rfl rfl rfl rfl ?_
        exact law_op_6 ho hr hL (hst.2.2.2.2.2.2.1 ej) hend
      · rw [ej]
        refine Go.step (pc1 := 381) rfl rfl rfl rfl ?_
        exact law_op_7 ho hr hL (hst.2.2.2.2.2.2.2.1 ej) hend
      · rw [ej]
        refine Go.step (pc1 := 394) rfl rfl rfl rfl ?_
        exact law_op_8 ho hr hL (hst.2.2.2.2.2.2.2.2.1 ej) hend
      · rw [ej]
        refine Go.step (pc1 := 427) rfl rfl rfl rfl ?_
        exact law_op_9 ho hr hL (hst.2.2.2.2.2.2.2.2.2.1 ej) hend
      · rw [ej]
        refine Go.step (pc1 := 450) rfl rfl rfl rfl ?_
        exact law_op_10 ho hr hL (hst.2.2.2.2.2.2.2.2.2.2.1 ej) hend
      · rw [ej]
        refine Go.step (pc1 := 473) rfl rfl rfl rfl ?_
        exact law_op_11 ho hr hL (hst.2.2.2.2.2.2.2.2.2.2.2.1 ej) hend
      · rw [ej]
        refine Go.step (pc1 := 496) rfl rfl rfl rfl ?_
        exact law_op_12 ho hr hL (hst.2.2.2.2.2.2.2.2.2.2.2.2.1 ej) hend
      · rw [ej]
        refine Go.step (pc1 := 529) rfl rfl rfl rfl ?_
        exact law_op_13 ho hr hL (hst.2.2.2.2.2.2.2.2.2.2.2.2.2.1 ej) hend
      · rw [ej]
        refine Go.step (pc1 := 542) rfl rfl rfl rfl ?_
        exact law_op_14 ho hr hL (hst.2.2.2.2.2.2.2.2.2.2.2.2.2.2.1 ej) hend
      · rw [ej]
        refine Go.step (pc1 := 565) rfl rfl rfl rfl ?_
        rw [← hst.2.2.2.2.2.2.2.2.2.2.2.2.2.2.2 ej]
        exact hend
    · refine ⟨h, t, hIt, h1, ?_⟩
      refine Go.step (pc1 := 19) rfl rfl rfl rfl ?_
      refine Go.step (pc1 := 20) rfl rfl rfl rfl ?_
      refine Go.step (pc1 := 21) rfl rfl rfl (go_slen ho) ?_
      refine Go.step (pc1 := 23) rfl rfl rfl rfl ?_
      refine Go.step (pc1 := 24) rfl rfl rfl rfl ?_
      refine Go.step (pc1 := 571) rfl rfl rfl (go_if2t (hcmp2 hr)) ?_
      refine Go.step (pc1 := 572) rfl rfl rfl rfl ?_
      exact Go.iret (ty := .boolean) rfl rfl rfl rfl
