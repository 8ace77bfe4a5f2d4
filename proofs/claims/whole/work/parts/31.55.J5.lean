/-! J5 -/
set_option maxRecDepth 20000 in
set_option maxHeartbeats 4000000 in
theorem writeIns_m {X : XS} {Mr M : MS} {T : Nat → Nat} {kc rc m i s : Nat} {l : List Int32} {o : Nat → Int32} (hS : RSc X Mr T kc rc) (hm : m < rc) (h : QM Mr M l o) (h70 : Mr.1 70 m = Int32.ofNat s) (hs : s ≤ 60) (hi : i < s) (hp : fm Mr 88 (60 * m + i) → Pos Mr kc rc m (opN Mr m i) (odI Mr m i)) (ho : ∀ i, i ≤ s → o i = Int32.ofNat (off Mr m i)) (hl : l.length + 3 ≤ 5663) {β : Type} {k : MS → Option β} {R : β → Prop} (hk : ∀ M', QM Mr M' (l ++ insL Mr m i) o → Wo (k M') R) : Wo ((f_M_writeCode (Int32.ofNat m) (Int32.ofNat i) M).bind k) R := by
  have hk10 := hS.1.1
  have hr24 := hS.2.1
  have ix : 60 * Int32.ofNat m + Int32.ofNat i = Int32.ofNat (60 * m + i) := by simp (disch := omega) only [o_le, o_leL, o_leR, o_lt, o_ltL, o_ltR, o_eq, o_eqL, o_eqR, o_cl, o_add, o_addL, o_addR, o_mul, o_mulL, o_mulR, o_sub, o_subR, o_0le, o_lt0, o_ixo, n1_eq, n1_eq', n1_lt, n1_le, n1_ge, n1_gt, n2_eq, n2_eq', n2_lt, n2_le, n2_ge, n2_gt, ↓reduceIte, ite_self, Nat.reduceEqDiff, Nat.reduceAdd, Nat.reduceMul, Nat.reduceSub, Nat.reduceLT, Nat.reduceLeDiff, Nat.not_lt_zero, Nat.zero_le, if_true, if_false, ite_true, ite_false, true_and, and_true, false_and, and_false, true_implies, false_implies, implies_true, not_true_eq_false, not_false_eq_true, eq_self, true_or, or_true, false_or, or_false, and_self, reduceCtorEq, forall_const]
  have cx : (Int32.ofNat (60 * m + i)).toNatClampNeg = 60 * m + i := o_cl _ (by omega)
  have jx : ixo (Int32.ofNat (60 * m + i)) 1440 := by rw [o_ixo _ _ (by omega)]; omega
  unfold f_M_writeCode
  rw [W_bind]
  simp only [ix, cx]
  refine Wi jx ?_
  unfold insL at hk
  by_cases z : Mr.1 88 (60 * m + i) = 0
  · rw [if_pos z] at hk
    refine We (by rw [qm_row h 88 (by omega)]; exact fun x => x z) ?_
    refine put_m h (by omega) _ ?_
    intro M1 q1
    rw [W_some]
    exact hk M1 q1
  rw [if_neg z] at hk
  have hp := hp z
  obtain ⟨o56, eop⟩ := opB hS hm h70 hs hi
  have e71 : M.1 71 (60 * m + i) = Int32.ofNat (opN Mr m i) := by rw [qm_row h 71 (by omega)]; exact eop
  have e72 : M.1 72 (60 * m + i) = odI Mr m i := by rw [qm_row h 72 (by omega)]; rfl
  refine Wi (by rw [qm_row h 88 (by omega)]; exact z) ?_
  simp only [e71, e72]
  generalize opN Mr m i = op at *
  generalize odI Mr m i = od at *
  unfold opL at hk
  have e0 : (if ¬ Int32.ofNat op = 1 then some (Int32.ofNat op) else (if (-128) ≤ od ∧ od ≤ 127 then some (Int32.ofNat op) else some 61) : Option Int32) = some (if op = 1 ∧ ¬ (-128 ≤ od ∧ od ≤ 127) then 61 else Int32.ofNat op) := by
    by_cases e1 : op = 1
    · subst e1
      rw [if_neg (by decide)]
      by_cases c : -128 ≤ od ∧ od ≤ 127
      · rw [if_pos c, if_neg (fun x => x.2 c)]
      · rw [if_neg c, if_pos ⟨rfl, c⟩]
    · have e' : ¬ Int32.ofNat op = 1 := by simp (disch := omega) only [o_le, o_leL, o_leR, o_lt, o_ltL, o_ltR, o_eq, o_eqL, o_eqR, o_cl, o_add, o_addL, o_addR, o_mul, o_mulL, o_mulR, o_sub, o_subR, o_0le, o_lt0, o_ixo, n1_eq, n1_eq', n1_lt, n1_le, n1_ge, n1_gt, n2_eq, n2_eq', n2_lt, n2_le, n2_ge, n2_gt, ↓reduceIte, ite_self, Nat.reduceEqDiff, Nat.reduceAdd, Nat.reduceMul, Nat.reduceSub, Nat.reduceLT, Nat.reduceLeDiff, Nat.not_lt_zero, Nat.zero_le, if_true, if_false, ite_true, ite_false, true_and, and_true, false_and, and_false, true_implies, false_implies, implies_true, not_true_eq_false, not_false_eq_true, eq_self, true_or, or_true, false_or, or_false, and_self, reduceCtorEq, forall_const]; exact e1
      rw [if_pos e', if_neg (fun x => e1 x.1)]
  rw [e0]
  simp only [Option.bind_some]
  refine put_m h (by omega) _ ?_
  intro M1 q1
  have l1 : ∀ v : Int32, (l ++ [v]).length = l.length + 1 := fun v => by rw [List.length_append]; rfl
  by_cases e1 : op = 1
  · subst e1
    refine Wi (by decide) ?_
    rw [if_pos rfl] at hk
    by_cases c : -128 ≤ od ∧ od ≤ 127
    · rw [if_neg (fun x => x.2 c)] at q1
      rw [if_pos c] at hk
      refine Wi c ?_
      refine put_m q1 (by rw [l1]; omega) _ ?_
      intro M2 q2
      rw [W_some]
      rw [List.append_assoc] at q2
      exact hk M2 q2
    · rw [if_pos ⟨rfl, c⟩] at q1
      rw [if_neg c] at hk
      refine We c ?_
      refine two_m q1 (by rw [l1]; omega) _ ?_
      intro M2 q2
      rw [W_some]
      rw [List.append_assoc] at q2
      exact hk M2 q2
  rw [if_neg (fun x => e1 x.1)] at q1
  rw [if_neg e1] at hk
  refine We (by simp (disch := omega) only [o_le, o_leL, o_leR, o_lt, o_ltL, o_ltR, o_eq, o_eqL, o_eqR, o_cl, o_add, o_addL, o_addR, o_mul, o_mulL, o_mulR, o_sub, o_subR, o_0le, o_lt0, o_ixo, n1_eq, n1_eq', n1_lt, n1_le, n1_ge, n1_gt, n2_eq, n2_eq', n2_lt, n2_le, n2_ge, n2_gt, ↓reduceIte, ite_self, Nat.reduceEqDiff, Nat.reduceAdd, Nat.reduceMul, Nat.reduceSub, Nat.reduceLT, Nat.reduceLeDiff, Nat.not_lt_zero, Nat.zero_le, if_true, if_false, ite_true, ite_false, true_and, and_true, false_and, and_false, true_implies, false_implies, implies_true, not_true_eq_false, not_false_eq_true, eq_self, true_or, or_true, false_or, or_false, and_self, reduceCtorEq, forall_const]; exact e1) ?_
  by_cases c6 : op = 2 ∨ op = 3 ∨ op = 39 ∨ op = 52 ∨ op = 53 ∨ op = 54 ∨ op = 55
  · have l2 : ln0 op = 2 := by unfold ln0; rw [if_pos (by omega)]
    rw [if_neg (by omega), if_neg (by omega), if_neg (by omega), if_neg (by omega), if_neg (by omega), if_pos l2] at hk
    refine Wi (by simp (disch := omega) only [o_le, o_leL, o_leR, o_lt, o_ltL, o_ltR, o_eq, o_eqL, o_eqR, o_cl, o_add, o_addL, o_addR, o_mul, o_mulL, o_mulR, o_sub, o_subR, o_0le, o_lt0, o_ixo, n1_eq, n1_eq', n1_lt, n1_le, n1_ge, n1_gt, n2_eq, n2_eq', n2_lt, n2_le, n2_ge, n2_gt, ↓reduceIte, ite_self, Nat.reduceEqDiff, Nat.reduceAdd, Nat.reduceMul, Nat.reduceSub, Nat.reduceLT, Nat.reduceLeDiff, Nat.not_lt_zero, Nat.zero_le, if_true, if_false, ite_true, ite_false, true_and, and_true, false_and, and_false, true_implies, false_implies, implies_true, not_true_eq_false, not_false_eq_true, eq_self, true_or, or_true, false_or, or_false, and_self, reduceCtorEq, forall_const]; omega) ?_
    refine put_m q1 (by rw [l1]; omega) _ ?_
    intro M2 q2
    rw [W_some]
    rw [List.append_assoc] at q2
    exact hk M2 q2
  refine We (by simp (disch := omega) only [o_le, o_leL, o_leR, o_lt, o_ltL, o_ltR, o_eq, o_eqL, o_eqR, o_cl, o_add, o_addL, o_addR, o_mul, o_mulL, o_mulR, o_sub, o_subR, o_0le, o_lt0, o_ixo, n1_eq, n1_eq', n1_lt, n1_le, n1_ge, n1_gt, n2_eq, n2_eq', n2_lt, n2_le, n2_ge, n2_gt, ↓reduceIte, ite_self, Nat.reduceEqDiff, Nat.reduceAdd, Nat.reduceMul, Nat.reduceSub, Nat.reduceLT, Nat.reduceLeDiff, Nat.not_lt_zero, Nat.zero_le, if_true, if_false, ite_true, ite_false, true_and, and_true, false_and, and_false, true_implies, false_implies, implies_true, not_true_eq_false, not_false_eq_true, eq_self, true_or, or_true, false_or, or_false, and_self, reduceCtorEq, forall_const]; omega) ?_
  by_cases c1 : 19 ≤ op ∧ op ≤ 25
  · rw [if_pos c1] at hk
    obtain ⟨p1, p2⟩ := hp.2.2.1 c1
    rw [h70] at p2
    obtain ⟨j, hj, ej⟩ := (le1_iff (kc := s) (by omega) od).mp ⟨p1, p2⟩
    have j61 : j < 61 := by omega
    refine Wi (by simp (disch := omega) only [o_le, o_leL, o_leR, o_lt, o_ltL, o_ltR, o_eq, o_eqL, o_eqR, o_cl, o_add, o_addL, o_addR, o_mul, o_mulL, o_mulR, o_sub, o_subR, o_0le, o_lt0, o_ixo, n1_eq, n1_eq', n1_lt, n1_le, n1_ge, n1_gt, n2_eq, n2_eq', n2_lt, n2_le, n2_ge, n2_gt, ↓reduceIte, ite_self, Nat.reduceEqDiff, Nat.reduceAdd, Nat.reduceMul, Nat.reduceSub, Nat.reduceLT, Nat.reduceLeDiff, Nat.not_lt_zero, Nat.zero_le, if_true, if_false, ite_true, ite_false, true_and, and_true, false_and, and_false, true_implies, false_implies, implies_true, not_true_eq_false, not_false_eq_true, eq_self, true_or, or_true, false_or, or_false, and_self, reduceCtorEq, forall_const]; omega) (Wi (by rw [ej]; simp (disch := omega) only [o_le, o_leL, o_leR, o_lt, o_ltL, o_ltR, o_eq, o_eqL, o_eqR, o_cl, o_add, o_addL, o_addR, o_mul, o_mulL, o_mulR, o_sub, o_subR, o_0le, o_lt0, o_ixo, n1_eq, n1_eq', n1_lt, n1_le, n1_ge, n1_gt, n2_eq, n2_eq', n2_lt, n2_le, n2_ge, n2_gt, ↓reduceIte, ite_self, Nat.reduceEqDiff, Nat.reduceAdd, Nat.reduceMul, Nat.reduceSub, Nat.reduceLT, Nat.reduceLeDiff, Nat.not_lt_zero, Nat.zero_le, if_true, if_false, ite_true, ite_false, true_and, and_true, false_and, and_false, true_implies, false_implies, implies_true, not_true_eq_false, not_false_eq_true, eq_self, true_or, or_true, false_or, or_false, and_self, reduceCtorEq, forall_const]; exact j61) ?_)
    refine two_m q1 (by rw [l1]; omega) _ ?_
    intro M2 q2
    rw [W_some]
    rw [ej, o_cl j (by omega), q1.2.2.2, ho j (by omega), List.append_assoc] at q2
    rw [ej, o_cl j (by omega)] at hk
    exact hk M2 q2
  rw [if_neg c1] at hk
  refine We (by simp (disch := omega) only [o_le, o_leL, o_leR, o_lt, o_ltL, o_ltR, o_eq, o_eqL, o_eqR, o_cl, o_add, o_addL, o_addR, o_mul, o_mulL, o_mulR, o_sub, o_subR, o_0le, o_lt0, o_ixo, n1_eq, n1_eq', n1_lt, n1_le, n1_ge, n1_gt, n2_eq, n2_eq', n2_lt, n2_le, n2_ge, n2_gt, ↓reduceIte, ite_self, Nat.reduceEqDiff, Nat.reduceAdd, Nat.reduceMul, Nat.reduceSub, Nat.reduceLT, Nat.reduceLeDiff, Nat.not_lt_zero, Nat.zero_le, if_true, if_false, ite_true, ite_false, true_and, and_true, false_and, and_false, true_implies, false_implies, implies_true, not_true_eq_false, not_false_eq_true, eq_self, true_or, or_true, false_or, or_false, and_self, reduceCtorEq, forall_const]; omega) ?_
  by_cases c4 : op = 26 ∨ op = 44
  · rw [if_neg (by omega), if_neg (by omega), if_pos c4] at hk
    obtain ⟨c, a1, a2⟩ := hp.2.2.2.1 c4
    have c10 : c < 10 := by omega
    refine Wi (by simp (disch := omega) only [o_le, o_leL, o_leR, o_lt, o_ltL, o_ltR, o_eq, o_eqL, o_eqR, o_cl, o_add, o_addL, o_addR, o_mul, o_mulL, o_mulR, o_sub, o_subR, o_0le, o_lt0, o_ixo, n1_eq, n1_eq', n1_lt, n1_le, n1_ge, n1_gt, n2_eq, n2_eq', n2_lt, n2_le, n2_ge, n2_gt, ↓reduceIte, ite_self, Nat.reduceEqDiff, Nat.reduceAdd, Nat.reduceMul, Nat.reduceSub, Nat.reduceLT, Nat.reduceLeDiff, Nat.not_lt_zero, Nat.zero_le, if_true, if_false, ite_true, ite_false, true_and, and_true, false_and, and_false, true_implies, false_implies, implies_true, not_true_eq_false, not_false_eq_true, eq_self, true_or, or_true, false_or, or_false, and_self, reduceCtorEq, forall_const]; omega) (Wi (by rw [a2]; simp (disch := omega) only [o_le, o_leL, o_leR, o_lt, o_ltL, o_ltR, o_eq, o_eqL, o_eqR, o_cl, o_add, o_addL, o_addR, o_mul, o_mulL, o_mulR, o_sub, o_subR, o_0le, o_lt0, o_ixo, n1_eq, n1_eq', n1_lt, n1_le, n1_ge, n1_gt, n2_eq, n2_eq', n2_lt, n2_le, n2_ge, n2_gt, ↓reduceIte, ite_self, Nat.reduceEqDiff, Nat.reduceAdd, Nat.reduceMul, Nat.reduceSub, Nat.reduceLT, Nat.reduceLeDiff, Nat.not_lt_zero, Nat.zero_le, if_true, if_false, ite_true, ite_false, true_and, and_true, false_and, and_false, true_implies, false_implies, implies_true, not_true_eq_false, not_false_eq_true, eq_self, true_or, or_true, false_or, or_false, and_self, reduceCtorEq, forall_const]; exact c10) ?_)
    refine put_m q1 (by rw [l1]; omega) _ ?_
    intro M2 q2
    rw [W_some]
    rw [a2, o_cl c (by omega), qm_row q1 80 (by omega), List.append_assoc] at q2
    rw [a2, o_cl c (by omega)] at hk
    exact hk M2 q2
  refine We (by simp (disch := omega) only [o_le, o_leL, o_leR, o_lt, o_ltL, o_ltR, o_eq, o_eqL, o_eqR, o_cl, o_add, o_addL, o_addR, o_mul, o_mulL, o_mulR, o_sub, o_subR, o_0le, o_lt0, o_ixo, n1_eq, n1_eq', n1_lt, n1_le, n1_ge, n1_gt, n2_eq, n2_eq', n2_lt, n2_le, n2_ge, n2_gt, ↓reduceIte, ite_self, Nat.reduceEqDiff, Nat.reduceAdd, Nat.reduceMul, Nat.reduceSub, Nat.reduceLT, Nat.reduceLeDiff, Nat.not_lt_zero, Nat.zero_le, if_true, if_false, ite_true, ite_false, true_and, and_true, false_and, and_false, true_implies, false_implies, implies_true, not_true_eq_false, not_false_eq_true, eq_self, true_or, or_true, false_or, or_false, and_self, reduceCtorEq, forall_const]; omega) ?_
  by_cases c2 : op = 27 ∨ op = 28
  · rw [if_pos c2] at hk
    obtain ⟨c, a1, a2, a3, _⟩ := hp.2.2.2.2.1 c2
    have c10 : c < 10 := by omega
    have ic : ixo (od / 8) 10 := by rw [a3]; simp (disch := omega) only [o_le, o_leL, o_leR, o_lt, o_ltL, o_ltR, o_eq, o_eqL, o_eqR, o_cl, o_add, o_addL, o_addR, o_mul, o_mulL, o_mulR, o_sub, o_subR, o_0le, o_lt0, o_ixo, n1_eq, n1_eq', n1_lt, n1_le, n1_ge, n1_gt, n2_eq, n2_eq', n2_lt, n2_le, n2_ge, n2_gt, ↓reduceIte, ite_self, Nat.reduceEqDiff, Nat.reduceAdd, Nat.reduceMul, Nat.reduceSub, Nat.reduceLT, Nat.reduceLeDiff, Nat.not_lt_zero, Nat.zero_le, if_true, if_false, ite_true, ite_false, true_and, and_true, false_and, and_false, true_implies, false_implies, implies_true, not_true_eq_false, not_false_eq_true, eq_self, true_or, or_true, false_or, or_false, and_self, reduceCtorEq, forall_const]; exact c10
    refine Wi (by simp (disch := omega) only [o_le, o_leL, o_leR, o_lt, o_ltL, o_ltR, o_eq, o_eqL, o_eqR, o_cl, o_add, o_addL, o_addR, o_mul, o_mulL, o_mulR, o_sub, o_subR, o_0le, o_lt0, o_ixo, n1_eq, n1_eq', n1_lt, n1_le, n1_ge, n1_gt, n2_eq, n2_eq', n2_lt, n2_le, n2_ge, n2_gt, ↓reduceIte, ite_self, Nat.reduceEqDiff, Nat.reduceAdd, Nat.reduceMul, Nat.reduceSub, Nat.reduceLT, Nat.reduceLeDiff, Nat.not_lt_zero, Nat.zero_le, if_true, if_false, ite_true, ite_false, true_and, and_true, false_and, and_false, true_implies, false_implies, implies_true, not_true_eq_false, not_false_eq_true, eq_self, true_or, or_true, false_or, or_false, and_self, reduceCtorEq, forall_const]; omega) (Wi ic ?_)
    refine put_m q1 (by rw [l1]; omega) _ ?_
    intro M2 q2
    rw [a3, o_cl c (by omega), qm_row q1 80 (by omega)] at q2
    rw [a3, o_cl c (by omega)] at hk
    simp only [a3]
    rw [(allOf_ok hS.1 (qm_src q2) a1).1]
    simp only [Option.bind_some, o_cl c (show c < 2147483648 by omega)]
    refine Wi (by simp (disch := omega) only [o_le, o_leL, o_leR, o_lt, o_ltL, o_ltR, o_eq, o_eqL, o_eqR, o_cl, o_add, o_addL, o_addR, o_mul, o_mulL, o_mulR, o_sub, o_subR, o_0le, o_lt0, o_ixo, n1_eq, n1_eq', n1_lt, n1_le, n1_ge, n1_gt, n2_eq, n2_eq', n2_lt, n2_le, n2_ge, n2_gt, ↓reduceIte, ite_self, Nat.reduceEqDiff, Nat.reduceAdd, Nat.reduceMul, Nat.reduceSub, Nat.reduceLT, Nat.reduceLeDiff, Nat.not_lt_zero, Nat.zero_le, if_true, if_false, ite_true, ite_false, true_and, and_true, false_and, and_false, true_implies, false_implies, implies_true, not_true_eq_false, not_false_eq_true, eq_self, true_or, or_true, false_or, or_false, and_self, reduceCtorEq, forall_const]; exact c10) ?_
    refine put_m q2 (by simp only [List.length_append, List.length_cons, List.length_nil]; omega) _ ?_
    intro M3 q3
    rw [W_some]
    rw [qm_row q2 62 (by omega), List.append_assoc, List.append_assoc] at q3
    exact hk M3 q3
  rw [if_neg c2] at hk
  refine We (by simp (disch := omega) only [o_le, o_leL, o_leR, o_lt, o_ltL, o_ltR, o_eq, o_eqL, o_eqR, o_cl, o_add, o_addL, o_addR, o_mul, o_mulL, o_mulR, o_sub, o_subR, o_0le, o_lt0, o_ixo, n1_eq, n1_eq', n1_lt, n1_le, n1_ge, n1_gt, n2_eq, n2_eq', n2_lt, n2_le, n2_ge, n2_gt, ↓reduceIte, ite_self, Nat.reduceEqDiff, Nat.reduceAdd, Nat.reduceMul, Nat.reduceSub, Nat.reduceLT, Nat.reduceLeDiff, Nat.not_lt_zero, Nat.zero_le, if_true, if_false, ite_true, ite_false, true_and, and_true, false_and, and_false, true_implies, false_implies, implies_true, not_true_eq_false, not_false_eq_true, eq_self, true_or, or_true, false_or, or_false, and_self, reduceCtorEq, forall_const]; omega) ?_
  by_cases c3 : op = 29 ∨ op = 30
  · rw [if_pos c3] at hk
    obtain ⟨c, a1, a2, a3, _⟩ := hp.2.2.2.2.2.1 c3
    have c10 : c < 10 := by omega
    have ic : ixo (od / 8) 10 := by rw [a3]; simp (disch := omega) only [o_le, o_leL, o_leR, o_lt, o_ltL, o_ltR, o_eq, o_eqL, o_eqR, o_cl, o_add, o_addL, o_addR, o_mul, o_mulL, o_mulR, o_sub, o_subR, o_0le, o_lt0, o_ixo, n1_eq, n1_eq', n1_lt, n1_le, n1_ge, n1_gt, n2_eq, n2_eq', n2_lt, n2_le, n2_ge, n2_gt, ↓reduceIte, ite_self, Nat.reduceEqDiff, Nat.reduceAdd, Nat.reduceMul, Nat.reduceSub, Nat.reduceLT, Nat.reduceLeDiff, Nat.not_lt_zero, Nat.zero_le, if_true, if_false, ite_true, ite_false, true_and, and_true, false_and, and_false, true_implies, false_implies, implies_true, not_true_eq_false, not_false_eq_true, eq_self, true_or, or_true, false_or, or_false, and_self, reduceCtorEq, forall_const]; exact c10
    refine Wi (by simp (disch := omega) only [o_le, o_leL, o_leR, o_lt, o_ltL, o_ltR, o_eq, o_eqL, o_eqR, o_cl, o_add, o_addL, o_addR, o_mul, o_mulL, o_mulR, o_sub, o_subR, o_0le, o_lt0, o_ixo, n1_eq, n1_eq', n1_lt, n1_le, n1_ge, n1_gt, n2_eq, n2_eq', n2_lt, n2_le, n2_ge, n2_gt, ↓reduceIte, ite_self, Nat.reduceEqDiff, Nat.reduceAdd, Nat.reduceMul, Nat.reduceSub, Nat.reduceLT, Nat.reduceLeDiff, Nat.not_lt_zero, Nat.zero_le, if_true, if_false, ite_true, ite_false, true_and, and_true, false_and, and_false, true_implies, false_implies, implies_true, not_true_eq_false, not_false_eq_true, eq_self, true_or, or_true, false_or, or_false, and_self, reduceCtorEq, forall_const]; omega) (Wi ic ?_)
    refine put_m q1 (by rw [l1]; omega) _ ?_
    intro M2 q2
    rw [a3, o_cl c (by omega), qm_row q1 80 (by omega)] at q2
    rw [a3, o_cl c (by omega)] at hk
    simp only [a3]
    rw [(allOf_ok hS.1 (qm_src q2) a1).2]
    simp only [Option.bind_some, o_cl c (show c < 2147483648 by omega)]
    refine Wi (by simp (disch := omega) only [o_le, o_leL, o_leR, o_lt, o_ltL, o_ltR, o_eq, o_eqL, o_eqR, o_cl, o_add, o_addL, o_addR, o_mul, o_mulL, o_mulR, o_sub, o_subR, o_0le, o_lt0, o_ixo, n1_eq, n1_eq', n1_lt, n1_le, n1_ge, n1_gt, n2_eq, n2_eq', n2_lt, n2_le, n2_ge, n2_gt, ↓reduceIte, ite_self, Nat.reduceEqDiff, Nat.reduceAdd, Nat.reduceMul, Nat.reduceSub, Nat.reduceLT, Nat.reduceLeDiff, Nat.not_lt_zero, Nat.zero_le, if_true, if_false, ite_true, ite_false, true_and, and_true, false_and, and_false, true_implies, false_implies, implies_true, not_true_eq_false, not_false_eq_true, eq_self, true_or, or_true, false_or, or_false, and_self, reduceCtorEq, forall_const]; exact c10) ?_
    refine put_m q2 (by simp only [List.length_append, List.length_cons, List.length_nil]; omega) _ ?_
    intro M3 q3
    rw [W_some]
    rw [qm_row q2 63 (by omega), List.append_assoc, List.append_assoc] at q3
    exact hk M3 q3
  rw [if_neg c3, if_neg c4] at hk
  refine We (by simp (disch := omega) only [o_le, o_leL, o_leR, o_lt, o_ltL, o_ltR, o_eq, o_eqL, o_eqR, o_cl, o_add, o_addL, o_addR, o_mul, o_mulL, o_mulR, o_sub, o_subR, o_0le, o_lt0, o_ixo, n1_eq, n1_eq', n1_lt, n1_le, n1_ge, n1_gt, n2_eq, n2_eq', n2_lt, n2_le, n2_ge, n2_gt, ↓reduceIte, ite_self, Nat.reduceEqDiff, Nat.reduceAdd, Nat.reduceMul, Nat.reduceSub, Nat.reduceLT, Nat.reduceLeDiff, Nat.not_lt_zero, Nat.zero_le, if_true, if_false, ite_true, ite_false, true_and, and_true, false_and, and_false, true_implies, false_implies, implies_true, not_true_eq_false, not_false_eq_true, eq_self, true_or, or_true, false_or, or_false, and_self, reduceCtorEq, forall_const]; omega) ?_
  by_cases c5 : op = 38
  · rw [if_pos c5] at hk
    obtain ⟨r, a1, a2, a3⟩ := hp.2.2.2.2.2.2.1 c5
    have r24 : r < 24 := by omega
    refine Wi (by simp (disch := omega) only [o_le, o_leL, o_leR, o_lt, o_ltL, o_ltR, o_eq, o_eqL, o_eqR, o_cl, o_add, o_addL, o_addR, o_mul, o_mulL, o_mulR, o_sub, o_subR, o_0le, o_lt0, o_ixo, n1_eq, n1_eq', n1_lt, n1_le, n1_ge, n1_gt, n2_eq, n2_eq', n2_lt, n2_le, n2_ge, n2_gt, ↓reduceIte, ite_self, Nat.reduceEqDiff, Nat.reduceAdd, Nat.reduceMul, Nat.reduceSub, Nat.reduceLT, Nat.reduceLeDiff, Nat.not_lt_zero, Nat.zero_le, if_true, if_false, ite_true, ite_false, true_and, and_true, false_and, and_false, true_implies, false_implies, implies_true, not_true_eq_false, not_false_eq_true, eq_self, true_or, or_true, false_or, or_false, and_self, reduceCtorEq, forall_const]; omega) (Wi (by rw [a2]; simp (disch := omega) only [o_le, o_leL, o_leR, o_lt, o_ltL, o_ltR, o_eq, o_eqL, o_eqR, o_cl, o_add, o_addL, o_addR, o_mul, o_mulL, o_mulR, o_sub, o_subR, o_0le, o_lt0, o_ixo, n1_eq, n1_eq', n1_lt, n1_le, n1_ge, n1_gt, n2_eq, n2_eq', n2_lt, n2_le, n2_ge, n2_gt, ↓reduceIte, ite_self, Nat.reduceEqDiff, Nat.reduceAdd, Nat.reduceMul, Nat.reduceSub, Nat.reduceLT, Nat.reduceLeDiff, Nat.not_lt_zero, Nat.zero_le, if_true, if_false, ite_true, ite_false, true_and, and_true, false_and, and_false, true_implies, false_implies, implies_true, not_true_eq_false, not_false_eq_true, eq_self, true_or, or_true, false_or, or_false, and_self, reduceCtorEq, forall_const]; exact r24) ?_)
    refine put_m q1 (by rw [l1]; omega) _ ?_
    intro M2 q2
    rw [W_some]
    rw [a2, o_cl r (by omega), qm_row q1 79 (by omega), List.append_assoc] at q2
    rw [a2, o_cl r (by omega)] at hk
    exact hk M2 q2
  rw [if_neg c5] at hk
  refine We (by simp (disch := omega) only [o_le, o_leL, o_leR, o_lt, o_ltL, o_ltR, o_eq, o_eqL, o_eqR, o_cl, o_add, o_addL, o_addR, o_mul, o_mulL, o_mulR, o_sub, o_subR, o_0le, o_lt0, o_ixo, n1_eq, n1_eq', n1_lt, n1_le, n1_ge, n1_gt, n2_eq, n2_eq', n2_lt, n2_le, n2_ge, n2_gt, ↓reduceIte, ite_self, Nat.reduceEqDiff, Nat.reduceAdd, Nat.reduceMul, Nat.reduceSub, Nat.reduceLT, Nat.reduceLeDiff, Nat.not_lt_zero, Nat.zero_le, if_true, if_false, ite_true, ite_false, true_and, and_true, false_and, and_false, true_implies, false_implies, implies_true, not_true_eq_false, not_false_eq_true, eq_self, true_or, or_true, false_or, or_false, and_self, reduceCtorEq, forall_const]; exact c5) ?_
  have c6' : ¬ ln0 op = 2 := by
    unfold ln0
    rw [if_neg (by omega)]
    split <;> omega
  rw [if_neg c6'] at hk
  rw [W_some]
  exact hk M1 q1
set_option maxRecDepth 20000 in
set_option maxHeartbeats 4000000 in
theorem cat_ins_len (M : MS) (m : Nat) : ∀ n, (cat (insL M m) n).length = off M m n := by
  intro n
  induction n with
  | zero => rfl
  | succ n ih =>
    show (cat (insL M m) n ++ insL M m n).length = off M m n + lnF M m n
    rw [List.length_append, ih, insL_len]
set_option maxRecDepth 20000 in
set_option maxHeartbeats 4000000 in
theorem writeCode_q {Mr : MS} {kc rc main : Nat} {X0 X : XS} {T0 T : Nat → Nat} {l : List Int32} {o hd nm sk : Nat → Int32} (hT : LkT Mr kc rc) (hR : LkR Mr kc rc main) (h : QX Mr kc rc X0 T0 X T l o hd nm sk) {m a : Nat} (hm : m < rc) (hr : fm Mr 75 m) (ha : X0.2.1 2 m = some a) (hl : l.length + 180 ≤ 5663) {β : Type} {k : XS → Option β} {R : β → Prop} (hk : ∀ X' T' o', QX Mr kc rc X0 T0 X' T' (l ++ cat (insL Mr m) (sz Mr m)) o' hd nm sk → Wo (k X') R) : Wo ((f_Linker_writeCode_30 (Int32.ofNat m) X).bind k) R := by
  have hr24 := h.1.1.2.1
  have m24 : m < 24 := by omega
  obtain ⟨s, tc, mm, s1, s2, s3, s4, s5, s6, s7, s8, s9⟩ := ty_facts hT m24 hr
  have cm : (Int32.ofNat m).toNatClampNeg = m := o_cl m (by omega)
  have esz : sz Mr m = s := by unfold sz; rw [s3, o_cl s (by omega)]
  rw [esz] at hk
  rw [W_bind]
  unfold f_Linker_writeCode_30
  refine Wi ((hasR_q h.1 m24).mpr hr) (Wz (by rw [cm]; exact xref2 h hm ha) ?_)
  refine findOffsets_q hT h hm hr (xref2 h hm ha) ?_
  intro X1 o1 q1 _ ho
  rw [W_bind]
  refine W_lp (fun p => ∃ n T', n ≤ s ∧ p.1 = Int32.ofNat n ∧ QX Mr kc rc X0 T0 p.2 T' (l ++ cat (insL Mr m) n) o1 hd nm sk) (fun p => 60 - p.1.toNatClampNeg) ?_ 10000 _ ⟨0, T, by omega, rfl, by show QX Mr kc rc X0 T0 X1 T (l ++ []) o1 hd nm sk; rw [List.append_nil]; exact q1⟩ (by show 60 - 0 < 10000; omega)
  rintro ⟨p1, X2⟩ ⟨n, T2, hn, e1, q2⟩
  dsimp only at e1 q2
  subst e1
  obtain ⟨f2, ra2, rv2⟩ := rout_q q2 hm ha
  have x6 : X2.1 a 6 = Int32.ofNat s := rv2.2.2.2.2.2.2.1.trans s3
  unfold b31_Linker_writeCode_30
  dsimp only
  by_cases hl' : n < s
  · have g1 : ¬ s ≤ n := by omega
    have g2 : ¬ 60 ≤ n := by omega
    have g3 : n < 60 := by omega
    have c3 : (Int32.ofNat n).toNatClampNeg = n := o_cl n (by omega)
    refine Wi ra2.2.1 (We (by rw [x6]; simp (disch := omega) only [o_le, o_leL, o_leR, o_lt, o_ltL, o_ltR, o_eq, o_eqL, o_eqR, o_cl, o_add, o_addL, o_addR, o_mul, o_mulL, o_mulR, o_sub, o_subR, o_0le, o_lt0, o_ixo, n1_eq, n1_eq', n1_lt, n1_le, n1_ge, n1_gt, n2_eq, n2_eq', n2_lt, n2_le, n2_ge, n2_gt, ↓reduceIte, ite_self, Nat.reduceEqDiff, Nat.reduceAdd, Nat.reduceMul, Nat.reduceSub, Nat.reduceLT, Nat.reduceLeDiff, Nat.not_lt_zero, Nat.zero_le, if_true, if_false, ite_true, ite_false, true_and, and_true, false_and, and_false, true_implies, false_implies, implies_true, not_true_eq_false, not_false_eq_true, eq_self, true_or, or_true, false_or, or_false, and_self, reduceCtorEq, forall_const]; exact g1) (We (by simp (disch := omega) only [o_le, o_leL, o_leR, o_lt, o_ltL, o_ltR, o_eq, o_eqL, o_eqR, o_cl, o_add, o_addL, o_addR, o_mul, o_mulL, o_mulR, o_sub, o_subR, o_0le, o_lt0, o_ixo, n1_eq, n1_eq', n1_lt, n1_le, n1_ge, n1_gt, n2_eq, n2_eq', n2_lt, n2_le, n2_ge, n2_gt, ↓reduceIte, ite_self, Nat.reduceEqDiff, Nat.reduceAdd, Nat.reduceMul, Nat.reduceSub, Nat.reduceLT, Nat.reduceLeDiff, Nat.not_lt_zero, Nat.zero_le, if_true, if_false, ite_true, ite_false, true_and, and_true, false_and, and_false, true_implies, false_implies, implies_true, not_true_eq_false, not_false_eq_true, eq_self, true_or, or_true, false_or, or_false, and_self, reduceCtorEq, forall_const]; exact g2) ?_))
    rw [wasSeen_q q2.1 m24 hr g3]
    simp only [Option.bind_some]
    have om := off_le Mr m n
    have nx : ∀ X3 T3, QX Mr kc rc X0 T0 X3 T3 (l ++ cat (insL Mr m) n ++ insL Mr m n) o1 hd nm sk → (∃ k T', k ≤ s ∧ Int32.ofNat (n + 1) = Int32.ofNat k ∧ QX Mr kc rc X0 T0 X3 T' (l ++ cat (insL Mr m) k) o1 hd nm sk) := by
      intro X3 T3 q3
      refine ⟨n + 1, T3, by omega, rfl, ?_⟩
      rw [List.append_assoc] at q3
      exact q3
    by_cases sn : fm Mr 88 (60 * m + n)
    · refine Wi (fmB_iff.mpr sn) ?_
      obtain ⟨w1, w2⟩ : X2.1 (f2 7) n = Mr.1 71 (60 * m + n) ∧ X2.1 (f2 8) n = Mr.1 72 (60 * m + n) := by
        obtain ⟨_, _, _, _, _, _, _, _, _, _, _, _, _, _, ⟨s', v16, v17, v18⟩, _⟩ := rv2
        have es : s' = s := by
          have := v17.symm.trans s3
          rw [o_eq _ _ (by omega) (by omega)] at this
          exact this
        subst es
        obtain ⟨w1, w2, w3⟩ := v18 n hl'
        exact ⟨w1, w2⟩
      have r7 := ra2.2.2.2.1 7 (by omega)
      have r8 := ra2.2.2.2.1 8 (by omega)
      have i60 : ixo (Int32.ofNat n) 60 := by rw [o_ixo _ _ (by omega)]; exact g3
      refine Wz r7.1 (Wz (xL_iff.mpr r7.2.1) (Wi i60 (Wz r8.1 (Wz (xL_iff.mpr r8.2.1) (Wi i60 ?_)))))
      rw [c3, w1, w2]
      have il : insL Mr m n = opL Mr m (opN Mr m n) (odI Mr m n) := by unfold insL; rw [if_neg sn]
      have iln := insL_len Mr m n
      refine writeIns_q hR q2 hm hr s3 s1 hl' (s8 n g3 sn).2 ho (by rw [List.length_append, cat_ins_len]; omega) ?_
      intro X3 T3 q3
      rw [W_some]
      simp only [o_addR]
      rw [← il] at q3
      exact ⟨nx X3 T3 q3, by (try simp (disch := omega) only [o_le, o_leL, o_leR, o_lt, o_ltL, o_ltR, o_eq, o_eqL, o_eqR, o_cl, o_add, o_addL, o_addR, o_mul, o_mulL, o_mulR, o_sub, o_subR, o_0le, o_lt0, o_ixo, n1_eq, n1_eq', n1_lt, n1_le, n1_ge, n1_gt, n2_eq, n2_eq', n2_lt, n2_le, n2_ge, n2_gt, ↓reduceIte, ite_self, Nat.reduceEqDiff, Nat.reduceAdd, Nat.reduceMul, Nat.reduceSub, Nat.reduceLT, Nat.reduceLeDiff, Nat.not_lt_zero, Nat.zero_le, if_true, if_false, ite_true, ite_false, true_and, and_true, false_and, and_false, true_implies, false_implies, implies_true, not_true_eq_false, not_false_eq_true, eq_self, true_or, or_true, false_or, or_false, and_self, reduceCtorEq, forall_const]); omega⟩
    · have sn' : ¬ fmB Mr 88 (60 * m + n) = true := by rw [fmB_iff]; exact sn
      refine We sn' ?_
      have il : insL Mr m n = [0] := by unfold insL; rw [if_pos (Classical.not_not.mp sn)]
      have := lnF_le Mr m n
      refine put_q q2 (by rw [List.length_append, cat_ins_len]; omega) _ ?_
      intro X3 T3 q3
      rw [W_some]
      simp only [o_addR]
      rw [← il] at q3
      exact ⟨nx X3 T3 q3, by (try simp (disch := omega) only [o_le, o_leL, o_leR, o_lt, o_ltL, o_ltR, o_eq, o_eqL, o_eqR, o_cl, o_add, o_addL, o_addR, o_mul, o_mulL, o_mulR, o_sub, o_subR, o_0le, o_lt0, o_ixo, n1_eq, n1_eq', n1_lt, n1_le, n1_ge, n1_gt, n2_eq, n2_eq', n2_lt, n2_le, n2_ge, n2_gt, ↓reduceIte, ite_self, Nat.reduceEqDiff, Nat.reduceAdd, Nat.reduceMul, Nat.reduceSub, Nat.reduceLT, Nat.reduceLeDiff, Nat.not_lt_zero, Nat.zero_le, if_true, if_false, ite_true, ite_false, true_and, and_true, false_and, and_false, true_implies, false_implies, implies_true, not_true_eq_false, not_false_eq_true, eq_self, true_or, or_true, false_or, or_false, and_self, reduceCtorEq, forall_const]); omega⟩
  · have en : n = s := by omega
    subst en
    refine Wi ra2.2.1 (Wi (by rw [x6]; exact Int32.le_refl _) ?_)
    rw [W_some]
    show Wo (some X2) _
    rw [W_some]
    exact hk X2 T2 o1 q2
