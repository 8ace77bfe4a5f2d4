/-! J4 -/
/-- the bytes of an instruction -/
def opL (M : MS) (m op : Nat) (od : Int32) : List Int32 :=
  if op = 1 then (if -128 ≤ od ∧ od ≤ 127 then [1, od] else 61 :: w2 od)
  else if 19 ≤ op ∧ op ≤ 25 then Int32.ofNat op :: w2 (Int32.ofNat (off M m od.toNatClampNeg))
  else if op = 27 ∨ op = 28 then [Int32.ofNat op, M.1 80 (od / 8).toNatClampNeg, allN M 62 10 (od / 8).toNatClampNeg - M.1 62 (od / 8).toNatClampNeg + (od - od / 8 * 8)]
  else if op = 29 ∨ op = 30 then [Int32.ofNat op, M.1 80 (od / 8).toNatClampNeg, allN M 63 10 (od / 8).toNatClampNeg - M.1 63 (od / 8).toNatClampNeg + (od - od / 8 * 8)]
  else if op = 26 ∨ op = 44 then [Int32.ofNat op, M.1 80 od.toNatClampNeg]
  else if op = 38 then [Int32.ofNat op, M.1 79 od.toNatClampNeg]
  else if ln0 op = 2 then [Int32.ofNat op, od]
  else [Int32.ofNat op]
def insL (M : MS) (m i : Nat) : List Int32 := if M.1 88 (60 * m + i) = 0 then [0] else opL M m (opN M m i) (odI M m i)
set_option maxRecDepth 20000 in
set_option maxHeartbeats 4000000 in
theorem opL_len (M : MS) (m op : Nat) (od : Int32) : (opL M m op od).length = ln op od := by
  unfold opL ln
  by_cases e1 : op = 1
  · rw [if_pos e1, if_pos e1]
    split <;> rfl
  rw [if_neg e1, if_neg e1]
  by_cases c1 : 19 ≤ op ∧ op ≤ 25
  · rw [if_pos c1]; unfold ln0; rw [if_neg (by omega), if_pos (by omega)]; rfl
  rw [if_neg c1]
  by_cases c2 : op = 27 ∨ op = 28
  · rw [if_pos c2]; unfold ln0; rw [if_neg (by omega), if_pos (by omega)]; rfl
  rw [if_neg c2]
  by_cases c3 : op = 29 ∨ op = 30
  · rw [if_pos c3]; unfold ln0; rw [if_neg (by omega), if_pos (by omega)]; rfl
  rw [if_neg c3]
  by_cases c4 : op = 26 ∨ op = 44
  · rw [if_pos c4]; unfold ln0; rw [if_pos (by omega)]; rfl
  rw [if_neg c4]
  by_cases c5 : op = 38
  · rw [if_pos c5]; unfold ln0; rw [if_pos (by omega)]; rfl
  rw [if_neg c5]
  by_cases c6 : ln0 op = 2
  · rw [if_pos c6, c6]; rfl
  · rw [if_neg c6]
    unfold ln0 at c6 ⊢
    by_cases d1 : op = 2 ∨ op = 3 ∨ op = 26 ∨ op = 38 ∨ op = 39 ∨ op = 44 ∨ (52 ≤ op ∧ op ≤ 55)
    · rw [if_pos d1] at c6; omega
    · rw [if_neg d1, if_neg (by omega)]; rfl
set_option maxRecDepth 20000 in
set_option maxHeartbeats 4000000 in
theorem insL_len (M : MS) (m i : Nat) : (insL M m i).length = lnF M m i := by
  unfold insL lnF
  split
  · rfl
  · exact opL_len M m _ _
set_option maxRecDepth 20000 in
set_option maxHeartbeats 4000000 in
theorem fieldX {Mr : MS} {kc rc : Nat} {X : XS} {T : Nat → Nat} (h : EX Mr kc rc X T) {c : Nat} {od : Int32} (hc : c < kc) (h0 : 0 ≤ od) (e : od / 8 = Int32.ofNat c) : f_Source_fieldKind od X = Int32.ofNat c ∧ f_Source_allInts (f_Source_above (Int32.ofNat c) X) X = allN Mr 62 10 c - Mr.1 62 c ∧ f_Source_allRefs (f_Source_above (Int32.ofNat c) X) X = allN Mr 63 10 c - Mr.1 63 c := by
  have hk10 := h.1.1.1
  have ik : f_Source_isKind (Int32.ofNat c) X = true := by rw [isKind_iff h.1.1.1 h.1.1.2.1]; exact ⟨c, hc, rfl⟩
  refine ⟨?_, ?_⟩
  · unfold f_Source_fieldKind
    rw [if_neg (Int32.not_lt.mpr h0), e, if_pos ik]
  · have ab : f_Source_above (Int32.ofNat c) X = Mr.1 61 c := by
      unfold f_Source_above
      rw [if_pos ik, o_cl c (by omega)]
      exact (h.1.1.2.2.2 c hc).1
    rw [ab]
    unfold allN
    have key : ∀ a b : Int32, a + b - a = b := fun a b => by rw [Int32.add_comm, Int32.add_sub_cancel]
    rw [key, key]
    rcases (h.1.1.2.2.2 c hc).2.2.2.1 with e | ⟨d, hd, e⟩
    · rw [e, if_pos rfl]
      exact ⟨rfl, rfl⟩
    · have q : ¬ (Int32.ofNat d = -1) := by rw [n1_eq d (by omega)]; simp
      have ikd : f_Source_isKind (Int32.ofNat d) X = true := by rw [isKind_iff h.1.1.1 h.1.1.2.1]; exact ⟨d, by omega, rfl⟩
      rw [e, if_neg q, o_cl d (by omega)]
      unfold f_Source_allInts f_Source_allRefs
      rw [if_pos ikd, if_pos ikd, o_cl d (by omega)]
      rw [if_neg q]
      exact all_X h.1.1 9 d (by omega) (by omega)
set_option maxRecDepth 20000 in
set_option maxHeartbeats 4000000 in
theorem writeIns_q {Mr : MS} {kc rc main : Nat} {X0 X : XS} {T0 T : Nat → Nat} {l : List Int32} {o hd nm sk : Nat → Int32} (hR : LkR Mr kc rc main) (h : QX Mr kc rc X0 T0 X T l o hd nm sk) {m i s : Nat} (hm : m < rc) (hr : fm Mr 75 m) (h70 : Mr.1 70 m = Int32.ofNat s) (hs : s ≤ 60) (hi : i < s) (hp : Pos Mr kc rc m (opN Mr m i) (odI Mr m i)) (ho : ∀ i, i ≤ 60 → o i = Int32.ofNat (off Mr m i)) (hl : l.length + 3 ≤ 5663) {β : Type} {k : XS → Option β} {R : β → Prop} (hk : ∀ X' T', QX Mr kc rc X0 T0 X' T' (l ++ opL Mr m (opN Mr m i) (odI Mr m i)) o hd nm sk → Wo (k X') R) : Wo ((f_Linker_writeInstruction_30 (Mr.1 71 (60 * m + i)) (Mr.1 72 (60 * m + i)) X).bind k) R := by
  have hk10 := h.1.1.1.1
  have hr24 := h.1.1.2.1
  obtain ⟨o56, eop⟩ := opB h.1.1 hm h70 hs hi
  have esz : sz Mr m = s := by unfold sz; rw [h70, o_cl s (by omega)]
  have eod : Mr.1 72 (60 * m + i) = odI Mr m i := rfl
  have aRm := (hR.2.2.2.2.1 m hm hr).1
  have aKm := (hR.2.2.2.2.1 m hm hr).2.2.2.1
  have hR' : ∀ r, gR Mr rc (Mr.1 71 (60 * m + i)) (Mr.1 72 (60 * m + i)) r → fm Mr 75 r := fun r q => aRm r ⟨i, by rw [esz]; exact hi, q⟩
  have hK' : ∀ c, gK kc (Mr.1 71 (60 * m + i)) (Mr.1 72 (60 * m + i)) c → fm Mr 77 c := fun c q => aKm c (Or.inl ⟨i, by rw [esz]; exact hi, q⟩)
  rw [eop, eod] at hR' hK'
  rw [eop, eod]
  generalize opN Mr m i = op at *
  generalize odI Mr m i = od at *
  have le : ∀ a n : Nat, (a ≤ op ∧ op ≤ n) = (Int32.ofNat a ≤ Int32.ofNat op ∧ Int32.ofNat op ≤ Int32.ofNat n) → True := fun _ _ _ => trivial
  unfold f_Linker_writeInstruction_30
  rw [W_bind]
  unfold opL at hk
  have c61 : f_Linker_writtenOp (Int32.ofNat op) od = 61 ↔ (op = 1 ∧ ¬ (-128 ≤ od ∧ od ≤ 127)) := by
    unfold f_Linker_writtenOp
    by_cases e1 : op = 1
    · subst e1
      rw [if_neg (by decide)]
      by_cases c : -128 ≤ od ∧ od ≤ 127
      · rw [if_pos c]
        constructor
        · intro q; exact absurd q (by decide)
        · intro q; exact absurd c q.2
      · rw [if_neg c]
        exact ⟨fun _ => ⟨rfl, c⟩, fun _ => rfl⟩
    · have e' : ¬ Int32.ofNat op = 1 := by simp (disch := omega) only [o_le, o_leL, o_leR, o_lt, o_ltL, o_ltR, o_eq, o_eqL, o_eqR, o_cl, o_add, o_addL, o_addR, o_mul, o_mulL, o_mulR, o_sub, o_subR, o_0le, o_lt0, o_ixo, n1_eq, n1_eq', n1_lt, n1_le, n1_ge, n1_gt, n2_eq, n2_eq', n2_lt, n2_le, n2_ge, n2_gt, ↓reduceIte, ite_self, Nat.reduceEqDiff, Nat.reduceAdd, Nat.reduceMul, Nat.reduceSub, Nat.reduceLT, Nat.reduceLeDiff, Nat.not_lt_zero, Nat.zero_le, if_true, if_false, ite_true, ite_false, true_and, and_true, false_and, and_false, true_implies, false_implies, implies_true, not_true_eq_false, not_false_eq_true, eq_self, true_or, or_true, false_or, or_false, and_self, reduceCtorEq, forall_const]; exact e1
      rw [if_pos e']
      simp (disch := omega) only [e1, o_le, o_leL, o_leR, o_lt, o_ltL, o_ltR, o_eq, o_eqL, o_eqR, o_cl, o_add, o_addL, o_addR, o_mul, o_mulL, o_mulR, o_sub, o_subR, o_0le, o_lt0, o_ixo, n1_eq, n1_eq', n1_lt, n1_le, n1_ge, n1_gt, n2_eq, n2_eq', n2_lt, n2_le, n2_ge, n2_gt, ↓reduceIte, ite_self, Nat.reduceEqDiff, Nat.reduceAdd, Nat.reduceMul, Nat.reduceSub, Nat.reduceLT, Nat.reduceLeDiff, Nat.not_lt_zero, Nat.zero_le, if_true, if_false, ite_true, ite_false, true_and, and_true, false_and, and_false, true_implies, false_implies, implies_true, not_true_eq_false, not_false_eq_true, eq_self, true_or, or_true, false_or, or_false, and_self, reduceCtorEq, forall_const]
      constructor
      · intro q; omega
      · intro q; cases q
  have wop : f_Linker_writtenOp (Int32.ofNat op) od = if op = 1 ∧ ¬ (-128 ≤ od ∧ od ≤ 127) then 61 else Int32.ofNat op := by
    by_cases q : op = 1 ∧ ¬ (-128 ≤ od ∧ od ≤ 127)
    · rw [if_pos q, c61.mpr q]
    · rw [if_neg q]
      unfold f_Linker_writtenOp
      by_cases e1 : op = 1
      · have c : -128 ≤ od ∧ od ≤ 127 := Classical.byContradiction fun c => q ⟨e1, c⟩
        rw [if_pos c]
        split <;> rfl
      · have e' : ¬ Int32.ofNat op = 1 := by simp (disch := omega) only [o_le, o_leL, o_leR, o_lt, o_ltL, o_ltR, o_eq, o_eqL, o_eqR, o_cl, o_add, o_addL, o_addR, o_mul, o_mulL, o_mulR, o_sub, o_subR, o_0le, o_lt0, o_ixo, n1_eq, n1_eq', n1_lt, n1_le, n1_ge, n1_gt, n2_eq, n2_eq', n2_lt, n2_le, n2_ge, n2_gt, ↓reduceIte, ite_self, Nat.reduceEqDiff, Nat.reduceAdd, Nat.reduceMul, Nat.reduceSub, Nat.reduceLT, Nat.reduceLeDiff, Nat.not_lt_zero, Nat.zero_le, if_true, if_false, ite_true, ite_false, true_and, and_true, false_and, and_false, true_implies, false_implies, implies_true, not_true_eq_false, not_false_eq_true, eq_self, true_or, or_true, false_or, or_false, and_self, reduceCtorEq, forall_const]; exact e1
        rw [if_pos e']
  refine put_q h (by omega) _ ?_
  intro X1 T1 q1
  rw [wop] at q1
  dsimp only
  have jm : (f_P_jumps (Int32.ofNat op) = true) ↔ (19 ≤ op ∧ op ≤ 25) := by
    unfold f_P_jumps
    simp (disch := omega) only [o_le, o_leL, o_leR, o_lt, o_ltL, o_ltR, o_eq, o_eqL, o_eqR, o_cl, o_add, o_addL, o_addR, o_mul, o_mulL, o_mulR, o_sub, o_subR, o_0le, o_lt0, o_ixo, n1_eq, n1_eq', n1_lt, n1_le, n1_ge, n1_gt, n2_eq, n2_eq', n2_lt, n2_le, n2_ge, n2_gt, ↓reduceIte, ite_self, Nat.reduceEqDiff, Nat.reduceAdd, Nat.reduceMul, Nat.reduceSub, Nat.reduceLT, Nat.reduceLeDiff, Nat.not_lt_zero, Nat.zero_le, if_true, if_false, ite_true, ite_false, true_and, and_true, false_and, and_false, true_implies, false_implies, implies_true, not_true_eq_false, not_false_eq_true, eq_self, true_or, or_true, false_or, or_false, and_self, reduceCtorEq, forall_const]
    by_cases c : 19 ≤ op ∧ op ≤ 25 <;> simp [c]
  have uf : (f_P_usesField (Int32.ofNat op) = true) ↔ (27 ≤ op ∧ op ≤ 30) := by
    unfold f_P_usesField
    simp (disch := omega) only [o_le, o_leL, o_leR, o_lt, o_ltL, o_ltR, o_eq, o_eqL, o_eqR, o_cl, o_add, o_addL, o_addR, o_mul, o_mulL, o_mulR, o_sub, o_subR, o_0le, o_lt0, o_ixo, n1_eq, n1_eq', n1_lt, n1_le, n1_ge, n1_gt, n2_eq, n2_eq', n2_lt, n2_le, n2_ge, n2_gt, ↓reduceIte, ite_self, Nat.reduceEqDiff, Nat.reduceAdd, Nat.reduceMul, Nat.reduceSub, Nat.reduceLT, Nat.reduceLeDiff, Nat.not_lt_zero, Nat.zero_le, if_true, if_false, ite_true, ite_false, true_and, and_true, false_and, and_false, true_implies, false_implies, implies_true, not_true_eq_false, not_false_eq_true, eq_self, true_or, or_true, false_or, or_false, and_self, reduceCtorEq, forall_const]
    by_cases c : 27 ≤ op ∧ op ≤ 30 <;> simp [c]
  by_cases e1 : op = 1
  · have n1 : ¬ f_P_jumps (Int32.ofNat op) = true := by rw [jm]; omega
    have n2 : ¬ f_P_usesField (Int32.ofNat op) = true := by rw [uf]; omega
    refine We n1 (We n2 ?_)
    rw [if_pos e1] at hk
    by_cases c : -128 ≤ od ∧ od ≤ 127
    · rw [if_neg (fun x => x.2 c)] at q1
      rw [if_pos c] at hk
      refine Wi (fun x => (c61.mp x).2 c) ?_
      subst e1
      refine We (by decide) (Wi (by decide) (Wi (by decide) (We (by decide) ?_)))
      refine put_q q1 (by simp only [List.length_append, List.length_cons, List.length_nil]; omega) _ ?_
      intro X2 T2 q2
      rw [W_some]
      rw [List.append_assoc] at q2
      exact hk X2 T2 q2
    · rw [if_pos ⟨e1, c⟩] at q1
      rw [if_neg c] at hk
      refine We (fun x => x (c61.mpr ⟨e1, c⟩)) ?_
      refine two_q q1 (by simp only [List.length_append, List.length_cons, List.length_nil]; omega) _ ?_
      intro X2 T2 q2
      rw [W_some]
      rw [List.append_assoc] at q2
      exact hk X2 T2 q2
  rw [if_neg (fun x => e1 x.1)] at q1
  rw [if_neg e1] at hk
  have l1 : (l ++ [Int32.ofNat op]).length = l.length + 1 := by rw [List.length_append]; rfl
  by_cases c1 : 19 ≤ op ∧ op ≤ 25
  · refine Wi (jm.mpr c1) ?_
    rw [if_pos c1] at hk
    obtain ⟨p1, p2⟩ := hp.2.2.1 c1
    rw [h70] at p2
    obtain ⟨j, hj, ej⟩ := (le1_iff (kc := s) (by omega) od).mp ⟨p1, p2⟩
    refine two_q q1 (by omega) _ ?_
    intro X2 T2 q2
    rw [W_some]
    rw [ej, offsetOf_q q1.2.2.1 (by omega), ho j (by omega), List.append_assoc] at q2
    rw [ej, o_cl j (by omega)] at hk
    exact hk X2 T2 q2
  refine We (fun x => c1 (jm.mp x)) ?_
  rw [if_neg c1] at hk
  by_cases c2 : 27 ≤ op ∧ op ≤ 30
  · refine Wi (uf.mpr c2) ?_
    have ex : ∃ c, c < kc ∧ 0 ≤ od ∧ od / 8 = Int32.ofNat c := by
      by_cases d : op = 27 ∨ op = 28
      · obtain ⟨c, a1, a2, a3, _⟩ := hp.2.2.2.2.1 d; exact ⟨c, a1, a2, a3⟩
      · obtain ⟨c, a1, a2, a3, _⟩ := hp.2.2.2.2.2.1 (by omega); exact ⟨c, a1, a2, a3⟩
    obtain ⟨c, a1, a2, a3⟩ := ex
    have hw : fm Mr 77 c := hK' c ⟨a1, Or.inr ⟨⟨by simp (disch := omega) only [o_le, o_leL, o_leR, o_lt, o_ltL, o_ltR, o_eq, o_eqL, o_eqR, o_cl, o_add, o_addL, o_addR, o_mul, o_mulL, o_mulR, o_sub, o_subR, o_0le, o_lt0, o_ixo, n1_eq, n1_eq', n1_lt, n1_le, n1_ge, n1_gt, n2_eq, n2_eq', n2_lt, n2_le, n2_ge, n2_gt, ↓reduceIte, ite_self, Nat.reduceEqDiff, Nat.reduceAdd, Nat.reduceMul, Nat.reduceSub, Nat.reduceLT, Nat.reduceLeDiff, Nat.not_lt_zero, Nat.zero_le, if_true, if_false, ite_true, ite_false, true_and, and_true, false_and, and_false, true_implies, false_implies, implies_true, not_true_eq_false, not_false_eq_true, eq_self, true_or, or_true, false_or, or_false, and_self, reduceCtorEq, forall_const]; exact c2.1, by simp (disch := omega) only [o_le, o_leL, o_leR, o_lt, o_ltL, o_ltR, o_eq, o_eqL, o_eqR, o_cl, o_add, o_addL, o_addR, o_mul, o_mulL, o_mulR, o_sub, o_subR, o_0le, o_lt0, o_ixo, n1_eq, n1_eq', n1_lt, n1_le, n1_ge, n1_gt, n2_eq, n2_eq', n2_lt, n2_le, n2_ge, n2_gt, ↓reduceIte, ite_self, Nat.reduceEqDiff, Nat.reduceAdd, Nat.reduceMul, Nat.reduceSub, Nat.reduceLT, Nat.reduceLeDiff, Nat.not_lt_zero, Nat.zero_le, if_true, if_false, ite_true, ite_false, true_and, and_true, false_and, and_false, true_implies, false_implies, implies_true, not_true_eq_false, not_false_eq_true, eq_self, true_or, or_true, false_or, or_false, and_self, reduceCtorEq, forall_const]; exact c2.2⟩, a2, a3⟩⟩
    refine put_q q1 (by omega) _ ?_
    intro X2 T2 q2
    rw [(fieldX q1.1 a1 a2 a3).1, nK_eq q1.1 (by omega) hw] at q2
    refine put_q q2 (by simp only [List.length_append, List.length_cons, List.length_nil]; omega) _ ?_
    intro X3 T3 q3
    rw [W_some]
    obtain ⟨g1, g2, g3⟩ := fieldX q2.1 a1 a2 a3
    unfold f_Source_fieldNumber at q3
    rw [g1, g2, g3, List.append_assoc, List.append_assoc] at q3
    rw [a3, o_cl c (by omega)] at hk
    rw [a3] at q3
    by_cases d : op = 27 ∨ op = 28
    · rw [if_pos d] at hk
      refine hk X3 T3 ?_
      rcases d with d | d
      · subst d; exact q3
      · subst d; exact q3
    · rw [if_neg d, if_pos (by omega)] at hk
      refine hk X3 T3 ?_
      have d' : op = 29 ∨ op = 30 := by omega
      rcases d' with d | d
      · subst d; exact q3
      · subst d; exact q3
  refine We (fun x => c2 (uf.mp x)) (Wi (fun x => e1 (c61.mp x).1) ?_)
  rw [if_neg (by omega), if_neg (by omega)] at hk
  by_cases c4 : op = 26 ∨ op = 44
  · rw [if_pos c4] at hk
    obtain ⟨c, a1, a2⟩ := hp.2.2.2.1 c4
    have hw : fm Mr 77 c := hK' c ⟨a1, Or.inl ⟨by rcases c4 with d | d <;> subst d <;> decide, a2⟩⟩
    rw [a2, o_cl c (by omega)] at hk
    have fin : ∀ X2 T2, QX Mr kc rc X0 T0 X2 T2 (l ++ [Int32.ofNat op] ++ [f_Reach_newKind od X1]) o hd nm sk → Wo (k X2) R := by
      intro X2 T2 q2
      rw [a2, nK_eq q1.1 (by omega) hw, List.append_assoc] at q2
      exact hk X2 T2 q2
    rcases c4 with d | d
    · subst d
      refine Wi (by decide) ?_
      refine put_q q1 (by omega) _ ?_
      intro X2 T2 q2
      rw [W_some]
      exact fin X2 T2 q2
    · subst d
      refine We (by decide) (We (by decide) ?_)
      refine put_q q1 (by omega) _ ?_
      intro X2 T2 q2
      rw [W_some]
      exact fin X2 T2 q2
  rw [if_neg c4] at hk
  refine We (by simp (disch := omega) only [o_le, o_leL, o_leR, o_lt, o_ltL, o_ltR, o_eq, o_eqL, o_eqR, o_cl, o_add, o_addL, o_addR, o_mul, o_mulL, o_mulR, o_sub, o_subR, o_0le, o_lt0, o_ixo, n1_eq, n1_eq', n1_lt, n1_le, n1_ge, n1_gt, n2_eq, n2_eq', n2_lt, n2_le, n2_ge, n2_gt, ↓reduceIte, ite_self, Nat.reduceEqDiff, Nat.reduceAdd, Nat.reduceMul, Nat.reduceSub, Nat.reduceLT, Nat.reduceLeDiff, Nat.not_lt_zero, Nat.zero_le, if_true, if_false, ite_true, ite_false, true_and, and_true, false_and, and_false, true_implies, false_implies, implies_true, not_true_eq_false, not_false_eq_true, eq_self, true_or, or_true, false_or, or_false, and_self, reduceCtorEq, forall_const]; omega) (Wi (by simp (disch := omega) only [o_le, o_leL, o_leR, o_lt, o_ltL, o_ltR, o_eq, o_eqL, o_eqR, o_cl, o_add, o_addL, o_addR, o_mul, o_mulL, o_mulR, o_sub, o_subR, o_0le, o_lt0, o_ixo, n1_eq, n1_eq', n1_lt, n1_le, n1_ge, n1_gt, n2_eq, n2_eq', n2_lt, n2_le, n2_ge, n2_gt, ↓reduceIte, ite_self, Nat.reduceEqDiff, Nat.reduceAdd, Nat.reduceMul, Nat.reduceSub, Nat.reduceLT, Nat.reduceLeDiff, Nat.not_lt_zero, Nat.zero_le, if_true, if_false, ite_true, ite_false, true_and, and_true, false_and, and_false, true_implies, false_implies, implies_true, not_true_eq_false, not_false_eq_true, eq_self, true_or, or_true, false_or, or_false, and_self, reduceCtorEq, forall_const]; omega) ?_)
  by_cases c5 : op = 38
  · rw [if_pos c5] at hk
    refine We (by simp (disch := omega) only [o_le, o_leL, o_leR, o_lt, o_ltL, o_ltR, o_eq, o_eqL, o_eqR, o_cl, o_add, o_addL, o_addR, o_mul, o_mulL, o_mulR, o_sub, o_subR, o_0le, o_lt0, o_ixo, n1_eq, n1_eq', n1_lt, n1_le, n1_ge, n1_gt, n2_eq, n2_eq', n2_lt, n2_le, n2_ge, n2_gt, ↓reduceIte, ite_self, Nat.reduceEqDiff, Nat.reduceAdd, Nat.reduceMul, Nat.reduceSub, Nat.reduceLT, Nat.reduceLeDiff, Nat.not_lt_zero, Nat.zero_le, if_true, if_false, ite_true, ite_false, true_and, and_true, false_and, and_false, true_implies, false_implies, implies_true, not_true_eq_false, not_false_eq_true, eq_self, true_or, or_true, false_or, or_false, and_self, reduceCtorEq, forall_const]; omega) ?_
    obtain ⟨r, a1, a2, a3⟩ := hp.2.2.2.2.2.2.1 c5
    have hw : fm Mr 75 r := hR' r ⟨by rw [c5]; rfl, a1, a2, a3⟩
    refine put_q q1 (by omega) _ ?_
    intro X2 T2 q2
    rw [W_some]
    rw [a2, nR_eq q1.1 (by omega) hw, List.append_assoc] at q2
    rw [a2, o_cl r (by omega)] at hk
    exact hk X2 T2 q2
  rw [if_neg c5] at hk
  refine Wi (by simp (disch := omega) only [o_le, o_leL, o_leR, o_lt, o_ltL, o_ltR, o_eq, o_eqL, o_eqR, o_cl, o_add, o_addL, o_addR, o_mul, o_mulL, o_mulR, o_sub, o_subR, o_0le, o_lt0, o_ixo, n1_eq, n1_eq', n1_lt, n1_le, n1_ge, n1_gt, n2_eq, n2_eq', n2_lt, n2_le, n2_ge, n2_gt, ↓reduceIte, ite_self, Nat.reduceEqDiff, Nat.reduceAdd, Nat.reduceMul, Nat.reduceSub, Nat.reduceLT, Nat.reduceLeDiff, Nat.not_lt_zero, Nat.zero_le, if_true, if_false, ite_true, ite_false, true_and, and_true, false_and, and_false, true_implies, false_implies, implies_true, not_true_eq_false, not_false_eq_true, eq_self, true_or, or_true, false_or, or_false, and_self, reduceCtorEq, forall_const]; exact c5) ?_
  have b2 : (f_P_bytesOf (Int32.ofNat op) = 2) ↔ ln0 op = 2 := by
    rw [bytesOf_eq op o56 e1]
    have : ln0 op < 100 := by unfold ln0; repeat' split
                              all_goals omega
    simp (disch := omega) only [o_le, o_leL, o_leR, o_lt, o_ltL, o_ltR, o_eq, o_eqL, o_eqR, o_cl, o_add, o_addL, o_addR, o_mul, o_mulL, o_mulR, o_sub, o_subR, o_0le, o_lt0, o_ixo, n1_eq, n1_eq', n1_lt, n1_le, n1_ge, n1_gt, n2_eq, n2_eq', n2_lt, n2_le, n2_ge, n2_gt, ↓reduceIte, ite_self, Nat.reduceEqDiff, Nat.reduceAdd, Nat.reduceMul, Nat.reduceSub, Nat.reduceLT, Nat.reduceLeDiff, Nat.not_lt_zero, Nat.zero_le, if_true, if_false, ite_true, ite_false, true_and, and_true, false_and, and_false, true_implies, false_implies, implies_true, not_true_eq_false, not_false_eq_true, eq_self, true_or, or_true, false_or, or_false, and_self, reduceCtorEq, forall_const]
  by_cases c6 : ln0 op = 2
  · rw [if_pos c6] at hk
    refine We (fun x => x (b2.mpr c6)) ?_
    refine put_q q1 (by omega) _ ?_
    intro X2 T2 q2
    rw [W_some]
    rw [List.append_assoc] at q2
    exact hk X2 T2 q2
  · rw [if_neg c6] at hk
    refine Wi (fun x => c6 (b2.mp x)) ?_
    rw [W_some]
    exact hk X1 T1 q1
