/-! K6 -/
/-- the six cells of a thread of the class -/
def SC (X : XS) (a va mk ro pl hs : Nat) : Prop := (xT X a = some (14, 0)) ∧ (X.2.1 a 5 = some va) ∧ (X.2.1 a 6 = some mk) ∧ (X.2.1 a 9 = some ro) ∧ (X.2.1 a 10 = some pl) ∧ (X.2.1 a 11 = some hs) ∧ (xL X 0 va = some 440) ∧ (xL X 0 mk = some 440) ∧ (xL X 0 ro = some 20) ∧ (xL X 0 pl = some 20) ∧ (xL X 0 hs = some 20) ∧ (a ≠ va ∧ a ≠ mk ∧ a ≠ ro ∧ a ≠ pl ∧ a ≠ hs) ∧ (va ≠ mk ∧ va ≠ ro ∧ va ≠ pl ∧ va ≠ hs) ∧ (mk ≠ ro ∧ mk ≠ pl ∧ mk ≠ hs) ∧ (ro ≠ pl ∧ ro ≠ hs ∧ pl ≠ hs)
theorem SC.x {X : XS} {a va mk ro pl hs : Nat} (h0 : SC X a va mk ro pl hs) : xT X a = some (14, 0) := h0.1
theorem SC.r5 {X : XS} {a va mk ro pl hs : Nat} (h0 : SC X a va mk ro pl hs) : X.2.1 a 5 = some va := h0.2.1
theorem SC.r6 {X : XS} {a va mk ro pl hs : Nat} (h0 : SC X a va mk ro pl hs) : X.2.1 a 6 = some mk := h0.2.2.1
theorem SC.r9 {X : XS} {a va mk ro pl hs : Nat} (h0 : SC X a va mk ro pl hs) : X.2.1 a 9 = some ro := h0.2.2.2.1
theorem SC.r10 {X : XS} {a va mk ro pl hs : Nat} (h0 : SC X a va mk ro pl hs) : X.2.1 a 10 = some pl := h0.2.2.2.2.1
theorem SC.r11 {X : XS} {a va mk ro pl hs : Nat} (h0 : SC X a va mk ro pl hs) : X.2.1 a 11 = some hs := h0.2.2.2.2.2.1
theorem SC.l5 {X : XS} {a va mk ro pl hs : Nat} (h0 : SC X a va mk ro pl hs) : xL X 0 va = some 440 := h0.2.2.2.2.2.2.1
theorem SC.l6 {X : XS} {a va mk ro pl hs : Nat} (h0 : SC X a va mk ro pl hs) : xL X 0 mk = some 440 := h0.2.2.2.2.2.2.2.1
theorem SC.l9 {X : XS} {a va mk ro pl hs : Nat} (h0 : SC X a va mk ro pl hs) : xL X 0 ro = some 20 := h0.2.2.2.2.2.2.2.2.1
theorem SC.l10 {X : XS} {a va mk ro pl hs : Nat} (h0 : SC X a va mk ro pl hs) : xL X 0 pl = some 20 := h0.2.2.2.2.2.2.2.2.2.1
theorem SC.l11 {X : XS} {a va mk ro pl hs : Nat} (h0 : SC X a va mk ro pl hs) : xL X 0 hs = some 20 := h0.2.2.2.2.2.2.2.2.2.2.1
theorem SC.n1 {X : XS} {a va mk ro pl hs : Nat} (h0 : SC X a va mk ro pl hs) : a ≠ va ∧ a ≠ mk ∧ a ≠ ro ∧ a ≠ pl ∧ a ≠ hs := h0.2.2.2.2.2.2.2.2.2.2.2.1
theorem SC.n2 {X : XS} {a va mk ro pl hs : Nat} (h0 : SC X a va mk ro pl hs) : va ≠ mk ∧ va ≠ ro ∧ va ≠ pl ∧ va ≠ hs := h0.2.2.2.2.2.2.2.2.2.2.2.2.1
theorem SC.n3 {X : XS} {a va mk ro pl hs : Nat} (h0 : SC X a va mk ro pl hs) : mk ≠ ro ∧ mk ≠ pl ∧ mk ≠ hs := h0.2.2.2.2.2.2.2.2.2.2.2.2.2.1
theorem SC.n4 {X : XS} {a va mk ro pl hs : Nat} (h0 : SC X a va mk ro pl hs) : ro ≠ pl ∧ ro ≠ hs ∧ pl ≠ hs := h0.2.2.2.2.2.2.2.2.2.2.2.2.2.2
set_option maxRecDepth 20000 in
set_option maxHeartbeats 4000000 in
theorem SC.of2 {X X' : XS} {a va mk ro pl hs : Nat} (s : SC X a va mk ro pl hs) (e : X'.2 = X.2) : SC X' a va mk ro pl hs := by
  have eT : ∀ b, xT X' b = xT X b := fun b => by unfold xT hT; rw [e]
  have eL : ∀ t b, xL X' t b = xL X t b := fun t b => by unfold xL; rw [eT]
  obtain ⟨s1, s2, s3, s4, s5, s6, s7, s8, s9, s10, s11, s12, s13, s14, s15⟩ := s
  refine ⟨?_, ?_, ?_, ?_, ?_, ?_, ?_, ?_, ?_, ?_, ?_, ?_, ?_, ?_, ?_⟩ <;> first | (rw [eT]; assumption) | (rw [e]; assumption) | (rw [eL]; assumption) | assumption
set_option maxRecDepth 20000 in
set_option maxHeartbeats 4000000 in
theorem slotUnder_eq {X : XS} {a bo h k : Nat} (hx : xT X a = some (14, 0)) (e7 : X.1 a 7 = Int32.ofNat bo) (e8 : X.1 a 8 = Int32.ofNat h) (hk : k < h) (hb : bo + h ≤ 440) : f_Strand_slotUnder a (Int32.ofNat k) X = some (Int32.ofNat (bo + h - 1 - k)) := by
  have q1 : ¬ h ≤ k := by omega
  have q2 : ¬ 440 ≤ bo + h - 1 - k := by omega
  unfold f_Strand_slotUnder
  rw [if_pos hx, e7, e8]
  simp (disch := omega) only [q1, q2, o_le, o_leL, o_leR, o_lt, o_ltL, o_ltR, o_eq, o_eqL, o_eqR, o_cl, o_add, o_addL, o_addR, o_mul, o_mulL, o_mulR, o_sub, o_subR, o_0le, o_lt0, o_ixo, n1_eq, n1_eq', n1_lt, n1_le, n1_ge, n1_gt, n2_eq, n2_eq', n2_lt, n2_le, n2_ge, n2_gt, ↓reduceIte, ite_self, Nat.reduceEqDiff, Nat.reduceAdd, Nat.reduceMul, Nat.reduceSub, Nat.reduceLT, Nat.reduceLeDiff, Nat.not_lt_zero, Nat.zero_le, if_true, if_false, ite_true, ite_false, true_and, and_true, false_and, and_false, true_implies, false_implies, implies_true, not_true_eq_false, not_false_eq_true, eq_self, true_or, or_true, false_or, or_false, and_self, reduceCtorEq, forall_const]
set_option maxRecDepth 20000 in
set_option maxHeartbeats 4000000 in
theorem pop_eq {X : XS} {a va mk ro pl hs bo h : Nat} (s : SC X a va mk ro pl hs) (e7 : X.1 a 7 = Int32.ofNat bo) (e8 : X.1 a 8 = Int32.ofNat (h + 1)) (hb : bo + h < 440) : f_Strand_pop a X = some (X.1 va (bo + h), xw (xw X a 8 (Int32.ofNat h)) mk (bo + h) 0) := by
  have q0 : f_Strand_slotUnder a 0 X = some (Int32.ofNat (bo + (h + 1) - 1 - 0)) := slotUnder_eq (k := 0) s.x e7 e8 (by omega) (by omega)
  rw [show bo + (h + 1) - 1 - 0 = bo + h by omega] at q0
  unfold f_Strand_pop
  rw [if_pos s.x, q0]
  have i1 : xL (xw X a 8 (Int32.ofNat h)) 0 mk = some 440 := s.l6
  have i2 : xL (xw (xw X a 8 (Int32.ofNat h)) mk (bo + h) 0) 0 va = some 440 := s.l5
  have r6 : (xw X a 8 (Int32.ofNat h)).2.1 a 6 = some mk := s.r6
  have r5 : (xw (xw X a 8 (Int32.ofNat h)) mk (bo + h) 0).2.1 a 5 = some va := s.r5
  have d1 : ¬ va = mk := s.n2.1
  have d2 : ¬ va = a := fun q => s.n1.1 q.symm
  simp (disch := omega) only [Option.bind_some, lt, e8, ocz, hb, Nat.add_sub_cancel, o_le, o_leL, o_leR, o_lt, o_ltL, o_ltR, o_eq, o_eqL, o_eqR, o_cl, o_add, o_addL, o_addR, o_mul, o_mulL, o_mulR, o_sub, o_subR, o_0le, o_lt0, o_ixo, n1_eq, n1_eq', n1_lt, n1_le, n1_ge, n1_gt, n2_eq, n2_eq', n2_lt, n2_le, n2_ge, n2_gt, ↓reduceIte, ite_self, Nat.reduceEqDiff, Nat.reduceAdd, Nat.reduceMul, Nat.reduceSub, Nat.reduceLT, Nat.reduceLeDiff, Nat.not_lt_zero, Nat.zero_le, if_true, if_false, ite_true, ite_false, true_and, and_true, false_and, and_false, true_implies, false_implies, implies_true, not_true_eq_false, not_false_eq_true, eq_self, true_or, or_true, false_or, or_false, and_self, reduceCtorEq, forall_const]
  rw [r6]
  dsimp only
  rw [i1]
  dsimp only
  simp (disch := omega) only [hb, o_le, o_leL, o_leR, o_lt, o_ltL, o_ltR, o_eq, o_eqL, o_eqR, o_cl, o_add, o_addL, o_addR, o_mul, o_mulL, o_mulR, o_sub, o_subR, o_0le, o_lt0, o_ixo, n1_eq, n1_eq', n1_lt, n1_le, n1_ge, n1_gt, n2_eq, n2_eq', n2_lt, n2_le, n2_ge, n2_gt, ↓reduceIte, ite_self, Nat.reduceEqDiff, Nat.reduceAdd, Nat.reduceMul, Nat.reduceSub, Nat.reduceLT, Nat.reduceLeDiff, Nat.not_lt_zero, Nat.zero_le, if_true, if_false, ite_true, ite_false, true_and, and_true, false_and, and_false, true_implies, false_implies, implies_true, not_true_eq_false, not_false_eq_true, eq_self, true_or, or_true, false_or, or_false, and_self, reduceCtorEq, forall_const]
  rw [r5]
  dsimp only
  rw [i2]
  dsimp only
  simp (disch := omega) only [hb, o_le, o_leL, o_leR, o_lt, o_ltL, o_ltR, o_eq, o_eqL, o_eqR, o_cl, o_add, o_addL, o_addR, o_mul, o_mulL, o_mulR, o_sub, o_subR, o_0le, o_lt0, o_ixo, n1_eq, n1_eq', n1_lt, n1_le, n1_ge, n1_gt, n2_eq, n2_eq', n2_lt, n2_le, n2_ge, n2_gt, ↓reduceIte, ite_self, Nat.reduceEqDiff, Nat.reduceAdd, Nat.reduceMul, Nat.reduceSub, Nat.reduceLT, Nat.reduceLeDiff, Nat.not_lt_zero, Nat.zero_le, if_true, if_false, ite_true, ite_false, true_and, and_true, false_and, and_false, true_implies, false_implies, implies_true, not_true_eq_false, not_false_eq_true, eq_self, true_or, or_true, false_or, or_false, and_self, reduceCtorEq, forall_const]
  rw [xw1, if_neg (fun q => d1 q.1), xw1, if_neg (fun q => d2 q.1)]
set_option maxRecDepth 20000 in
set_option maxHeartbeats 4000000 in
theorem push_eq {X : XS} {a va mk ro pl hs bo h : Nat} (s : SC X a va mk ro pl hs) (e7 : X.1 a 7 = Int32.ofNat bo) (e8 : X.1 a 8 = Int32.ofNat h) (hh : h < 10) (hb : bo + h < 440) (y z : Int32) : f_Strand_pushMarked a y z X = some (xw (xw (xw X va (bo + h) y) mk (bo + h) z) a 8 (Int32.ofNat (h + 1))) := by
  have q1 : ¬ 10 ≤ h := by omega
  have q2 : ¬ 440 ≤ bo + h := by omega
  unfold f_Strand_pushMarked
  rw [if_pos s.x, e7, e8]
  have i2 : xL (xw X va (bo + h) y) 0 mk = some 440 := s.l6
  have r6 : (xw X va (bo + h) y).2.1 a 6 = some mk := s.r6
  simp (disch := omega) only [q1, q2, ocz, s.r5, s.l5, hb, lt, o_le, o_leL, o_leR, o_lt, o_ltL, o_ltR, o_eq, o_eqL, o_eqR, o_cl, o_add, o_addL, o_addR, o_mul, o_mulL, o_mulR, o_sub, o_subR, o_0le, o_lt0, o_ixo, n1_eq, n1_eq', n1_lt, n1_le, n1_ge, n1_gt, n2_eq, n2_eq', n2_lt, n2_le, n2_ge, n2_gt, ↓reduceIte, ite_self, Nat.reduceEqDiff, Nat.reduceAdd, Nat.reduceMul, Nat.reduceSub, Nat.reduceLT, Nat.reduceLeDiff, Nat.not_lt_zero, Nat.zero_le, if_true, if_false, ite_true, ite_false, true_and, and_true, false_and, and_false, true_implies, false_implies, implies_true, not_true_eq_false, not_false_eq_true, eq_self, true_or, or_true, false_or, or_false, and_self, reduceCtorEq, forall_const]
  rw [r6]
  dsimp only
  rw [i2]
  dsimp only
  simp (disch := omega) only [hb, o_le, o_leL, o_leR, o_lt, o_ltL, o_ltR, o_eq, o_eqL, o_eqR, o_cl, o_add, o_addL, o_addR, o_mul, o_mulL, o_mulR, o_sub, o_subR, o_0le, o_lt0, o_ixo, n1_eq, n1_eq', n1_lt, n1_le, n1_ge, n1_gt, n2_eq, n2_eq', n2_lt, n2_le, n2_ge, n2_gt, ↓reduceIte, ite_self, Nat.reduceEqDiff, Nat.reduceAdd, Nat.reduceMul, Nat.reduceSub, Nat.reduceLT, Nat.reduceLeDiff, Nat.not_lt_zero, Nat.zero_le, if_true, if_false, ite_true, ite_false, true_and, and_true, false_and, and_false, true_implies, false_implies, implies_true, not_true_eq_false, not_false_eq_true, eq_self, true_or, or_true, false_or, or_false, and_self, reduceCtorEq, forall_const]
  rw [xw1, if_neg (fun q => s.n1.2.1 q.1), xw1, if_neg (fun q => s.n1.1 q.1), e8, o_addR]
set_option maxRecDepth 20000 in
set_option maxHeartbeats 4000000 in
theorem pushi_eq {X : XS} {a va mk ro pl hs bo h : Nat} (s : SC X a va mk ro pl hs) (e7 : X.1 a 7 = Int32.ofNat bo) (e8 : X.1 a 8 = Int32.ofNat h) (hh : h < 10) (hb : bo + h < 440) (y : Int32) : f_Strand_push a y X = some (xw (xw (xw X va (bo + h) y) mk (bo + h) 0) a 8 (Int32.ofNat (h + 1))) := by
  unfold f_Strand_push
  rw [if_pos s.x, push_eq s e7 e8 hh hb]
  rfl
set_option maxRecDepth 20000 in
set_option maxHeartbeats 4000000 in
theorem pushr_eq {X : XS} {a va mk ro pl hs bo h : Nat} (s : SC X a va mk ro pl hs) (e7 : X.1 a 7 = Int32.ofNat bo) (e8 : X.1 a 8 = Int32.ofNat h) (hh : h < 10) (hb : bo + h < 440) (y : Int32) : f_Strand_pushRef a y X = some (xw (xw (xw X va (bo + h) y) mk (bo + h) 1) a 8 (Int32.ofNat (h + 1))) := by
  unfold f_Strand_pushRef
  rw [if_pos s.x, push_eq s e7 e8 hh hb]
  rfl
set_option maxRecDepth 20000 in
set_option maxHeartbeats 4000000 in
theorem peek_eq {X : XS} {a va mk ro pl hs bo h k : Nat} (s : SC X a va mk ro pl hs) (e7 : X.1 a 7 = Int32.ofNat bo) (e8 : X.1 a 8 = Int32.ofNat h) (hk : k < h) (hb : bo + h ≤ 440) : f_Strand_peek a (Int32.ofNat k) X = some (X.1 va (bo + h - 1 - k)) := by
  have q0 := slotUnder_eq (k := k) s.x e7 e8 hk hb
  have q1 : bo + h - 1 - k < 440 := by omega
  unfold f_Strand_peek
  rw [if_pos s.x, q0]
  simp (disch := omega) only [Option.bind_some, ocz, s.r5, s.l5, q1, o_le, o_leL, o_leR, o_lt, o_ltL, o_ltR, o_eq, o_eqL, o_eqR, o_cl, o_add, o_addL, o_addR, o_mul, o_mulL, o_mulR, o_sub, o_subR, o_0le, o_lt0, o_ixo, n1_eq, n1_eq', n1_lt, n1_le, n1_ge, n1_gt, n2_eq, n2_eq', n2_lt, n2_le, n2_ge, n2_gt, ↓reduceIte, ite_self, Nat.reduceEqDiff, Nat.reduceAdd, Nat.reduceMul, Nat.reduceSub, Nat.reduceLT, Nat.reduceLeDiff, Nat.not_lt_zero, Nat.zero_le, if_true, if_false, ite_true, ite_false, true_and, and_true, false_and, and_false, true_implies, false_implies, implies_true, not_true_eq_false, not_false_eq_true, eq_self, true_or, or_true, false_or, or_false, and_self, reduceCtorEq, forall_const]
set_option maxRecDepth 20000 in
set_option maxHeartbeats 4000000 in
theorem slotL_eq {X : XS} {a fb l : Nat} (hx : xT X a = some (14, 0)) (e7 : X.1 a 7 = Int32.ofNat (fb + 12)) (hl : l < 12) (hb : fb + 22 ≤ 440) : f_Strand_slotOfLocal a (Int32.ofNat l) X = some (Int32.ofNat (fb + l)) := by
  have q1 : ¬ 12 ≤ l := by omega
  have q2 : ¬ 440 ≤ fb + l := by omega
  unfold f_Strand_slotOfLocal
  rw [if_pos hx, e7]
  simp (disch := omega) only [q1, Nat.add_sub_cancel, q2, o_le, o_leL, o_leR, o_lt, o_ltL, o_ltR, o_eq, o_eqL, o_eqR, o_cl, o_add, o_addL, o_addR, o_mul, o_mulL, o_mulR, o_sub, o_subR, o_0le, o_lt0, o_ixo, n1_eq, n1_eq', n1_lt, n1_le, n1_ge, n1_gt, n2_eq, n2_eq', n2_lt, n2_le, n2_ge, n2_gt, ↓reduceIte, ite_self, Nat.reduceEqDiff, Nat.reduceAdd, Nat.reduceMul, Nat.reduceSub, Nat.reduceLT, Nat.reduceLeDiff, Nat.not_lt_zero, Nat.zero_le, if_true, if_false, ite_true, ite_false, true_and, and_true, false_and, and_false, true_implies, false_implies, implies_true, not_true_eq_false, not_false_eq_true, eq_self, true_or, or_true, false_or, or_false, and_self, reduceCtorEq, forall_const]
set_option maxRecDepth 20000 in
set_option maxHeartbeats 4000000 in
theorem load_eq {X : XS} {a va mk ro pl hs fb h l : Nat} (s : SC X a va mk ro pl hs) (e7 : X.1 a 7 = Int32.ofNat (fb + 12)) (e8 : X.1 a 8 = Int32.ofNat h) (hh : h < 10) (hb : fb + 22 ≤ 440) (hl : l < 12) : f_Strand_load a (Int32.ofNat l) X = some (xw (xw (xw X va (fb + 12 + h) (X.1 va (fb + l))) mk (fb + 12 + h) (X.1 mk (fb + l))) a 8 (Int32.ofNat (h + 1))) := by
  have q0 := slotL_eq s.x e7 hl hb
  have q1 : fb + l < 440 := by omega
  unfold f_Strand_load
  rw [if_pos s.x, q0]
  simp (disch := omega) only [Option.bind_some, ocz, s.r5, s.l5, s.r6, s.l6, q1, o_le, o_leL, o_leR, o_lt, o_ltL, o_ltR, o_eq, o_eqL, o_eqR, o_cl, o_add, o_addL, o_addR, o_mul, o_mulL, o_mulR, o_sub, o_subR, o_0le, o_lt0, o_ixo, n1_eq, n1_eq', n1_lt, n1_le, n1_ge, n1_gt, n2_eq, n2_eq', n2_lt, n2_le, n2_ge, n2_gt, ↓reduceIte, ite_self, Nat.reduceEqDiff, Nat.reduceAdd, Nat.reduceMul, Nat.reduceSub, Nat.reduceLT, Nat.reduceLeDiff, Nat.not_lt_zero, Nat.zero_le, if_true, if_false, ite_true, ite_false, true_and, and_true, false_and, and_false, true_implies, false_implies, implies_true, not_true_eq_false, not_false_eq_true, eq_self, true_or, or_true, false_or, or_false, and_self, reduceCtorEq, forall_const]
  rw [push_eq s e7 e8 hh (by omega)]
  rfl
set_option maxRecDepth 20000 in
set_option maxHeartbeats 4000000 in
theorem copyTop_eq {X : XS} {a va mk ro pl hs bo h : Nat} (s : SC X a va mk ro pl hs) (e7 : X.1 a 7 = Int32.ofNat bo) (e8 : X.1 a 8 = Int32.ofNat (h + 1)) (hh : h + 1 < 10) (hb : bo + 10 ≤ 440) : f_Strand_copyTop a X = some (xw (xw (xw X va (bo + (h + 1)) (X.1 va (bo + h))) mk (bo + (h + 1)) (X.1 mk (bo + h))) a 8 (Int32.ofNat (h + 2))) := by
  have q0 : f_Strand_slotUnder a 0 X = some (Int32.ofNat (bo + (h + 1) - 1 - 0)) := slotUnder_eq (k := 0) s.x e7 e8 (by omega) (by omega)
  rw [show bo + (h + 1) - 1 - 0 = bo + h by omega] at q0
  have q1 : bo + h < 440 := by omega
  unfold f_Strand_copyTop
  rw [if_pos s.x, q0]
  simp (disch := omega) only [Option.bind_some, ocz, s.r5, s.l5, s.r6, s.l6, q1, o_le, o_leL, o_leR, o_lt, o_ltL, o_ltR, o_eq, o_eqL, o_eqR, o_cl, o_add, o_addL, o_addR, o_mul, o_mulL, o_mulR, o_sub, o_subR, o_0le, o_lt0, o_ixo, n1_eq, n1_eq', n1_lt, n1_le, n1_ge, n1_gt, n2_eq, n2_eq', n2_lt, n2_le, n2_ge, n2_gt, ↓reduceIte, ite_self, Nat.reduceEqDiff, Nat.reduceAdd, Nat.reduceMul, Nat.reduceSub, Nat.reduceLT, Nat.reduceLeDiff, Nat.not_lt_zero, Nat.zero_le, if_true, if_false, ite_true, ite_false, true_and, and_true, false_and, and_false, true_implies, false_implies, implies_true, not_true_eq_false, not_false_eq_true, eq_self, true_or, or_true, false_or, or_false, and_self, reduceCtorEq, forall_const]
  rw [push_eq s e7 e8 hh (by omega)]
  rfl
