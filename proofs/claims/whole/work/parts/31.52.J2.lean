/-! J2 -/
theorem Wi {α : Type} {c : Prop} [Decidable c] {a b : Option α} {Q : α → Prop} (h : c) (w : Wo a Q) : Wo (if c then a else b) Q := by rw [if_pos h]; exact w
theorem We {α : Type} {c : Prop} [Decidable c] {a b : Option α} {Q : α → Prop} (h : ¬ c) (w : Wo b Q) : Wo (if c then a else b) Q := by rw [if_neg h]; exact w
theorem Wz {α β : Type} {o : Option α} {x : α} {f : α → Option β} {Q : β → Prop} (h : o = some x) (w : Wo (f x) Q) : Wo (ocz o none f) Q := by rw [h]; exact w
set_option maxRecDepth 20000 in
set_option maxHeartbeats 4000000 in
theorem rout_q {Mr : MS} {kc rc : Nat} {X0 X : XS} {T0 T : Nat → Nat} {l : List Int32} {o hd nm sk : Nat → Int32} (h : QX Mr kc rc X0 T0 X T l o hd nm sk) {m a : Nat} (hm : m < rc) (ha : X0.2.1 2 m = some a) : ∃ f, RSa X T m a f ∧ RSv X Mr kc m a f := by
  obtain ⟨h1, _, _, _, _, _, h8, h9⟩ := h
  have hb : 2 < xA X0 := by have := xA130 X0; omega
  have t2 : T0 2 = 1002 := by
    rw [← h8.2.1 2 hb]
    exact h1.2.1 2 (by omega) (by omega) (by omega) (by omega) (by omega) (by omega) (by omega)
  have e := (h9 2 hb (by rw [t2]; unfold WrT; omega)).2
  obtain ⟨a', f, ra, rv⟩ := h1.1.2.2.2.2.2 m hm
  have ea : a' = a := by
    have := ra.1
    rw [e, ha] at this
    exact (Option.some.inj this).symm
  subst ea
  exact ⟨f, ra, rv⟩
def tkn (M : MS) (m : Nat) : Int32 := if M.1 65 m = -2 then M.1 66 m else M.1 66 m + 1
def tcN (M : MS) (m : Nat) : Nat := (M.1 73 m).toNatClampNeg
def whL (M : MS) (w : Int32) : Int32 := if 0 ≤ w then M.1 80 w.toNatClampNeg else 256 + w
def trapL (M : MS) (m t : Nat) : List Int32 := w2 (Int32.ofNat (off M m (frM M m t))) ++ w2 (Int32.ofNat (off M m (ttM M m t))) ++ w2 (Int32.ofNat (off M m (hdM M m t))) ++ [whL M (M.1 74 (24 * m + 4 * t + 3))]
def headL (M : MS) (m a : Nat) : List Int32 := w2 (Int32.ofNat a) ++ w2 (Int32.ofNat (off M m (sz M m))) ++ [tkn M m, M.1 69 m, M.1 89 m, M.1 68 m, M.1 73 m] ++ cat (trapL M m) (tcN M m)
set_option maxRecDepth 20000 in
set_option maxHeartbeats 4000000 in
theorem headL_len (M : MS) (m a : Nat) : (headL M m a).length = 9 + 7 * tcN M m := by
  unfold headL
  rw [List.length_append, cat_len (trapL M m) 7 _ (fun i _ => rfl)]
  rfl
set_option maxRecDepth 20000 in
set_option maxHeartbeats 4000000 in
theorem taken_q {X : XS} {Mr : MS} {T : Nat → Nat} {kc m a : Nat} {f : Nat → Nat} (ra : RSa X T m a f) (rv : RSv X Mr kc m a f) : f_Routine_taken a X = some (tkn Mr m) := by
  unfold f_Routine_taken f_Routine_isStatic tkn
  by_cases cs : Mr.1 65 m = -2
  · simp (disch := omega) only [ra.2.1, rv.2.1, cs, rv.2.2.1, Option.bind_some, o_le, o_leL, o_leR, o_lt, o_ltL, o_ltR, o_eq, o_eqL, o_eqR, o_cl, o_add, o_addL, o_addR, o_mul, o_mulL, o_mulR, o_sub, o_subR, o_0le, o_lt0, o_ixo, n1_eq, n1_eq', n1_lt, n1_le, n1_ge, n1_gt, n2_eq, n2_eq', n2_lt, n2_le, n2_ge, n2_gt, ↓reduceIte, ite_self, Nat.reduceEqDiff, Nat.reduceAdd, Nat.reduceMul, Nat.reduceSub, Nat.reduceLT, Nat.reduceLeDiff, Nat.not_lt_zero, Nat.zero_le, if_true, if_false, ite_true, ite_false, true_and, and_true, false_and, and_false, true_implies, false_implies, implies_true, not_true_eq_false, not_false_eq_true, eq_self, true_or, or_true, false_or, or_false, and_self, reduceCtorEq, forall_const]
  · simp (disch := omega) only [ra.2.1, rv.2.1, cs, rv.2.2.1, Option.bind_some, Bool.false_eq_true, o_le, o_leL, o_leR, o_lt, o_ltL, o_ltR, o_eq, o_eqL, o_eqR, o_cl, o_add, o_addL, o_addR, o_mul, o_mulL, o_mulR, o_sub, o_subR, o_0le, o_lt0, o_ixo, n1_eq, n1_eq', n1_lt, n1_le, n1_ge, n1_gt, n2_eq, n2_eq', n2_lt, n2_le, n2_ge, n2_gt, ↓reduceIte, ite_self, Nat.reduceEqDiff, Nat.reduceAdd, Nat.reduceMul, Nat.reduceSub, Nat.reduceLT, Nat.reduceLeDiff, Nat.not_lt_zero, Nat.zero_le, if_true, if_false, ite_true, ite_false, true_and, and_true, false_and, and_false, true_implies, false_implies, implies_true, not_true_eq_false, not_false_eq_true, eq_self, true_or, or_true, false_or, or_false, and_self, reduceCtorEq, forall_const]
theorem offsetOf_q {X : XS} {o : Nat → Int32} (h : X.1 13 = o) {i : Nat} (hi : i ≤ 60) : f_Linker_offsetOf (Int32.ofNat i) X = o i := by
  unfold f_Linker_offsetOf
  simp (disch := omega) only [hi, h, o_le, o_leL, o_leR, o_lt, o_ltL, o_ltR, o_eq, o_eqL, o_eqR, o_cl, o_add, o_addL, o_addR, o_mul, o_mulL, o_mulR, o_sub, o_subR, o_0le, o_lt0, o_ixo, n1_eq, n1_eq', n1_lt, n1_le, n1_ge, n1_gt, n2_eq, n2_eq', n2_lt, n2_le, n2_ge, n2_gt, ↓reduceIte, ite_self, Nat.reduceEqDiff, Nat.reduceAdd, Nat.reduceMul, Nat.reduceSub, Nat.reduceLT, Nat.reduceLeDiff, Nat.not_lt_zero, Nat.zero_le, if_true, if_false, ite_true, ite_false, true_and, and_true, false_and, and_false, true_implies, false_implies, implies_true, not_true_eq_false, not_false_eq_true, eq_self, true_or, or_true, false_or, or_false, and_self, reduceCtorEq, forall_const]
set_option maxRecDepth 20000 in
set_option maxHeartbeats 4000000 in
theorem trapV {M : MS} {kc m s t : Nat} (hs : s ≤ 60) (h : TrV M kc m s t) : (M.1 74 (24 * m + 4 * t) = Int32.ofNat (frM M m t) ∧ frM M m t < s) ∧ (M.1 74 (24 * m + 4 * t + 1) = Int32.ofNat (ttM M m t) ∧ ttM M m t ≤ s) ∧ (M.1 74 (24 * m + 4 * t + 2) = Int32.ofNat (hdM M m t) ∧ hdM M m t < s) ∧ frM M m t < ttM M m t ∧ ((∃ c, c < kc ∧ M.1 74 (24 * m + 4 * t + 3) = Int32.ofNat c) ∨ (-10 ≤ M.1 74 (24 * m + 4 * t + 3) ∧ M.1 74 (24 * m + 4 * t + 3) ≤ -1)) := by
  obtain ⟨h1, h2, h3, h4, h5⟩ := h
  have g1 : 0 ≤ M.1 74 (24 * m + 4 * t) := Int32.not_lt.mp h1
  have g2 : M.1 74 (24 * m + 4 * t) < M.1 74 (24 * m + 4 * t + 1) := Int32.not_le.mp h2
  have g3 : M.1 74 (24 * m + 4 * t + 1) ≤ Int32.ofNat s := Int32.not_lt.mp h3
  obtain ⟨b, hb, eb⟩ := toNle (n := s) (by omega) (Int32.le_trans g1 (Int32.le_of_lt g2)) g3
  obtain ⟨d, hd, ed⟩ := (le1_iff (kc := s) (by omega) (M.1 74 (24 * m + 4 * t + 2))).mp h4
  have g4 : M.1 74 (24 * m + 4 * t) ≤ Int32.ofNat s := Int32.le_trans (Int32.le_of_lt g2) g3
  obtain ⟨a, ha, ea⟩ := toNle (n := s) (by omega) g1 g4
  have ab : a < b := by
    rw [ea, eb, o_lt a b (by omega) (by omega)] at g2
    exact g2
  unfold frM ttM hdM
  rw [ea, eb, ed, o_cl a (by omega), o_cl b (by omega), o_cl d (by omega)]
  exact ⟨⟨rfl, by omega⟩, ⟨rfl, hb⟩, ⟨rfl, hd⟩, ab, h5⟩
set_option maxRecDepth 20000 in
set_option maxHeartbeats 4000000 in
theorem trapsX {Mr : MS} {kc rc main : Nat} {X0 X : XS} {T0 T : Nat → Nat} {l : List Int32} {o hd nm sk : Nat → Int32} (hT : LkT Mr kc rc) (hR : LkR Mr kc rc main) (h : QX Mr kc rc X0 T0 X T l o hd nm sk) {m a : Nat} (hm : m < rc) (hr : fm Mr 75 m) (ha : X0.2.1 2 m = some a) (ho : ∀ i, i ≤ 60 → o i = Int32.ofNat (off Mr m i)) (hl : l.length + 42 ≤ 5663) {β : Type} {k : Int32 × XS → Option β} {R : β → Prop} (hk : ∀ z X' T', QX Mr kc rc X0 T0 X' T' (l ++ cat (trapL Mr m) (tcN Mr m)) o hd nm sk → Wo (k (z, X')) R) : Wo ((lp (b119_Linker_writeHead_30 a) 10000 ((0 : Int32), X)).bind k) R := by
  have hk10 := h.1.1.1.1
  have hr24 := h.1.1.2.1
  have m24 : m < 24 := by omega
  obtain ⟨s, tc, mm, s1, s2, s3, s4, s5, s6, s7, s8, s9⟩ := ty_facts hT m24 hr
  have etc : tcN Mr m = tc := by unfold tcN; rw [s5, o_cl tc (by omega)]
  rw [etc] at hk
  rw [W_bind]
  refine W_lp (fun p => ∃ n T', n ≤ tc ∧ p.1 = Int32.ofNat n ∧ QX Mr kc rc X0 T0 p.2 T' (l ++ cat (trapL Mr m) n) o hd nm sk) (fun p => 6 - p.1.toNatClampNeg) ?_ 10000 _ ⟨0, T, by omega, rfl, by show QX Mr kc rc X0 T0 X T (l ++ []) o hd nm sk; rw [List.append_nil]; exact h⟩ (by show 6 - 0 < 10000; omega)
  rintro ⟨p1, X1⟩ ⟨n, T1, hn, e1, q1⟩
  dsimp only at e1 q1
  subst e1
  obtain ⟨f1, ra1, rv1⟩ := rout_q q1 hm ha
  have x9 : X1.1 a 9 = Int32.ofNat tc := rv1.2.2.2.2.2.2.2.1.trans s5
  unfold b119_Linker_writeHead_30
  by_cases hl' : n < tc
  · have g1 : ¬ tc ≤ n := by omega
    have g2 : ¬ 6 ≤ n := by omega
    have g3 : n < 6 := by omega
    obtain ⟨⟨t1, t1'⟩, ⟨t2, t2'⟩, ⟨t3, t3'⟩, _, t5⟩ := trapV s1 (s9 n hl')
    have tv : ∀ {X : XS} {f : Nat → Nat}, RSv X Mr kc m a f → X.1 (f 10) n = Int32.ofNat (frM Mr m n) ∧ X.1 (f 11) n = Int32.ofNat (ttM Mr m n) ∧ X.1 (f 12) n = Int32.ofNat (hdM Mr m n) ∧ X.1 (f 13) n = Mr.1 74 (24 * m + 4 * n + 3) := by
      intro X f rv
      obtain ⟨_, _, _, _, _, _, _, _, _, _, _, _, _, _, _, ⟨tc', u1, u2, u3⟩⟩ := rv
      have : tc' = tc := by
        have := u2.symm.trans s5
        rw [o_eq _ _ (by omega) (by omega)] at this
        exact this
      subst this
      obtain ⟨w1, w2, w3, w4⟩ := u3 n hl'
      exact ⟨w1.trans t1, w2.trans t2, w3.trans t3, w4⟩
    have ll : ∀ L : List Int32, L.length ≤ 6 → (l ++ cat (trapL Mr m) n ++ L).length + 1 ≤ 5663 := by
      intro L hL
      simp only [List.length_append, cat_len (trapL Mr m) 7 n (fun i _ => rfl)]
      omega
    have r1 := ra1.2.2.2.2 10 (by omega) (by omega)
    have c3 : (Int32.ofNat n).toNatClampNeg = n := o_cl n (by omega)
    have g4 : ixo (Int32.ofNat n) 6 := by rw [o_ixo n 6 (by omega)]; exact g3
    dsimp only
    refine Wi ra1.2.1 (We (by rw [x9]; simp (disch := omega) only [o_le, o_leL, o_leR, o_lt, o_ltL, o_ltR, o_eq, o_eqL, o_eqR, o_cl, o_add, o_addL, o_addR, o_mul, o_mulL, o_mulR, o_sub, o_subR, o_0le, o_lt0, o_ixo, n1_eq, n1_eq', n1_lt, n1_le, n1_ge, n1_gt, n2_eq, n2_eq', n2_lt, n2_le, n2_ge, n2_gt, ↓reduceIte, ite_self, Nat.reduceEqDiff, Nat.reduceAdd, Nat.reduceMul, Nat.reduceSub, Nat.reduceLT, Nat.reduceLeDiff, Nat.not_lt_zero, Nat.zero_le, if_true, if_false, ite_true, ite_false, true_and, and_true, false_and, and_false, true_implies, false_implies, implies_true, not_true_eq_false, not_false_eq_true, eq_self, true_or, or_true, false_or, or_false, and_self, reduceCtorEq, forall_const]; exact g1) (We (by simp (disch := omega) only [o_le, o_leL, o_leR, o_lt, o_ltL, o_ltR, o_eq, o_eqL, o_eqR, o_cl, o_add, o_addL, o_addR, o_mul, o_mulL, o_mulR, o_sub, o_subR, o_0le, o_lt0, o_ixo, n1_eq, n1_eq', n1_lt, n1_le, n1_ge, n1_gt, n2_eq, n2_eq', n2_lt, n2_le, n2_ge, n2_gt, ↓reduceIte, ite_self, Nat.reduceEqDiff, Nat.reduceAdd, Nat.reduceMul, Nat.reduceSub, Nat.reduceLT, Nat.reduceLeDiff, Nat.not_lt_zero, Nat.zero_le, if_true, if_false, ite_true, ite_false, true_and, and_true, false_and, and_false, true_implies, false_implies, implies_true, not_true_eq_false, not_false_eq_true, eq_self, true_or, or_true, false_or, or_false, and_self, reduceCtorEq, forall_const]; exact g2) (Wz r1.1 (Wz (xL_iff.mpr r1.2.1) (Wi g4 ?_)))))
    refine two_q q1 (by have := ll [0] (by decide); simp only [List.length_append, List.length_singleton] at this ⊢; omega) _ ?_
    intro X2 T2 q2
    rw [c3, (tv rv1).1, offsetOf_q q1.2.2.1 (show frM Mr m n ≤ 60 by omega), ho _ (show frM Mr m n ≤ 60 by omega)] at q2
    obtain ⟨f2, ra2, rv2⟩ := rout_q q2 hm ha
    have r2 := ra2.2.2.2.2 11 (by omega) (by omega)
    refine Wi ra2.2.1 (Wz r2.1 (Wz (xL_iff.mpr r2.2.1) (Wi g4 ?_)))
    refine two_q q2 (by have := ll ([0, 0, 0]) (by decide); simp only [List.length_append, List.length_cons, List.length_nil, w2] at this ⊢; omega) _ ?_
    intro X3 T3 q3
    rw [c3, (tv rv2).2.1, offsetOf_q q2.2.2.1 (show ttM Mr m n ≤ 60 by omega), ho _ (show ttM Mr m n ≤ 60 by omega)] at q3
    obtain ⟨f3, ra3, rv3⟩ := rout_q q3 hm ha
    have r3 := ra3.2.2.2.2 12 (by omega) (by omega)
    refine Wi ra3.2.1 (Wz r3.1 (Wz (xL_iff.mpr r3.2.1) (Wi g4 ?_)))
    refine two_q q3 (by have := ll ([0, 0, 0, 0, 0]) (by decide); simp only [List.length_append, List.length_cons, List.length_nil, w2] at this ⊢; omega) _ ?_
    intro X4 T4 q4
    rw [c3, (tv rv3).2.2.1, offsetOf_q q3.2.2.1 (show hdM Mr m n ≤ 60 by omega), ho _ (show hdM Mr m n ≤ 60 by omega)] at q4
    obtain ⟨f4, ra4, rv4⟩ := rout_q q4 hm ha
    have r4 := ra4.2.2.2.2 13 (by omega) (by omega)
    have g5 := xL_iff.mpr r4.2.1
    have lb : (l ++ cat (trapL Mr m) n ++ w2 (Int32.ofNat (off Mr m (frM Mr m n))) ++ w2 (Int32.ofNat (off Mr m (ttM Mr m n))) ++ w2 (Int32.ofNat (off Mr m (hdM Mr m n)))).length < 5663 := by
      have := ll ([0, 0, 0, 0, 0, 0]) (by decide); simp only [List.length_append, List.length_cons, List.length_nil, w2] at this ⊢; omega
    have fin : ∀ X5 T5, QX Mr kc rc X0 T0 X5 T5 (l ++ cat (trapL Mr m) n ++ w2 (Int32.ofNat (off Mr m (frM Mr m n))) ++ w2 (Int32.ofNat (off Mr m (ttM Mr m n))) ++ w2 (Int32.ofNat (off Mr m (hdM Mr m n))) ++ [whL Mr (Mr.1 74 (24 * m + 4 * n + 3))]) o hd nm sk → ∃ k T', k ≤ tc ∧ Int32.ofNat (n + 1) = Int32.ofNat k ∧ QX Mr kc rc X0 T0 X5 T' (l ++ cat (trapL Mr m) k) o hd nm sk := by
      intro X5 T5 q5
      refine ⟨n + 1, T5, by omega, rfl, ?_⟩
      show QX Mr kc rc X0 T0 X5 T5 (l ++ (cat (trapL Mr m) n ++ trapL Mr m n)) o hd nm sk
      unfold trapL
      unfold trapL at q5
      simp only [List.append_assoc] at q5 ⊢
      exact q5
    rcases t5 with ⟨c, hc, ec⟩ | ⟨c1, c2⟩
    · have hw : fm Mr 77 c := (hR.2.2.2.2.1 m hm hr).2.2.2.1 c (Or.inr ⟨n, by rw [s5, o_cl tc (by omega)]; exact hl', hc, ec⟩)
      have ew : whL Mr (Mr.1 74 (24 * m + 4 * n + 3)) = Mr.1 80 c := by
        unfold whL
        rw [ec]
        simp (disch := omega) only [o_le, o_leL, o_leR, o_lt, o_ltL, o_ltR, o_eq, o_eqL, o_eqR, o_cl, o_add, o_addL, o_addR, o_mul, o_mulL, o_mulR, o_sub, o_subR, o_0le, o_lt0, o_ixo, n1_eq, n1_eq', n1_lt, n1_le, n1_ge, n1_gt, n2_eq, n2_eq', n2_lt, n2_le, n2_ge, n2_gt, ↓reduceIte, ite_self, Nat.reduceEqDiff, Nat.reduceAdd, Nat.reduceMul, Nat.reduceSub, Nat.reduceLT, Nat.reduceLeDiff, Nat.not_lt_zero, Nat.zero_le, if_true, if_false, ite_true, ite_false, true_and, and_true, false_and, and_false, true_implies, false_implies, implies_true, not_true_eq_false, not_false_eq_true, eq_self, true_or, or_true, false_or, or_false, and_self, reduceCtorEq, forall_const]
      rw [ew] at fin
      refine Wi ra4.2.1 (Wz r4.1 (Wz g5 (Wi g4 (Wi (by rw [c3, (tv rv4).2.2.2, ec]; simp (disch := omega) only [o_le, o_leL, o_leR, o_lt, o_ltL, o_ltR, o_eq, o_eqL, o_eqR, o_cl, o_add, o_addL, o_addR, o_mul, o_mulL, o_mulR, o_sub, o_subR, o_0le, o_lt0, o_ixo, n1_eq, n1_eq', n1_lt, n1_le, n1_ge, n1_gt, n2_eq, n2_eq', n2_lt, n2_le, n2_ge, n2_gt, ↓reduceIte, ite_self, Nat.reduceEqDiff, Nat.reduceAdd, Nat.reduceMul, Nat.reduceSub, Nat.reduceLT, Nat.reduceLeDiff, Nat.not_lt_zero, Nat.zero_le, if_true, if_false, ite_true, ite_false, true_and, and_true, false_and, and_false, true_implies, false_implies, implies_true, not_true_eq_false, not_false_eq_true, eq_self, true_or, or_true, false_or, or_false, and_self, reduceCtorEq, forall_const]) (Wz r4.1 (Wz g5 (Wi g4 ?_)))))))
      refine put_q q4 lb _ ?_
      intro X5 T5 q5
      rw [c3, (tv rv4).2.2.2, ec, nK_eq q4.1 (show c < 10 by omega) hw] at q5
      rw [W_some]
      simp only [o_addR]
      exact ⟨fin X5 T5 q5, by (try simp (disch := omega) only [o_le, o_leL, o_leR, o_lt, o_ltL, o_ltR, o_eq, o_eqL, o_eqR, o_cl, o_add, o_addL, o_addR, o_mul, o_mulL, o_mulR, o_sub, o_subR, o_0le, o_lt0, o_ixo, n1_eq, n1_eq', n1_lt, n1_le, n1_ge, n1_gt, n2_eq, n2_eq', n2_lt, n2_le, n2_ge, n2_gt, ↓reduceIte, ite_self, Nat.reduceEqDiff, Nat.reduceAdd, Nat.reduceMul, Nat.reduceSub, Nat.reduceLT, Nat.reduceLeDiff, Nat.not_lt_zero, Nat.zero_le, if_true, if_false, ite_true, ite_false, true_and, and_true, false_and, and_false, true_implies, false_implies, implies_true, not_true_eq_false, not_false_eq_true, eq_self, true_or, or_true, false_or, or_false, and_self, reduceCtorEq, forall_const]); omega⟩
    · have nn : ¬ 0 ≤ Mr.1 74 (24 * m + 4 * n + 3) := by
        intro q
        have := Int32.le_trans q c2
        exact absurd this (by decide)
      have ew : whL Mr (Mr.1 74 (24 * m + 4 * n + 3)) = 256 + Mr.1 74 (24 * m + 4 * n + 3) := by
        unfold whL
        rw [if_neg nn]
      rw [ew] at fin
      refine Wi ra4.2.1 (Wz r4.1 (Wz g5 (Wi g4 (We (by rw [c3, (tv rv4).2.2.2]; exact nn) (Wz r4.1 (Wz g5 (Wi g4 ?_)))))))
      refine put_q q4 lb _ ?_
      intro X5 T5 q5
      rw [c3, (tv rv4).2.2.2] at q5
      rw [W_some]
      simp only [o_addR]
      exact ⟨fin X5 T5 q5, by (try simp (disch := omega) only [o_le, o_leL, o_leR, o_lt, o_ltL, o_ltR, o_eq, o_eqL, o_eqR, o_cl, o_add, o_addL, o_addR, o_mul, o_mulL, o_mulR, o_sub, o_subR, o_0le, o_lt0, o_ixo, n1_eq, n1_eq', n1_lt, n1_le, n1_ge, n1_gt, n2_eq, n2_eq', n2_lt, n2_le, n2_ge, n2_gt, ↓reduceIte, ite_self, Nat.reduceEqDiff, Nat.reduceAdd, Nat.reduceMul, Nat.reduceSub, Nat.reduceLT, Nat.reduceLeDiff, Nat.not_lt_zero, Nat.zero_le, if_true, if_false, ite_true, ite_false, true_and, and_true, false_and, and_false, true_implies, false_implies, implies_true, not_true_eq_false, not_false_eq_true, eq_self, true_or, or_true, false_or, or_false, and_self, reduceCtorEq, forall_const]); omega⟩
  · have en : n = tc := by omega
    subst en
    dsimp only
    refine Wi ra1.2.1 (Wi (by rw [x9]; exact Int32.le_refl _) ?_)
    rw [W_some]
    exact hk _ X1 T1 q1
