/-! G9 -/
def S00 : FS := (fun _ => false, fun _ => false, fun _ => 0, fun _ _ => 0, fun _ _ => 0, 0)
/-- the kinds of the locals at a method's beginning -/
def lin (M : MS) (m tk k : Nat) : Int32 := if k < tk then kdX M m k else 0
def S01 (l : Nat → Int32) : FS := (updB (fun _ => false) 0 true, updB (fun _ => false) 0 true, updN (fun _ => 0) 0 0, updN (fun _ _ => 0) 0 (fun _ => 0), updN (fun _ _ => 0) 0 l, 0)
theorem come00 (l : Nat → Int32) : come S00 0 (fun _ => 0) 0 l = some (S01 l) := rfl
set_option maxRecDepth 20000 in
set_option maxHeartbeats 4000000 in
theorem tk_of {X : XS} {M : MS} {T : Nat → Nat} {kc rc m : Nat} (h : RSc X M T kc rc) (hm : m < rc) : ∃ n, n ≤ 4 ∧ M.1 66 m = Int32.ofNat n := by
  obtain ⟨a, f, ra, rv⟩ := h.2.2.2.2.2 m hm
  have v11 := rv.2.2.2.2.2.2.2.2.2.1
  exact toNle (n := 4) (by omega) v11.1 v11.2
set_option maxRecDepth 20000 in
set_option maxHeartbeats 4000000 in
theorem beginX {X : XS} {M : MS} {T : Nat → Nat} {kc rc m a n tk : Nat} (h : RSc X M T kc rc) (ht : TG T) (hm : m < rc) (hp : X.2.1 2 m = some a) (hn : n ≤ 4) (en : M.1 66 m = Int32.ofNat n) (etk : tk = if M.1 65 m = -2 then n else n + 1) : ∃ X', f_Flow_begin a X = some X' ∧ Only Fal X X' ∧ X'.1 22 10 = -1 ∧ FX X' (S01 (lin M m tk)) := by
  have tk5 : tk ≤ 5 := by rw [etk]; split <;> omega
  have w1 : Wo (lp b2_Flow_begin 10000 ((0 : Int32), X)) (fun p => Only Fal X p.2 ∧ ∀ i, i < 60 → p.2.1 23 i = 0 ∧ p.2.1 24 i = 0) := by
    refine W_lp (fun p => ∃ k, k ≤ 60 ∧ p.1 = Int32.ofNat k ∧ Only Fal X p.2 ∧ ∀ i, i < k → p.2.1 23 i = 0 ∧ p.2.1 24 i = 0) (fun p => 60 - p.1.toNatClampNeg) ?_ 10000 _ ⟨0, by omega, rfl, Only.refl X, fun c hc => absurd hc (Nat.not_lt_zero c)⟩ (by show 60 - 0 < 10000; omega)
    intro p ⟨k, hk, ep, ho, hf⟩
    refine Wo.cps (fun Q hQ => ?_)
    unfold b2_Flow_begin
    by_cases hl : k < 60
    · have q1 : ¬ 60 ≤ k := by omega
      simp (disch := omega) only [W_some, W_none, W_bind, W_ite, W_ocz, W_lt, ep, q1, hl, o_le, o_leL, o_leR, o_lt, o_ltL, o_ltR, o_eq, o_eqL, o_eqR, o_cl, o_add, o_addL, o_addR, o_mul, o_mulL, o_mulR, o_sub, o_subR, o_0le, o_lt0, o_ixo, n1_eq, n1_eq', n1_lt, n1_le, n1_ge, n1_gt, n2_eq, n2_eq', n2_lt, n2_le, n2_ge, n2_gt, ↓reduceIte, ite_self, Nat.reduceEqDiff, Nat.reduceAdd, Nat.reduceMul, Nat.reduceSub, Nat.reduceLT, Nat.reduceLeDiff, Nat.not_lt_zero, Nat.zero_le, if_true, if_false, ite_true, ite_false, true_and, and_true, false_and, and_false, true_implies, false_implies, implies_true, not_true_eq_false, not_false_eq_true, eq_self, true_or, or_true, false_or, or_false, and_self, reduceCtorEq, forall_const]
      refine hQ _ ⟨⟨k + 1, by omega, rfl, (ho.xw (by unfold Fal; omega) _ _).xw (by unfold Fal; omega) _ _, ?_⟩, by simp (disch := omega) only [ep, o_le, o_leL, o_leR, o_lt, o_ltL, o_ltR, o_eq, o_eqL, o_eqR, o_cl, o_add, o_addL, o_addR, o_mul, o_mulL, o_mulR, o_sub, o_subR, o_0le, o_lt0, o_ixo, n1_eq, n1_eq', n1_lt, n1_le, n1_ge, n1_gt, n2_eq, n2_eq', n2_lt, n2_le, n2_ge, n2_gt, ↓reduceIte, ite_self, Nat.reduceEqDiff, Nat.reduceAdd, Nat.reduceMul, Nat.reduceSub, Nat.reduceLT, Nat.reduceLeDiff, Nat.not_lt_zero, Nat.zero_le, if_true, if_false, ite_true, ite_false, true_and, and_true, false_and, and_false, true_implies, false_implies, implies_true, not_true_eq_false, not_false_eq_true, eq_self, true_or, or_true, false_or, or_false, and_self, reduceCtorEq, forall_const]; omega⟩
      intro c hc
      by_cases e : c = k
      · subst e
        simp (disch := omega) only [xTw, xLw, xAw, xTp, xLp, xAp, xTc, xLc, xAc, xAn, xTn, xLn, xw1, xw2, xp1, xp2, xp3, mw1, mw2, xn1, xn2, xc1, xc2, o_le, o_leL, o_leR, o_lt, o_ltL, o_ltR, o_eq, o_eqL, o_eqR, o_cl, o_add, o_addL, o_addR, o_mul, o_mulL, o_mulR, o_sub, o_subR, o_0le, o_lt0, o_ixo, n1_eq, n1_eq', n1_lt, n1_le, n1_ge, n1_gt, n2_eq, n2_eq', n2_lt, n2_le, n2_ge, n2_gt, ↓reduceIte, ite_self, Nat.reduceEqDiff, Nat.reduceAdd, Nat.reduceMul, Nat.reduceSub, Nat.reduceLT, Nat.reduceLeDiff, Nat.not_lt_zero, Nat.zero_le, if_true, if_false, ite_true, ite_false, true_and, and_true, false_and, and_false, true_implies, false_implies, implies_true, not_true_eq_false, not_false_eq_true, eq_self, true_or, or_true, false_or, or_false, and_self, reduceCtorEq, forall_const]
      · simp (disch := omega) only [xTw, xLw, xAw, xTp, xLp, xAp, xTc, xLc, xAc, xAn, xTn, xLn, xw1, xw2, xp1, xp2, xp3, mw1, mw2, xn1, xn2, xc1, xc2, e, o_le, o_leL, o_leR, o_lt, o_ltL, o_ltR, o_eq, o_eqL, o_eqR, o_cl, o_add, o_addL, o_addR, o_mul, o_mulL, o_mulR, o_sub, o_subR, o_0le, o_lt0, o_ixo, n1_eq, n1_eq', n1_lt, n1_le, n1_ge, n1_gt, n2_eq, n2_eq', n2_lt, n2_le, n2_ge, n2_gt, ↓reduceIte, ite_self, Nat.reduceEqDiff, Nat.reduceAdd, Nat.reduceMul, Nat.reduceSub, Nat.reduceLT, Nat.reduceLeDiff, Nat.not_lt_zero, Nat.zero_le, if_true, if_false, ite_true, ite_false, true_and, and_true, false_and, and_false, true_implies, false_implies, implies_true, not_true_eq_false, not_false_eq_true, eq_self, true_or, or_true, false_or, or_false, and_self, reduceCtorEq, forall_const]
        exact hf c (by omega)
    · have ek : k = 60 := by omega
      subst ek
      simp (disch := omega) only [W_some, W_none, W_bind, W_ite, W_ocz, W_lt, ep, Nat.le_refl, o_le, o_leL, o_leR, o_lt, o_ltL, o_ltR, o_eq, o_eqL, o_eqR, o_cl, o_add, o_addL, o_addR, o_mul, o_mulL, o_mulR, o_sub, o_subR, o_0le, o_lt0, o_ixo, n1_eq, n1_eq', n1_lt, n1_le, n1_ge, n1_gt, n2_eq, n2_eq', n2_lt, n2_le, n2_ge, n2_gt, ↓reduceIte, ite_self, Nat.reduceEqDiff, Nat.reduceAdd, Nat.reduceMul, Nat.reduceSub, Nat.reduceLT, Nat.reduceLeDiff, Nat.not_lt_zero, Nat.zero_le, if_true, if_false, ite_true, ite_false, true_and, and_true, false_and, and_false, true_implies, false_implies, implies_true, not_true_eq_false, not_false_eq_true, eq_self, true_or, or_true, false_or, or_false, and_self, reduceCtorEq, forall_const]
      exact hQ _ ⟨ho, hf⟩
  obtain ⟨p, ep, po, pf⟩ := w1
  generalize hX1 : xw (xw (xw p.2 22 0 0) 22 10 (-1)) 22 9 0 = X1
  have o1 : Only Fal X X1 := by
    rw [← hX1]
    exact ((po.xw (by unfold Fal; omega) _ _).xw (by unfold Fal; omega) _ _).xw (by unfold Fal; omega) _ _
  have a22 : X1.1 22 0 = 0 ∧ X1.1 22 10 = -1 ∧ X1.1 22 9 = 0 := by
    rw [← hX1]
    simp only [xw1]
    simp
  have a23 : ∀ i, i < 60 → X1.1 23 i = 0 ∧ X1.1 24 i = 0 := by
    intro i hi
    rw [← hX1]
    simp (disch := omega) only [xTw, xLw, xAw, xTp, xLp, xAp, xTc, xLc, xAc, xAn, xTn, xLn, xw1, xw2, xp1, xp2, xp3, mw1, mw2, xn1, xn2, xc1, xc2, o_le, o_leL, o_leR, o_lt, o_ltL, o_ltR, o_eq, o_eqL, o_eqR, o_cl, o_add, o_addL, o_addR, o_mul, o_mulL, o_mulR, o_sub, o_subR, o_0le, o_lt0, o_ixo, n1_eq, n1_eq', n1_lt, n1_le, n1_ge, n1_gt, n2_eq, n2_eq', n2_lt, n2_le, n2_ge, n2_gt, ↓reduceIte, ite_self, Nat.reduceEqDiff, Nat.reduceAdd, Nat.reduceMul, Nat.reduceSub, Nat.reduceLT, Nat.reduceLeDiff, Nat.not_lt_zero, Nat.zero_le, if_true, if_false, ite_true, ite_false, true_and, and_true, false_and, and_false, true_implies, false_implies, implies_true, not_true_eq_false, not_false_eq_true, eq_self, true_or, or_true, false_or, or_false, and_self, reduceCtorEq, forall_const]
    exact pf i hi
  have w2 : Wo (lp (b5_Arrays_fill_292 0) 10000 ((0 : Int32), X1)) (fun q => Only Fal X q.2 ∧ (∀ b, b ≠ 29 → q.2.1 b = X1.1 b) ∧ ∀ k, k < 12 → q.2.1 29 k = 0) := by
    refine W_lp (fun q => ∃ k, k ≤ 12 ∧ q.1 = Int32.ofNat k ∧ Only Fal X q.2 ∧ (∀ b, b ≠ 29 → q.2.1 b = X1.1 b) ∧ ∀ j, j < k → q.2.1 29 j = 0) (fun q => 12 - q.1.toNatClampNeg) ?_ 10000 _ ⟨0, by omega, rfl, o1, fun _ _ => rfl, fun c hc => absurd hc (Nat.not_lt_zero c)⟩ (by show 12 - 0 < 10000; omega)
    intro q ⟨k, hk, eq, ho, hb, hf⟩
    refine Wo.cps (fun Q hQ => ?_)
    unfold b5_Arrays_fill_292
    by_cases hl : k < 12
    · have q1 : ¬ 12 ≤ k := by omega
      simp (disch := omega) only [W_some, W_none, W_bind, W_ite, W_ocz, W_lt, eq, q1, hl, o_le, o_leL, o_leR, o_lt, o_ltL, o_ltR, o_eq, o_eqL, o_eqR, o_cl, o_add, o_addL, o_addR, o_mul, o_mulL, o_mulR, o_sub, o_subR, o_0le, o_lt0, o_ixo, n1_eq, n1_eq', n1_lt, n1_le, n1_ge, n1_gt, n2_eq, n2_eq', n2_lt, n2_le, n2_ge, n2_gt, ↓reduceIte, ite_self, Nat.reduceEqDiff, Nat.reduceAdd, Nat.reduceMul, Nat.reduceSub, Nat.reduceLT, Nat.reduceLeDiff, Nat.not_lt_zero, Nat.zero_le, if_true, if_false, ite_true, ite_false, true_and, and_true, false_and, and_false, true_implies, false_implies, implies_true, not_true_eq_false, not_false_eq_true, eq_self, true_or, or_true, false_or, or_false, and_self, reduceCtorEq, forall_const]
      refine hQ _ ⟨⟨k + 1, by omega, rfl, ho.xw (by unfold Fal; omega) _ _, fun b hb' => (by rw [xw_ne _ _ _ _ hb']; exact hb b hb'), ?_⟩, by simp (disch := omega) only [eq, o_le, o_leL, o_leR, o_lt, o_ltL, o_ltR, o_eq, o_eqL, o_eqR, o_cl, o_add, o_addL, o_addR, o_mul, o_mulL, o_mulR, o_sub, o_subR, o_0le, o_lt0, o_ixo, n1_eq, n1_eq', n1_lt, n1_le, n1_ge, n1_gt, n2_eq, n2_eq', n2_lt, n2_le, n2_ge, n2_gt, ↓reduceIte, ite_self, Nat.reduceEqDiff, Nat.reduceAdd, Nat.reduceMul, Nat.reduceSub, Nat.reduceLT, Nat.reduceLeDiff, Nat.not_lt_zero, Nat.zero_le, if_true, if_false, ite_true, ite_false, true_and, and_true, false_and, and_false, true_implies, false_implies, implies_true, not_true_eq_false, not_false_eq_true, eq_self, true_or, or_true, false_or, or_false, and_self, reduceCtorEq, forall_const]; omega⟩
      intro c hc
      by_cases e : c = k
      · subst e
        simp (disch := omega) only [xTw, xLw, xAw, xTp, xLp, xAp, xTc, xLc, xAc, xAn, xTn, xLn, xw1, xw2, xp1, xp2, xp3, mw1, mw2, xn1, xn2, xc1, xc2, o_le, o_leL, o_leR, o_lt, o_ltL, o_ltR, o_eq, o_eqL, o_eqR, o_cl, o_add, o_addL, o_addR, o_mul, o_mulL, o_mulR, o_sub, o_subR, o_0le, o_lt0, o_ixo, n1_eq, n1_eq', n1_lt, n1_le, n1_ge, n1_gt, n2_eq, n2_eq', n2_lt, n2_le, n2_ge, n2_gt, ↓reduceIte, ite_self, Nat.reduceEqDiff, Nat.reduceAdd, Nat.reduceMul, Nat.reduceSub, Nat.reduceLT, Nat.reduceLeDiff, Nat.not_lt_zero, Nat.zero_le, if_true, if_false, ite_true, ite_false, true_and, and_true, false_and, and_false, true_implies, false_implies, implies_true, not_true_eq_false, not_false_eq_true, eq_self, true_or, or_true, false_or, or_false, and_self, reduceCtorEq, forall_const]
      · simp (disch := omega) only [xTw, xLw, xAw, xTp, xLp, xAp, xTc, xLc, xAc, xAn, xTn, xLn, xw1, xw2, xp1, xp2, xp3, mw1, mw2, xn1, xn2, xc1, xc2, e, o_le, o_leL, o_leR, o_lt, o_ltL, o_ltR, o_eq, o_eqL, o_eqR, o_cl, o_add, o_addL, o_addR, o_mul, o_mulL, o_mulR, o_sub, o_subR, o_0le, o_lt0, o_ixo, n1_eq, n1_eq', n1_lt, n1_le, n1_ge, n1_gt, n2_eq, n2_eq', n2_lt, n2_le, n2_ge, n2_gt, ↓reduceIte, ite_self, Nat.reduceEqDiff, Nat.reduceAdd, Nat.reduceMul, Nat.reduceSub, Nat.reduceLT, Nat.reduceLeDiff, Nat.not_lt_zero, Nat.zero_le, if_true, if_false, ite_true, ite_false, true_and, and_true, false_and, and_false, true_implies, false_implies, implies_true, not_true_eq_false, not_false_eq_true, eq_self, true_or, or_true, false_or, or_false, and_self, reduceCtorEq, forall_const]
        exact hf c (by omega)
    · have ek : k = 12 := by omega
      subst ek
      simp (disch := omega) only [W_some, W_none, W_bind, W_ite, W_ocz, W_lt, eq, Nat.le_refl, o_le, o_leL, o_leR, o_lt, o_ltL, o_ltR, o_eq, o_eqL, o_eqR, o_cl, o_add, o_addL, o_addR, o_mul, o_mulL, o_mulR, o_sub, o_subR, o_0le, o_lt0, o_ixo, n1_eq, n1_eq', n1_lt, n1_le, n1_ge, n1_gt, n2_eq, n2_eq', n2_lt, n2_le, n2_ge, n2_gt, ↓reduceIte, ite_self, Nat.reduceEqDiff, Nat.reduceAdd, Nat.reduceMul, Nat.reduceSub, Nat.reduceLT, Nat.reduceLeDiff, Nat.not_lt_zero, Nat.zero_le, if_true, if_false, ite_true, ite_false, true_and, and_true, false_and, and_false, true_implies, false_implies, implies_true, not_true_eq_false, not_false_eq_true, eq_self, true_or, or_true, false_or, or_false, and_self, reduceCtorEq, forall_const]
      exact hQ _ ⟨ho, hb, hf⟩
  obtain ⟨q, eq, qo, qb, qf⟩ := w2
  have w3 : Wo (lp (b53_Flow_begin a) 10000 ((0 : Int32), q.2)) (fun r => Only Fal X r.2 ∧ (∀ b, b ≠ 29 → r.2.1 b = X1.1 b) ∧ ∀ k, k < 12 → r.2.1 29 k = lin M m tk k) := by
    refine W_lp (fun r => ∃ k, k ≤ tk ∧ r.1 = Int32.ofNat k ∧ Only Fal X r.2 ∧ (∀ b, b ≠ 29 → r.2.1 b = X1.1 b) ∧ ∀ j, j < 12 → r.2.1 29 j = if j < k then kdX M m j else 0) (fun r => tk - r.1.toNatClampNeg) ?_ 10000 _ ⟨0, by omega, rfl, qo, qb, fun c hc => by rw [if_neg (by omega)]; exact qf c hc⟩ (by show tk - 0 < 10000; omega)
    intro r ⟨k, hk, er, ho, hb, hf⟩
    refine Wo.cps (fun Q hQ => ?_)
    have hc := Only.rsc h ht ho (by unfold Fal; omega)
    obtain ⟨a', f, ra, rv⟩ := hc.2.2.2.2.2 m hm
    have ea : a' = a := by have := ra.1; rw [ho.1, hp] at this; exact (Option.some.inj this).symm
    subst ea
    have v2 := rv.2.1
    have v3 := rv.2.2.1
    have v4 := rv.2.2.2.1
    have tke : f_Routine_taken a' r.2 = some (Int32.ofNat tk) := by
      unfold f_Routine_taken f_Routine_isStatic
      rw [etk]
      by_cases cs : M.1 65 m = -2
      · simp (disch := omega) only [ra.2.1, v2, cs, v3, en, Option.bind_some, o_le, o_leL, o_leR, o_lt, o_ltL, o_ltR, o_eq, o_eqL, o_eqR, o_cl, o_add, o_addL, o_addR, o_mul, o_mulL, o_mulR, o_sub, o_subR, o_0le, o_lt0, o_ixo, n1_eq, n1_eq', n1_lt, n1_le, n1_ge, n1_gt, n2_eq, n2_eq', n2_lt, n2_le, n2_ge, n2_gt, ↓reduceIte, ite_self, Nat.reduceEqDiff, Nat.reduceAdd, Nat.reduceMul, Nat.reduceSub, Nat.reduceLT, Nat.reduceLeDiff, Nat.not_lt_zero, Nat.zero_le, if_true, if_false, ite_true, ite_false, true_and, and_true, false_and, and_false, true_implies, false_implies, implies_true, not_true_eq_false, not_false_eq_true, eq_self, true_or, or_true, false_or, or_false, and_self, reduceCtorEq, forall_const]
      · simp (disch := omega) only [ra.2.1, v2, cs, v3, en, Option.bind_some, o_le, o_leL, o_leR, o_lt, o_ltL, o_ltR, o_eq, o_eqL, o_eqR, o_cl, o_add, o_addL, o_addR, o_mul, o_mulL, o_mulR, o_sub, o_subR, o_0le, o_lt0, o_ixo, n1_eq, n1_eq', n1_lt, n1_le, n1_ge, n1_gt, n2_eq, n2_eq', n2_lt, n2_le, n2_ge, n2_gt, ↓reduceIte, ite_self, Nat.reduceEqDiff, Nat.reduceAdd, Nat.reduceMul, Nat.reduceSub, Nat.reduceLT, Nat.reduceLeDiff, Nat.not_lt_zero, Nat.zero_le, if_true, if_false, ite_true, ite_false, true_and, and_true, false_and, and_false, true_implies, false_implies, implies_true, not_true_eq_false, not_false_eq_true, eq_self, true_or, or_true, false_or, or_false, and_self, reduceCtorEq, forall_const]
    have kde : f_Routine_takenKind a' (Int32.ofNat k) r.2 = some (kdX M m k) := by
      unfold f_Routine_takenKind f_Routine_isStatic kdX argK
      by_cases cs : M.1 65 m = -2
      · by_cases c1 : ((M.1 67 m : Int32) >>> ((Int32.ofNat k : Int32) &&& 31)) &&& 1 = 1
        · simp (disch := omega) only [ra.2.1, v2, cs, v4, c1, Option.bind_some, o_le, o_leL, o_leR, o_lt, o_ltL, o_ltR, o_eq, o_eqL, o_eqR, o_cl, o_add, o_addL, o_addR, o_mul, o_mulL, o_mulR, o_sub, o_subR, o_0le, o_lt0, o_ixo, n1_eq, n1_eq', n1_lt, n1_le, n1_ge, n1_gt, n2_eq, n2_eq', n2_lt, n2_le, n2_ge, n2_gt, ↓reduceIte, ite_self, Nat.reduceEqDiff, Nat.reduceAdd, Nat.reduceMul, Nat.reduceSub, Nat.reduceLT, Nat.reduceLeDiff, Nat.not_lt_zero, Nat.zero_le, if_true, if_false, ite_true, ite_false, true_and, and_true, false_and, and_false, true_implies, false_implies, implies_true, not_true_eq_false, not_false_eq_true, eq_self, true_or, or_true, false_or, or_false, and_self, reduceCtorEq, forall_const]
        · simp (disch := omega) only [ra.2.1, v2, cs, v4, c1, Option.bind_some, o_le, o_leL, o_leR, o_lt, o_ltL, o_ltR, o_eq, o_eqL, o_eqR, o_cl, o_add, o_addL, o_addR, o_mul, o_mulL, o_mulR, o_sub, o_subR, o_0le, o_lt0, o_ixo, n1_eq, n1_eq', n1_lt, n1_le, n1_ge, n1_gt, n2_eq, n2_eq', n2_lt, n2_le, n2_ge, n2_gt, ↓reduceIte, ite_self, Nat.reduceEqDiff, Nat.reduceAdd, Nat.reduceMul, Nat.reduceSub, Nat.reduceLT, Nat.reduceLeDiff, Nat.not_lt_zero, Nat.zero_le, if_true, if_false, ite_true, ite_false, true_and, and_true, false_and, and_false, true_implies, false_implies, implies_true, not_true_eq_false, not_false_eq_true, eq_self, true_or, or_true, false_or, or_false, and_self, reduceCtorEq, forall_const]
      · by_cases j0 : k = 0
        · subst j0
          simp (disch := omega) only [ra.2.1, v2, cs, Option.bind_some, o_le, o_leL, o_leR, o_lt, o_ltL, o_ltR, o_eq, o_eqL, o_eqR, o_cl, o_add, o_addL, o_addR, o_mul, o_mulL, o_mulR, o_sub, o_subR, o_0le, o_lt0, o_ixo, n1_eq, n1_eq', n1_lt, n1_le, n1_ge, n1_gt, n2_eq, n2_eq', n2_lt, n2_le, n2_ge, n2_gt, ↓reduceIte, ite_self, Nat.reduceEqDiff, Nat.reduceAdd, Nat.reduceMul, Nat.reduceSub, Nat.reduceLT, Nat.reduceLeDiff, Nat.not_lt_zero, Nat.zero_le, if_true, if_false, ite_true, ite_false, true_and, and_true, false_and, and_false, true_implies, false_implies, implies_true, not_true_eq_false, not_false_eq_true, eq_self, true_or, or_true, false_or, or_false, and_self, reduceCtorEq, forall_const]
        · by_cases c1 : ((M.1 67 m : Int32) >>> ((Int32.ofNat (k - 1) : Int32) &&& 31)) &&& 1 = 1
          · simp (disch := omega) only [ra.2.1, v2, cs, v4, j0, c1, Option.bind_some, o_le, o_leL, o_leR, o_lt, o_ltL, o_ltR, o_eq, o_eqL, o_eqR, o_cl, o_add, o_addL, o_addR, o_mul, o_mulL, o_mulR, o_sub, o_subR, o_0le, o_lt0, o_ixo, n1_eq, n1_eq', n1_lt, n1_le, n1_ge, n1_gt, n2_eq, n2_eq', n2_lt, n2_le, n2_ge, n2_gt, ↓reduceIte, ite_self, Nat.reduceEqDiff, Nat.reduceAdd, Nat.reduceMul, Nat.reduceSub, Nat.reduceLT, Nat.reduceLeDiff, Nat.not_lt_zero, Nat.zero_le, if_true, if_false, ite_true, ite_false, true_and, and_true, false_and, and_false, true_implies, false_implies, implies_true, not_true_eq_false, not_false_eq_true, eq_self, true_or, or_true, false_or, or_false, and_self, reduceCtorEq, forall_const]
          · simp (disch := omega) only [ra.2.1, v2, cs, v4, j0, c1, Option.bind_some, o_le, o_leL, o_leR, o_lt, o_ltL, o_ltR, o_eq, o_eqL, o_eqR, o_cl, o_add, o_addL, o_addR, o_mul, o_mulL, o_mulR, o_sub, o_subR, o_0le, o_lt0, o_ixo, n1_eq, n1_eq', n1_lt, n1_le, n1_ge, n1_gt, n2_eq, n2_eq', n2_lt, n2_le, n2_ge, n2_gt, ↓reduceIte, ite_self, Nat.reduceEqDiff, Nat.reduceAdd, Nat.reduceMul, Nat.reduceSub, Nat.reduceLT, Nat.reduceLeDiff, Nat.not_lt_zero, Nat.zero_le, if_true, if_false, ite_true, ite_false, true_and, and_true, false_and, and_false, true_implies, false_implies, implies_true, not_true_eq_false, not_false_eq_true, eq_self, true_or, or_true, false_or, or_false, and_self, reduceCtorEq, forall_const]
    unfold b53_Flow_begin
    by_cases hl : k < tk
    · have q1 : ¬ tk ≤ k := by omega
      have q2 : ¬ 12 ≤ k := by omega
      have q3 : k < 12 := by omega
      simp (disch := omega) only [W_some, W_none, W_bind, W_ite, W_ocz, W_lt, er, ra.2.1, tke, q1, q2, kde, q3, o_le, o_leL, o_leR, o_lt, o_ltL, o_ltR, o_eq, o_eqL, o_eqR, o_cl, o_add, o_addL, o_addR, o_mul, o_mulL, o_mulR, o_sub, o_subR, o_0le, o_lt0, o_ixo, n1_eq, n1_eq', n1_lt, n1_le, n1_ge, n1_gt, n2_eq, n2_eq', n2_lt, n2_le, n2_ge, n2_gt, ↓reduceIte, ite_self, Nat.reduceEqDiff, Nat.reduceAdd, Nat.reduceMul, Nat.reduceSub, Nat.reduceLT, Nat.reduceLeDiff, Nat.not_lt_zero, Nat.zero_le, if_true, if_false, ite_true, ite_false, true_and, and_true, false_and, and_false, true_implies, false_implies, implies_true, not_true_eq_false, not_false_eq_true, eq_self, true_or, or_true, false_or, or_false, and_self, reduceCtorEq, forall_const]
      refine hQ _ ⟨⟨k + 1, by omega, rfl, ho.xw (by unfold Fal; omega) _ _, fun b hb' => (by rw [xw_ne _ _ _ _ hb']; exact hb b hb'), ?_⟩, by simp (disch := omega) only [er, o_le, o_leL, o_leR, o_lt, o_ltL, o_ltR, o_eq, o_eqL, o_eqR, o_cl, o_add, o_addL, o_addR, o_mul, o_mulL, o_mulR, o_sub, o_subR, o_0le, o_lt0, o_ixo, n1_eq, n1_eq', n1_lt, n1_le, n1_ge, n1_gt, n2_eq, n2_eq', n2_lt, n2_le, n2_ge, n2_gt, ↓reduceIte, ite_self, Nat.reduceEqDiff, Nat.reduceAdd, Nat.reduceMul, Nat.reduceSub, Nat.reduceLT, Nat.reduceLeDiff, Nat.not_lt_zero, Nat.zero_le, if_true, if_false, ite_true, ite_false, true_and, and_true, false_and, and_false, true_implies, false_implies, implies_true, not_true_eq_false, not_false_eq_true, eq_self, true_or, or_true, false_or, or_false, and_self, reduceCtorEq, forall_const]; omega⟩
      intro c hc'
      rw [xw1]
      by_cases e : c = k
      · subst e
        rw [if_pos ⟨rfl, rfl⟩, if_pos (by omega)]
      · rw [if_neg (fun q => e q.2), hf c hc']
        by_cases z : c < k
        · rw [if_pos z, if_pos (by omega)]
        · rw [if_neg z, if_neg (by omega)]
    · have ek : k = tk := by omega
      subst ek
      simp (disch := omega) only [W_some, W_none, W_bind, W_ite, W_ocz, W_lt, er, ra.2.1, tke, Nat.le_refl, o_le, o_leL, o_leR, o_lt, o_ltL, o_ltR, o_eq, o_eqL, o_eqR, o_cl, o_add, o_addL, o_addR, o_mul, o_mulL, o_mulR, o_sub, o_subR, o_0le, o_lt0, o_ixo, n1_eq, n1_eq', n1_lt, n1_le, n1_ge, n1_gt, n2_eq, n2_eq', n2_lt, n2_le, n2_ge, n2_gt, ↓reduceIte, ite_self, Nat.reduceEqDiff, Nat.reduceAdd, Nat.reduceMul, Nat.reduceSub, Nat.reduceLT, Nat.reduceLeDiff, Nat.not_lt_zero, Nat.zero_le, if_true, if_false, ite_true, ite_false, true_and, and_true, false_and, and_false, true_implies, false_implies, implies_true, not_true_eq_false, not_false_eq_true, eq_self, true_or, or_true, false_or, or_false, and_self, reduceCtorEq, forall_const]
      refine hQ _ ⟨ho, hb, ?_⟩
      intro j hj
      exact hf j hj
  obtain ⟨r, er, ro, rb, rf⟩ := w3
  have fx : FX r.2 S00 := by
    refine ⟨?_, ?_, ?_, by show (0 : Nat) ≤ 10; omega⟩
    · intro i hi
      unfold fl
      rw [rb 23 (by omega), rb 24 (by omega), (a23 i hi).1, (a23 i hi).2]
      unfold S00
      simp
    · intro i hi hs
      cases hs
    · rw [rb 22 (by omega)]; exact a22.1
  obtain ⟨X', e', c9, b'⟩ := come_28 (i := 0) (h := 0) (g := fun _ => 0) (l := lin M m tk) fx (by omega) (by omega) (fun k hk => absurd hk (Nat.not_lt_zero k)) rf
  rcases b' with ⟨n1, _⟩ | ⟨S', n1, n2, n3⟩
  · rw [come00] at n1; cases n1
  rw [come00] at n1
  cases n1
  refine ⟨X', ?_, ro.trans (c9.1.mono (by unfold Fcx Fal; omega)), ?_, n3⟩
  · unfold f_Flow_begin lt f_Arrays_fill_292
    rw [ep]
    simp only [Option.bind_some]
    rw [hX1, eq]
    simp only [Option.bind_some]
    rw [er]
    simp only [Option.bind_some]
    have e2 : f_Flow_comeTo_28 0 0 r.2 = some X' := e'
    rw [e2]
    rfl
  · rw [n2, rb 22 (by omega)]
    exact a22.2.1
set_option maxRecDepth 20000 in
set_option maxHeartbeats 4000000 in
theorem typed01 {M : MS} {kc rc m s tc : Nat} {fr tt hd : Nat → Nat} (l : Nat → Int32) (hs : 0 < s) : Typed M kc rc m s tc fr tt hd (S01 l) ∧ WtSn (S01 l) ∧ mu (S01 l) < 840 := by
  have z : ∀ i, (S01 l).1 i = true → i = 0 := by
    intro i hi
    have hi' : updB (fun _ => false) 0 true i = true := hi
    unfold updB at hi'
    by_cases e : i = 0
    · exact e
    · rw [if_neg e] at hi'; cases hi'
  refine ⟨?_, ?_, ?_⟩
  · intro i hi
    have := z i hi
    subst this
    refine ⟨hs, ?_⟩
    intro q
    have q' : updB (fun _ => false) 0 true 0 = false := q
    cases q'
  · intro i hi
    exact hi
  · have m0 : mu S00 = 840 := by decide
    have := (come_props (S := S00) (i := 0) (by omega) (come00 l)).2.2.2.1 rfl
    omega
