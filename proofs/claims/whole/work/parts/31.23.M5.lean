/-! M5 -/
/-- what the reference's reach has found -/
def RchM (M0 : MS) (kc rc main : Nat) (M : MS) : Prop := MO Rcm M0 M ∧ (∀ m, m < 24 → fm M 75 m → m < rc) ∧ Clo M0 kc rc main (fm M 75) (fm M 76) (fm M 78) ∧ SndM M0 kc rc main M ∧
  (∀ c, c < 10 → fm M 77 c → c < kc) ∧ UpC M0 kc (Dir M0 kc rc (fm M 75)) (fm M 77) ∧ (∀ S, UpC M0 kc (Dir M0 kc rc (fm M 75)) S → ∀ c, c < 10 → fm M 77 c → S c) ∧
  M.1 60 23 = Int32.ofNat (cnt (fmB M 77) kc) ∧ M.1 60 22 = Int32.ofNat (cnt (fmB M 75) rc) ∧ (∀ c, c < kc → M.1 80 c = Int32.ofNat (cnt (fmB M 77) c)) ∧ (∀ m, m < rc → M.1 79 m = Int32.ofNat (cnt (fmB M 75) m))
set_option maxRecDepth 20000 in
set_option maxHeartbeats 4000000 in
theorem startM_ok {M : MS} {main : Nat} (hm : main < 24) : Wo ((lp (b2_M_reach (Int32.ofNat main)) 10000 ((0 : Int32), M)).bind fun x15 => ((lp (b32_M_reach) 10000 ((0 : Int32), x15.2)).bind fun x26 => ((lp (b60_M_reach) 10000 ((0 : Int32), x26.2)).bind fun x35 => some x35.2))) (fun M' => MO Rcm M M' ∧ (∀ m, m < 24 → (fm M' 75 m ↔ m = main)) ∧ (∀ c, c < 10 → ¬ fm M' 76 c ∧ ¬ fm M' 77 c) ∧ (∀ n, n < 8 → ¬ fm M' 78 n)) := by
  rw [W_bind]
  have n10 : ¬ (1 : Int32) = 0 := by decide
  have w1 : Wo (lp (b2_M_reach (Int32.ofNat main)) 10000 ((0 : Int32), M)) (fun p => MO Rcm M p.2 ∧ (∀ m, m < 24 → (fm p.2 75 m ↔ m = main))) := by
    refine W_lp (fun p => ∃ k, k ≤ 24 ∧ p.1 = Int32.ofNat k ∧ MO Rcm M p.2 ∧ (∀ m, m < k → (fm p.2 75 m ↔ m = main))) (fun p => 24 - p.1.toNatClampNeg) ?_ 10000 _ ⟨0, by omega, rfl, MO.refl M, fun c hc => absurd hc (Nat.not_lt_zero c)⟩ (by show 24 - 0 < 10000; omega)
    intro p ⟨k, hk, ep, ho, hf⟩
    refine Wo.cps (fun Q hQ => ?_)
    unfold b2_M_reach
    by_cases hl : k < 24
    case neg =>
      have ek : k = 24 := by omega
      subst ek
      simp (disch := omega) only [W_some, W_none, W_bind, W_ite, W_ocz, W_lt, ep, Nat.le_refl, o_le, o_leL, o_leR, o_lt, o_ltL, o_ltR, o_eq, o_eqL, o_eqR, o_cl, o_add, o_addL, o_addR, o_mul, o_mulL, o_mulR, o_sub, o_subR, o_0le, o_lt0, o_ixo, n1_eq, n1_eq', n1_lt, n1_le, n1_ge, n1_gt, n2_eq, n2_eq', n2_lt, n2_le, n2_ge, n2_gt, ↓reduceIte, ite_self, Nat.reduceEqDiff, Nat.reduceAdd, Nat.reduceMul, Nat.reduceSub, Nat.reduceLT, Nat.reduceLeDiff, Nat.not_lt_zero, Nat.zero_le, if_true, if_false, ite_true, ite_false, true_and, and_true, false_and, and_false, true_implies, false_implies, implies_true, not_true_eq_false, not_false_eq_true, eq_self, true_or, or_true, false_or, or_false, and_self, reduceCtorEq, forall_const]
      exact hQ _ ⟨ho, hf⟩
    have q1 : ¬ 24 ≤ k := by omega
    have next : ∀ v, (v = 0 ∧ ¬ k = main ∨ v = 1 ∧ k = main) → Q (.inl (Int32.ofNat (k + 1), mw p.2 75 k v)) := by
      intro v hv
      refine hQ _ ⟨⟨k + 1, by omega, rfl, ho.mw (by unfold Rcm; omega) v, ?_⟩, by simp (disch := omega) only [ep, o_le, o_leL, o_leR, o_lt, o_ltL, o_ltR, o_eq, o_eqL, o_eqR, o_cl, o_add, o_addL, o_addR, o_mul, o_mulL, o_mulR, o_sub, o_subR, o_0le, o_lt0, o_ixo, n1_eq, n1_eq', n1_lt, n1_le, n1_ge, n1_gt, n2_eq, n2_eq', n2_lt, n2_le, n2_ge, n2_gt, ↓reduceIte, ite_self, Nat.reduceEqDiff, Nat.reduceAdd, Nat.reduceMul, Nat.reduceSub, Nat.reduceLT, Nat.reduceLeDiff, Nat.not_lt_zero, Nat.zero_le, if_true, if_false, ite_true, ite_false, true_and, and_true, false_and, and_false, true_implies, false_implies, implies_true, not_true_eq_false, not_false_eq_true, eq_self, true_or, or_true, false_or, or_false, and_self, reduceCtorEq, forall_const]; omega⟩
      intro m hm'
      unfold fm
      rw [mw1]
      by_cases e : m = k
      · subst e
        rw [if_pos ⟨rfl, rfl⟩]
        rcases hv with ⟨rfl, h⟩ | ⟨rfl, h⟩
        · simp [h]
        · simp [h]
      · rw [if_neg (fun q => e q.2)]
        exact hf m (by omega)
    by_cases em : k = main
    · subst em
      simp (disch := omega) only [W_some, W_none, W_bind, W_ite, W_ocz, W_lt, ep, q1, hl, n10, o_le, o_leL, o_leR, o_lt, o_ltL, o_ltR, o_eq, o_eqL, o_eqR, o_cl, o_add, o_addL, o_addR, o_mul, o_mulL, o_mulR, o_sub, o_subR, o_0le, o_lt0, o_ixo, n1_eq, n1_eq', n1_lt, n1_le, n1_ge, n1_gt, n2_eq, n2_eq', n2_lt, n2_le, n2_ge, n2_gt, ↓reduceIte, ite_self, Nat.reduceEqDiff, Nat.reduceAdd, Nat.reduceMul, Nat.reduceSub, Nat.reduceLT, Nat.reduceLeDiff, Nat.not_lt_zero, Nat.zero_le, if_true, if_false, ite_true, ite_false, true_and, and_true, false_and, and_false, true_implies, false_implies, implies_true, not_true_eq_false, not_false_eq_true, eq_self, true_or, or_true, false_or, or_false, and_self, reduceCtorEq, forall_const]
      exact next 1 (Or.inr ⟨rfl, rfl⟩)
    · simp (disch := omega) only [W_some, W_none, W_bind, W_ite, W_ocz, W_lt, ep, q1, hl, em, o_le, o_leL, o_leR, o_lt, o_ltL, o_ltR, o_eq, o_eqL, o_eqR, o_cl, o_add, o_addL, o_addR, o_mul, o_mulL, o_mulR, o_sub, o_subR, o_0le, o_lt0, o_ixo, n1_eq, n1_eq', n1_lt, n1_le, n1_ge, n1_gt, n2_eq, n2_eq', n2_lt, n2_le, n2_ge, n2_gt, ↓reduceIte, ite_self, Nat.reduceEqDiff, Nat.reduceAdd, Nat.reduceMul, Nat.reduceSub, Nat.reduceLT, Nat.reduceLeDiff, Nat.not_lt_zero, Nat.zero_le, if_true, if_false, ite_true, ite_false, true_and, and_true, false_and, and_false, true_implies, false_implies, implies_true, not_true_eq_false, not_false_eq_true, eq_self, true_or, or_true, false_or, or_false, and_self, reduceCtorEq, forall_const]
      exact next 0 (Or.inl ⟨rfl, em⟩)
  refine Wo.mono w1 ?_
  intro p ⟨po, pf⟩
  rw [W_bind]
  have w2 : Wo (lp b32_M_reach 10000 ((0 : Int32), p.2)) (fun q => MO Rcm M q.2 ∧ (∀ m, m < 24 → (fm q.2 75 m ↔ m = main)) ∧ ∀ c, c < 10 → ¬ fm q.2 76 c ∧ ¬ fm q.2 77 c) := by
    refine W_lp (fun q => ∃ k, k ≤ 10 ∧ q.1 = Int32.ofNat k ∧ MO Rcm M q.2 ∧ (∀ m, m < 24 → (fm q.2 75 m ↔ m = main)) ∧ ∀ c, c < k → ¬ fm q.2 76 c ∧ ¬ fm q.2 77 c) (fun q => 10 - q.1.toNatClampNeg) ?_ 10000 _ ⟨0, by omega, rfl, po, pf, fun c hc => absurd hc (Nat.not_lt_zero c)⟩ (by show 10 - 0 < 10000; omega)
    intro p ⟨k, hk, ep, ho, h0, hf⟩
    refine Wo.cps (fun Q hQ => ?_)
    unfold b32_M_reach
    by_cases hl : k < 10
    · have q1 : ¬ 10 ≤ k := by omega
      simp (disch := omega) only [W_some, W_none, W_bind, W_ite, W_ocz, W_lt, ep, q1, hl, o_le, o_leL, o_leR, o_lt, o_ltL, o_ltR, o_eq, o_eqL, o_eqR, o_cl, o_add, o_addL, o_addR, o_mul, o_mulL, o_mulR, o_sub, o_subR, o_0le, o_lt0, o_ixo, n1_eq, n1_eq', n1_lt, n1_le, n1_ge, n1_gt, n2_eq, n2_eq', n2_lt, n2_le, n2_ge, n2_gt, ↓reduceIte, ite_self, Nat.reduceEqDiff, Nat.reduceAdd, Nat.reduceMul, Nat.reduceSub, Nat.reduceLT, Nat.reduceLeDiff, Nat.not_lt_zero, Nat.zero_le, if_true, if_false, ite_true, ite_false, true_and, and_true, false_and, and_false, true_implies, false_implies, implies_true, not_true_eq_false, not_false_eq_true, eq_self, true_or, or_true, false_or, or_false, and_self, reduceCtorEq, forall_const]
      refine hQ _ ⟨⟨k + 1, by omega, rfl, (ho.mw (by unfold Rcm; omega) _).mw (by unfold Rcm; omega) _, ?_, ?_⟩, by simp (disch := omega) only [ep, o_le, o_leL, o_leR, o_lt, o_ltL, o_ltR, o_eq, o_eqL, o_eqR, o_cl, o_add, o_addL, o_addR, o_mul, o_mulL, o_mulR, o_sub, o_subR, o_0le, o_lt0, o_ixo, n1_eq, n1_eq', n1_lt, n1_le, n1_ge, n1_gt, n2_eq, n2_eq', n2_lt, n2_le, n2_ge, n2_gt, ↓reduceIte, ite_self, Nat.reduceEqDiff, Nat.reduceAdd, Nat.reduceMul, Nat.reduceSub, Nat.reduceLT, Nat.reduceLeDiff, Nat.not_lt_zero, Nat.zero_le, if_true, if_false, ite_true, ite_false, true_and, and_true, false_and, and_false, true_implies, false_implies, implies_true, not_true_eq_false, not_false_eq_true, eq_self, true_or, or_true, false_or, or_false, and_self, reduceCtorEq, forall_const]; omega⟩
      · intro m hm'
        unfold fm
        simp (disch := omega) only [xTw, xLw, xAw, xTp, xLp, xAp, xTc, xLc, xAc, xAn, xTn, xLn, xw1, xw2, xp1, xp2, xp3, mw1, mw2, xn1, xn2, xc1, xc2, o_le, o_leL, o_leR, o_lt, o_ltL, o_ltR, o_eq, o_eqL, o_eqR, o_cl, o_add, o_addL, o_addR, o_mul, o_mulL, o_mulR, o_sub, o_subR, o_0le, o_lt0, o_ixo, n1_eq, n1_eq', n1_lt, n1_le, n1_ge, n1_gt, n2_eq, n2_eq', n2_lt, n2_le, n2_ge, n2_gt, ↓reduceIte, ite_self, Nat.reduceEqDiff, Nat.reduceAdd, Nat.reduceMul, Nat.reduceSub, Nat.reduceLT, Nat.reduceLeDiff, Nat.not_lt_zero, Nat.zero_le, if_true, if_false, ite_true, ite_false, true_and, and_true, false_and, and_false, true_implies, false_implies, implies_true, not_true_eq_false, not_false_eq_true, eq_self, true_or, or_true, false_or, or_false, and_self, reduceCtorEq, forall_const]
        exact h0 m hm'
      · intro c hc
        unfold fm
        by_cases e : c = k
        · subst e
          simp (disch := omega) only [xTw, xLw, xAw, xTp, xLp, xAp, xTc, xLc, xAc, xAn, xTn, xLn, xw1, xw2, xp1, xp2, xp3, mw1, mw2, xn1, xn2, xc1, xc2, o_le, o_leL, o_leR, o_lt, o_ltL, o_ltR, o_eq, o_eqL, o_eqR, o_cl, o_add, o_addL, o_addR, o_mul, o_mulL, o_mulR, o_sub, o_subR, o_0le, o_lt0, o_ixo, n1_eq, n1_eq', n1_lt, n1_le, n1_ge, n1_gt, n2_eq, n2_eq', n2_lt, n2_le, n2_ge, n2_gt, ↓reduceIte, ite_self, Nat.reduceEqDiff, Nat.reduceAdd, Nat.reduceMul, Nat.reduceSub, Nat.reduceLT, Nat.reduceLeDiff, Nat.not_lt_zero, Nat.zero_le, if_true, if_false, ite_true, ite_false, true_and, and_true, false_and, and_false, true_implies, false_implies, implies_true, not_true_eq_false, not_false_eq_true, eq_self, true_or, or_true, false_or, or_false, and_self, reduceCtorEq, forall_const]
        · simp (disch := omega) only [xTw, xLw, xAw, xTp, xLp, xAp, xTc, xLc, xAc, xAn, xTn, xLn, xw1, xw2, xp1, xp2, xp3, mw1, mw2, xn1, xn2, xc1, xc2, e, o_le, o_leL, o_leR, o_lt, o_ltL, o_ltR, o_eq, o_eqL, o_eqR, o_cl, o_add, o_addL, o_addR, o_mul, o_mulL, o_mulR, o_sub, o_subR, o_0le, o_lt0, o_ixo, n1_eq, n1_eq', n1_lt, n1_le, n1_ge, n1_gt, n2_eq, n2_eq', n2_lt, n2_le, n2_ge, n2_gt, ↓reduceIte, ite_self, Nat.reduceEqDiff, Nat.reduceAdd, Nat.reduceMul, Nat.reduceSub, Nat.reduceLT, Nat.reduceLeDiff, Nat.not_lt_zero, Nat.zero_le, if_true, if_false, ite_true, ite_false, true_and, and_true, false_and, and_false, true_implies, false_implies, implies_true, not_true_eq_false, not_false_eq_true, eq_self, true_or, or_true, false_or, or_false, and_self, reduceCtorEq, forall_const]
          exact hf c (by omega)
    · have ek : k = 10 := by omega
      subst ek
      simp (disch := omega) only [W_some, W_none, W_bind, W_ite, W_ocz, W_lt, ep, Nat.le_refl, o_le, o_leL, o_leR, o_lt, o_ltL, o_ltR, o_eq, o_eqL, o_eqR, o_cl, o_add, o_addL, o_addR, o_mul, o_mulL, o_mulR, o_sub, o_subR, o_0le, o_lt0, o_ixo, n1_eq, n1_eq', n1_lt, n1_le, n1_ge, n1_gt, n2_eq, n2_eq', n2_lt, n2_le, n2_ge, n2_gt, ↓reduceIte, ite_self, Nat.reduceEqDiff, Nat.reduceAdd, Nat.reduceMul, Nat.reduceSub, Nat.reduceLT, Nat.reduceLeDiff, Nat.not_lt_zero, Nat.zero_le, if_true, if_false, ite_true, ite_false, true_and, and_true, false_and, and_false, true_implies, false_implies, implies_true, not_true_eq_false, not_false_eq_true, eq_self, true_or, or_true, false_or, or_false, and_self, reduceCtorEq, forall_const]
      exact hQ _ ⟨ho, h0, hf⟩
  refine Wo.mono w2 ?_
  intro q ⟨qo, q0, qf⟩
  rw [W_bind]
  have w3 : Wo (lp b60_M_reach 10000 ((0 : Int32), q.2)) (fun r => MO Rcm M r.2 ∧ (∀ m, m < 24 → (fm r.2 75 m ↔ m = main)) ∧ (∀ c, c < 10 → ¬ fm r.2 76 c ∧ ¬ fm r.2 77 c) ∧ ∀ c, c < 8 → ¬ fm r.2 78 c) := by
    refine W_lp (fun r => ∃ k, k ≤ 8 ∧ r.1 = Int32.ofNat k ∧ MO Rcm M r.2 ∧ (∀ m, m < 24 → (fm r.2 75 m ↔ m = main)) ∧ (∀ c, c < 10 → ¬ fm r.2 76 c ∧ ¬ fm r.2 77 c) ∧ ∀ c, c < k → ¬ fm r.2 78 c) (fun r => 8 - r.1.toNatClampNeg) ?_ 10000 _ ⟨0, by omega, rfl, qo, q0, qf, fun c hc => absurd hc (Nat.not_lt_zero c)⟩ (by show 8 - 0 < 10000; omega)
    intro p ⟨k, hk, ep, ho, h0, h1, hf⟩
    refine Wo.cps (fun Q hQ => ?_)
    unfold b60_M_reach
    by_cases hl : k < 8
    · have q1 : ¬ 8 ≤ k := by omega
      simp (disch := omega) only [W_some, W_none, W_bind, W_ite, W_ocz, W_lt, ep, q1, hl, o_le, o_leL, o_leR, o_lt, o_ltL, o_ltR, o_eq, o_eqL, o_eqR, o_cl, o_add, o_addL, o_addR, o_mul, o_mulL, o_mulR, o_sub, o_subR, o_0le, o_lt0, o_ixo, n1_eq, n1_eq', n1_lt, n1_le, n1_ge, n1_gt, n2_eq, n2_eq', n2_lt, n2_le, n2_ge, n2_gt, ↓reduceIte, ite_self, Nat.reduceEqDiff, Nat.reduceAdd, Nat.reduceMul, Nat.reduceSub, Nat.reduceLT, Nat.reduceLeDiff, Nat.not_lt_zero, Nat.zero_le, if_true, if_false, ite_true, ite_false, true_and, and_true, false_and, and_false, true_implies, false_implies, implies_true, not_true_eq_false, not_false_eq_true, eq_self, true_or, or_true, false_or, or_false, and_self, reduceCtorEq, forall_const]
      refine hQ _ ⟨⟨k + 1, by omega, rfl, ho.mw (by unfold Rcm; omega) _, ?_, ?_, ?_⟩, by simp (disch := omega) only [ep, o_le, o_leL, o_leR, o_lt, o_ltL, o_ltR, o_eq, o_eqL, o_eqR, o_cl, o_add, o_addL, o_addR, o_mul, o_mulL, o_mulR, o_sub, o_subR, o_0le, o_lt0, o_ixo, n1_eq, n1_eq', n1_lt, n1_le, n1_ge, n1_gt, n2_eq, n2_eq', n2_lt, n2_le, n2_ge, n2_gt, ↓reduceIte, ite_self, Nat.reduceEqDiff, Nat.reduceAdd, Nat.reduceMul, Nat.reduceSub, Nat.reduceLT, Nat.reduceLeDiff, Nat.not_lt_zero, Nat.zero_le, if_true, if_false, ite_true, ite_false, true_and, and_true, false_and, and_false, true_implies, false_implies, implies_true, not_true_eq_false, not_false_eq_true, eq_self, true_or, or_true, false_or, or_false, and_self, reduceCtorEq, forall_const]; omega⟩
      · intro m hm'
        unfold fm
        simp (disch := omega) only [xTw, xLw, xAw, xTp, xLp, xAp, xTc, xLc, xAc, xAn, xTn, xLn, xw1, xw2, xp1, xp2, xp3, mw1, mw2, xn1, xn2, xc1, xc2, o_le, o_leL, o_leR, o_lt, o_ltL, o_ltR, o_eq, o_eqL, o_eqR, o_cl, o_add, o_addL, o_addR, o_mul, o_mulL, o_mulR, o_sub, o_subR, o_0le, o_lt0, o_ixo, n1_eq, n1_eq', n1_lt, n1_le, n1_ge, n1_gt, n2_eq, n2_eq', n2_lt, n2_le, n2_ge, n2_gt, ↓reduceIte, ite_self, Nat.reduceEqDiff, Nat.reduceAdd, Nat.reduceMul, Nat.reduceSub, Nat.reduceLT, Nat.reduceLeDiff, Nat.not_lt_zero, Nat.zero_le, if_true, if_false, ite_true, ite_false, true_and, and_true, false_and, and_false, true_implies, false_implies, implies_true, not_true_eq_false, not_false_eq_true, eq_self, true_or, or_true, false_or, or_false, and_self, reduceCtorEq, forall_const]
        exact h0 m hm'
      · intro c hc
        unfold fm
        simp (disch := omega) only [xTw, xLw, xAw, xTp, xLp, xAp, xTc, xLc, xAc, xAn, xTn, xLn, xw1, xw2, xp1, xp2, xp3, mw1, mw2, xn1, xn2, xc1, xc2, o_le, o_leL, o_leR, o_lt, o_ltL, o_ltR, o_eq, o_eqL, o_eqR, o_cl, o_add, o_addL, o_addR, o_mul, o_mulL, o_mulR, o_sub, o_subR, o_0le, o_lt0, o_ixo, n1_eq, n1_eq', n1_lt, n1_le, n1_ge, n1_gt, n2_eq, n2_eq', n2_lt, n2_le, n2_ge, n2_gt, ↓reduceIte, ite_self, Nat.reduceEqDiff, Nat.reduceAdd, Nat.reduceMul, Nat.reduceSub, Nat.reduceLT, Nat.reduceLeDiff, Nat.not_lt_zero, Nat.zero_le, if_true, if_false, ite_true, ite_false, true_and, and_true, false_and, and_false, true_implies, false_implies, implies_true, not_true_eq_false, not_false_eq_true, eq_self, true_or, or_true, false_or, or_false, and_self, reduceCtorEq, forall_const]
        exact h1 c hc
      · intro c hc
        unfold fm
        by_cases e : c = k
        · subst e
          simp (disch := omega) only [xTw, xLw, xAw, xTp, xLp, xAp, xTc, xLc, xAc, xAn, xTn, xLn, xw1, xw2, xp1, xp2, xp3, mw1, mw2, xn1, xn2, xc1, xc2, o_le, o_leL, o_leR, o_lt, o_ltL, o_ltR, o_eq, o_eqL, o_eqR, o_cl, o_add, o_addL, o_addR, o_mul, o_mulL, o_mulR, o_sub, o_subR, o_0le, o_lt0, o_ixo, n1_eq, n1_eq', n1_lt, n1_le, n1_ge, n1_gt, n2_eq, n2_eq', n2_lt, n2_le, n2_ge, n2_gt, ↓reduceIte, ite_self, Nat.reduceEqDiff, Nat.reduceAdd, Nat.reduceMul, Nat.reduceSub, Nat.reduceLT, Nat.reduceLeDiff, Nat.not_lt_zero, Nat.zero_le, if_true, if_false, ite_true, ite_false, true_and, and_true, false_and, and_false, true_implies, false_implies, implies_true, not_true_eq_false, not_false_eq_true, eq_self, true_or, or_true, false_or, or_false, and_self, reduceCtorEq, forall_const]
        · simp (disch := omega) only [xTw, xLw, xAw, xTp, xLp, xAp, xTc, xLc, xAc, xAn, xTn, xLn, xw1, xw2, xp1, xp2, xp3, mw1, mw2, xn1, xn2, xc1, xc2, e, o_le, o_leL, o_leR, o_lt, o_ltL, o_ltR, o_eq, o_eqL, o_eqR, o_cl, o_add, o_addL, o_addR, o_mul, o_mulL, o_mulR, o_sub, o_subR, o_0le, o_lt0, o_ixo, n1_eq, n1_eq', n1_lt, n1_le, n1_ge, n1_gt, n2_eq, n2_eq', n2_lt, n2_le, n2_ge, n2_gt, ↓reduceIte, ite_self, Nat.reduceEqDiff, Nat.reduceAdd, Nat.reduceMul, Nat.reduceSub, Nat.reduceLT, Nat.reduceLeDiff, Nat.not_lt_zero, Nat.zero_le, if_true, if_false, ite_true, ite_false, true_and, and_true, false_and, and_false, true_implies, false_implies, implies_true, not_true_eq_false, not_false_eq_true, eq_self, true_or, or_true, false_or, or_false, and_self, reduceCtorEq, forall_const]
          exact hf c (by omega)
    · have ek : k = 8 := by omega
      subst ek
      simp (disch := omega) only [W_some, W_none, W_bind, W_ite, W_ocz, W_lt, ep, Nat.le_refl, o_le, o_leL, o_leR, o_lt, o_ltL, o_ltR, o_eq, o_eqL, o_eqR, o_cl, o_add, o_addL, o_addR, o_mul, o_mulL, o_mulR, o_sub, o_subR, o_0le, o_lt0, o_ixo, n1_eq, n1_eq', n1_lt, n1_le, n1_ge, n1_gt, n2_eq, n2_eq', n2_lt, n2_le, n2_ge, n2_gt, ↓reduceIte, ite_self, Nat.reduceEqDiff, Nat.reduceAdd, Nat.reduceMul, Nat.reduceSub, Nat.reduceLT, Nat.reduceLeDiff, Nat.not_lt_zero, Nat.zero_le, if_true, if_false, ite_true, ite_false, true_and, and_true, false_and, and_false, true_implies, false_implies, implies_true, not_true_eq_false, not_false_eq_true, eq_self, true_or, or_true, false_or, or_false, and_self, reduceCtorEq, forall_const]
      exact hQ _ ⟨ho, h0, h1, hf⟩
  refine Wo.mono w3 ?_
  intro r hr
  rw [W_some]
  exact hr
set_option maxRecDepth 20000 in
set_option maxHeartbeats 4000000 in
theorem wantsM_ok {X : XS} {M0 M : MS} {T : Nat → Nat} {kc rc : Nat} (h : RSc X M0 T kc rc) (ho : MO Rcm M0 M) (hz : ∀ c, c < 10 → ¬ fm M 77 c) : Wo (lp b225_M_reach 10000 ((0 : Int32), M)) (fun p => Want M0 kc (Dir M0 kc rc (fm M 75)) M p.2) := by
  have hr := h.2.1
  have k1 := h.1.1
  have w : Wo (lp b225_M_reach 10000 ((0 : Int32), M)) (fun p => Want M0 kc (fun c => ∃ m, m < rc ∧ fm M 75 m ∧ (aK M0 kc m c ∨ (¬ M0.1 65 m = -2 ∧ M0.1 64 m = Int32.ofNat c ∧ c < kc))) M p.2) := by
    refine W_lp (fun p => ∃ k, k ≤ rc ∧ p.1 = Int32.ofNat k ∧ Want M0 kc (fun c => ∃ m, m < k ∧ fm M 75 m ∧ (aK M0 kc m c ∨ (¬ M0.1 65 m = -2 ∧ M0.1 64 m = Int32.ofNat c ∧ c < kc))) M p.2) (fun p => rc - p.1.toNatClampNeg) ?_ 10000 _ ⟨0, Nat.zero_le _, rfl, ho, fun _ _ _ => rfl, fun c hc hf => absurd hf (hz c hc), fun _ h => h, fun c ⟨i, hi, _⟩ => absurd hi (Nat.not_lt_zero i), fun c d h1 h2 => absurd h2 (hz c (by omega)), fun S h1 _ _ c hc hf => h1 c hc hf⟩ (by show rc - 0 < 10000; omega)
    intro p ⟨k, hk, ep, pw⟩
    refine Wo.cps (fun Q hQ => ?_)
    have sr := pw.1.src Rcm_src
    have g15 : p.2.1 60 15 = Int32.ofNat rc := sr.2.2.trans h.2.2.2.1
    unfold b225_M_reach
    by_cases hl : k < rc
    case neg =>
      have ek : k = rc := by omega
      subst ek
      simp (disch := omega) only [W_some, W_none, W_bind, W_ite, W_ocz, W_lt, ep, g15, Nat.le_refl, o_le, o_leL, o_leR, o_lt, o_ltL, o_ltR, o_eq, o_eqL, o_eqR, o_cl, o_add, o_addL, o_addR, o_mul, o_mulL, o_mulR, o_sub, o_subR, o_0le, o_lt0, o_ixo, n1_eq, n1_eq', n1_lt, n1_le, n1_ge, n1_gt, n2_eq, n2_eq', n2_lt, n2_le, n2_ge, n2_gt, ↓reduceIte, ite_self, Nat.reduceEqDiff, Nat.reduceAdd, Nat.reduceMul, Nat.reduceSub, Nat.reduceLT, Nat.reduceLeDiff, Nat.not_lt_zero, Nat.zero_le, if_true, if_false, ite_true, ite_false, true_and, and_true, false_and, and_false, true_implies, false_implies, implies_true, not_true_eq_false, not_false_eq_true, eq_self, true_or, or_true, false_or, or_false, and_self, reduceCtorEq, forall_const]
      exact hQ _ pw
    have q1 : ¬ rc ≤ k := by omega
    have q2 : k < 24 := by omega
    have g75 : p.2.1 75 k = M.1 75 k := pw.2.1 75 k (by decide)
    by_cases c75 : M.1 75 k = 0
    · simp (disch := omega) only [W_some, W_none, W_bind, W_ite, W_ocz, W_lt, ep, g15, q1, q2, g75, c75, o_le, o_leL, o_leR, o_lt, o_ltL, o_ltR, o_eq, o_eqL, o_eqR, o_cl, o_add, o_addL, o_addR, o_mul, o_mulL, o_mulR, o_sub, o_subR, o_0le, o_lt0, o_ixo, n1_eq, n1_eq', n1_lt, n1_le, n1_ge, n1_gt, n2_eq, n2_eq', n2_lt, n2_le, n2_ge, n2_gt, ↓reduceIte, ite_self, Nat.reduceEqDiff, Nat.reduceAdd, Nat.reduceMul, Nat.reduceSub, Nat.reduceLT, Nat.reduceLeDiff, Nat.not_lt_zero, Nat.zero_le, if_true, if_false, ite_true, ite_false, true_and, and_true, false_and, and_false, true_implies, false_implies, implies_true, not_true_eq_false, not_false_eq_true, eq_self, true_or, or_true, false_or, or_false, and_self, reduceCtorEq, forall_const]
      refine hQ _ ⟨⟨k + 1, by omega, rfl, pw.congr (fun c => ?_)⟩, by simp (disch := omega) only [ep, o_le, o_leL, o_leR, o_lt, o_ltL, o_ltR, o_eq, o_eqL, o_eqR, o_cl, o_add, o_addL, o_addR, o_mul, o_mulL, o_mulR, o_sub, o_subR, o_0le, o_lt0, o_ixo, n1_eq, n1_eq', n1_lt, n1_le, n1_ge, n1_gt, n2_eq, n2_eq', n2_lt, n2_le, n2_ge, n2_gt, ↓reduceIte, ite_self, Nat.reduceEqDiff, Nat.reduceAdd, Nat.reduceMul, Nat.reduceSub, Nat.reduceLT, Nat.reduceLeDiff, Nat.not_lt_zero, Nat.zero_le, if_true, if_false, ite_true, ite_false, true_and, and_true, false_and, and_false, true_implies, false_implies, implies_true, not_true_eq_false, not_false_eq_true, eq_self, true_or, or_true, false_or, or_false, and_self, reduceCtorEq, forall_const]; omega⟩
      rw [ex_succ]
      constructor
      · exact Or.inl
      · rintro (h | ⟨h, _⟩)
        · exact h
        · exact absurd c75 h
    · obtain ⟨N, eN, hN⟩ := wantAll_ok h hl pw.1 pw.2.2.1 pw.2.2.2.2.2.1
      simp (disch := omega) only [W_some, W_none, W_bind, W_ite, W_ocz, W_lt, ep, g15, q1, q2, g75, c75, eN, o_le, o_leL, o_leR, o_lt, o_ltL, o_ltR, o_eq, o_eqL, o_eqR, o_cl, o_add, o_addL, o_addR, o_mul, o_mulL, o_mulR, o_sub, o_subR, o_0le, o_lt0, o_ixo, n1_eq, n1_eq', n1_lt, n1_le, n1_ge, n1_gt, n2_eq, n2_eq', n2_lt, n2_le, n2_ge, n2_gt, ↓reduceIte, ite_self, Nat.reduceEqDiff, Nat.reduceAdd, Nat.reduceMul, Nat.reduceSub, Nat.reduceLT, Nat.reduceLeDiff, Nat.not_lt_zero, Nat.zero_le, if_true, if_false, ite_true, ite_false, true_and, and_true, false_and, and_false, true_implies, false_implies, implies_true, not_true_eq_false, not_false_eq_true, eq_self, true_or, or_true, false_or, or_false, and_self, reduceCtorEq, forall_const]
      refine hQ _ ⟨⟨k + 1, by omega, rfl, (pw.trans hN).congr (fun c => ?_)⟩, by simp (disch := omega) only [ep, o_le, o_leL, o_leR, o_lt, o_ltL, o_ltR, o_eq, o_eqL, o_eqR, o_cl, o_add, o_addL, o_addR, o_mul, o_mulL, o_mulR, o_sub, o_subR, o_0le, o_lt0, o_ixo, n1_eq, n1_eq', n1_lt, n1_le, n1_ge, n1_gt, n2_eq, n2_eq', n2_lt, n2_le, n2_ge, n2_gt, ↓reduceIte, ite_self, Nat.reduceEqDiff, Nat.reduceAdd, Nat.reduceMul, Nat.reduceSub, Nat.reduceLT, Nat.reduceLeDiff, Nat.not_lt_zero, Nat.zero_le, if_true, if_false, ite_true, ite_false, true_and, and_true, false_and, and_false, true_implies, false_implies, implies_true, not_true_eq_false, not_false_eq_true, eq_self, true_or, or_true, false_or, or_false, and_self, reduceCtorEq, forall_const]; omega⟩
      rw [ex_succ]
      constructor
      · rintro (h | h)
        · exact Or.inl h
        · exact Or.inr ⟨c75, h⟩
      · rintro (h | ⟨_, h⟩)
        · exact Or.inl h
        · exact Or.inr h
  exact w
set_option maxRecDepth 20000 in
set_option maxHeartbeats 4000000 in
theorem numM_ok {M0 M : MS} {kc rc : Nat} (hk : kc ≤ 10) (hr : rc ≤ 24) (e1 : M0.1 60 3 = Int32.ofNat kc) (e2 : M0.1 60 15 = Int32.ofNat rc) (ho : MO Rcm M0 M) : Wo ((lp (b258_M_reach) 10000 ((0 : Int32), (0 : Int32), M)).bind fun x214 => (lt (mw x214.2.2 60 22 x214.1) fun M215 => ((lp (b309_M_reach) 10000 ((0 : Int32), (0 : Int32), M215)).bind fun x226 => (lt (mw x226.2.2 60 23 x226.1) fun M227 => some M227)))) (fun M' => MO Rcm M0 M' ∧ (∀ b j, 75 ≤ b → b ≤ 78 → M'.1 b j = M.1 b j) ∧ M'.1 60 23 = Int32.ofNat (cnt (fmB M 77) kc) ∧ M'.1 60 22 = Int32.ofNat (cnt (fmB M 75) rc) ∧ (∀ c, c < kc → M'.1 80 c = Int32.ofNat (cnt (fmB M 77) c)) ∧ (∀ m, m < rc → M'.1 79 m = Int32.ofNat (cnt (fmB M 75) m))) := by
  rw [W_bind]
  have w1 : Wo (lp b258_M_reach 10000 ((0 : Int32), (0 : Int32), M)) (fun p => MO Rcm M0 p.2.2 ∧ (∀ b j, 75 ≤ b → b ≤ 78 → p.2.2.1 b j = M.1 b j) ∧ p.1 = Int32.ofNat (cnt (fmB M 75) rc) ∧ (∀ m, m < rc → p.2.2.1 79 m = Int32.ofNat (cnt (fmB M 75) m))) := by
    refine W_lp (fun p => ∃ k, k ≤ rc ∧ p.2.1 = Int32.ofNat k ∧ MO Rcm M0 p.2.2 ∧ (∀ b j, 75 ≤ b → b ≤ 78 → p.2.2.1 b j = M.1 b j) ∧ p.1 = Int32.ofNat (cnt (fmB M 75) k) ∧ (∀ m, m < k → p.2.2.1 79 m = Int32.ofNat (cnt (fmB M 75) m))) (fun p => rc - p.2.1.toNatClampNeg) ?_ 10000 _ ⟨0, Nat.zero_le _, rfl, ho, fun _ _ _ _ => rfl, rfl, fun c hc => absurd hc (Nat.not_lt_zero c)⟩ (by show rc - 0 < 10000; omega)
    intro p ⟨k, hk', ep, po, pb, pc, pn⟩
    refine Wo.cps (fun Q hQ => ?_)
    have sr := po.src Rcm_src
    have g15 : p.2.2.1 60 15 = Int32.ofNat rc := sr.2.2.trans e2
    unfold b258_M_reach
    by_cases hl : k < rc
    case neg =>
      have ek : k = rc := by omega
      subst ek
      simp (disch := omega) only [W_some, W_none, W_bind, W_ite, W_ocz, W_lt, ep, g15, Nat.le_refl, o_le, o_leL, o_leR, o_lt, o_ltL, o_ltR, o_eq, o_eqL, o_eqR, o_cl, o_add, o_addL, o_addR, o_mul, o_mulL, o_mulR, o_sub, o_subR, o_0le, o_lt0, o_ixo, n1_eq, n1_eq', n1_lt, n1_le, n1_ge, n1_gt, n2_eq, n2_eq', n2_lt, n2_le, n2_ge, n2_gt, ↓reduceIte, ite_self, Nat.reduceEqDiff, Nat.reduceAdd, Nat.reduceMul, Nat.reduceSub, Nat.reduceLT, Nat.reduceLeDiff, Nat.not_lt_zero, Nat.zero_le, if_true, if_false, ite_true, ite_false, true_and, and_true, false_and, and_false, true_implies, false_implies, implies_true, not_true_eq_false, not_false_eq_true, eq_self, true_or, or_true, false_or, or_false, and_self, reduceCtorEq, forall_const]
      exact hQ _ ⟨po, pb, pc, pn⟩
    have q1 : ¬ rc ≤ k := by omega
    have q2 : k < 24 := by omega
    have g75 : p.2.2.1 75 k = M.1 75 k := pb 75 k (by omega) (by omega)
    have cs : cnt (fmB M 75) (k + 1) = cnt (fmB M 75) k + (if fmB M 75 k = true then 1 else 0) := rfl
    have cm := cnt_max (fmB M 75) k
    have fin : ∀ v, v = Int32.ofNat (cnt (fmB M 75) (k + 1)) → Q (.inl (v, Int32.ofNat (k + 1), mw p.2.2 79 k (Int32.ofNat (cnt (fmB M 75) k)))) := by
      intro v hv
      refine hQ _ ⟨⟨k + 1, by omega, rfl, po.mw (by unfold Rcm; omega) _, ?_, hv, ?_⟩, by simp (disch := omega) only [ep, o_le, o_leL, o_leR, o_lt, o_ltL, o_ltR, o_eq, o_eqL, o_eqR, o_cl, o_add, o_addL, o_addR, o_mul, o_mulL, o_mulR, o_sub, o_subR, o_0le, o_lt0, o_ixo, n1_eq, n1_eq', n1_lt, n1_le, n1_ge, n1_gt, n2_eq, n2_eq', n2_lt, n2_le, n2_ge, n2_gt, ↓reduceIte, ite_self, Nat.reduceEqDiff, Nat.reduceAdd, Nat.reduceMul, Nat.reduceSub, Nat.reduceLT, Nat.reduceLeDiff, Nat.not_lt_zero, Nat.zero_le, if_true, if_false, ite_true, ite_false, true_and, and_true, false_and, and_false, true_implies, false_implies, implies_true, not_true_eq_false, not_false_eq_true, eq_self, true_or, or_true, false_or, or_false, and_self, reduceCtorEq, forall_const]; omega⟩
      · intro b j h1 h2
        rw [mw1, if_neg (by omega)]
        exact pb b j h1 h2
      · intro m hm
        rw [mw1]
        by_cases e : m = k
        · subst e
          rw [if_pos ⟨rfl, rfl⟩]
        · rw [if_neg (fun q => e q.2)]
          exact pn m (by omega)
    by_cases c75 : M.1 75 k = 0
    · have nf : ¬ fmB M 75 k = true := fun h => (fmB_iff.mp h) c75
      simp (disch := omega) only [W_some, W_none, W_bind, W_ite, W_ocz, W_lt, ep, g15, q1, q2, xTw, xLw, xAw, xTp, xLp, xAp, xTc, xLc, xAc, xAn, xTn, xLn, xw1, xw2, xp1, xp2, xp3, mw1, mw2, xn1, xn2, xc1, xc2, g75, c75, pc, o_le, o_leL, o_leR, o_lt, o_ltL, o_ltR, o_eq, o_eqL, o_eqR, o_cl, o_add, o_addL, o_addR, o_mul, o_mulL, o_mulR, o_sub, o_subR, o_0le, o_lt0, o_ixo, n1_eq, n1_eq', n1_lt, n1_le, n1_ge, n1_gt, n2_eq, n2_eq', n2_lt, n2_le, n2_ge, n2_gt, ↓reduceIte, ite_self, Nat.reduceEqDiff, Nat.reduceAdd, Nat.reduceMul, Nat.reduceSub, Nat.reduceLT, Nat.reduceLeDiff, Nat.not_lt_zero, Nat.zero_le, if_true, if_false, ite_true, ite_false, true_and, and_true, false_and, and_false, true_implies, false_implies, implies_true, not_true_eq_false, not_false_eq_true, eq_self, true_or, or_true, false_or, or_false, and_self, reduceCtorEq, forall_const]
      exact fin _ (by rw [cs, if_neg nf]; rfl)
    · have pf : fmB M 75 k = true := fmB_iff.mpr c75
      simp (disch := omega) only [W_some, W_none, W_bind, W_ite, W_ocz, W_lt, ep, g15, q1, q2, xTw, xLw, xAw, xTp, xLp, xAp, xTc, xLc, xAc, xAn, xTn, xLn, xw1, xw2, xp1, xp2, xp3, mw1, mw2, xn1, xn2, xc1, xc2, g75, c75, pc, o_le, o_leL, o_leR, o_lt, o_ltL, o_ltR, o_eq, o_eqL, o_eqR, o_cl, o_add, o_addL, o_addR, o_mul, o_mulL, o_mulR, o_sub, o_subR, o_0le, o_lt0, o_ixo, n1_eq, n1_eq', n1_lt, n1_le, n1_ge, n1_gt, n2_eq, n2_eq', n2_lt, n2_le, n2_ge, n2_gt, ↓reduceIte, ite_self, Nat.reduceEqDiff, Nat.reduceAdd, Nat.reduceMul, Nat.reduceSub, Nat.reduceLT, Nat.reduceLeDiff, Nat.not_lt_zero, Nat.zero_le, if_true, if_false, ite_true, ite_false, true_and, and_true, false_and, and_false, true_implies, false_implies, implies_true, not_true_eq_false, not_false_eq_true, eq_self, true_or, or_true, false_or, or_false, and_self, reduceCtorEq, forall_const]
      exact fin _ (by rw [cs, if_pos pf])
  refine Wo.mono w1 ?_
  intro p ⟨po, pb, pc, pn⟩
  rw [W_lt, W_bind]
  have w2 : Wo (lp b309_M_reach 10000 ((0 : Int32), (0 : Int32), mw p.2.2 60 22 p.1)) (fun q => MO Rcm M0 q.2.2 ∧ (∀ b j, 75 ≤ b → b ≤ 79 → q.2.2.1 b j = p.2.2.1 b j) ∧ q.2.2.1 60 22 = p.1 ∧ q.1 = Int32.ofNat (cnt (fmB M 77) kc) ∧ (∀ m, m < kc → q.2.2.1 80 m = Int32.ofNat (cnt (fmB M 77) m))) := by
    refine W_lp (fun q => ∃ k, k ≤ kc ∧ q.2.1 = Int32.ofNat k ∧ MO Rcm M0 q.2.2 ∧ (∀ b j, 75 ≤ b → b ≤ 79 → q.2.2.1 b j = p.2.2.1 b j) ∧ q.2.2.1 60 22 = p.1 ∧ q.1 = Int32.ofNat (cnt (fmB M 77) k) ∧ (∀ m, m < k → q.2.2.1 80 m = Int32.ofNat (cnt (fmB M 77) m))) (fun q => kc - q.2.1.toNatClampNeg) ?_ 10000 _ ⟨0, Nat.zero_le _, rfl, po.mw (by unfold Rcm; omega) _, ?_, ?_, rfl, fun c hc => absurd hc (Nat.not_lt_zero c)⟩ (by show kc - 0 < 10000; omega)
    · intro q ⟨k, hk', eq, qo, qb, q22, qc, qn⟩
      refine Wo.cps (fun Q hQ => ?_)
      have sr := qo.src Rcm_src
      have g3 : q.2.2.1 60 3 = Int32.ofNat kc := sr.2.1.trans e1
      unfold b309_M_reach
      by_cases hl : k < kc
      case neg =>
        have ek : k = kc := by omega
        subst ek
        simp (disch := omega) only [W_some, W_none, W_bind, W_ite, W_ocz, W_lt, eq, g3, Nat.le_refl, o_le, o_leL, o_leR, o_lt, o_ltL, o_ltR, o_eq, o_eqL, o_eqR, o_cl, o_add, o_addL, o_addR, o_mul, o_mulL, o_mulR, o_sub, o_subR, o_0le, o_lt0, o_ixo, n1_eq, n1_eq', n1_lt, n1_le, n1_ge, n1_gt, n2_eq, n2_eq', n2_lt, n2_le, n2_ge, n2_gt, ↓reduceIte, ite_self, Nat.reduceEqDiff, Nat.reduceAdd, Nat.reduceMul, Nat.reduceSub, Nat.reduceLT, Nat.reduceLeDiff, Nat.not_lt_zero, Nat.zero_le, if_true, if_false, ite_true, ite_false, true_and, and_true, false_and, and_false, true_implies, false_implies, implies_true, not_true_eq_false, not_false_eq_true, eq_self, true_or, or_true, false_or, or_false, and_self, reduceCtorEq, forall_const]
        exact hQ _ ⟨qo, qb, q22, qc, qn⟩
      have q1 : ¬ kc ≤ k := by omega
      have q2 : k < 10 := by omega
      have g77 : q.2.2.1 77 k = M.1 77 k := (qb 77 k (by omega) (by omega)).trans (pb 77 k (by omega) (by omega))
      have cs : cnt (fmB M 77) (k + 1) = cnt (fmB M 77) k + (if fmB M 77 k = true then 1 else 0) := rfl
      have cm := cnt_max (fmB M 77) k
      have fin : ∀ v, v = Int32.ofNat (cnt (fmB M 77) (k + 1)) → Q (.inl (v, Int32.ofNat (k + 1), mw q.2.2 80 k (Int32.ofNat (cnt (fmB M 77) k)))) := by
        intro v hv
        refine hQ _ ⟨⟨k + 1, by omega, rfl, qo.mw (by unfold Rcm; omega) _, ?_, ?_, hv, ?_⟩, by simp (disch := omega) only [eq, o_le, o_leL, o_leR, o_lt, o_ltL, o_ltR, o_eq, o_eqL, o_eqR, o_cl, o_add, o_addL, o_addR, o_mul, o_mulL, o_mulR, o_sub, o_subR, o_0le, o_lt0, o_ixo, n1_eq, n1_eq', n1_lt, n1_le, n1_ge, n1_gt, n2_eq, n2_eq', n2_lt, n2_le, n2_ge, n2_gt, ↓reduceIte, ite_self, Nat.reduceEqDiff, Nat.reduceAdd, Nat.reduceMul, Nat.reduceSub, Nat.reduceLT, Nat.reduceLeDiff, Nat.not_lt_zero, Nat.zero_le, if_true, if_false, ite_true, ite_false, true_and, and_true, false_and, and_false, true_implies, false_implies, implies_true, not_true_eq_false, not_false_eq_true, eq_self, true_or, or_true, false_or, or_false, and_self, reduceCtorEq, forall_const]; omega⟩
        · intro b j h1 h2
          rw [mw1, if_neg (by omega)]
          exact qb b j h1 h2
        · rw [mw1, if_neg (by omega)]
          exact q22
        · intro m hm
          rw [mw1]
          by_cases e : m = k
          · subst e
            rw [if_pos ⟨rfl, rfl⟩]
          · rw [if_neg (fun q => e q.2)]
            exact qn m (by omega)
      by_cases c77 : M.1 77 k = 0
      · have nf : ¬ fmB M 77 k = true := fun h => (fmB_iff.mp h) c77
        simp (disch := omega) only [W_some, W_none, W_bind, W_ite, W_ocz, W_lt, eq, g3, q1, q2, xTw, xLw, xAw, xTp, xLp, xAp, xTc, xLc, xAc, xAn, xTn, xLn, xw1, xw2, xp1, xp2, xp3, mw1, mw2, xn1, xn2, xc1, xc2, g77, c77, qc, o_le, o_leL, o_leR, o_lt, o_ltL, o_ltR, o_eq, o_eqL, o_eqR, o_cl, o_add, o_addL, o_addR, o_mul, o_mulL, o_mulR, o_sub, o_subR, o_0le, o_lt0, o_ixo, n1_eq, n1_eq', n1_lt, n1_le, n1_ge, n1_gt, n2_eq, n2_eq', n2_lt, n2_le, n2_ge, n2_gt, ↓reduceIte, ite_self, Nat.reduceEqDiff, Nat.reduceAdd, Nat.reduceMul, Nat.reduceSub, Nat.reduceLT, Nat.reduceLeDiff, Nat.not_lt_zero, Nat.zero_le, if_true, if_false, ite_true, ite_false, true_and, and_true, false_and, and_false, true_implies, false_implies, implies_true, not_true_eq_false, not_false_eq_true, eq_self, true_or, or_true, false_or, or_false, and_self, reduceCtorEq, forall_const]
        exact fin _ (by rw [cs, if_neg nf]; rfl)
      · have pf : fmB M 77 k = true := fmB_iff.mpr c77
        simp (disch := omega) only [W_some, W_none, W_bind, W_ite, W_ocz, W_lt, eq, g3, q1, q2, xTw, xLw, xAw, xTp, xLp, xAp, xTc, xLc, xAc, xAn, xTn, xLn, xw1, xw2, xp1, xp2, xp3, mw1, mw2, xn1, xn2, xc1, xc2, g77, c77, qc, o_le, o_leL, o_leR, o_lt, o_ltL, o_ltR, o_eq, o_eqL, o_eqR, o_cl, o_add, o_addL, o_addR, o_mul, o_mulL, o_mulR, o_sub, o_subR, o_0le, o_lt0, o_ixo, n1_eq, n1_eq', n1_lt, n1_le, n1_ge, n1_gt, n2_eq, n2_eq', n2_lt, n2_le, n2_ge, n2_gt, ↓reduceIte, ite_self, Nat.reduceEqDiff, Nat.reduceAdd, Nat.reduceMul, Nat.reduceSub, Nat.reduceLT, Nat.reduceLeDiff, Nat.not_lt_zero, Nat.zero_le, if_true, if_false, ite_true, ite_false, true_and, and_true, false_and, and_false, true_implies, false_implies, implies_true, not_true_eq_false, not_false_eq_true, eq_self, true_or, or_true, false_or, or_false, and_self, reduceCtorEq, forall_const]
        exact fin _ (by rw [cs, if_pos pf])
    · intro b j h1 h2
      show (mw p.2.2 60 22 p.1).1 b j = _
      rw [mw1, if_neg (by omega)]
    · show (mw p.2.2 60 22 p.1).1 60 22 = _
      rw [mw1, if_pos ⟨rfl, rfl⟩]
  refine Wo.mono w2 ?_
  intro q ⟨qo, qb, q22, qc, qn⟩
  rw [W_lt, W_some]
  refine ⟨qo.mw (by unfold Rcm; omega) _, ?_, ?_, ?_, ?_, ?_⟩
  · intro b j h1 h2
    rw [mw1, if_neg (by omega), qb b j h1 (by omega)]
    exact pb b j h1 h2
  · rw [mw1, if_pos ⟨rfl, rfl⟩]; exact qc
  · rw [mw1, if_neg (by omega), q22]; exact pc
  · intro c hc
    rw [mw1, if_neg (by omega)]
    exact qn c hc
  · intro m hm
    rw [mw1, if_neg (by omega), qb 79 m (by omega) (by omega)]
    exact pn m hm
set_option maxRecDepth 20000 in
set_option maxHeartbeats 4000000 in
theorem reachM_ok {X : XS} {M : MS} {T : Nat → Nat} {kc rc main : Nat} (h : RSc X M T kc rc) (hm : main < rc) : Wo (f_M_reach (Int32.ofNat main) M) (fun M' => RchM M kc rc main M') := by
  have hr := h.2.1
  have k1 := h.1.1
  have e1 := h.1.2.2.1
  have e2 := h.2.2.2.1
  obtain ⟨M1, x1, o1, s1, s2, s3⟩ := startM_ok (M := M) (main := main) (by omega)
  have pm : PM M kc rc main M1 := by
    refine ⟨o1, ?_, ?_, (s1 main (by omega)).mpr rfl, ?_, fun c hc => (s2 c hc).2⟩
    · intro m hm' hf
      have := (s1 m hm').mp hf
      omega
    · intro c hc hf
      exact absurd hf (s2 c hc).1
    · intro R Md C hcl
      refine ⟨?_, ?_, ?_⟩
      · intro m hm' hf
        rw [(s1 m hm').mp hf]
        exact hcl.1
      · intro c hc hf
        exact absurd hf (s2 c hc).1
      · intro n hn hf
        exact absurd hf (s3 n hn)
  obtain ⟨p, ep, pp, pc⟩ := whileM_ok h pm
  obtain ⟨p1, p2, p3, p4, p5, p6⟩ := pp
  obtain ⟨q, eq, qw⟩ := wantsM_ok h p1 p6
  obtain ⟨N, eN, n1, n2, n3, n4, n5, n6⟩ := numM_ok (M := q.2) k1 hr e1 e2 qw.1
  have hred : f_M_reach (Int32.ofNat main) M = some N := by
    unfold f_M_reach
    have : ∀ (g : MS → Option MS), ((lp (b2_M_reach (Int32.ofNat main)) 10000 ((0 : Int32), M)).bind fun x15 => ((lp (b32_M_reach) 10000 ((0 : Int32), x15.2)).bind fun x26 => ((lp (b60_M_reach) 10000 ((0 : Int32), x26.2)).bind fun x35 => g x35.2))) = g M1 := by
      intro g
      cases e0 : lp (b2_M_reach (Int32.ofNat main)) 10000 ((0 : Int32), M) with
      | none => rw [e0] at x1; cases x1
      | some a =>
        rw [e0] at x1
        simp only [Option.bind_some] at x1 ⊢
        cases e0' : lp b32_M_reach 10000 ((0 : Int32), a.2) with
        | none => rw [e0'] at x1; cases x1
        | some b =>
          rw [e0'] at x1
          simp only [Option.bind_some] at x1 ⊢
          cases e0'' : lp b60_M_reach 10000 ((0 : Int32), b.2) with
          | none => rw [e0''] at x1; cases x1
          | some c =>
            rw [e0''] at x1
            simp only [Option.bind_some] at x1 ⊢
            cases x1
            rfl
    rw [this (fun M1 => (lp (b81_M_reach) 10000 ((1 : Int32), M1)).bind fun x192 => ((lp (b225_M_reach) 10000 ((0 : Int32), x192.2)).bind fun x203 => ((lp (b258_M_reach) 10000 ((0 : Int32), (0 : Int32), x203.2)).bind fun x214 => (lt (mw x214.2.2 60 22 x214.1) fun M215 => ((lp (b309_M_reach) 10000 ((0 : Int32), (0 : Int32), M215)).bind fun x226 => (lt (mw x226.2.2 60 23 x226.1) fun M227 => some M227))))))]
    rw [ep]
    simp only [Option.bind_some]
    rw [eq]
    simp only [Option.bind_some]
    exact eN
  rw [hred, W_some]
  have fe : ∀ b j, 75 ≤ b → b ≤ 78 → (fm N b j ↔ fm q.2 b j) := by
    intro b j h1 h2
    unfold fm
    rw [n2 b j h1 h2]
  have fp : ∀ b j, b ≠ 77 → (fm q.2 b j ↔ fm p.2 b j) := by
    intro b j hb
    unfold fm
    rw [qw.2.1 b j hb]
  have f75 : fm N 75 = fm p.2 75 := funext fun j => propext ((fe 75 j (by omega) (by omega)).trans (fp 75 j (by decide)))
  have f76 : fm N 76 = fm p.2 76 := funext fun j => propext ((fe 76 j (by omega) (by omega)).trans (fp 76 j (by decide)))
  have f78 : fm N 78 = fm p.2 78 := funext fun j => propext ((fe 78 j (by omega) (by omega)).trans (fp 78 j (by decide)))
  have f77 : fm N 77 = fm q.2 77 := funext fun j => propext (fe 77 j (by omega) (by omega))
  have b75 : fmB N 75 = fmB q.2 75 := by funext j; unfold fmB; rw [n2 75 j (by omega) (by omega)]
  have b77 : fmB N 77 = fmB q.2 77 := by funext j; unfold fmB; rw [n2 77 j (by omega) (by omega)]
  refine ⟨n1, ?_, ?_, ?_, ?_, ?_, ?_, ?_, ?_, ?_, ?_⟩
  · rw [f75]; exact p2
  · rw [f75, f76, f78]; exact pc
  · intro R Md C hcl
    rw [f75, f76, f78]
    exact p5 R Md C hcl
  · rw [f77]; exact qw.2.2.1
  · rw [f75, f77]
    exact ⟨qw.2.2.2.2.1, qw.2.2.2.2.2.1⟩
  · rw [f75, f77]
    intro S hS c hc hf
    exact qw.2.2.2.2.2.2 S (fun c hc hf => absurd hf (p6 c hc)) hS.1 hS.2 c hc hf
  · rw [b77]; exact n3
  · rw [b75]; exact n4
  · rw [b77]; exact n5
  · rw [b75]; exact n6
/-- both sides have reached the same, with the same numbers -/
def Same (kc rc : Nat) (X : XS) (M : MS) : Prop := (∀ m, m < 24 → (fl X 17 m ↔ fm M 75 m)) ∧ (∀ m, m < 24 → fm M 75 m → m < rc) ∧ (∀ c, c < 10 → (fl X 15 c ↔ fm M 77 c)) ∧ (∀ c, c < 10 → fm M 77 c → c < kc) ∧
  X.1 14 0 = M.1 60 23 ∧ X.1 14 1 = M.1 60 22 ∧ (∀ c, c < 10 → fm M 77 c → X.1 20 c = M.1 80 c) ∧ (∀ m, m < 24 → fm M 75 m → X.1 21 m = M.1 79 m)
set_option maxRecDepth 20000 in
set_option maxHeartbeats 4000000 in
theorem cnt_ext {p : Nat → Bool} : ∀ (n k : Nat), n ≤ k → (∀ m, n ≤ m → m < k → ¬ p m = true) → cnt p k = cnt p n := by
  intro n k
  induction k with
  | zero =>
    intro h _
    have e : n = 0 := Nat.le_zero.mp h
    rw [e]
  | succ k ih =>
    intro h hp
    by_cases e : n = k + 1
    · subst e; rfl
    · have hn := hp k (by omega) (by omega)
      show cnt p k + (if p k = true then 1 else 0) = cnt p n
      rw [if_neg hn, ih (by omega) (fun m h1 h2 => hp m h1 (by omega))]
      rfl
set_option maxRecDepth 20000 in
set_option maxHeartbeats 4000000 in
theorem reach_same {M0 M : MS} {X : XS} {kc rc main : Nat} (hk : kc ≤ 10) (hr : rc ≤ 24) (hx : RchX M0 kc rc main X) (hm : RchM M0 kc rc main M) : Same kc rc X M := by
  obtain ⟨x1, x2, x3, x4, x5, x6, x7, x8, x9, x10⟩ := hx
  obtain ⟨m0, m1, m2, m3, m4, m5, m6, m7, m8, m9, m10⟩ := hm
  have r17 : ∀ m, m < 24 → (fl X 17 m ↔ fm M 75 m) := fun m h => ⟨(x3 _ _ _ m2).1 m h, (m3 _ _ _ x2).1 m h⟩
  have dd : ∀ c, Dir M0 kc rc (fl X 17) c ↔ Dir M0 kc rc (fm M 75) c := by
    intro c
    unfold Dir
    constructor
    · rintro ⟨m, h1, h2, h3⟩; exact ⟨m, h1, (r17 m (by omega)).mp h2, h3⟩
    · rintro ⟨m, h1, h2, h3⟩; exact ⟨m, h1, (r17 m (by omega)).mpr h2, h3⟩
  have de : Dir M0 kc rc (fl X 17) = Dir M0 kc rc (fm M 75) := funext fun c => propext (dd c)
  rw [de] at x5 x6
  have r15 : ∀ c, c < 10 → (fl X 15 c ↔ fm M 77 c) := fun c h => ⟨x6 _ m5 c h, m6 _ x5 c h⟩
  have bx : ∀ n, n ≤ 24 → cnt (flB X 17) n = cnt (fmB M 75) n := fun n hn => cnt_congr n (fun i hi => by rw [Bool.eq_iff_iff, flB_iff, fmB_iff]; exact r17 i (by omega))
  have bk : ∀ n, n ≤ 10 → cnt (flB X 15) n = cnt (fmB M 77) n := fun n hn => cnt_congr n (fun i hi => by rw [Bool.eq_iff_iff, flB_iff, fmB_iff]; exact r15 i (by omega))
  have c24 : cnt (fmB M 75) 24 = cnt (fmB M 75) rc := cnt_ext rc 24 hr (fun m h1 h2 hf => by have := m1 m h2 (fmB_iff.mp hf); omega)
  have c10 : cnt (fmB M 77) 10 = cnt (fmB M 77) kc := cnt_ext kc 10 hk (fun m h1 h2 hf => by have := m4 m h2 (fmB_iff.mp hf); omega)
  refine ⟨r17, m1, r15, m4, ?_, ?_, ?_, ?_⟩
  · rw [x7, bk 10 (by omega), c10, m7]
  · rw [x8, bx 24 (by omega), c24, m8]
  · intro c hc hf
    rw [x9 c hc ((r15 c hc).mpr hf), bk c (by omega), m9 c (m4 c hc hf)]
  · intro m hm' hf
    rw [x10 m hm' ((r17 m hm').mpr hf), bx m (by omega), m10 m (m1 m hm' hf)]
