/-! F8 -/
/-- where the reference writes as it comes to an instruction of method m -/
def Fcm (m a i : Nat) : Prop := (81 ≤ a ∧ a ≤ 85) ∨ (a = 88 ∧ 60 * m ≤ i ∧ i < 60 * m + 60) ∨ (a = 89 ∧ i = m)
set_option maxRecDepth 20000 in
set_option maxHeartbeats 4000000 in
theorem cmp_86 {M : MS} {i h : Nat} {sk g : Nat → Int32} (hi : i < 60) (hh : h ≤ 10) (h84 : ∀ k, k < h → M.1 84 (10 * i + k) = sk k) (hg : ∀ k, k < h → M.1 86 k = g k) : Wo (lp (b161_M_comeTo_86 (Int32.ofNat i) (Int32.ofNat h) M) 10000 ((1 : Int32), (0 : Int32))) (fun r => (r.1 = 1 ∧ sameK h sk g = true) ∨ (r.1 = 0 ∧ sameK h sk g = false)) := by
  have n10 : ¬ (1 : Int32) = 0 := by decide
  refine W_lp (fun s => ∃ k, k ≤ h ∧ s.2 = Int32.ofNat k ∧ ((s.1 = 1 ∧ ∀ j, j < k → sk j = g j) ∨ (s.1 = 0 ∧ sameK h sk g = false))) (fun s => h - s.2.toNatClampNeg) ?_ 10000 _ ⟨0, Nat.zero_le _, rfl, Or.inl ⟨rfl, fun j hj => absurd hj (Nat.not_lt_zero j)⟩⟩ (by show h - 0 < 10000; omega)
  intro s ⟨k, hk, es, hj⟩
  refine Wo.cps (fun Q hQ => ?_)
  unfold b161_M_comeTo_86
  rcases hj with ⟨s1, hj⟩ | ⟨s1, hj⟩
  case inr =>
    by_cases hl : h ≤ k
    · simp (disch := omega) only [W_some, W_none, W_bind, W_ite, W_ocz, W_lt, es, hl, o_le, o_leL, o_leR, o_lt, o_ltL, o_ltR, o_eq, o_eqL, o_eqR, o_cl, o_add, o_addL, o_addR, o_mul, o_mulL, o_mulR, o_sub, o_subR, o_0le, o_lt0, o_ixo, n1_eq, n1_eq', n1_lt, n1_le, n1_ge, n1_gt, n2_eq, n2_eq', n2_lt, n2_le, n2_ge, n2_gt, ↓reduceIte, ite_self, Nat.reduceEqDiff, Nat.reduceAdd, Nat.reduceMul, Nat.reduceSub, Nat.reduceLT, Nat.reduceLeDiff, Nat.not_lt_zero, Nat.zero_le, if_true, if_false, ite_true, ite_false, true_and, and_true, false_and, and_false, true_implies, false_implies, implies_true, not_true_eq_false, not_false_eq_true, eq_self, true_or, or_true, false_or, or_false, and_self, reduceCtorEq, forall_const]
      exact hQ _ (Or.inr ⟨s1, hj⟩)
    · simp (disch := omega) only [W_some, W_none, W_bind, W_ite, W_ocz, W_lt, es, hl, s1, o_le, o_leL, o_leR, o_lt, o_ltL, o_ltR, o_eq, o_eqL, o_eqR, o_cl, o_add, o_addL, o_addR, o_mul, o_mulL, o_mulR, o_sub, o_subR, o_0le, o_lt0, o_ixo, n1_eq, n1_eq', n1_lt, n1_le, n1_ge, n1_gt, n2_eq, n2_eq', n2_lt, n2_le, n2_ge, n2_gt, ↓reduceIte, ite_self, Nat.reduceEqDiff, Nat.reduceAdd, Nat.reduceMul, Nat.reduceSub, Nat.reduceLT, Nat.reduceLeDiff, Nat.not_lt_zero, Nat.zero_le, if_true, if_false, ite_true, ite_false, true_and, and_true, false_and, and_false, true_implies, false_implies, implies_true, not_true_eq_false, not_false_eq_true, eq_self, true_or, or_true, false_or, or_false, and_self, reduceCtorEq, forall_const]
      exact hQ _ (Or.inr ⟨rfl, hj⟩)
  by_cases hl : k < h
  · have q1 : ¬ h ≤ k := by omega
    have q2 : 10 * i + k < 600 := by omega
    have q3 : k < 16 := by omega
    have e84 := h84 k hl
    have eg := hg k hl
    by_cases c : sk k = g k
    · simp (disch := omega) only [W_some, W_none, W_bind, W_ite, W_ocz, W_lt, es, q1, s1, n10, q2, q3, o_le, o_leL, o_leR, o_lt, o_ltL, o_ltR, o_eq, o_eqL, o_eqR, o_cl, o_add, o_addL, o_addR, o_mul, o_mulL, o_mulR, o_sub, o_subR, o_0le, o_lt0, o_ixo, n1_eq, n1_eq', n1_lt, n1_le, n1_ge, n1_gt, n2_eq, n2_eq', n2_lt, n2_le, n2_ge, n2_gt, ↓reduceIte, ite_self, Nat.reduceEqDiff, Nat.reduceAdd, Nat.reduceMul, Nat.reduceSub, Nat.reduceLT, Nat.reduceLeDiff, Nat.not_lt_zero, Nat.zero_le, if_true, if_false, ite_true, ite_false, true_and, and_true, false_and, and_false, true_implies, false_implies, implies_true, not_true_eq_false, not_false_eq_true, eq_self, true_or, or_true, false_or, or_false, and_self, reduceCtorEq, forall_const]
      rw [e84, eg]
      refine ⟨fun h => absurd c h, fun _ => ?_⟩
      refine hQ _ ⟨⟨k + 1, by omega, rfl, Or.inl ⟨rfl, ?_⟩⟩, by simp (disch := omega) only [es, o_le, o_leL, o_leR, o_lt, o_ltL, o_ltR, o_eq, o_eqL, o_eqR, o_cl, o_add, o_addL, o_addR, o_mul, o_mulL, o_mulR, o_sub, o_subR, o_0le, o_lt0, o_ixo, n1_eq, n1_eq', n1_lt, n1_le, n1_ge, n1_gt, n2_eq, n2_eq', n2_lt, n2_le, n2_ge, n2_gt, ↓reduceIte, ite_self, Nat.reduceEqDiff, Nat.reduceAdd, Nat.reduceMul, Nat.reduceSub, Nat.reduceLT, Nat.reduceLeDiff, Nat.not_lt_zero, Nat.zero_le, if_true, if_false, ite_true, ite_false, true_and, and_true, false_and, and_false, true_implies, false_implies, implies_true, not_true_eq_false, not_false_eq_true, eq_self, true_or, or_true, false_or, or_false, and_self, reduceCtorEq, forall_const]; omega⟩
      intro j hj'
      by_cases ej : j = k
      · subst ej; exact c
      · exact hj j (by omega)
    · simp (disch := omega) only [W_some, W_none, W_bind, W_ite, W_ocz, W_lt, es, q1, s1, n10, q2, q3, o_le, o_leL, o_leR, o_lt, o_ltL, o_ltR, o_eq, o_eqL, o_eqR, o_cl, o_add, o_addL, o_addR, o_mul, o_mulL, o_mulR, o_sub, o_subR, o_0le, o_lt0, o_ixo, n1_eq, n1_eq', n1_lt, n1_le, n1_ge, n1_gt, n2_eq, n2_eq', n2_lt, n2_le, n2_ge, n2_gt, ↓reduceIte, ite_self, Nat.reduceEqDiff, Nat.reduceAdd, Nat.reduceMul, Nat.reduceSub, Nat.reduceLT, Nat.reduceLeDiff, Nat.not_lt_zero, Nat.zero_le, if_true, if_false, ite_true, ite_false, true_and, and_true, false_and, and_false, true_implies, false_implies, implies_true, not_true_eq_false, not_false_eq_true, eq_self, true_or, or_true, false_or, or_false, and_self, reduceCtorEq, forall_const]
      rw [e84, eg]
      refine ⟨fun _ => ?_, fun h => absurd c h⟩
      refine hQ _ ⟨⟨k + 1, by omega, rfl, Or.inr ⟨rfl, ?_⟩⟩, by simp (disch := omega) only [es, o_le, o_leL, o_leR, o_lt, o_ltL, o_ltR, o_eq, o_eqL, o_eqR, o_cl, o_add, o_addL, o_addR, o_mul, o_mulL, o_mulR, o_sub, o_subR, o_0le, o_lt0, o_ixo, n1_eq, n1_eq', n1_lt, n1_le, n1_ge, n1_gt, n2_eq, n2_eq', n2_lt, n2_le, n2_ge, n2_gt, ↓reduceIte, ite_self, Nat.reduceEqDiff, Nat.reduceAdd, Nat.reduceMul, Nat.reduceSub, Nat.reduceLT, Nat.reduceLeDiff, Nat.not_lt_zero, Nat.zero_le, if_true, if_false, ite_true, ite_false, true_and, and_true, false_and, and_false, true_implies, false_implies, implies_true, not_true_eq_false, not_false_eq_true, eq_self, true_or, or_true, false_or, or_false, and_self, reduceCtorEq, forall_const]; omega⟩
      rw [Bool.eq_false_iff]
      intro hc
      exact c (sameK_iff.mp hc k hl)
  · have ek : k = h := by omega
    subst ek
    simp (disch := omega) only [W_some, W_none, W_bind, W_ite, W_ocz, W_lt, es, Nat.le_refl, o_le, o_leL, o_leR, o_lt, o_ltL, o_ltR, o_eq, o_eqL, o_eqR, o_cl, o_add, o_addL, o_addR, o_mul, o_mulL, o_mulR, o_sub, o_subR, o_0le, o_lt0, o_ixo, n1_eq, n1_eq', n1_lt, n1_le, n1_ge, n1_gt, n2_eq, n2_eq', n2_lt, n2_le, n2_ge, n2_gt, ↓reduceIte, ite_self, Nat.reduceEqDiff, Nat.reduceAdd, Nat.reduceMul, Nat.reduceSub, Nat.reduceLT, Nat.reduceLeDiff, Nat.not_lt_zero, Nat.zero_le, if_true, if_false, ite_true, ite_false, true_and, and_true, false_and, and_false, true_implies, false_implies, implies_true, not_true_eq_false, not_false_eq_true, eq_self, true_or, or_true, false_or, or_false, and_self, reduceCtorEq, forall_const]
    exact hQ _ (Or.inl ⟨s1, sameK_iff.mpr hj⟩)
set_option maxRecDepth 20000 in
set_option maxHeartbeats 4000000 in
theorem mergeM_86 {M : MS} {S : FS} {m i : Nat} {l : Nat → Int32} {x : Int32 × Int32} (hx : x.1 = 1) (hS : FM M m S) (hi : i < 60) (hs : S.1 i = true) (hl : ∀ k, k < 12 → M.1 87 k = l k) : Wo (lp (b208_M_comeTo_86 (Int32.ofNat i) x) 10000 ((0 : Int32), M)) (fun p => MO (Fcm m) M p.2 ∧ FM p.2 m (S.1, updB S.2.1 i (S.2.1 i || chg (S.2.2.2.2.1 i) l), S.2.2.1, S.2.2.2.1, updN S.2.2.2.2.1 i (mrg (S.2.2.2.2.1 i) l), S.2.2.2.2.2)) := by
  obtain ⟨f1, f2, f3, f4⟩ := hS
  obtain ⟨b1, b2, b3, b4⟩ := f2 i hi hs
  have n10 : ¬ (1 : Int32) = 0 := by decide
  have w : Wo (lp (b208_M_comeTo_86 (Int32.ofNat i) x) 10000 ((0 : Int32), M)) (fun p => (p.2.2 = M.2 ∧ ∀ a j, (a ≠ 85 ∧ (a ≠ 82 ∨ j ≠ i)) → p.2.1 a j = M.1 a j) ∧ (∀ k, k < 12 → p.2.1 85 (12 * i + k) = mrg (S.2.2.2.2.1 i) l k) ∧ (∀ j, (j < 12 * i ∨ 12 * i + 12 ≤ j) → p.2.1 85 j = M.1 85 j) ∧ (fm p.2 82 i ↔ fm M 82 i ∨ ∃ k, k < 12 ∧ ¬ S.2.2.2.2.1 i k = 0 ∧ ¬ S.2.2.2.2.1 i k = l k)) := by
    refine W_lp (fun p => ∃ k, k ≤ 12 ∧ p.1 = Int32.ofNat k ∧ (p.2.2 = M.2 ∧ ∀ a j, (a ≠ 85 ∧ (a ≠ 82 ∨ j ≠ i)) → p.2.1 a j = M.1 a j) ∧ (∀ j, j < k → p.2.1 85 (12 * i + j) = mrg (S.2.2.2.2.1 i) l j) ∧ (∀ j, (j < 12 * i ∨ 12 * i + k ≤ j) → p.2.1 85 j = M.1 85 j) ∧ (fm p.2 82 i ↔ fm M 82 i ∨ ∃ j, j < k ∧ ¬ S.2.2.2.2.1 i j = 0 ∧ ¬ S.2.2.2.2.1 i j = l j)) (fun p => 12 - p.1.toNatClampNeg) ?_ 10000 _ ⟨0, by omega, rfl, ⟨rfl, fun _ _ _ => rfl⟩, fun j hj => absurd hj (Nat.not_lt_zero j), fun _ _ => rfl, ⟨Or.inl, fun h => h.elim id (fun ⟨j, hj, _⟩ => absurd hj (Nat.not_lt_zero j))⟩⟩ (by show 12 - 0 < 10000; omega)
    intro p ⟨k, hk, ep, po, pm, pr, pf⟩
    refine Wo.cps (fun Q hQ => ?_)
    unfold b208_M_comeTo_86
    by_cases hl12 : k < 12
    case neg =>
      have ek : k = 12 := by omega
      subst ek
      simp (disch := omega) only [W_some, W_none, W_bind, W_ite, W_ocz, W_lt, ep, Nat.le_refl, o_le, o_leL, o_leR, o_lt, o_ltL, o_ltR, o_eq, o_eqL, o_eqR, o_cl, o_add, o_addL, o_addR, o_mul, o_mulL, o_mulR, o_sub, o_subR, o_0le, o_lt0, o_ixo, n1_eq, n1_eq', n1_lt, n1_le, n1_ge, n1_gt, n2_eq, n2_eq', n2_lt, n2_le, n2_ge, n2_gt, ↓reduceIte, ite_self, Nat.reduceEqDiff, Nat.reduceAdd, Nat.reduceMul, Nat.reduceSub, Nat.reduceLT, Nat.reduceLeDiff, Nat.not_lt_zero, Nat.zero_le, if_true, if_false, ite_true, ite_false, true_and, and_true, false_and, and_false, true_implies, false_implies, implies_true, not_true_eq_false, not_false_eq_true, eq_self, true_or, or_true, false_or, or_false, and_self, reduceCtorEq, forall_const]
      exact hQ _ ⟨po, pm, pr, pf⟩
    have q1 : ¬ 12 ≤ k := by omega
    have q2 : 12 * i + k < 720 := by omega
    have cur : p.2.1 85 (12 * i + k) = S.2.2.2.2.1 i k := by rw [pr _ (by omega)]; exact b4 k hl12
    have lc : p.2.1 87 k = l k := by rw [po.2 87 k (by omega)]; exact hl k hl12
    have stay : (¬ (¬ S.2.2.2.2.1 i k = 0 ∧ ¬ S.2.2.2.2.1 i k = l k)) → Q (.inl (Int32.ofNat (k + 1), p.2)) := by
      intro hn
      refine hQ _ ⟨⟨k + 1, by omega, rfl, po, ?_, fun j hj => pr j (by omega), ?_⟩, by simp (disch := omega) only [ep, o_le, o_leL, o_leR, o_lt, o_ltL, o_ltR, o_eq, o_eqL, o_eqR, o_cl, o_add, o_addL, o_addR, o_mul, o_mulL, o_mulR, o_sub, o_subR, o_0le, o_lt0, o_ixo, n1_eq, n1_eq', n1_lt, n1_le, n1_ge, n1_gt, n2_eq, n2_eq', n2_lt, n2_le, n2_ge, n2_gt, ↓reduceIte, ite_self, Nat.reduceEqDiff, Nat.reduceAdd, Nat.reduceMul, Nat.reduceSub, Nat.reduceLT, Nat.reduceLeDiff, Nat.not_lt_zero, Nat.zero_le, if_true, if_false, ite_true, ite_false, true_and, and_true, false_and, and_false, true_implies, false_implies, implies_true, not_true_eq_false, not_false_eq_true, eq_self, true_or, or_true, false_or, or_false, and_self, reduceCtorEq, forall_const]; omega⟩
      · intro j hj
        by_cases ej : j = k
        · subst ej
          rw [cur]
          unfold mrg
          rw [if_neg (fun q => hn q.2)]
        · exact pm j (by omega)
      · rw [pf, ex_succ]
        constructor
        · rintro (h | h)
          · exact Or.inl h
          · exact Or.inr (Or.inl h)
        · rintro (h | h | h)
          · exact Or.inl h
          · exact Or.inr h
          · exact absurd h hn
    by_cases c0 : S.2.2.2.2.1 i k = 0
    · simp (disch := omega) only [W_some, W_none, W_bind, W_ite, W_ocz, W_lt, ep, q1, hx, n10, q2, cur, c0, o_le, o_leL, o_leR, o_lt, o_ltL, o_ltR, o_eq, o_eqL, o_eqR, o_cl, o_add, o_addL, o_addR, o_mul, o_mulL, o_mulR, o_sub, o_subR, o_0le, o_lt0, o_ixo, n1_eq, n1_eq', n1_lt, n1_le, n1_ge, n1_gt, n2_eq, n2_eq', n2_lt, n2_le, n2_ge, n2_gt, ↓reduceIte, ite_self, Nat.reduceEqDiff, Nat.reduceAdd, Nat.reduceMul, Nat.reduceSub, Nat.reduceLT, Nat.reduceLeDiff, Nat.not_lt_zero, Nat.zero_le, if_true, if_false, ite_true, ite_false, true_and, and_true, false_and, and_false, true_implies, false_implies, implies_true, not_true_eq_false, not_false_eq_true, eq_self, true_or, or_true, false_or, or_false, and_self, reduceCtorEq, forall_const]
      exact stay (fun h => h.1 c0)
    by_cases c1 : S.2.2.2.2.1 i k = l k
    · simp (disch := omega) only [W_some, W_none, W_bind, W_ite, W_ocz, W_lt, ep, q1, hx, n10, q2, cur, c0, hl12, lc, o_le, o_leL, o_leR, o_lt, o_ltL, o_ltR, o_eq, o_eqL, o_eqR, o_cl, o_add, o_addL, o_addR, o_mul, o_mulL, o_mulR, o_sub, o_subR, o_0le, o_lt0, o_ixo, n1_eq, n1_eq', n1_lt, n1_le, n1_ge, n1_gt, n2_eq, n2_eq', n2_lt, n2_le, n2_ge, n2_gt, ↓reduceIte, ite_self, Nat.reduceEqDiff, Nat.reduceAdd, Nat.reduceMul, Nat.reduceSub, Nat.reduceLT, Nat.reduceLeDiff, Nat.not_lt_zero, Nat.zero_le, if_true, if_false, ite_true, ite_false, true_and, and_true, false_and, and_false, true_implies, false_implies, implies_true, not_true_eq_false, not_false_eq_true, eq_self, true_or, or_true, false_or, or_false, and_self, reduceCtorEq, forall_const]
      exact ⟨fun _ => stay (fun h => h.2 c1), fun h => absurd c1 h⟩
    · simp (disch := omega) only [W_some, W_none, W_bind, W_ite, W_ocz, W_lt, ep, q1, hx, n10, q2, cur, c0, hl12, lc, c1, hi, o_le, o_leL, o_leR, o_lt, o_ltL, o_ltR, o_eq, o_eqL, o_eqR, o_cl, o_add, o_addL, o_addR, o_mul, o_mulL, o_mulR, o_sub, o_subR, o_0le, o_lt0, o_ixo, n1_eq, n1_eq', n1_lt, n1_le, n1_ge, n1_gt, n2_eq, n2_eq', n2_lt, n2_le, n2_ge, n2_gt, ↓reduceIte, ite_self, Nat.reduceEqDiff, Nat.reduceAdd, Nat.reduceMul, Nat.reduceSub, Nat.reduceLT, Nat.reduceLeDiff, Nat.not_lt_zero, Nat.zero_le, if_true, if_false, ite_true, ite_false, true_and, and_true, false_and, and_false, true_implies, false_implies, implies_true, not_true_eq_false, not_false_eq_true, eq_self, true_or, or_true, false_or, or_false, and_self, reduceCtorEq, forall_const]
      refine hQ _ ⟨⟨k + 1, by omega, rfl, ⟨po.1, ?_⟩, ?_, ?_, ?_⟩, by simp (disch := omega) only [ep, o_le, o_leL, o_leR, o_lt, o_ltL, o_ltR, o_eq, o_eqL, o_eqR, o_cl, o_add, o_addL, o_addR, o_mul, o_mulL, o_mulR, o_sub, o_subR, o_0le, o_lt0, o_ixo, n1_eq, n1_eq', n1_lt, n1_le, n1_ge, n1_gt, n2_eq, n2_eq', n2_lt, n2_le, n2_ge, n2_gt, ↓reduceIte, ite_self, Nat.reduceEqDiff, Nat.reduceAdd, Nat.reduceMul, Nat.reduceSub, Nat.reduceLT, Nat.reduceLeDiff, Nat.not_lt_zero, Nat.zero_le, if_true, if_false, ite_true, ite_false, true_and, and_true, false_and, and_false, true_implies, false_implies, implies_true, not_true_eq_false, not_false_eq_true, eq_self, true_or, or_true, false_or, or_false, and_self, reduceCtorEq, forall_const]; omega⟩
      · intro a j ha
        rw [mw1, if_neg (by omega), mw1, if_neg (by omega)]
        exact po.2 a j ha
      · intro j hj
        rw [mw1, if_neg (by omega), mw1]
        by_cases ej : j = k
        · subst ej
          rw [if_pos ⟨rfl, rfl⟩]
          unfold mrg
          rw [if_pos ⟨hl12, c0, c1⟩]
        · rw [if_neg (by omega)]
          exact pm j (by omega)
      · intro j hj
        rw [mw1, if_neg (by omega), mw1, if_neg (by omega)]
        exact pr j (by omega)
      · rw [fm_set, ex_succ]
        constructor
        · intro _; exact Or.inr (Or.inr ⟨c0, c1⟩)
        · intro _; exact Or.inr ⟨rfl, rfl⟩
  refine Wo.mono w ?_
  intro p ⟨po, pm, pr, pf⟩
  refine ⟨⟨po.1, fun a j ha => po.2 a j (by unfold Fcm at ha; omega)⟩, ?_, ?_, ?_, f4⟩
  · intro j hj
    obtain ⟨z1, z2, z3⟩ := f1 j hj
    refine ⟨?_, ?_, ?_⟩
    · unfold fm at z1 ⊢
      rw [po.2 81 j (by omega)]; exact z1
    · show fm p.2 82 j ↔ updB S.2.1 i _ j = true
      unfold updB
      by_cases ej : j = i
      · subst ej
        rw [if_pos rfl, pf, Bool.or_eq_true, chg_iff, z2]
      · rw [if_neg ej]
        unfold fm at z2 ⊢
        rw [po.2 82 j (by omega)]; exact z2
    · unfold fm at z3 ⊢
      rw [po.2 88 _ (by omega)]; exact z3
  · intro j hj hsj
    obtain ⟨z1, z2, z3, z4⟩ := f2 j hj hsj
    refine ⟨z1, ?_, ?_, ?_⟩
    · rw [po.2 83 j (by omega)]; exact z2
    · intro k hk
      rw [po.2 84 _ (by omega)]; exact z3 k hk
    · intro k hk
      show p.2.1 85 (12 * j + k) = updN S.2.2.2.2.1 i _ j k
      unfold updN
      by_cases ej : j = i
      · subst ej
        rw [if_pos rfl]
        exact pm k hk
      · rw [if_neg ej, pr _ (by omega)]
        exact z4 k hk
  · rw [po.2 89 m (by omega)]; exact f3
set_option maxRecDepth 20000 in
set_option maxHeartbeats 4000000 in
theorem cpS_86 {M : MS} {i h : Nat} {g : Nat → Int32} (hi : i < 60) (hh : h ≤ 10) (hg : ∀ k, k < h → M.1 86 k = g k) : Wo (lp (b74_M_comeTo_86 (Int32.ofNat i) (Int32.ofNat h)) 10000 ((0 : Int32), M)) (fun p => p.2.2 = M.2 ∧ (∀ a j, (a ≠ 84 ∨ j < 10 * i ∨ 10 * i + 10 ≤ j) → p.2.1 a j = M.1 a j) ∧ ∀ k, k < h → p.2.1 84 (10 * i + k) = g k) := by
  refine W_lp (fun p => ∃ k, k ≤ h ∧ p.1 = Int32.ofNat k ∧ p.2.2 = M.2 ∧ (∀ a j, (a ≠ 84 ∨ j < 10 * i ∨ 10 * i + 10 ≤ j) → p.2.1 a j = M.1 a j) ∧ ∀ j, j < k → p.2.1 84 (10 * i + j) = g j) (fun p => h - p.1.toNatClampNeg) ?_ 10000 _ ⟨0, Nat.zero_le _, rfl, rfl, fun _ _ _ => rfl, fun j hj => absurd hj (Nat.not_lt_zero j)⟩ (by show h - 0 < 10000; omega)
  intro p ⟨k, hk, ep, p2, po, pg⟩
  refine Wo.cps (fun Q hQ => ?_)
  unfold b74_M_comeTo_86
  by_cases hl : k < h
  · have q1 : ¬ h ≤ k := by omega
    have q2 : 10 * i + k < 600 := by omega
    have q3 : k < 16 := by omega
    have eg : p.2.1 86 k = g k := by rw [po 86 k (by omega)]; exact hg k hl
    simp (disch := omega) only [W_some, W_none, W_bind, W_ite, W_ocz, W_lt, ep, q1, q2, q3, eg, o_le, o_leL, o_leR, o_lt, o_ltL, o_ltR, o_eq, o_eqL, o_eqR, o_cl, o_add, o_addL, o_addR, o_mul, o_mulL, o_mulR, o_sub, o_subR, o_0le, o_lt0, o_ixo, n1_eq, n1_eq', n1_lt, n1_le, n1_ge, n1_gt, n2_eq, n2_eq', n2_lt, n2_le, n2_ge, n2_gt, ↓reduceIte, ite_self, Nat.reduceEqDiff, Nat.reduceAdd, Nat.reduceMul, Nat.reduceSub, Nat.reduceLT, Nat.reduceLeDiff, Nat.not_lt_zero, Nat.zero_le, if_true, if_false, ite_true, ite_false, true_and, and_true, false_and, and_false, true_implies, false_implies, implies_true, not_true_eq_false, not_false_eq_true, eq_self, true_or, or_true, false_or, or_false, and_self, reduceCtorEq, forall_const]
    refine hQ _ ⟨⟨k + 1, by omega, rfl, p2, ?_, ?_⟩, by simp (disch := omega) only [ep, o_le, o_leL, o_leR, o_lt, o_ltL, o_ltR, o_eq, o_eqL, o_eqR, o_cl, o_add, o_addL, o_addR, o_mul, o_mulL, o_mulR, o_sub, o_subR, o_0le, o_lt0, o_ixo, n1_eq, n1_eq', n1_lt, n1_le, n1_ge, n1_gt, n2_eq, n2_eq', n2_lt, n2_le, n2_ge, n2_gt, ↓reduceIte, ite_self, Nat.reduceEqDiff, Nat.reduceAdd, Nat.reduceMul, Nat.reduceSub, Nat.reduceLT, Nat.reduceLeDiff, Nat.not_lt_zero, Nat.zero_le, if_true, if_false, ite_true, ite_false, true_and, and_true, false_and, and_false, true_implies, false_implies, implies_true, not_true_eq_false, not_false_eq_true, eq_self, true_or, or_true, false_or, or_false, and_self, reduceCtorEq, forall_const]; omega⟩
    · intro a j ha
      rw [mw1, if_neg (by omega)]
      exact po a j ha
    · intro j hj
      rw [mw1]
      by_cases ej : j = k
      · subst ej
        rw [if_pos ⟨rfl, rfl⟩]
      · rw [if_neg (by omega)]
        exact pg j (by omega)
  · have ek : k = h := by omega
    subst ek
    simp (disch := omega) only [W_some, W_none, W_bind, W_ite, W_ocz, W_lt, ep, Nat.le_refl, o_le, o_leL, o_leR, o_lt, o_ltL, o_ltR, o_eq, o_eqL, o_eqR, o_cl, o_add, o_addL, o_addR, o_mul, o_mulL, o_mulR, o_sub, o_subR, o_0le, o_lt0, o_ixo, n1_eq, n1_eq', n1_lt, n1_le, n1_ge, n1_gt, n2_eq, n2_eq', n2_lt, n2_le, n2_ge, n2_gt, ↓reduceIte, ite_self, Nat.reduceEqDiff, Nat.reduceAdd, Nat.reduceMul, Nat.reduceSub, Nat.reduceLT, Nat.reduceLeDiff, Nat.not_lt_zero, Nat.zero_le, if_true, if_false, ite_true, ite_false, true_and, and_true, false_and, and_false, true_implies, false_implies, implies_true, not_true_eq_false, not_false_eq_true, eq_self, true_or, or_true, false_or, or_false, and_self, reduceCtorEq, forall_const]
    exact hQ _ ⟨p2, po, pg⟩
set_option maxRecDepth 20000 in
set_option maxHeartbeats 4000000 in
theorem cpL_86 {M : MS} {i : Nat} {l : Nat → Int32} (hi : i < 60) (hg : ∀ k, k < 12 → M.1 87 k = l k) : Wo (lp (b106_M_comeTo_86 (Int32.ofNat i)) 10000 ((0 : Int32), M)) (fun p => p.2.2 = M.2 ∧ (∀ a j, (a ≠ 85 ∨ j < 12 * i ∨ 12 * i + 12 ≤ j) → p.2.1 a j = M.1 a j) ∧ ∀ k, k < 12 → p.2.1 85 (12 * i + k) = l k) := by
  refine W_lp (fun p => ∃ k, k ≤ 12 ∧ p.1 = Int32.ofNat k ∧ p.2.2 = M.2 ∧ (∀ a j, (a ≠ 85 ∨ j < 12 * i ∨ 12 * i + 12 ≤ j) → p.2.1 a j = M.1 a j) ∧ ∀ j, j < k → p.2.1 85 (12 * i + j) = l j) (fun p => 12 - p.1.toNatClampNeg) ?_ 10000 _ ⟨0, Nat.zero_le _, rfl, rfl, fun _ _ _ => rfl, fun j hj => absurd hj (Nat.not_lt_zero j)⟩ (by show 12 - 0 < 10000; omega)
  intro p ⟨k, hk, ep, p2, po, pg⟩
  refine Wo.cps (fun Q hQ => ?_)
  unfold b106_M_comeTo_86
  by_cases hl : k < 12
  · have q1 : ¬ 12 ≤ k := by omega
    have q2 : 12 * i + k < 720 := by omega
    have eg : p.2.1 87 k = l k := by rw [po 87 k (by omega)]; exact hg k hl
    simp (disch := omega) only [W_some, W_none, W_bind, W_ite, W_ocz, W_lt, ep, q1, q2, hl, eg, o_le, o_leL, o_leR, o_lt, o_ltL, o_ltR, o_eq, o_eqL, o_eqR, o_cl, o_add, o_addL, o_addR, o_mul, o_mulL, o_mulR, o_sub, o_subR, o_0le, o_lt0, o_ixo, n1_eq, n1_eq', n1_lt, n1_le, n1_ge, n1_gt, n2_eq, n2_eq', n2_lt, n2_le, n2_ge, n2_gt, ↓reduceIte, ite_self, Nat.reduceEqDiff, Nat.reduceAdd, Nat.reduceMul, Nat.reduceSub, Nat.reduceLT, Nat.reduceLeDiff, Nat.not_lt_zero, Nat.zero_le, if_true, if_false, ite_true, ite_false, true_and, and_true, false_and, and_false, true_implies, false_implies, implies_true, not_true_eq_false, not_false_eq_true, eq_self, true_or, or_true, false_or, or_false, and_self, reduceCtorEq, forall_const]
    refine hQ _ ⟨⟨k + 1, by omega, rfl, p2, ?_, ?_⟩, by simp (disch := omega) only [ep, o_le, o_leL, o_leR, o_lt, o_ltL, o_ltR, o_eq, o_eqL, o_eqR, o_cl, o_add, o_addL, o_addR, o_mul, o_mulL, o_mulR, o_sub, o_subR, o_0le, o_lt0, o_ixo, n1_eq, n1_eq', n1_lt, n1_le, n1_ge, n1_gt, n2_eq, n2_eq', n2_lt, n2_le, n2_ge, n2_gt, ↓reduceIte, ite_self, Nat.reduceEqDiff, Nat.reduceAdd, Nat.reduceMul, Nat.reduceSub, Nat.reduceLT, Nat.reduceLeDiff, Nat.not_lt_zero, Nat.zero_le, if_true, if_false, ite_true, ite_false, true_and, and_true, false_and, and_false, true_implies, false_implies, implies_true, not_true_eq_false, not_false_eq_true, eq_self, true_or, or_true, false_or, or_false, and_self, reduceCtorEq, forall_const]; omega⟩
    · intro a j ha
      rw [mw1, if_neg (by omega)]
      exact po a j ha
    · intro j hj
      rw [mw1]
      by_cases ej : j = k
      · subst ej
        rw [if_pos ⟨rfl, rfl⟩]
      · rw [if_neg (by omega)]
        exact pg j (by omega)
  · have ek : k = 12 := by omega
    subst ek
    simp (disch := omega) only [W_some, W_none, W_bind, W_ite, W_ocz, W_lt, ep, Nat.le_refl, o_le, o_leL, o_leR, o_lt, o_ltL, o_ltR, o_eq, o_eqL, o_eqR, o_cl, o_add, o_addL, o_addR, o_mul, o_mulL, o_mulR, o_sub, o_subR, o_0le, o_lt0, o_ixo, n1_eq, n1_eq', n1_lt, n1_le, n1_ge, n1_gt, n2_eq, n2_eq', n2_lt, n2_le, n2_ge, n2_gt, ↓reduceIte, ite_self, Nat.reduceEqDiff, Nat.reduceAdd, Nat.reduceMul, Nat.reduceSub, Nat.reduceLT, Nat.reduceLeDiff, Nat.not_lt_zero, Nat.zero_le, if_true, if_false, ite_true, ite_false, true_and, and_true, false_and, and_false, true_implies, false_implies, implies_true, not_true_eq_false, not_false_eq_true, eq_self, true_or, or_true, false_or, or_false, and_self, reduceCtorEq, forall_const]
    exact hQ _ ⟨p2, po, pg⟩
set_option maxRecDepth 20000 in
set_option maxHeartbeats 4000000 in
theorem comeM_86 {M : MS} {S : FS} {m i h : Nat} {g l : Nat → Int32} (hm : m < 24) (hS : FM M m S) (hi : i < 60) (hh : h ≤ 10) (hg : ∀ k, k < h → M.1 86 k = g k) (hl : ∀ k, k < 12 → M.1 87 k = l k) : ∃ b M', f_M_comeTo_86 (Int32.ofNat m) (Int32.ofNat i) (Int32.ofNat h) M = some (b, M') ∧ MO (Fcm m) M M' ∧ ((come S i g h l = none ∧ b = false) ∨ ∃ S', come S i g h l = some S' ∧ b = true ∧ FM M' m S') := by
  have hS0 := hS
  obtain ⟨f1, f2, f3, f4⟩ := hS
  have n10 : ¬ (0 : Int32) = 1 := by decide
  unfold f_M_comeTo_86 come
  obtain ⟨z1, z2, z3⟩ := f1 i hi
  by_cases cs : S.1 i = false
  · have n81 : M.1 81 i = 0 := by
      apply Classical.byContradiction
      intro hc
      rw [z1.mp hc] at cs
      cases cs
    have q88 : 60 * m + i < 1440 := by omega
    have mx : ((if S.2.2.2.2.2 ≥ h then some (Int32.ofNat S.2.2.2.2.2) else some (Int32.ofNat h)) : Option Int32) = some (Int32.ofNat (max S.2.2.2.2.2 h)) := by
      by_cases q : h ≤ S.2.2.2.2.2
      · rw [if_pos q]; congr 2; omega
      · rw [if_neg q]; congr 2; omega
    generalize hN : mw (mw (mw (mw (mw M 81 i 1) 82 i 1) 88 (60 * m + i) 1) 83 i (Int32.ofNat h)) 89 m (Int32.ofNat (max S.2.2.2.2.2 h)) = N
    have nN : ∀ a j, ((a ≠ 81 ∧ a ≠ 82 ∧ a ≠ 83) ∨ j ≠ i) → (a ≠ 88 ∨ j ≠ 60 * m + i) → (a ≠ 89 ∨ j ≠ m) → N.1 a j = M.1 a j := by
      intro a j h1 h2 h3
      rw [← hN]
      simp only [mw1]
      rw [if_neg (by omega), if_neg (by omega), if_neg (by omega), if_neg (by omega), if_neg (by omega)]
    have v81 : N.1 81 i = 1 ∧ N.1 82 i = 1 ∧ N.1 83 i = Int32.ofNat h ∧ N.1 88 (60 * m + i) = 1 ∧ N.1 89 m = Int32.ofNat (max S.2.2.2.2.2 h) := by
      rw [← hN]
      simp only [mw1]
      simp
    obtain ⟨p, ep, p2, po, pg⟩ := cpS_86 (M := N) (g := g) hi hh (fun k hk => by rw [nN 86 k (by omega) (by omega) (by omega)]; exact hg k hk)
    obtain ⟨q, eq, q2, qo, qg⟩ := cpL_86 (M := p.2) (l := l) hi (fun k hk => by rw [po 87 k (by omega), nN 87 k (by omega) (by omega) (by omega)]; exact hl k hk)
    have rq : ∀ a j, ((a ≠ 81 ∧ a ≠ 82 ∧ a ≠ 83) ∨ j ≠ i) → (a ≠ 88 ∨ j ≠ 60 * m + i) → (a ≠ 89 ∨ j ≠ m) → (a ≠ 84 ∨ j < 10 * i ∨ 10 * i + 10 ≤ j) → (a ≠ 85 ∨ j < 12 * i ∨ 12 * i + 12 ≤ j) → q.2.1 a j = M.1 a j := by
      intro a j h1 h2 h3 h4 h5
      rw [qo a j h5, po a j h4, nN a j h1 h2 h3]
    refine ⟨true, q.2, ?_, ⟨?_, ?_⟩, Or.inr ⟨_, by rw [if_pos cs], rfl, ?_, ?_, ?_, by show max S.2.2.2.2.2 h ≤ 10; omega⟩⟩
    · simp (disch := omega) only [hi, n81, lt, q88, hm, xTw, xLw, xAw, xTp, xLp, xAp, xTc, xLc, xAc, xAn, xTn, xLn, xw1, xw2, xp1, xp2, xp3, mw1, mw2, xn1, xn2, xc1, xc2, f3, o_le, o_leL, o_leR, o_lt, o_ltL, o_ltR, o_eq, o_eqL, o_eqR, o_cl, o_add, o_addL, o_addR, o_mul, o_mulL, o_mulR, o_sub, o_subR, o_0le, o_lt0, o_ixo, n1_eq, n1_eq', n1_lt, n1_le, n1_ge, n1_gt, n2_eq, n2_eq', n2_lt, n2_le, n2_ge, n2_gt, ↓reduceIte, ite_self, Nat.reduceEqDiff, Nat.reduceAdd, Nat.reduceMul, Nat.reduceSub, Nat.reduceLT, Nat.reduceLeDiff, Nat.not_lt_zero, Nat.zero_le, if_true, if_false, ite_true, ite_false, true_and, and_true, false_and, and_false, true_implies, false_implies, implies_true, not_true_eq_false, not_false_eq_true, eq_self, true_or, or_true, false_or, or_false, and_self, reduceCtorEq, forall_const]
      rw [show (if h ≤ S.2.2.2.2.2 then some (Int32.ofNat S.2.2.2.2.2) else some (Int32.ofNat h)) = some (Int32.ofNat (max S.2.2.2.2.2 h)) from mx]
      simp only [Option.bind_some]
      rw [hN, ep]
      simp only [Option.bind_some]
      rw [eq]
      rfl
    · rw [q2, p2, ← hN]
      rfl
    · intro a j ha
      unfold Fcm at ha
      exact rq a j (by omega) (by omega) (by omega) (by omega) (by omega)
    · intro j hj
      obtain ⟨y1, y2, y3⟩ := f1 j hj
      by_cases ej : j = i
      · subst ej
        have e81 : q.2.1 81 j = 1 := by rw [qo 81 j (by omega), po 81 j (by omega)]; exact v81.1
        have e82 : q.2.1 82 j = 1 := by rw [qo 82 j (by omega), po 82 j (by omega)]; exact v81.2.1
        have e88 : q.2.1 88 (60 * m + j) = 1 := by rw [qo 88 _ (by omega), po 88 _ (by omega)]; exact v81.2.2.2.1
        unfold fm updB
        rw [e81, e82, e88]
        simp
      · have e81 : q.2.1 81 j = M.1 81 j := rq 81 j (by omega) (by omega) (by omega) (by omega) (by omega)
        have e82 : q.2.1 82 j = M.1 82 j := rq 82 j (by omega) (by omega) (by omega) (by omega) (by omega)
        have e88 : q.2.1 88 (60 * m + j) = M.1 88 (60 * m + j) := rq 88 _ (by omega) (by omega) (by omega) (by omega) (by omega)
        unfold fm updB at *
        rw [e81, e82, e88]
        dsimp only
        rw [if_neg ej, if_neg ej]
        exact ⟨y1, y2, y3⟩
    · intro j hj hsj
      by_cases ej : j = i
      · subst ej
        show updN S.2.2.1 j h j ≤ 10 ∧ q.2.1 83 j = Int32.ofNat (updN S.2.2.1 j h j) ∧ (∀ k, k < updN S.2.2.1 j h j → q.2.1 84 (10 * j + k) = updN S.2.2.2.1 j g j k) ∧ ∀ k, k < 12 → q.2.1 85 (12 * j + k) = updN S.2.2.2.2.1 j l j k
        unfold updN
        rw [if_pos rfl, if_pos rfl, if_pos rfl]
        refine ⟨hh, ?_, ?_, qg⟩
        · rw [qo 83 j (by omega), po 83 j (by omega)]; exact v81.2.2.1
        · intro k hk
          rw [qo 84 _ (by omega)]
          exact pg k hk
      · have hsj' : S.1 j = true := by
          have hsj2 : updB S.1 i true j = true := hsj
          unfold updB at hsj2
          rw [if_neg ej] at hsj2
          exact hsj2
        obtain ⟨y1, y2, y3, y4⟩ := f2 j hj hsj'
        show updN S.2.2.1 i h j ≤ 10 ∧ q.2.1 83 j = Int32.ofNat (updN S.2.2.1 i h j) ∧ (∀ k, k < updN S.2.2.1 i h j → q.2.1 84 (10 * j + k) = updN S.2.2.2.1 i g j k) ∧ ∀ k, k < 12 → q.2.1 85 (12 * j + k) = updN S.2.2.2.2.1 i l j k
        unfold updN
        rw [if_neg ej, if_neg ej, if_neg ej]
        refine ⟨y1, ?_, ?_, ?_⟩
        · rw [rq 83 j (by omega) (by omega) (by omega) (by omega) (by omega)]; exact y2
        · intro k hk
          rw [rq 84 _ (by omega) (by omega) (by omega) (by omega) (by omega)]; exact y3 k hk
        · intro k hk
          rw [rq 85 _ (by omega) (by omega) (by omega) (by omega) (by omega)]; exact y4 k hk
    · rw [qo 89 m (by omega), po 89 m (by omega)]
      exact v81.2.2.2.2
  · have hs : S.1 i = true := by cases e : S.1 i with | false => exact absurd e cs | true => rfl
    have n81 : ¬ M.1 81 i = 0 := z1.mpr hs
    obtain ⟨b1, b2, b3, b4⟩ := f2 i hi hs
    rw [if_neg cs]
    by_cases ch : S.2.2.1 i = h
    · rw [ch] at b2 b3
      obtain ⟨r, er, hr⟩ := cmp_86 (sk := S.2.2.2.1 i) (g := g) hi hh b3 hg
      rcases hr with ⟨r1, r2⟩ | ⟨r1, r2⟩
      · obtain ⟨p, ep, po, pf⟩ := mergeM_86 (x := r) r1 hS0 hi hs hl
        have ep' : lp (b208_M_comeTo_86' (Int32.ofNat i) r) 10000 ((0 : Int32), M) = some p := ep
        refine ⟨true, p.2, ?_, po, Or.inr ⟨_, by rw [if_pos ⟨ch, r2⟩], rfl, pf⟩⟩
        simp (disch := omega) only [hi, n81, b2, er, Option.bind_some, ep', r1, o_le, o_leL, o_leR, o_lt, o_ltL, o_ltR, o_eq, o_eqL, o_eqR, o_cl, o_add, o_addL, o_addR, o_mul, o_mulL, o_mulR, o_sub, o_subR, o_0le, o_lt0, o_ixo, n1_eq, n1_eq', n1_lt, n1_le, n1_ge, n1_gt, n2_eq, n2_eq', n2_lt, n2_le, n2_ge, n2_gt, ↓reduceIte, ite_self, Nat.reduceEqDiff, Nat.reduceAdd, Nat.reduceMul, Nat.reduceSub, Nat.reduceLT, Nat.reduceLeDiff, Nat.not_lt_zero, Nat.zero_le, if_true, if_false, ite_true, ite_false, true_and, and_true, false_and, and_false, true_implies, false_implies, implies_true, not_true_eq_false, not_false_eq_true, eq_self, true_or, or_true, false_or, or_false, and_self, reduceCtorEq, forall_const]
      · have ep' : lp (b208_M_comeTo_86' (Int32.ofNat i) r) 10000 ((0 : Int32), M) = some ((0 : Int32), M) := by
          refine lp_inr ?_
          unfold b208_M_comeTo_86'
          simp (disch := omega) only [r1, o_le, o_leL, o_leR, o_lt, o_ltL, o_ltR, o_eq, o_eqL, o_eqR, o_cl, o_add, o_addL, o_addR, o_mul, o_mulL, o_mulR, o_sub, o_subR, o_0le, o_lt0, o_ixo, n1_eq, n1_eq', n1_lt, n1_le, n1_ge, n1_gt, n2_eq, n2_eq', n2_lt, n2_le, n2_ge, n2_gt, ↓reduceIte, ite_self, Nat.reduceEqDiff, Nat.reduceAdd, Nat.reduceMul, Nat.reduceSub, Nat.reduceLT, Nat.reduceLeDiff, Nat.not_lt_zero, Nat.zero_le, if_true, if_false, ite_true, ite_false, true_and, and_true, false_and, and_false, true_implies, false_implies, implies_true, not_true_eq_false, not_false_eq_true, eq_self, true_or, or_true, false_or, or_false, and_self, reduceCtorEq, forall_const]
        refine ⟨false, M, ?_, MO.refl M, Or.inl ⟨by rw [if_neg (fun q => by rw [r2] at q; exact absurd q.2 (by decide))], rfl⟩⟩
        simp (disch := omega) only [hi, n81, b2, er, Option.bind_some, ep', r1, n10, o_le, o_leL, o_leR, o_lt, o_ltL, o_ltR, o_eq, o_eqL, o_eqR, o_cl, o_add, o_addL, o_addR, o_mul, o_mulL, o_mulR, o_sub, o_subR, o_0le, o_lt0, o_ixo, n1_eq, n1_eq', n1_lt, n1_le, n1_ge, n1_gt, n2_eq, n2_eq', n2_lt, n2_le, n2_ge, n2_gt, ↓reduceIte, ite_self, Nat.reduceEqDiff, Nat.reduceAdd, Nat.reduceMul, Nat.reduceSub, Nat.reduceLT, Nat.reduceLeDiff, Nat.not_lt_zero, Nat.zero_le, if_true, if_false, ite_true, ite_false, true_and, and_true, false_and, and_false, true_implies, false_implies, implies_true, not_true_eq_false, not_false_eq_true, eq_self, true_or, or_true, false_or, or_false, and_self, reduceCtorEq, forall_const]
    · have er : lp (b161_M_comeTo_86 (Int32.ofNat i) (Int32.ofNat h) M) 10000 ((0 : Int32), (0 : Int32)) = some ((0 : Int32), (0 : Int32)) := by
        refine lp_inr ?_
        unfold b161_M_comeTo_86
        by_cases q : h ≤ 0
        · simp (disch := omega) only [q, o_le, o_leL, o_leR, o_lt, o_ltL, o_ltR, o_eq, o_eqL, o_eqR, o_cl, o_add, o_addL, o_addR, o_mul, o_mulL, o_mulR, o_sub, o_subR, o_0le, o_lt0, o_ixo, n1_eq, n1_eq', n1_lt, n1_le, n1_ge, n1_gt, n2_eq, n2_eq', n2_lt, n2_le, n2_ge, n2_gt, ↓reduceIte, ite_self, Nat.reduceEqDiff, Nat.reduceAdd, Nat.reduceMul, Nat.reduceSub, Nat.reduceLT, Nat.reduceLeDiff, Nat.not_lt_zero, Nat.zero_le, if_true, if_false, ite_true, ite_false, true_and, and_true, false_and, and_false, true_implies, false_implies, implies_true, not_true_eq_false, not_false_eq_true, eq_self, true_or, or_true, false_or, or_false, and_self, reduceCtorEq, forall_const]
        · simp (disch := omega) only [q, o_le, o_leL, o_leR, o_lt, o_ltL, o_ltR, o_eq, o_eqL, o_eqR, o_cl, o_add, o_addL, o_addR, o_mul, o_mulL, o_mulR, o_sub, o_subR, o_0le, o_lt0, o_ixo, n1_eq, n1_eq', n1_lt, n1_le, n1_ge, n1_gt, n2_eq, n2_eq', n2_lt, n2_le, n2_ge, n2_gt, ↓reduceIte, ite_self, Nat.reduceEqDiff, Nat.reduceAdd, Nat.reduceMul, Nat.reduceSub, Nat.reduceLT, Nat.reduceLeDiff, Nat.not_lt_zero, Nat.zero_le, if_true, if_false, ite_true, ite_false, true_and, and_true, false_and, and_false, true_implies, false_implies, implies_true, not_true_eq_false, not_false_eq_true, eq_self, true_or, or_true, false_or, or_false, and_self, reduceCtorEq, forall_const]
      have ep' : lp (b208_M_comeTo_86 (Int32.ofNat i) ((0 : Int32), (0 : Int32))) 10000 ((0 : Int32), M) = some ((0 : Int32), M) := by
        refine lp_inr ?_
        unfold b208_M_comeTo_86
        simp (disch := omega) only [o_le, o_leL, o_leR, o_lt, o_ltL, o_ltR, o_eq, o_eqL, o_eqR, o_cl, o_add, o_addL, o_addR, o_mul, o_mulL, o_mulR, o_sub, o_subR, o_0le, o_lt0, o_ixo, n1_eq, n1_eq', n1_lt, n1_le, n1_ge, n1_gt, n2_eq, n2_eq', n2_lt, n2_le, n2_ge, n2_gt, ↓reduceIte, ite_self, Nat.reduceEqDiff, Nat.reduceAdd, Nat.reduceMul, Nat.reduceSub, Nat.reduceLT, Nat.reduceLeDiff, Nat.not_lt_zero, Nat.zero_le, if_true, if_false, ite_true, ite_false, true_and, and_true, false_and, and_false, true_implies, false_implies, implies_true, not_true_eq_false, not_false_eq_true, eq_self, true_or, or_true, false_or, or_false, and_self, reduceCtorEq, forall_const]
      refine ⟨false, M, ?_, MO.refl M, Or.inl ⟨by rw [if_neg (fun q => ch q.1)], rfl⟩⟩
      simp (disch := omega) only [hi, n81, b2, ch, er, Option.bind_some, ep', n10, o_le, o_leL, o_leR, o_lt, o_ltL, o_ltR, o_eq, o_eqL, o_eqR, o_cl, o_add, o_addL, o_addR, o_mul, o_mulL, o_mulR, o_sub, o_subR, o_0le, o_lt0, o_ixo, n1_eq, n1_eq', n1_lt, n1_le, n1_ge, n1_gt, n2_eq, n2_eq', n2_lt, n2_le, n2_ge, n2_gt, ↓reduceIte, ite_self, Nat.reduceEqDiff, Nat.reduceAdd, Nat.reduceMul, Nat.reduceSub, Nat.reduceLT, Nat.reduceLeDiff, Nat.not_lt_zero, Nat.zero_le, if_true, if_false, ite_true, ite_false, true_and, and_true, false_and, and_false, true_implies, false_implies, implies_true, not_true_eq_false, not_false_eq_true, eq_self, true_or, or_true, false_or, or_false, and_self, reduceCtorEq, forall_const]
set_option maxRecDepth 20000 in
set_option maxHeartbeats 4000000 in
theorem cmp_90 {M : MS} {i h : Nat} {sk g : Nat → Int32} (hi : i < 60) (hh : h ≤ 10) (h84 : ∀ k, k < h → M.1 84 (10 * i + k) = sk k) (hg : ∀ k, k < h → M.1 90 k = g k) : Wo (lp (b161_M_comeTo_90 (Int32.ofNat i) (Int32.ofNat h) M) 10000 ((1 : Int32), (0 : Int32))) (fun r => (r.1 = 1 ∧ sameK h sk g = true) ∨ (r.1 = 0 ∧ sameK h sk g = false)) := by
  have n10 : ¬ (1 : Int32) = 0 := by decide
  refine W_lp (fun s => ∃ k, k ≤ h ∧ s.2 = Int32.ofNat k ∧ ((s.1 = 1 ∧ ∀ j, j < k → sk j = g j) ∨ (s.1 = 0 ∧ sameK h sk g = false))) (fun s => h - s.2.toNatClampNeg) ?_ 10000 _ ⟨0, Nat.zero_le _, rfl, Or.inl ⟨rfl, fun j hj => absurd hj (Nat.not_lt_zero j)⟩⟩ (by show h - 0 < 10000; omega)
  intro s ⟨k, hk, es, hj⟩
  refine Wo.cps (fun Q hQ => ?_)
  unfold b161_M_comeTo_90
  rcases hj with ⟨s1, hj⟩ | ⟨s1, hj⟩
  case inr =>
    by_cases hl : h ≤ k
    · simp (disch := omega) only [W_some, W_none, W_bind, W_ite, W_ocz, W_lt, es, hl, o_le, o_leL, o_leR, o_lt, o_ltL, o_ltR, o_eq, o_eqL, o_eqR, o_cl, o_add, o_addL, o_addR, o_mul, o_mulL, o_mulR, o_sub, o_subR, o_0le, o_lt0, o_ixo, n1_eq, n1_eq', n1_lt, n1_le, n1_ge, n1_gt, n2_eq, n2_eq', n2_lt, n2_le, n2_ge, n2_gt, ↓reduceIte, ite_self, Nat.reduceEqDiff, Nat.reduceAdd, Nat.reduceMul, Nat.reduceSub, Nat.reduceLT, Nat.reduceLeDiff, Nat.not_lt_zero, Nat.zero_le, if_true, if_false, ite_true, ite_false, true_and, and_true, false_and, and_false, true_implies, false_implies, implies_true, not_true_eq_false, not_false_eq_true, eq_self, true_or, or_true, false_or, or_false, and_self, reduceCtorEq, forall_const]
      exact hQ _ (Or.inr ⟨s1, hj⟩)
    · simp (disch := omega) only [W_some, W_none, W_bind, W_ite, W_ocz, W_lt, es, hl, s1, o_le, o_leL, o_leR, o_lt, o_ltL, o_ltR, o_eq, o_eqL, o_eqR, o_cl, o_add, o_addL, o_addR, o_mul, o_mulL, o_mulR, o_sub, o_subR, o_0le, o_lt0, o_ixo, n1_eq, n1_eq', n1_lt, n1_le, n1_ge, n1_gt, n2_eq, n2_eq', n2_lt, n2_le, n2_ge, n2_gt, ↓reduceIte, ite_self, Nat.reduceEqDiff, Nat.reduceAdd, Nat.reduceMul, Nat.reduceSub, Nat.reduceLT, Nat.reduceLeDiff, Nat.not_lt_zero, Nat.zero_le, if_true, if_false, ite_true, ite_false, true_and, and_true, false_and, and_false, true_implies, false_implies, implies_true, not_true_eq_false, not_false_eq_true, eq_self, true_or, or_true, false_or, or_false, and_self, reduceCtorEq, forall_const]
      exact hQ _ (Or.inr ⟨rfl, hj⟩)
  by_cases hl : k < h
  · have q1 : ¬ h ≤ k := by omega
    have q2 : 10 * i + k < 600 := by omega
    have q3 : k < 10 := by omega
    have e84 := h84 k hl
    have eg := hg k hl
    by_cases c : sk k = g k
    · simp (disch := omega) only [W_some, W_none, W_bind, W_ite, W_ocz, W_lt, es, q1, s1, n10, q2, q3, o_le, o_leL, o_leR, o_lt, o_ltL, o_ltR, o_eq, o_eqL, o_eqR, o_cl, o_add, o_addL, o_addR, o_mul, o_mulL, o_mulR, o_sub, o_subR, o_0le, o_lt0, o_ixo, n1_eq, n1_eq', n1_lt, n1_le, n1_ge, n1_gt, n2_eq, n2_eq', n2_lt, n2_le, n2_ge, n2_gt, ↓reduceIte, ite_self, Nat.reduceEqDiff, Nat.reduceAdd, Nat.reduceMul, Nat.reduceSub, Nat.reduceLT, Nat.reduceLeDiff, Nat.not_lt_zero, Nat.zero_le, if_true, if_false, ite_true, ite_false, true_and, and_true, false_and, and_false, true_implies, false_implies, implies_true, not_true_eq_false, not_false_eq_true, eq_self, true_or, or_true, false_or, or_false, and_self, reduceCtorEq, forall_const]
      rw [e84, eg]
      refine ⟨fun h => absurd c h, fun _ => ?_⟩
      refine hQ _ ⟨⟨k + 1, by omega, rfl, Or.inl ⟨rfl, ?_⟩⟩, by simp (disch := omega) only [es, o_le, o_leL, o_leR, o_lt, o_ltL, o_ltR, o_eq, o_eqL, o_eqR, o_cl, o_add, o_addL, o_addR, o_mul, o_mulL, o_mulR, o_sub, o_subR, o_0le, o_lt0, o_ixo, n1_eq, n1_eq', n1_lt, n1_le, n1_ge, n1_gt, n2_eq, n2_eq', n2_lt, n2_le, n2_ge, n2_gt, ↓reduceIte, ite_self, Nat.reduceEqDiff, Nat.reduceAdd, Nat.reduceMul, Nat.reduceSub, Nat.reduceLT, Nat.reduceLeDiff, Nat.not_lt_zero, Nat.zero_le, if_true, if_false, ite_true, ite_false, true_and, and_true, false_and, and_false, true_implies, false_implies, implies_true, not_true_eq_false, not_false_eq_true, eq_self, true_or, or_true, false_or, or_false, and_self, reduceCtorEq, forall_const]; omega⟩
      intro j hj'
      by_cases ej : j = k
      · subst ej; exact c
      · exact hj j (by omega)
    · simp (disch := omega) only [W_some, W_none, W_bind, W_ite, W_ocz, W_lt, es, q1, s1, n10, q2, q3, o_le, o_leL, o_leR, o_lt, o_ltL, o_ltR, o_eq, o_eqL, o_eqR, o_cl, o_add, o_addL, o_addR, o_mul, o_mulL, o_mulR, o_sub, o_subR, o_0le, o_lt0, o_ixo, n1_eq, n1_eq', n1_lt, n1_le, n1_ge, n1_gt, n2_eq, n2_eq', n2_lt, n2_le, n2_ge, n2_gt, ↓reduceIte, ite_self, Nat.reduceEqDiff, Nat.reduceAdd, Nat.reduceMul, Nat.reduceSub, Nat.reduceLT, Nat.reduceLeDiff, Nat.not_lt_zero, Nat.zero_le, if_true, if_false, ite_true, ite_false, true_and, and_true, false_and, and_false, true_implies, false_implies, implies_true, not_true_eq_false, not_false_eq_true, eq_self, true_or, or_true, false_or, or_false, and_self, reduceCtorEq, forall_const]
      rw [e84, eg]
      refine ⟨fun _ => ?_, fun h => absurd c h⟩
      refine hQ _ ⟨⟨k + 1, by omega, rfl, Or.inr ⟨rfl, ?_⟩⟩, by simp (disch := omega) only [es, o_le, o_leL, o_leR, o_lt, o_ltL, o_ltR, o_eq, o_eqL, o_eqR, o_cl, o_add, o_addL, o_addR, o_mul, o_mulL, o_mulR, o_sub, o_subR, o_0le, o_lt0, o_ixo, n1_eq, n1_eq', n1_lt, n1_le, n1_ge, n1_gt, n2_eq, n2_eq', n2_lt, n2_le, n2_ge, n2_gt, ↓reduceIte, ite_self, Nat.reduceEqDiff, Nat.reduceAdd, Nat.reduceMul, Nat.reduceSub, Nat.reduceLT, Nat.reduceLeDiff, Nat.not_lt_zero, Nat.zero_le, if_true, if_false, ite_true, ite_false, true_and, and_true, false_and, and_false, true_implies, false_implies, implies_true, not_true_eq_false, not_false_eq_true, eq_self, true_or, or_true, false_or, or_false, and_self, reduceCtorEq, forall_const]; omega⟩
      rw [Bool.eq_false_iff]
      intro hc
      exact c (sameK_iff.mp hc k hl)
  · have ek : k = h := by omega
    subst ek
    simp (disch := omega) only [W_some, W_none, W_bind, W_ite, W_ocz, W_lt, es, Nat.le_refl, o_le, o_leL, o_leR, o_lt, o_ltL, o_ltR, o_eq, o_eqL, o_eqR, o_cl, o_add, o_addL, o_addR, o_mul, o_mulL, o_mulR, o_sub, o_subR, o_0le, o_lt0, o_ixo, n1_eq, n1_eq', n1_lt, n1_le, n1_ge, n1_gt, n2_eq, n2_eq', n2_lt, n2_le, n2_ge, n2_gt, ↓reduceIte, ite_self, Nat.reduceEqDiff, Nat.reduceAdd, Nat.reduceMul, Nat.reduceSub, Nat.reduceLT, Nat.reduceLeDiff, Nat.not_lt_zero, Nat.zero_le, if_true, if_false, ite_true, ite_false, true_and, and_true, false_and, and_false, true_implies, false_implies, implies_true, not_true_eq_false, not_false_eq_true, eq_self, true_or, or_true, false_or, or_false, and_self, reduceCtorEq, forall_const]
    exact hQ _ (Or.inl ⟨s1, sameK_iff.mpr hj⟩)
set_option maxRecDepth 20000 in
set_option maxHeartbeats 4000000 in
theorem mergeM_90 {M : MS} {S : FS} {m i : Nat} {l : Nat → Int32} {x : Int32 × Int32} (hx : x.1 = 1) (hS : FM M m S) (hi : i < 60) (hs : S.1 i = true) (hl : ∀ k, k < 12 → M.1 87 k = l k) : Wo (lp (b208_M_comeTo_90 (Int32.ofNat i) x) 10000 ((0 : Int32), M)) (fun p => MO (Fcm m) M p.2 ∧ FM p.2 m (S.1, updB S.2.1 i (S.2.1 i || chg (S.2.2.2.2.1 i) l), S.2.2.1, S.2.2.2.1, updN S.2.2.2.2.1 i (mrg (S.2.2.2.2.1 i) l), S.2.2.2.2.2)) := by
  obtain ⟨f1, f2, f3, f4⟩ := hS
  obtain ⟨b1, b2, b3, b4⟩ := f2 i hi hs
  have n10 : ¬ (1 : Int32) = 0 := by decide
  have w : Wo (lp (b208_M_comeTo_90 (Int32.ofNat i) x) 10000 ((0 : Int32), M)) (fun p => (p.2.2 = M.2 ∧ ∀ a j, (a ≠ 85 ∧ (a ≠ 82 ∨ j ≠ i)) → p.2.1 a j = M.1 a j) ∧ (∀ k, k < 12 → p.2.1 85 (12 * i + k) = mrg (S.2.2.2.2.1 i) l k) ∧ (∀ j, (j < 12 * i ∨ 12 * i + 12 ≤ j) → p.2.1 85 j = M.1 85 j) ∧ (fm p.2 82 i ↔ fm M 82 i ∨ ∃ k, k < 12 ∧ ¬ S.2.2.2.2.1 i k = 0 ∧ ¬ S.2.2.2.2.1 i k = l k)) := by
    refine W_lp (fun p => ∃ k, k ≤ 12 ∧ p.1 = Int32.ofNat k ∧ (p.2.2 = M.2 ∧ ∀ a j, (a ≠ 85 ∧ (a ≠ 82 ∨ j ≠ i)) → p.2.1 a j = M.1 a j) ∧ (∀ j, j < k → p.2.1 85 (12 * i + j) = mrg (S.2.2.2.2.1 i) l j) ∧ (∀ j, (j < 12 * i ∨ 12 * i + k ≤ j) → p.2.1 85 j = M.1 85 j) ∧ (fm p.2 82 i ↔ fm M 82 i ∨ ∃ j, j < k ∧ ¬ S.2.2.2.2.1 i j = 0 ∧ ¬ S.2.2.2.2.1 i j = l j)) (fun p => 12 - p.1.toNatClampNeg) ?_ 10000 _ ⟨0, by omega, rfl, ⟨rfl, fun _ _ _ => rfl⟩, fun j hj => absurd hj (Nat.not_lt_zero j), fun _ _ => rfl, ⟨Or.inl, fun h => h.elim id (fun ⟨j, hj, _⟩ => absurd hj (Nat.not_lt_zero j))⟩⟩ (by show 12 - 0 < 10000; omega)
    intro p ⟨k, hk, ep, po, pm, pr, pf⟩
    refine Wo.cps (fun Q hQ => ?_)
    unfold b208_M_comeTo_90
    by_cases hl12 : k < 12
    case neg =>
      have ek : k = 12 := by omega
      subst ek
      simp (disch := omega) only [W_some, W_none, W_bind, W_ite, W_ocz, W_lt, ep, Nat.le_refl, o_le, o_leL, o_leR, o_lt, o_ltL, o_ltR, o_eq, o_eqL, o_eqR, o_cl, o_add, o_addL, o_addR, o_mul, o_mulL, o_mulR, o_sub, o_subR, o_0le, o_lt0, o_ixo, n1_eq, n1_eq', n1_lt, n1_le, n1_ge, n1_gt, n2_eq, n2_eq', n2_lt, n2_le, n2_ge, n2_gt, ↓reduceIte, ite_self, Nat.reduceEqDiff, Nat.reduceAdd, Nat.reduceMul, Nat.reduceSub, Nat.reduceLT, Nat.reduceLeDiff, Nat.not_lt_zero, Nat.zero_le, if_true, if_false, ite_true, ite_false, true_and, and_true, false_and, and_false, true_implies, false_implies, implies_true, not_true_eq_false, not_false_eq_true, eq_self, true_or, or_true, false_or, or_false, and_self, reduceCtorEq, forall_const]
      exact hQ _ ⟨po, pm, pr, pf⟩
    have q1 : ¬ 12 ≤ k := by omega
    have q2 : 12 * i + k < 720 := by omega
    have cur : p.2.1 85 (12 * i + k) = S.2.2.2.2.1 i k := by rw [pr _ (by omega)]; exact b4 k hl12
    have lc : p.2.1 87 k = l k := by rw [po.2 87 k (by omega)]; exact hl k hl12
    have stay : (¬ (¬ S.2.2.2.2.1 i k = 0 ∧ ¬ S.2.2.2.2.1 i k = l k)) → Q (.inl (Int32.ofNat (k + 1), p.2)) := by
      intro hn
      refine hQ _ ⟨⟨k + 1, by omega, rfl, po, ?_, fun j hj => pr j (by omega), ?_⟩, by simp (disch := omega) only [ep, o_le, o_leL, o_leR, o_lt, o_ltL, o_ltR, o_eq, o_eqL, o_eqR, o_cl, o_add, o_addL, o_addR, o_mul, o_mulL, o_mulR, o_sub, o_subR, o_0le, o_lt0, o_ixo, n1_eq, n1_eq', n1_lt, n1_le, n1_ge, n1_gt, n2_eq, n2_eq', n2_lt, n2_le, n2_ge, n2_gt, ↓reduceIte, ite_self, Nat.reduceEqDiff, Nat.reduceAdd, Nat.reduceMul, Nat.reduceSub, Nat.reduceLT, Nat.reduceLeDiff, Nat.not_lt_zero, Nat.zero_le, if_true, if_false, ite_true, ite_false, true_and, and_true, false_and, and_false, true_implies, false_implies, implies_true, not_true_eq_false, not_false_eq_true, eq_self, true_or, or_true, false_or, or_false, and_self, reduceCtorEq, forall_const]; omega⟩
      · intro j hj
        by_cases ej : j = k
        · subst ej
          rw [cur]
          unfold mrg
          rw [if_neg (fun q => hn q.2)]
        · exact pm j (by omega)
      · rw [pf, ex_succ]
        constructor
        · rintro (h | h)
          · exact Or.inl h
          · exact Or.inr (Or.inl h)
        · rintro (h | h | h)
          · exact Or.inl h
          · exact Or.inr h
          · exact absurd h hn
    by_cases c0 : S.2.2.2.2.1 i k = 0
    · simp (disch := omega) only [W_some, W_none, W_bind, W_ite, W_ocz, W_lt, ep, q1, hx, n10, q2, cur, c0, o_le, o_leL, o_leR, o_lt, o_ltL, o_ltR, o_eq, o_eqL, o_eqR, o_cl, o_add, o_addL, o_addR, o_mul, o_mulL, o_mulR, o_sub, o_subR, o_0le, o_lt0, o_ixo, n1_eq, n1_eq', n1_lt, n1_le, n1_ge, n1_gt, n2_eq, n2_eq', n2_lt, n2_le, n2_ge, n2_gt, ↓reduceIte, ite_self, Nat.reduceEqDiff, Nat.reduceAdd, Nat.reduceMul, Nat.reduceSub, Nat.reduceLT, Nat.reduceLeDiff, Nat.not_lt_zero, Nat.zero_le, if_true, if_false, ite_true, ite_false, true_and, and_true, false_and, and_false, true_implies, false_implies, implies_true, not_true_eq_false, not_false_eq_true, eq_self, true_or, or_true, false_or, or_false, and_self, reduceCtorEq, forall_const]
      exact stay (fun h => h.1 c0)
    by_cases c1 : S.2.2.2.2.1 i k = l k
    · simp (disch := omega) only [W_some, W_none, W_bind, W_ite, W_ocz, W_lt, ep, q1, hx, n10, q2, cur, c0, hl12, lc, o_le, o_leL, o_leR, o_lt, o_ltL, o_ltR, o_eq, o_eqL, o_eqR, o_cl, o_add, o_addL, o_addR, o_mul, o_mulL, o_mulR, o_sub, o_subR, o_0le, o_lt0, o_ixo, n1_eq, n1_eq', n1_lt, n1_le, n1_ge, n1_gt, n2_eq, n2_eq', n2_lt, n2_le, n2_ge, n2_gt, ↓reduceIte, ite_self, Nat.reduceEqDiff, Nat.reduceAdd, Nat.reduceMul, Nat.reduceSub, Nat.reduceLT, Nat.reduceLeDiff, Nat.not_lt_zero, Nat.zero_le, if_true, if_false, ite_true, ite_false, true_and, and_true, false_and, and_false, true_implies, false_implies, implies_true, not_true_eq_false, not_false_eq_true, eq_self, true_or, or_true, false_or, or_false, and_self, reduceCtorEq, forall_const]
      exact ⟨fun _ => stay (fun h => h.2 c1), fun h => absurd c1 h⟩
    · simp (disch := omega) only [W_some, W_none, W_bind, W_ite, W_ocz, W_lt, ep, q1, hx, n10, q2, cur, c0, hl12, lc, c1, hi, o_le, o_leL, o_leR, o_lt, o_ltL, o_ltR, o_eq, o_eqL, o_eqR, o_cl, o_add, o_addL, o_addR, o_mul, o_mulL, o_mulR, o_sub, o_subR, o_0le, o_lt0, o_ixo, n1_eq, n1_eq', n1_lt, n1_le, n1_ge, n1_gt, n2_eq, n2_eq', n2_lt, n2_le, n2_ge, n2_gt, ↓reduceIte, ite_self, Nat.reduceEqDiff, Nat.reduceAdd, Nat.reduceMul, Nat.reduceSub, Nat.reduceLT, Nat.reduceLeDiff, Nat.not_lt_zero, Nat.zero_le, if_true, if_false, ite_true, ite_false, true_and, and_true, false_and, and_false, true_implies, false_implies, implies_true, not_true_eq_false, not_false_eq_true, eq_self, true_or, or_true, false_or, or_false, and_self, reduceCtorEq, forall_const]
      refine hQ _ ⟨⟨k + 1, by omega, rfl, ⟨po.1, ?_⟩, ?_, ?_, ?_⟩, by simp (disch := omega) only [ep, o_le, o_leL, o_leR, o_lt, o_ltL, o_ltR, o_eq, o_eqL, o_eqR, o_cl, o_add, o_addL, o_addR, o_mul, o_mulL, o_mulR, o_sub, o_subR, o_0le, o_lt0, o_ixo, n1_eq, n1_eq', n1_lt, n1_le, n1_ge, n1_gt, n2_eq, n2_eq', n2_lt, n2_le, n2_ge, n2_gt, ↓reduceIte, ite_self, Nat.reduceEqDiff, Nat.reduceAdd, Nat.reduceMul, Nat.reduceSub, Nat.reduceLT, Nat.reduceLeDiff, Nat.not_lt_zero, Nat.zero_le, if_true, if_false, ite_true, ite_false, true_and, and_true, false_and, and_false, true_implies, false_implies, implies_true, not_true_eq_false, not_false_eq_true, eq_self, true_or, or_true, false_or, or_false, and_self, reduceCtorEq, forall_const]; omega⟩
      · intro a j ha
        rw [mw1, if_neg (by omega), mw1, if_neg (by omega)]
        exact po.2 a j ha
      · intro j hj
        rw [mw1, if_neg (by omega), mw1]
        by_cases ej : j = k
        · subst ej
          rw [if_pos ⟨rfl, rfl⟩]
          unfold mrg
          rw [if_pos ⟨hl12, c0, c1⟩]
        · rw [if_neg (by omega)]
          exact pm j (by omega)
      · intro j hj
        rw [mw1, if_neg (by omega), mw1, if_neg (by omega)]
        exact pr j (by omega)
      · rw [fm_set, ex_succ]
        constructor
        · intro _; exact Or.inr (Or.inr ⟨c0, c1⟩)
        · intro _; exact Or.inr ⟨rfl, rfl⟩
  refine Wo.mono w ?_
  intro p ⟨po, pm, pr, pf⟩
  refine ⟨⟨po.1, fun a j ha => po.2 a j (by unfold Fcm at ha; omega)⟩, ?_, ?_, ?_, f4⟩
  · intro j hj
    obtain ⟨z1, z2, z3⟩ := f1 j hj
    refine ⟨?_, ?_, ?_⟩
    · unfold fm at z1 ⊢
      rw [po.2 81 j (by omega)]; exact z1
    · show fm p.2 82 j ↔ updB S.2.1 i _ j = true
      unfold updB
      by_cases ej : j = i
      · subst ej
        rw [if_pos rfl, pf, Bool.or_eq_true, chg_iff, z2]
      · rw [if_neg ej]
        unfold fm at z2 ⊢
        rw [po.2 82 j (by omega)]; exact z2
    · unfold fm at z3 ⊢
      rw [po.2 88 _ (by omega)]; exact z3
  · intro j hj hsj
    obtain ⟨z1, z2, z3, z4⟩ := f2 j hj hsj
    refine ⟨z1, ?_, ?_, ?_⟩
    · rw [po.2 83 j (by omega)]; exact z2
    · intro k hk
      rw [po.2 84 _ (by omega)]; exact z3 k hk
    · intro k hk
      show p.2.1 85 (12 * j + k) = updN S.2.2.2.2.1 i _ j k
      unfold updN
      by_cases ej : j = i
      · subst ej
        rw [if_pos rfl]
        exact pm k hk
      · rw [if_neg ej, pr _ (by omega)]
        exact z4 k hk
  · rw [po.2 89 m (by omega)]; exact f3
set_option maxRecDepth 20000 in
set_option maxHeartbeats 4000000 in
theorem cpS_90 {M : MS} {i h : Nat} {g : Nat → Int32} (hi : i < 60) (hh : h ≤ 10) (hg : ∀ k, k < h → M.1 90 k = g k) : Wo (lp (b74_M_comeTo_90 (Int32.ofNat i) (Int32.ofNat h)) 10000 ((0 : Int32), M)) (fun p => p.2.2 = M.2 ∧ (∀ a j, (a ≠ 84 ∨ j < 10 * i ∨ 10 * i + 10 ≤ j) → p.2.1 a j = M.1 a j) ∧ ∀ k, k < h → p.2.1 84 (10 * i + k) = g k) := by
  refine W_lp (fun p => ∃ k, k ≤ h ∧ p.1 = Int32.ofNat k ∧ p.2.2 = M.2 ∧ (∀ a j, (a ≠ 84 ∨ j < 10 * i ∨ 10 * i + 10 ≤ j) → p.2.1 a j = M.1 a j) ∧ ∀ j, j < k → p.2.1 84 (10 * i + j) = g j) (fun p => h - p.1.toNatClampNeg) ?_ 10000 _ ⟨0, Nat.zero_le _, rfl, rfl, fun _ _ _ => rfl, fun j hj => absurd hj (Nat.not_lt_zero j)⟩ (by show h - 0 < 10000; omega)
  intro p ⟨k, hk, ep, p2, po, pg⟩
  refine Wo.cps (fun Q hQ => ?_)
  unfold b74_M_comeTo_90
  by_cases hl : k < h
  · have q1 : ¬ h ≤ k := by omega
    have q2 : 10 * i + k < 600 := by omega
    have q3 : k < 10 := by omega
    have eg : p.2.1 90 k = g k := by rw [po 90 k (by omega)]; exact hg k hl
    simp (disch := omega) only [W_some, W_none, W_bind, W_ite, W_ocz, W_lt, ep, q1, q2, q3, eg, o_le, o_leL, o_leR, o_lt, o_ltL, o_ltR, o_eq, o_eqL, o_eqR, o_cl, o_add, o_addL, o_addR, o_mul, o_mulL, o_mulR, o_sub, o_subR, o_0le, o_lt0, o_ixo, n1_eq, n1_eq', n1_lt, n1_le, n1_ge, n1_gt, n2_eq, n2_eq', n2_lt, n2_le, n2_ge, n2_gt, ↓reduceIte, ite_self, Nat.reduceEqDiff, Nat.reduceAdd, Nat.reduceMul, Nat.reduceSub, Nat.reduceLT, Nat.reduceLeDiff, Nat.not_lt_zero, Nat.zero_le, if_true, if_false, ite_true, ite_false, true_and, and_true, false_and, and_false, true_implies, false_implies, implies_true, not_true_eq_false, not_false_eq_true, eq_self, true_or, or_true, false_or, or_false, and_self, reduceCtorEq, forall_const]
    refine hQ _ ⟨⟨k + 1, by omega, rfl, p2, ?_, ?_⟩, by simp (disch := omega) only [ep, o_le, o_leL, o_leR, o_lt, o_ltL, o_ltR, o_eq, o_eqL, o_eqR, o_cl, o_add, o_addL, o_addR, o_mul, o_mulL, o_mulR, o_sub, o_subR, o_0le, o_lt0, o_ixo, n1_eq, n1_eq', n1_lt, n1_le, n1_ge, n1_gt, n2_eq, n2_eq', n2_lt, n2_le, n2_ge, n2_gt, ↓reduceIte, ite_self, Nat.reduceEqDiff, Nat.reduceAdd, Nat.reduceMul, Nat.reduceSub, Nat.reduceLT, Nat.reduceLeDiff, Nat.not_lt_zero, Nat.zero_le, if_true, if_false, ite_true, ite_false, true_and, and_true, false_and, and_false, true_implies, false_implies, implies_true, not_true_eq_false, not_false_eq_true, eq_self, true_or, or_true, false_or, or_false, and_self, reduceCtorEq, forall_const]; omega⟩
    · intro a j ha
      rw [mw1, if_neg (by omega)]
      exact po a j ha
    · intro j hj
      rw [mw1]
      by_cases ej : j = k
      · subst ej
        rw [if_pos ⟨rfl, rfl⟩]
      · rw [if_neg (by omega)]
        exact pg j (by omega)
  · have ek : k = h := by omega
    subst ek
    simp (disch := omega) only [W_some, W_none, W_bind, W_ite, W_ocz, W_lt, ep, Nat.le_refl, o_le, o_leL, o_leR, o_lt, o_ltL, o_ltR, o_eq, o_eqL, o_eqR, o_cl, o_add, o_addL, o_addR, o_mul, o_mulL, o_mulR, o_sub, o_subR, o_0le, o_lt0, o_ixo, n1_eq, n1_eq', n1_lt, n1_le, n1_ge, n1_gt, n2_eq, n2_eq', n2_lt, n2_le, n2_ge, n2_gt, ↓reduceIte, ite_self, Nat.reduceEqDiff, Nat.reduceAdd, Nat.reduceMul, Nat.reduceSub, Nat.reduceLT, Nat.reduceLeDiff, Nat.not_lt_zero, Nat.zero_le, if_true, if_false, ite_true, ite_false, true_and, and_true, false_and, and_false, true_implies, false_implies, implies_true, not_true_eq_false, not_false_eq_true, eq_self, true_or, or_true, false_or, or_false, and_self, reduceCtorEq, forall_const]
    exact hQ _ ⟨p2, po, pg⟩
set_option maxRecDepth 20000 in
set_option maxHeartbeats 4000000 in
theorem cpL_90 {M : MS} {i : Nat} {l : Nat → Int32} (hi : i < 60) (hg : ∀ k, k < 12 → M.1 87 k = l k) : Wo (lp (b106_M_comeTo_90 (Int32.ofNat i)) 10000 ((0 : Int32), M)) (fun p => p.2.2 = M.2 ∧ (∀ a j, (a ≠ 85 ∨ j < 12 * i ∨ 12 * i + 12 ≤ j) → p.2.1 a j = M.1 a j) ∧ ∀ k, k < 12 → p.2.1 85 (12 * i + k) = l k) := by
  refine W_lp (fun p => ∃ k, k ≤ 12 ∧ p.1 = Int32.ofNat k ∧ p.2.2 = M.2 ∧ (∀ a j, (a ≠ 85 ∨ j < 12 * i ∨ 12 * i + 12 ≤ j) → p.2.1 a j = M.1 a j) ∧ ∀ j, j < k → p.2.1 85 (12 * i + j) = l j) (fun p => 12 - p.1.toNatClampNeg) ?_ 10000 _ ⟨0, Nat.zero_le _, rfl, rfl, fun _ _ _ => rfl, fun j hj => absurd hj (Nat.not_lt_zero j)⟩ (by show 12 - 0 < 10000; omega)
  intro p ⟨k, hk, ep, p2, po, pg⟩
  refine Wo.cps (fun Q hQ => ?_)
  unfold b106_M_comeTo_90
  by_cases hl : k < 12
  · have q1 : ¬ 12 ≤ k := by omega
    have q2 : 12 * i + k < 720 := by omega
    have eg : p.2.1 87 k = l k := by rw [po 87 k (by omega)]; exact hg k hl
    simp (disch := omega) only [W_some, W_none, W_bind, W_ite, W_ocz, W_lt, ep, q1, q2, hl, eg, o_le, o_leL, o_leR, o_lt, o_ltL, o_ltR, o_eq, o_eqL, o_eqR, o_cl, o_add, o_addL, o_addR, o_mul, o_mulL, o_mulR, o_sub, o_subR, o_0le, o_lt0, o_ixo, n1_eq, n1_eq', n1_lt, n1_le, n1_ge, n1_gt, n2_eq, n2_eq', n2_lt, n2_le, n2_ge, n2_gt, ↓reduceIte, ite_self, Nat.reduceEqDiff, Nat.reduceAdd, Nat.reduceMul, Nat.reduceSub, Nat.reduceLT, Nat.reduceLeDiff, Nat.not_lt_zero, Nat.zero_le, if_true, if_false, ite_true, ite_false, true_and, and_true, false_and, and_false, true_implies, false_implies, implies_true, not_true_eq_false, not_false_eq_true, eq_self, true_or, or_true, false_or, or_false, and_self, reduceCtorEq, forall_const]
    refine hQ _ ⟨⟨k + 1, by omega, rfl, p2, ?_, ?_⟩, by simp (disch := omega) only [ep, o_le, o_leL, o_leR, o_lt, o_ltL, o_ltR, o_eq, o_eqL, o_eqR, o_cl, o_add, o_addL, o_addR, o_mul, o_mulL, o_mulR, o_sub, o_subR, o_0le, o_lt0, o_ixo, n1_eq, n1_eq', n1_lt, n1_le, n1_ge, n1_gt, n2_eq, n2_eq', n2_lt, n2_le, n2_ge, n2_gt, ↓reduceIte, ite_self, Nat.reduceEqDiff, Nat.reduceAdd, Nat.reduceMul, Nat.reduceSub, Nat.reduceLT, Nat.reduceLeDiff, Nat.not_lt_zero, Nat.zero_le, if_true, if_false, ite_true, ite_false, true_and, and_true, false_and, and_false, true_implies, false_implies, implies_true, not_true_eq_false, not_false_eq_true, eq_self, true_or, or_true, false_or, or_false, and_self, reduceCtorEq, forall_const]; omega⟩
    · intro a j ha
      rw [mw1, if_neg (by omega)]
      exact po a j ha
    · intro j hj
      rw [mw1]
      by_cases ej : j = k
      · subst ej
        rw [if_pos ⟨rfl, rfl⟩]
      · rw [if_neg (by omega)]
        exact pg j (by omega)
  · have ek : k = 12 := by omega
    subst ek
    simp (disch := omega) only [W_some, W_none, W_bind, W_ite, W_ocz, W_lt, ep, Nat.le_refl, o_le, o_leL, o_leR, o_lt, o_ltL, o_ltR, o_eq, o_eqL, o_eqR, o_cl, o_add, o_addL, o_addR, o_mul, o_mulL, o_mulR, o_sub, o_subR, o_0le, o_lt0, o_ixo, n1_eq, n1_eq', n1_lt, n1_le, n1_ge, n1_gt, n2_eq, n2_eq', n2_lt, n2_le, n2_ge, n2_gt, ↓reduceIte, ite_self, Nat.reduceEqDiff, Nat.reduceAdd, Nat.reduceMul, Nat.reduceSub, Nat.reduceLT, Nat.reduceLeDiff, Nat.not_lt_zero, Nat.zero_le, if_true, if_false, ite_true, ite_false, true_and, and_true, false_and, and_false, true_implies, false_implies, implies_true, not_true_eq_false, not_false_eq_true, eq_self, true_or, or_true, false_or, or_false, and_self, reduceCtorEq, forall_const]
    exact hQ _ ⟨p2, po, pg⟩
set_option maxRecDepth 20000 in
set_option maxHeartbeats 4000000 in
theorem comeM_90 {M : MS} {S : FS} {m i h : Nat} {g l : Nat → Int32} (hm : m < 24) (hS : FM M m S) (hi : i < 60) (hh : h ≤ 10) (hg : ∀ k, k < h → M.1 90 k = g k) (hl : ∀ k, k < 12 → M.1 87 k = l k) : ∃ b M', f_M_comeTo_90 (Int32.ofNat m) (Int32.ofNat i) (Int32.ofNat h) M = some (b, M') ∧ MO (Fcm m) M M' ∧ ((come S i g h l = none ∧ b = false) ∨ ∃ S', come S i g h l = some S' ∧ b = true ∧ FM M' m S') := by
  have hS0 := hS
  obtain ⟨f1, f2, f3, f4⟩ := hS
  have n10 : ¬ (0 : Int32) = 1 := by decide
  unfold f_M_comeTo_90 come
  obtain ⟨z1, z2, z3⟩ := f1 i hi
  by_cases cs : S.1 i = false
  · have n81 : M.1 81 i = 0 := by
      apply Classical.byContradiction
      intro hc
      rw [z1.mp hc] at cs
      cases cs
    have q88 : 60 * m + i < 1440 := by omega
    have mx : ((if S.2.2.2.2.2 ≥ h then some (Int32.ofNat S.2.2.2.2.2) else some (Int32.ofNat h)) : Option Int32) = some (Int32.ofNat (max S.2.2.2.2.2 h)) := by
      by_cases q : h ≤ S.2.2.2.2.2
      · rw [if_pos q]; congr 2; omega
      · rw [if_neg q]; congr 2; omega
    generalize hN : mw (mw (mw (mw (mw M 81 i 1) 82 i 1) 88 (60 * m + i) 1) 83 i (Int32.ofNat h)) 89 m (Int32.ofNat (max S.2.2.2.2.2 h)) = N
    have nN : ∀ a j, ((a ≠ 81 ∧ a ≠ 82 ∧ a ≠ 83) ∨ j ≠ i) → (a ≠ 88 ∨ j ≠ 60 * m + i) → (a ≠ 89 ∨ j ≠ m) → N.1 a j = M.1 a j := by
      intro a j h1 h2 h3
      rw [← hN]
      simp only [mw1]
      rw [if_neg (by omega), if_neg (by omega), if_neg (by omega), if_neg (by omega), if_neg (by omega)]
    have v81 : N.1 81 i = 1 ∧ N.1 82 i = 1 ∧ N.1 83 i = Int32.ofNat h ∧ N.1 88 (60 * m + i) = 1 ∧ N.1 89 m = Int32.ofNat (max S.2.2.2.2.2 h) := by
      rw [← hN]
      simp only [mw1]
      simp
    obtain ⟨p, ep, p2, po, pg⟩ := cpS_90 (M := N) (g := g) hi hh (fun k hk => by rw [nN 90 k (by omega) (by omega) (by omega)]; exact hg k hk)
    obtain ⟨q, eq, q2, qo, qg⟩ := cpL_90 (M := p.2) (l := l) hi (fun k hk => by rw [po 87 k (by omega), nN 87 k (by omega) (by omega) (by omega)]; exact hl k hk)
    have rq : ∀ a j, ((a ≠ 81 ∧ a ≠ 82 ∧ a ≠ 83) ∨ j ≠ i) → (a ≠ 88 ∨ j ≠ 60 * m + i) → (a ≠ 89 ∨ j ≠ m) → (a ≠ 84 ∨ j < 10 * i ∨ 10 * i + 10 ≤ j) → (a ≠ 85 ∨ j < 12 * i ∨ 12 * i + 12 ≤ j) → q.2.1 a j = M.1 a j := by
      intro a j h1 h2 h3 h4 h5
      rw [qo a j h5, po a j h4, nN a j h1 h2 h3]
    refine ⟨true, q.2, ?_, ⟨?_, ?_⟩, Or.inr ⟨_, by rw [if_pos cs], rfl, ?_, ?_, ?_, by show max S.2.2.2.2.2 h ≤ 10; omega⟩⟩
    · simp (disch := omega) only [hi, n81, lt, q88, hm, xTw, xLw, xAw, xTp, xLp, xAp, xTc, xLc, xAc, xAn, xTn, xLn, xw1, xw2, xp1, xp2, xp3, mw1, mw2, xn1, xn2, xc1, xc2, f3, o_le, o_leL, o_leR, o_lt, o_ltL, o_ltR, o_eq, o_eqL, o_eqR, o_cl, o_add, o_addL, o_addR, o_mul, o_mulL, o_mulR, o_sub, o_subR, o_0le, o_lt0, o_ixo, n1_eq, n1_eq', n1_lt, n1_le, n1_ge, n1_gt, n2_eq, n2_eq', n2_lt, n2_le, n2_ge, n2_gt, ↓reduceIte, ite_self, Nat.reduceEqDiff, Nat.reduceAdd, Nat.reduceMul, Nat.reduceSub, Nat.reduceLT, Nat.reduceLeDiff, Nat.not_lt_zero, Nat.zero_le, if_true, if_false, ite_true, ite_false, true_and, and_true, false_and, and_false, true_implies, false_implies, implies_true, not_true_eq_false, not_false_eq_true, eq_self, true_or, or_true, false_or, or_false, and_self, reduceCtorEq, forall_const]
      rw [show (if h ≤ S.2.2.2.2.2 then some (Int32.ofNat S.2.2.2.2.2) else some (Int32.ofNat h)) = some (Int32.ofNat (max S.2.2.2.2.2 h)) from mx]
      simp only [Option.bind_some]
      rw [hN, ep]
      simp only [Option.bind_some]
      rw [eq]
      rfl
    · rw [q2, p2, ← hN]
      rfl
    · intro a j ha
      unfold Fcm at ha
      exact rq a j (by omega) (by omega) (by omega) (by omega) (by omega)
    · intro j hj
      obtain ⟨y1, y2, y3⟩ := f1 j hj
      by_cases ej : j = i
      · subst ej
        have e81 : q.2.1 81 j = 1 := by rw [qo 81 j (by omega), po 81 j (by omega)]; exact v81.1
        have e82 : q.2.1 82 j = 1 := by rw [qo 82 j (by omega), po 82 j (by omega)]; exact v81.2.1
        have e88 : q.2.1 88 (60 * m + j) = 1 := by rw [qo 88 _ (by omega), po 88 _ (by omega)]; exact v81.2.2.2.1
        unfold fm updB
        rw [e81, e82, e88]
        simp
      · have e81 : q.2.1 81 j = M.1 81 j := rq 81 j (by omega) (by omega) (by omega) (by omega) (by omega)
        have e82 : q.2.1 82 j = M.1 82 j := rq 82 j (by omega) (by omega) (by omega) (by omega) (by omega)
        have e88 : q.2.1 88 (60 * m + j) = M.1 88 (60 * m + j) := rq 88 _ (by omega) (by omega) (by omega) (by omega) (by omega)
        unfold fm updB at *
        rw [e81, e82, e88]
        dsimp only
        rw [if_neg ej, if_neg ej]
        exact ⟨y1, y2, y3⟩
    · intro j hj hsj
      by_cases ej : j = i
      · subst ej
        show updN S.2.2.1 j h j ≤ 10 ∧ q.2.1 83 j = Int32.ofNat (updN S.2.2.1 j h j) ∧ (∀ k, k < updN S.2.2.1 j h j → q.2.1 84 (10 * j + k) = updN S.2.2.2.1 j g j k) ∧ ∀ k, k < 12 → q.2.1 85 (12 * j + k) = updN S.2.2.2.2.1 j l j k
        unfold updN
        rw [if_pos rfl, if_pos rfl, if_pos rfl]
        refine ⟨hh, ?_, ?_, qg⟩
        · rw [qo 83 j (by omega), po 83 j (by omega)]; exact v81.2.2.1
        · intro k hk
          rw [qo 84 _ (by omega)]
          exact pg k hk
      · have hsj' : S.1 j = true := by
          have hsj2 : updB S.1 i true j = true := hsj
          unfold updB at hsj2
          rw [if_neg ej] at hsj2
          exact hsj2
        obtain ⟨y1, y2, y3, y4⟩ := f2 j hj hsj'
        show updN S.2.2.1 i h j ≤ 10 ∧ q.2.1 83 j = Int32.ofNat (updN S.2.2.1 i h j) ∧ (∀ k, k < updN S.2.2.1 i h j → q.2.1 84 (10 * j + k) = updN S.2.2.2.1 i g j k) ∧ ∀ k, k < 12 → q.2.1 85 (12 * j + k) = updN S.2.2.2.2.1 i l j k
        unfold updN
        rw [if_neg ej, if_neg ej, if_neg ej]
        refine ⟨y1, ?_, ?_, ?_⟩
        · rw [rq 83 j (by omega) (by omega) (by omega) (by omega) (by omega)]; exact y2
        · intro k hk
          rw [rq 84 _ (by omega) (by omega) (by omega) (by omega) (by omega)]; exact y3 k hk
        · intro k hk
          rw [rq 85 _ (by omega) (by omega) (by omega) (by omega) (by omega)]; exact y4 k hk
    · rw [qo 89 m (by omega), po 89 m (by omega)]
      exact v81.2.2.2.2
  · have hs : S.1 i = true := by cases e : S.1 i with | false => exact absurd e cs | true => rfl
    have n81 : ¬ M.1 81 i = 0 := z1.mpr hs
    obtain ⟨b1, b2, b3, b4⟩ := f2 i hi hs
    rw [if_neg cs]
    by_cases ch : S.2.2.1 i = h
    · rw [ch] at b2 b3
      obtain ⟨r, er, hr⟩ := cmp_90 (sk := S.2.2.2.1 i) (g := g) hi hh b3 hg
      rcases hr with ⟨r1, r2⟩ | ⟨r1, r2⟩
      · obtain ⟨p, ep, po, pf⟩ := mergeM_90 (x := r) r1 hS0 hi hs hl
        have ep' : lp (b208_M_comeTo_90' (Int32.ofNat i) r) 10000 ((0 : Int32), M) = some p := ep
        refine ⟨true, p.2, ?_, po, Or.inr ⟨_, by rw [if_pos ⟨ch, r2⟩], rfl, pf⟩⟩
        simp (disch := omega) only [hi, n81, b2, er, Option.bind_some, ep', r1, o_le, o_leL, o_leR, o_lt, o_ltL, o_ltR, o_eq, o_eqL, o_eqR, o_cl, o_add, o_addL, o_addR, o_mul, o_mulL, o_mulR, o_sub, o_subR, o_0le, o_lt0, o_ixo, n1_eq, n1_eq', n1_lt, n1_le, n1_ge, n1_gt, n2_eq, n2_eq', n2_lt, n2_le, n2_ge, n2_gt, ↓reduceIte, ite_self, Nat.reduceEqDiff, Nat.reduceAdd, Nat.reduceMul, Nat.reduceSub, Nat.reduceLT, Nat.reduceLeDiff, Nat.not_lt_zero, Nat.zero_le, if_true, if_false, ite_true, ite_false, true_and, and_true, false_and, and_false, true_implies, false_implies, implies_true, not_true_eq_false, not_false_eq_true, eq_self, true_or, or_true, false_or, or_false, and_self, reduceCtorEq, forall_const]
      · have ep' : lp (b208_M_comeTo_90' (Int32.ofNat i) r) 10000 ((0 : Int32), M) = some ((0 : Int32), M) := by
          refine lp_inr ?_
          unfold b208_M_comeTo_90'
          simp (disch := omega) only [r1, o_le, o_leL, o_leR, o_lt, o_ltL, o_ltR, o_eq, o_eqL, o_eqR, o_cl, o_add, o_addL, o_addR, o_mul, o_mulL, o_mulR, o_sub, o_subR, o_0le, o_lt0, o_ixo, n1_eq, n1_eq', n1_lt, n1_le, n1_ge, n1_gt, n2_eq, n2_eq', n2_lt, n2_le, n2_ge, n2_gt, ↓reduceIte, ite_self, Nat.reduceEqDiff, Nat.reduceAdd, Nat.reduceMul, Nat.reduceSub, Nat.reduceLT, Nat.reduceLeDiff, Nat.not_lt_zero, Nat.zero_le, if_true, if_false, ite_true, ite_false, true_and, and_true, false_and, and_false, true_implies, false_implies, implies_true, not_true_eq_false, not_false_eq_true, eq_self, true_or, or_true, false_or, or_false, and_self, reduceCtorEq, forall_const]
        refine ⟨false, M, ?_, MO.refl M, Or.inl ⟨by rw [if_neg (fun q => by rw [r2] at q; exact absurd q.2 (by decide))], rfl⟩⟩
        simp (disch := omega) only [hi, n81, b2, er, Option.bind_some, ep', r1, n10, o_le, o_leL, o_leR, o_lt, o_ltL, o_ltR, o_eq, o_eqL, o_eqR, o_cl, o_add, o_addL, o_addR, o_mul, o_mulL, o_mulR, o_sub, o_subR, o_0le, o_lt0, o_ixo, n1_eq, n1_eq', n1_lt, n1_le, n1_ge, n1_gt, n2_eq, n2_eq', n2_lt, n2_le, n2_ge, n2_gt, ↓reduceIte, ite_self, Nat.reduceEqDiff, Nat.reduceAdd, Nat.reduceMul, Nat.reduceSub, Nat.reduceLT, Nat.reduceLeDiff, Nat.not_lt_zero, Nat.zero_le, if_true, if_false, ite_true, ite_false, true_and, and_true, false_and, and_false, true_implies, false_implies, implies_true, not_true_eq_false, not_false_eq_true, eq_self, true_or, or_true, false_or, or_false, and_self, reduceCtorEq, forall_const]
    · have er : lp (b161_M_comeTo_90 (Int32.ofNat i) (Int32.ofNat h) M) 10000 ((0 : Int32), (0 : Int32)) = some ((0 : Int32), (0 : Int32)) := by
        refine lp_inr ?_
        unfold b161_M_comeTo_90
        by_cases q : h ≤ 0
        · simp (disch := omega) only [q, o_le, o_leL, o_leR, o_lt, o_ltL, o_ltR, o_eq, o_eqL, o_eqR, o_cl, o_add, o_addL, o_addR, o_mul, o_mulL, o_mulR, o_sub, o_subR, o_0le, o_lt0, o_ixo, n1_eq, n1_eq', n1_lt, n1_le, n1_ge, n1_gt, n2_eq, n2_eq', n2_lt, n2_le, n2_ge, n2_gt, ↓reduceIte, ite_self, Nat.reduceEqDiff, Nat.reduceAdd, Nat.reduceMul, Nat.reduceSub, Nat.reduceLT, Nat.reduceLeDiff, Nat.not_lt_zero, Nat.zero_le, if_true, if_false, ite_true, ite_false, true_and, and_true, false_and, and_false, true_implies, false_implies, implies_true, not_true_eq_false, not_false_eq_true, eq_self, true_or, or_true, false_or, or_false, and_self, reduceCtorEq, forall_const]
        · simp (disch := omega) only [q, o_le, o_leL, o_leR, o_lt, o_ltL, o_ltR, o_eq, o_eqL, o_eqR, o_cl, o_add, o_addL, o_addR, o_mul, o_mulL, o_mulR, o_sub, o_subR, o_0le, o_lt0, o_ixo, n1_eq, n1_eq', n1_lt, n1_le, n1_ge, n1_gt, n2_eq, n2_eq', n2_lt, n2_le, n2_ge, n2_gt, ↓reduceIte, ite_self, Nat.reduceEqDiff, Nat.reduceAdd, Nat.reduceMul, Nat.reduceSub, Nat.reduceLT, Nat.reduceLeDiff, Nat.not_lt_zero, Nat.zero_le, if_true, if_false, ite_true, ite_false, true_and, and_true, false_and, and_false, true_implies, false_implies, implies_true, not_true_eq_false, not_false_eq_true, eq_self, true_or, or_true, false_or, or_false, and_self, reduceCtorEq, forall_const]
      have ep' : lp (b208_M_comeTo_90 (Int32.ofNat i) ((0 : Int32), (0 : Int32))) 10000 ((0 : Int32), M) = some ((0 : Int32), M) := by
        refine lp_inr ?_
        unfold b208_M_comeTo_90
        simp (disch := omega) only [o_le, o_leL, o_leR, o_lt, o_ltL, o_ltR, o_eq, o_eqL, o_eqR, o_cl, o_add, o_addL, o_addR, o_mul, o_mulL, o_mulR, o_sub, o_subR, o_0le, o_lt0, o_ixo, n1_eq, n1_eq', n1_lt, n1_le, n1_ge, n1_gt, n2_eq, n2_eq', n2_lt, n2_le, n2_ge, n2_gt, ↓reduceIte, ite_self, Nat.reduceEqDiff, Nat.reduceAdd, Nat.reduceMul, Nat.reduceSub, Nat.reduceLT, Nat.reduceLeDiff, Nat.not_lt_zero, Nat.zero_le, if_true, if_false, ite_true, ite_false, true_and, and_true, false_and, and_false, true_implies, false_implies, implies_true, not_true_eq_false, not_false_eq_true, eq_self, true_or, or_true, false_or, or_false, and_self, reduceCtorEq, forall_const]
      refine ⟨false, M, ?_, MO.refl M, Or.inl ⟨by rw [if_neg (fun q => ch q.1)], rfl⟩⟩
      simp (disch := omega) only [hi, n81, b2, ch, er, Option.bind_some, ep', n10, o_le, o_leL, o_leR, o_lt, o_ltL, o_ltR, o_eq, o_eqL, o_eqR, o_cl, o_add, o_addL, o_addR, o_mul, o_mulL, o_mulR, o_sub, o_subR, o_0le, o_lt0, o_ixo, n1_eq, n1_eq', n1_lt, n1_le, n1_ge, n1_gt, n2_eq, n2_eq', n2_lt, n2_le, n2_ge, n2_gt, ↓reduceIte, ite_self, Nat.reduceEqDiff, Nat.reduceAdd, Nat.reduceMul, Nat.reduceSub, Nat.reduceLT, Nat.reduceLeDiff, Nat.not_lt_zero, Nat.zero_le, if_true, if_false, ite_true, ite_false, true_and, and_true, false_and, and_false, true_implies, false_implies, implies_true, not_true_eq_false, not_false_eq_true, eq_self, true_or, or_true, false_or, or_false, and_self, reduceCtorEq, forall_const]
