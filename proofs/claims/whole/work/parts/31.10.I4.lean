/-! I4 -/
set_option maxRecDepth 20000 in
set_option maxHeartbeats 4000000 in
theorem two_35 {X : XS} {T : Nat → Nat} {n b L i a c : Nat} (h : IMG 35 2 X T n b L) (hi : i + 1 < n) (hn : n < 10000) (ha : X.1 b i = Int32.ofNat a) (hc : X.1 b (i + 1) = Int32.ofNat c) (hc2 : c < 256) : f_Image_two_35 (Int32.ofNat i) X = some (Int32.ofNat (256 * a + c)) := by
  unfold f_Image_two_35
  simp (disch := omega) only [at_35 h (i := i) (by omega) hn, at_35 h (i := i + 1) hi hn, Option.bind_some, ha, hc, o_le, o_leL, o_leR, o_lt, o_ltL, o_ltR, o_eq, o_eqL, o_eqR, o_cl, o_add, o_addL, o_addR, o_mul, o_mulL, o_mulR, o_sub, o_subR, o_0le, o_lt0, o_ixo, n1_eq, n1_eq', n1_lt, n1_le, n1_ge, n1_gt, n2_eq, n2_eq', n2_lt, n2_le, n2_ge, n2_gt, ↓reduceIte, ite_self, Nat.reduceEqDiff, Nat.reduceAdd, Nat.reduceMul, Nat.reduceSub, Nat.reduceLT, Nat.reduceLeDiff, Nat.not_lt_zero, Nat.zero_le, if_true, if_false, ite_true, ite_false, true_and, and_true, false_and, and_false, true_implies, false_implies, implies_true, not_true_eq_false, not_false_eq_true, eq_self, true_or, or_true, false_or, or_false, and_self, reduceCtorEq, forall_const]
  rw [two_eq hc2]
set_option maxRecDepth 20000 in
set_option maxHeartbeats 4000000 in
theorem check_ok {X : XS} {M : MS} {T : Nat → Nat} (h : RFd X M T) (hl : RIm X M T) (ht : TG T) : Wo (f_P_check X) (fun p => Wo (f_M_check M) (fun q => p.1 = q.1 ∧ RFd p.2 q.2 T ∧ FedOnly T T X p.2 M q.2)) := by
  obtain ⟨n, b, L, hn, hi, e, hj⟩ := h
  obtain ⟨n0, b0, L0, hn0, hi0, e0, hj0⟩ := hl
  have h1 := hi.1
  have tc := ht 35 (by omega) (by omega) (by omega) (by omega) (by omega) (by omega) (by omega)
  have post : ∀ r : Int32, r = r ∧ RFd (xw X 35 0 0) (mw M 60 42 0) T ∧ FedOnly T T X (xw X 35 0 0) M (mw M 60 42 0) := by
    intro r
    refine ⟨rfl, ⟨0, b, L, by omega, ⟨?_, hi.2.1, hi.2.2.1, by omega, hi.2.2.2.2.1, hi.2.2.2.2.2⟩, ?_, fun j hj => absurd hj (Nat.not_lt_zero j)⟩, Mo.id T rfl, ht, ?_, ?_, ?_, rfl⟩
    · rw [xw1, if_pos ⟨rfl, rfl⟩]; rfl
    · rw [mw1, if_pos ⟨rfl, rfl⟩]; rfl
    · intro a ha hs
      have : a ≠ 35 := by intro q; subst q; exact hs.2 tc
      exact ⟨xw_ne _ _ _ _ this, rfl⟩
    · intro a _ h2
      exact mw_ne _ _ _ _ h2
    · intro f hf
      rw [mw1, if_neg (fun h => hf h.2)]
  have key : ∃ r, f_Image_compareWith_35_30 X = some r ∧ f_M_check M = some (r, mw M 60 42 0) := by
    unfold f_Image_compareWith_35_30 f_M_check lt
    dsimp only
    have mr : ∀ a j, (a ≠ 60 ∨ j ≠ 42) → (mw M 60 42 0).1 a j = M.1 a j := by
      intro a j h
      rw [mw1, if_neg (by omega)]
    rw [mr 94 0 (by omega), mr 94 1 (by omega), mr 94 5 (by omega), mr 94 6 (by omega), mr 94 7 (by omega), mr 94 8 (by omega), mr 60 37 (by omega)]
    by_cases h9 : n < 9
    · refine ⟨1, ?_, ?_⟩
      · simp (disch := omega) only [h1, h9, o_le, o_leL, o_leR, o_lt, o_ltL, o_ltR, o_eq, o_eqL, o_eqR, o_cl, o_add, o_addL, o_addR, o_mul, o_mulL, o_mulR, o_sub, o_subR, o_0le, o_lt0, o_ixo, n1_eq, n1_eq', n1_lt, n1_le, n1_ge, n1_gt, n2_eq, n2_eq', n2_lt, n2_le, n2_ge, n2_gt, ↓reduceIte, ite_self, Nat.reduceEqDiff, Nat.reduceAdd, Nat.reduceMul, Nat.reduceSub, Nat.reduceLT, Nat.reduceLeDiff, Nat.not_lt_zero, Nat.zero_le, if_true, if_false, ite_true, ite_false, true_and, and_true, false_and, and_false, true_implies, false_implies, implies_true, not_true_eq_false, not_false_eq_true, eq_self, true_or, or_true, false_or, or_false, and_self, reduceCtorEq, forall_const]
      · simp (disch := omega) only [e, h9, o_le, o_leL, o_leR, o_lt, o_ltL, o_ltR, o_eq, o_eqL, o_eqR, o_cl, o_add, o_addL, o_addR, o_mul, o_mulL, o_mulR, o_sub, o_subR, o_0le, o_lt0, o_ixo, n1_eq, n1_eq', n1_lt, n1_le, n1_ge, n1_gt, n2_eq, n2_eq', n2_lt, n2_le, n2_ge, n2_gt, ↓reduceIte, ite_self, Nat.reduceEqDiff, Nat.reduceAdd, Nat.reduceMul, Nat.reduceSub, Nat.reduceLT, Nat.reduceLeDiff, Nat.not_lt_zero, Nat.zero_le, if_true, if_false, ite_true, ite_false, true_and, and_true, false_and, and_false, true_implies, false_implies, implies_true, not_true_eq_false, not_false_eq_true, eq_self, true_or, or_true, false_or, or_false, and_self, reduceCtorEq, forall_const]
    have a0 := at_35 hi (i := 0) (by omega) (by omega)
    have a1 := at_35 hi (i := 1) (by omega) (by omega)
    have z0 : f_Image_at_35 0 X = some (M.1 94 0) := by rw [← (hj 0 (by omega)).1]; exact a0
    have z1 : f_Image_at_35 1 X = some (M.1 94 1) := by rw [← (hj 1 (by omega)).1]; exact a1
    by_cases c0 : M.1 94 0 = 80
    case neg =>
      refine ⟨1, ?_, ?_⟩
      · simp (disch := omega) only [h1, h9, z0, c0, Option.bind_some, o_le, o_leL, o_leR, o_lt, o_ltL, o_ltR, o_eq, o_eqL, o_eqR, o_cl, o_add, o_addL, o_addR, o_mul, o_mulL, o_mulR, o_sub, o_subR, o_0le, o_lt0, o_ixo, n1_eq, n1_eq', n1_lt, n1_le, n1_ge, n1_gt, n2_eq, n2_eq', n2_lt, n2_le, n2_ge, n2_gt, ↓reduceIte, ite_self, Nat.reduceEqDiff, Nat.reduceAdd, Nat.reduceMul, Nat.reduceSub, Nat.reduceLT, Nat.reduceLeDiff, Nat.not_lt_zero, Nat.zero_le, if_true, if_false, ite_true, ite_false, true_and, and_true, false_and, and_false, true_implies, false_implies, implies_true, not_true_eq_false, not_false_eq_true, eq_self, true_or, or_true, false_or, or_false, and_self, reduceCtorEq, forall_const]
      · simp (disch := omega) only [e, h9, c0, o_le, o_leL, o_leR, o_lt, o_ltL, o_ltR, o_eq, o_eqL, o_eqR, o_cl, o_add, o_addL, o_addR, o_mul, o_mulL, o_mulR, o_sub, o_subR, o_0le, o_lt0, o_ixo, n1_eq, n1_eq', n1_lt, n1_le, n1_ge, n1_gt, n2_eq, n2_eq', n2_lt, n2_le, n2_ge, n2_gt, ↓reduceIte, ite_self, Nat.reduceEqDiff, Nat.reduceAdd, Nat.reduceMul, Nat.reduceSub, Nat.reduceLT, Nat.reduceLeDiff, Nat.not_lt_zero, Nat.zero_le, if_true, if_false, ite_true, ite_false, true_and, and_true, false_and, and_false, true_implies, false_implies, implies_true, not_true_eq_false, not_false_eq_true, eq_self, true_or, or_true, false_or, or_false, and_self, reduceCtorEq, forall_const]
    by_cases c1 : M.1 94 1 = 77
    case neg =>
      refine ⟨1, ?_, ?_⟩
      · simp (disch := omega) only [h1, h9, z0, c0, z1, c1, Option.bind_some, o_le, o_leL, o_leR, o_lt, o_ltL, o_ltR, o_eq, o_eqL, o_eqR, o_cl, o_add, o_addL, o_addR, o_mul, o_mulL, o_mulR, o_sub, o_subR, o_0le, o_lt0, o_ixo, n1_eq, n1_eq', n1_lt, n1_le, n1_ge, n1_gt, n2_eq, n2_eq', n2_lt, n2_le, n2_ge, n2_gt, ↓reduceIte, ite_self, Nat.reduceEqDiff, Nat.reduceAdd, Nat.reduceMul, Nat.reduceSub, Nat.reduceLT, Nat.reduceLeDiff, Nat.not_lt_zero, Nat.zero_le, if_true, if_false, ite_true, ite_false, true_and, and_true, false_and, and_false, true_implies, false_implies, implies_true, not_true_eq_false, not_false_eq_true, eq_self, true_or, or_true, false_or, or_false, and_self, reduceCtorEq, forall_const]
      · simp (disch := omega) only [e, h9, c0, c1, o_le, o_leL, o_leR, o_lt, o_ltL, o_ltR, o_eq, o_eqL, o_eqR, o_cl, o_add, o_addL, o_addR, o_mul, o_mulL, o_mulR, o_sub, o_subR, o_0le, o_lt0, o_ixo, n1_eq, n1_eq', n1_lt, n1_le, n1_ge, n1_gt, n2_eq, n2_eq', n2_lt, n2_le, n2_ge, n2_gt, ↓reduceIte, ite_self, Nat.reduceEqDiff, Nat.reduceAdd, Nat.reduceMul, Nat.reduceSub, Nat.reduceLT, Nat.reduceLeDiff, Nat.not_lt_zero, Nat.zero_le, if_true, if_false, ite_true, ite_false, true_and, and_true, false_and, and_false, true_implies, false_implies, implies_true, not_true_eq_false, not_false_eq_true, eq_self, true_or, or_true, false_or, or_false, and_self, reduceCtorEq, forall_const]
    obtain ⟨g5, k5, l5, m5⟩ := hj 5 (by omega)
    obtain ⟨g6, k6, l6, m6⟩ := hj 6 (by omega)
    obtain ⟨g7, k7, l7, m7⟩ := hj 7 (by omega)
    obtain ⟨g8, k8, l8, m8⟩ := hj 8 (by omega)
    have t5 : f_Image_two_35 5 X = some (Int32.ofNat (256 * k5 + k6)) := two_35 hi (i := 5) (by omega) (by omega) (g5.trans m5) (g6.trans m6) l6
    have t7 : f_Image_two_35 7 X = some (Int32.ofNat (256 * k7 + k8)) := two_35 hi (i := 7) (by omega) (by omega) (g7.trans m7) (g8.trans m8) l8
    by_cases c2 : 256 * k5 + k6 = n
    case neg =>
      have c2' : ¬ n = 256 * k5 + k6 := fun h => c2 h.symm
      refine ⟨2, ?_, ?_⟩
      · simp (disch := omega) only [h1, h9, z0, c0, z1, c1, t5, c2, Option.bind_some, o_le, o_leL, o_leR, o_lt, o_ltL, o_ltR, o_eq, o_eqL, o_eqR, o_cl, o_add, o_addL, o_addR, o_mul, o_mulL, o_mulR, o_sub, o_subR, o_0le, o_lt0, o_ixo, n1_eq, n1_eq', n1_lt, n1_le, n1_ge, n1_gt, n2_eq, n2_eq', n2_lt, n2_le, n2_ge, n2_gt, ↓reduceIte, ite_self, Nat.reduceEqDiff, Nat.reduceAdd, Nat.reduceMul, Nat.reduceSub, Nat.reduceLT, Nat.reduceLeDiff, Nat.not_lt_zero, Nat.zero_le, if_true, if_false, ite_true, ite_false, true_and, and_true, false_and, and_false, true_implies, false_implies, implies_true, not_true_eq_false, not_false_eq_true, eq_self, true_or, or_true, false_or, or_false, and_self, reduceCtorEq, forall_const]
      · simp (disch := omega) only [e, h9, c0, c1, m5, m6, c2', o_le, o_leL, o_leR, o_lt, o_ltL, o_ltR, o_eq, o_eqL, o_eqR, o_cl, o_add, o_addL, o_addR, o_mul, o_mulL, o_mulR, o_sub, o_subR, o_0le, o_lt0, o_ixo, n1_eq, n1_eq', n1_lt, n1_le, n1_ge, n1_gt, n2_eq, n2_eq', n2_lt, n2_le, n2_ge, n2_gt, ↓reduceIte, ite_self, Nat.reduceEqDiff, Nat.reduceAdd, Nat.reduceMul, Nat.reduceSub, Nat.reduceLT, Nat.reduceLeDiff, Nat.not_lt_zero, Nat.zero_le, if_true, if_false, ite_true, ite_false, true_and, and_true, false_and, and_false, true_implies, false_implies, implies_true, not_true_eq_false, not_false_eq_true, eq_self, true_or, or_true, false_or, or_false, and_self, reduceCtorEq, forall_const]
    have s35 := sum_35 hi hn
    have sEq : sumB (X.1 b) n = sumB (M.1 94) n := sumB_congr n (fun j hj' => (hj j hj').1)
    rw [sEq] at s35
    obtain ⟨rM, eM, hM⟩ := sum_M (M := M) (M1 := mw M 60 42 0) e hn
    have hM2 : rM.1 = sumB (M.1 94) n := by
      rw [hM]
      exact sumB_congr n (fun j _ => mr 94 j (by omega))
    by_cases c3 : sumB (M.1 94) n &&& 65535 = Int32.ofNat (256 * k7 + k8)
    case neg =>
      have c3' : ¬ Int32.ofNat (256 * k7 + k8) = sumB (M.1 94) n &&& 65535 := fun h => c3 h.symm
      refine ⟨3, ?_, ?_⟩
      · simp (disch := omega) only [h1, h9, z0, c0, z1, c1, t5, c2, t7, s35, c3', Option.bind_some, o_le, o_leL, o_leR, o_lt, o_ltL, o_ltR, o_eq, o_eqL, o_eqR, o_cl, o_add, o_addL, o_addR, o_mul, o_mulL, o_mulR, o_sub, o_subR, o_0le, o_lt0, o_ixo, n1_eq, n1_eq', n1_lt, n1_le, n1_ge, n1_gt, n2_eq, n2_eq', n2_lt, n2_le, n2_ge, n2_gt, ↓reduceIte, ite_self, Nat.reduceEqDiff, Nat.reduceAdd, Nat.reduceMul, Nat.reduceSub, Nat.reduceLT, Nat.reduceLeDiff, Nat.not_lt_zero, Nat.zero_le, if_true, if_false, ite_true, ite_false, true_and, and_true, false_and, and_false, true_implies, false_implies, implies_true, not_true_eq_false, not_false_eq_true, eq_self, true_or, or_true, false_or, or_false, and_self, reduceCtorEq, forall_const]
      · simp (disch := omega) only [e, h9, c0, c1, m5, m6, c2, eM, Option.bind_some, m7, m8, o_le, o_leL, o_leR, o_lt, o_ltL, o_ltR, o_eq, o_eqL, o_eqR, o_cl, o_add, o_addL, o_addR, o_mul, o_mulL, o_mulR, o_sub, o_subR, o_0le, o_lt0, o_ixo, n1_eq, n1_eq', n1_lt, n1_le, n1_ge, n1_gt, n2_eq, n2_eq', n2_lt, n2_le, n2_ge, n2_gt, ↓reduceIte, ite_self, Nat.reduceEqDiff, Nat.reduceAdd, Nat.reduceMul, Nat.reduceSub, Nat.reduceLT, Nat.reduceLeDiff, Nat.not_lt_zero, Nat.zero_le, if_true, if_false, ite_true, ite_false, true_and, and_true, false_and, and_false, true_implies, false_implies, implies_true, not_true_eq_false, not_false_eq_true, eq_self, true_or, or_true, false_or, or_false, and_self, reduceCtorEq, forall_const]
        rw [hM2, if_neg c3]
    have sm := same_M (M := M) (M1 := mw M 60 42 0) e hn (b150_M_check M (mw M 60 42 0)) rfl
    by_cases c4 : n = n0
    case neg =>
      have c4' : ¬ Int32.ofNat n = Int32.ofNat n0 := by rw [o_eq _ _ (by omega) (by omega)]; exact c4
      refine ⟨4, ?_, ?_⟩
      · have q := hi0.1
        unfold f_Image_isSame_35_30
        simp (disch := omega) only [h1, h9, z0, c0, z1, c1, t5, c2, t7, s35, c3, q, c4, Option.bind_some, o_le, o_leL, o_leR, o_lt, o_ltL, o_ltR, o_eq, o_eqL, o_eqR, o_cl, o_add, o_addL, o_addR, o_mul, o_mulL, o_mulR, o_sub, o_subR, o_0le, o_lt0, o_ixo, n1_eq, n1_eq', n1_lt, n1_le, n1_ge, n1_gt, n2_eq, n2_eq', n2_lt, n2_le, n2_ge, n2_gt, ↓reduceIte, ite_self, Nat.reduceEqDiff, Nat.reduceAdd, Nat.reduceMul, Nat.reduceSub, Nat.reduceLT, Nat.reduceLeDiff, Nat.not_lt_zero, Nat.zero_le, if_true, if_false, ite_true, ite_false, true_and, and_true, false_and, and_false, true_implies, false_implies, implies_true, not_true_eq_false, not_false_eq_true, eq_self, true_or, or_true, false_or, or_false, and_self, reduceCtorEq, forall_const]
      · have first : lp (b150_M_check M (mw M 60 42 0)) 10000 ((0 : Int32), (0 : Int32)) = some (0, 0) := by
          unfold lp b150_M_check
          have q : ¬ n ≤ 0 := by omega
          simp (disch := omega) only [e, q, o_le, o_leL, o_leR, o_lt, o_ltL, o_ltR, o_eq, o_eqL, o_eqR, o_cl, o_add, o_addL, o_addR, o_mul, o_mulL, o_mulR, o_sub, o_subR, o_0le, o_lt0, o_ixo, n1_eq, n1_eq', n1_lt, n1_le, n1_ge, n1_gt, n2_eq, n2_eq', n2_lt, n2_le, n2_ge, n2_gt, ↓reduceIte, ite_self, Nat.reduceEqDiff, Nat.reduceAdd, Nat.reduceMul, Nat.reduceSub, Nat.reduceLT, Nat.reduceLeDiff, Nat.not_lt_zero, Nat.zero_le, if_true, if_false, ite_true, ite_false, true_and, and_true, false_and, and_false, true_implies, false_implies, implies_true, not_true_eq_false, not_false_eq_true, eq_self, true_or, or_true, false_or, or_false, and_self, reduceCtorEq, forall_const]
        simp (disch := omega) only [e, h9, c0, c1, m5, m6, c2, eM, Option.bind_some, m7, m8, o_le, o_leL, o_leR, o_lt, o_ltL, o_ltR, o_eq, o_eqL, o_eqR, o_cl, o_add, o_addL, o_addR, o_mul, o_mulL, o_mulR, o_sub, o_subR, o_0le, o_lt0, o_ixo, n1_eq, n1_eq', n1_lt, n1_le, n1_ge, n1_gt, n2_eq, n2_eq', n2_lt, n2_le, n2_ge, n2_gt, ↓reduceIte, ite_self, Nat.reduceEqDiff, Nat.reduceAdd, Nat.reduceMul, Nat.reduceSub, Nat.reduceLT, Nat.reduceLeDiff, Nat.not_lt_zero, Nat.zero_le, if_true, if_false, ite_true, ite_false, true_and, and_true, false_and, and_false, true_implies, false_implies, implies_true, not_true_eq_false, not_false_eq_true, eq_self, true_or, or_true, false_or, or_false, and_self, reduceCtorEq, forall_const]
        rw [hM2, if_pos c3]
        simp (disch := omega) only [e0, c4, first, Option.bind_some, o_le, o_leL, o_leR, o_lt, o_ltL, o_ltR, o_eq, o_eqL, o_eqR, o_cl, o_add, o_addL, o_addR, o_mul, o_mulL, o_mulR, o_sub, o_subR, o_0le, o_lt0, o_ixo, n1_eq, n1_eq', n1_lt, n1_le, n1_ge, n1_gt, n2_eq, n2_eq', n2_lt, n2_le, n2_ge, n2_gt, ↓reduceIte, ite_self, Nat.reduceEqDiff, Nat.reduceAdd, Nat.reduceMul, Nat.reduceSub, Nat.reduceLT, Nat.reduceLeDiff, Nat.not_lt_zero, Nat.zero_le, if_true, if_false, ite_true, ite_false, true_and, and_true, false_and, and_false, true_implies, false_implies, implies_true, not_true_eq_false, not_false_eq_true, eq_self, true_or, or_true, false_or, or_false, and_self, reduceCtorEq, forall_const]
    subst c4
    have sx := same_X hi hi0 hn
    obtain ⟨rs, es, hs⟩ := sx
    obtain ⟨rm, em, hm⟩ := sm
    have iff1 : (∀ j, j < n → X.1 b j = X.1 b0 j) ↔ ∀ j, j < n → M.1 94 j = M.1 91 j := by
      constructor
      · intro h j hj'
        rw [← (hj j hj').1, ← (hj0 j hj').1]
        exact h j hj'
      · intro h j hj'
        rw [(hj j hj').1, (hj0 j hj').1]
        exact h j hj'
    have hm2 : (rm.1 = 0) = ¬ ∀ j, j < n → M.1 94 j = M.1 91 j := by
      rw [hm]
      simp only [mr 94 _ (Or.inl (by decide)), mr 91 _ (Or.inl (by decide))]
    have em2 : lp (b150_M_check' M (mw M 60 42 0)) 10000 ((1 : Int32), (0 : Int32)) = some rm := em
    have q := hi0.1
    refine ⟨if (∀ j, j < n → M.1 94 j = M.1 91 j) then 0 else 4, ?_, ?_⟩
    · unfold f_Image_isSame_35_30
      simp (disch := omega) only [h1, h9, z0, c0, z1, c1, t5, c2, t7, s35, c3, q, es, Option.bind_some, o_le, o_leL, o_leR, o_lt, o_ltL, o_ltR, o_eq, o_eqL, o_eqR, o_cl, o_add, o_addL, o_addR, o_mul, o_mulL, o_mulR, o_sub, o_subR, o_0le, o_lt0, o_ixo, n1_eq, n1_eq', n1_lt, n1_le, n1_ge, n1_gt, n2_eq, n2_eq', n2_lt, n2_le, n2_ge, n2_gt, ↓reduceIte, ite_self, Nat.reduceEqDiff, Nat.reduceAdd, Nat.reduceMul, Nat.reduceSub, Nat.reduceLT, Nat.reduceLeDiff, Nat.not_lt_zero, Nat.zero_le, if_true, if_false, ite_true, ite_false, true_and, and_true, false_and, and_false, true_implies, false_implies, implies_true, not_true_eq_false, not_false_eq_true, eq_self, true_or, or_true, false_or, or_false, and_self, reduceCtorEq, forall_const]
      rw [hs]
      by_cases c5 : ∀ j, j < n → M.1 94 j = M.1 91 j
      · have := iff1.mpr c5
        rw [decide_eq_true this, if_pos c5]
        rfl
      · have : ¬ ∀ j, j < n → X.1 b j = X.1 b0 j := fun h => c5 (iff1.mp h)
        rw [decide_eq_false this, if_neg c5]
        rfl
    · simp (disch := omega) only [e, h9, c0, c1, m5, m6, c2, eM, Option.bind_some, m7, m8, o_le, o_leL, o_leR, o_lt, o_ltL, o_ltR, o_eq, o_eqL, o_eqR, o_cl, o_add, o_addL, o_addR, o_mul, o_mulL, o_mulR, o_sub, o_subR, o_0le, o_lt0, o_ixo, n1_eq, n1_eq', n1_lt, n1_le, n1_ge, n1_gt, n2_eq, n2_eq', n2_lt, n2_le, n2_ge, n2_gt, ↓reduceIte, ite_self, Nat.reduceEqDiff, Nat.reduceAdd, Nat.reduceMul, Nat.reduceSub, Nat.reduceLT, Nat.reduceLeDiff, Nat.not_lt_zero, Nat.zero_le, if_true, if_false, ite_true, ite_false, true_and, and_true, false_and, and_false, true_implies, false_implies, implies_true, not_true_eq_false, not_false_eq_true, eq_self, true_or, or_true, false_or, or_false, and_self, reduceCtorEq, forall_const]
      rw [hM2, if_pos c3]
      simp (disch := omega) only [e0, em2, Option.bind_some, o_le, o_leL, o_leR, o_lt, o_ltL, o_ltR, o_eq, o_eqL, o_eqR, o_cl, o_add, o_addL, o_addR, o_mul, o_mulL, o_mulR, o_sub, o_subR, o_0le, o_lt0, o_ixo, n1_eq, n1_eq', n1_lt, n1_le, n1_ge, n1_gt, n2_eq, n2_eq', n2_lt, n2_le, n2_ge, n2_gt, ↓reduceIte, ite_self, Nat.reduceEqDiff, Nat.reduceAdd, Nat.reduceMul, Nat.reduceSub, Nat.reduceLT, Nat.reduceLeDiff, Nat.not_lt_zero, Nat.zero_le, if_true, if_false, ite_true, ite_false, true_and, and_true, false_and, and_false, true_implies, false_implies, implies_true, not_true_eq_false, not_false_eq_true, eq_self, true_or, or_true, false_or, or_false, and_self, reduceCtorEq, forall_const]
      by_cases c5 : ∀ j, j < n → M.1 94 j = M.1 91 j
      · rw [if_neg (by rw [hm2]; exact fun h => h c5), if_pos c5]
      · rw [if_pos (by rw [hm2]; exact c5), if_neg c5]
  obtain ⟨r, k1, k2⟩ := key
  unfold f_P_check f_Image_clear_35 lt
  rw [k1, k2]
  simp only [Option.bind_some, W_some]
  exact ⟨trivial, (post r).2⟩
