/-! S5 -/
set_option maxRecDepth 20000 in
set_option maxHeartbeats 4000000 in
theorem RS_trap {X : XS} {M : MS} {T : Nat → Nat} {kc rc : Nat} (h : RSc X M T kc rc) (ht : TG T) (x y z u : Int32) : Wo (f_P_trap x y z u X) (fun p => Wo (f_M_trap x y z u M) (fun q => p.1 = q.1 ∧ RSc p.2 q.2 T kc rc ∧ SrcOnly T T X p.2 M q.2)) := by
  have h0 := h
  obtain ⟨hk, hr, e1, e2, hn, hm⟩ := h
  by_cases z0 : rc = 0
  · subst z0
    have ir : f_Source_isRoutine (-1) X = false := isRoutine_not hr e1 (-1) (by intro ⟨m, h, _⟩; exact absurd h (Nat.not_lt_zero m))
    have e3 : Int32.ofNat 0 - 1 = -1 := rfl
    unfold f_P_trap f_Source_addTrap f_M_trap
    simp only [W_bind, e1, e2, e3, ir]
    simp (disch := omega) only [W_some, W_none, W_bind, W_ite, W_ocz, W_lt, o_le, o_leL, o_leR, o_lt, o_ltL, o_ltR, o_eq, o_eqL, o_eqR, o_cl, o_add, o_addL, o_addR, o_mul, o_mulL, o_mulR, o_sub, o_subR, o_0le, o_lt0, o_ixo, n1_eq, n1_eq', n1_lt, n1_le, n1_ge, n1_gt, n2_eq, n2_eq', n2_lt, n2_le, n2_ge, n2_gt, ↓reduceIte, ite_self, Nat.reduceEqDiff, Nat.reduceAdd, Nat.reduceMul, Nat.reduceSub, Nat.reduceLT, Nat.reduceLeDiff, Nat.not_lt_zero, Nat.zero_le, if_true, if_false, ite_true, ite_false, true_and, and_true, false_and, and_false, true_implies, false_implies, implies_true, not_true_eq_false, not_false_eq_true, eq_self, true_or, or_true, false_or, or_false, and_self, reduceCtorEq, forall_const]
    exact ⟨h0, SrcOnly.refl ht⟩
  obtain ⟨m, rfl⟩ : ∃ m, rc = m + 1 := ⟨rc - 1, by omega⟩
  obtain ⟨a, f, ⟨a1, a2, a3, a4, a5⟩, v⟩ := hm m (by omega)
  obtain ⟨v1, v2, v3, v4, v5, v6, v7, v8, v9, v11, v12, v13, v14, v15, v16, ⟨s, v19, v20, v21⟩⟩ := v
  obtain ⟨b1, b2, b3⟩ := a4 7 (Or.inl rfl)
  obtain ⟨d1, d2, d3⟩ := a4 8 (Or.inr rfl)
  obtain ⟨g1, g2, g3⟩ := a5 10 (by omega) (by omega)
  obtain ⟨h1, h2, h3⟩ := a5 11 (by omega) (by omega)
  obtain ⟨i1, i2, i3⟩ := a5 12 (by omega) (by omega)
  obtain ⟨j1, j2, j3⟩ := a5 13 (by omega) (by omega)
  have ng : a ≠ f 10 := fun e => by rw [← e] at g3; omega
  have nh : a ≠ f 11 := fun e => by rw [← e] at h3; omega
  have ni : a ≠ f 12 := fun e => by rw [← e] at i3; omega
  have nj : a ≠ f 13 := fun e => by rw [← e] at j3; omega
  refine trap_sym (m := m) (s := s) (a := a) (o1 := f 10) (o2 := f 11) (o3 := f 12) (o4 := f 13) (by omega) e1 e2 v19 v20 (v8.trans v20) a1 a2 g1 (xL_iff.mpr g2) h1 (xL_iff.mpr h2) i1 (xL_iff.mpr i2) j1 (xL_iff.mpr j2) ng nh ni nj x y z u _ ⟨rfl, h0, SrcOnly.refl ht⟩ ?_
  intro hs
  generalize hX : xw (xw (xw (xw (xw X (f 10) s x) (f 11) s y) (f 12) s z) (f 13) s u) a 9 (Int32.ofNat (s + 1)) = X'
  have n1 : f 10 ≠ f 11 := fun e => by rw [e] at g3; omega
  have n2 : f 10 ≠ f 12 := fun e => by rw [e] at g3; omega
  have n3 : f 10 ≠ f 13 := fun e => by rw [e] at g3; omega
  have n4 : f 11 ≠ f 12 := fun e => by rw [e] at h3; omega
  have n5 : f 11 ≠ f 13 := fun e => by rw [e] at h3; omega
  have n6 : f 12 ≠ f 13 := fun e => by rw [e] at i3; omega
  have rd : ∀ b, b ≠ a → b ≠ f 10 → b ≠ f 11 → b ≠ f 12 → b ≠ f 13 → X'.1 b = X.1 b := by
    intro b h1 h2 h3 h4 h5
    rw [← hX, xw_ne _ _ _ _ h1, xw_ne _ _ _ _ h5, xw_ne _ _ _ _ h4, xw_ne _ _ _ _ h3, xw_ne _ _ _ _ h2]
  have rt : ∀ b, b < xA X → (T b < 100 + 16 * m ∨ 100 + 16 * m < T b ∧ T b < 110 + 16 * m ∨ 113 + 16 * m < T b) → X'.1 b = X.1 b := by
    intro b _ h
    refine rd b ?_ ?_ ?_ ?_ ?_ <;> intro e <;> subst e <;> omega
  have rf : ∀ b, b < 130 → b ≠ 31 → b ≠ 36 → b ≠ 52 → b ≠ 42 → b ≠ 43 → b ≠ 44 → X'.1 b = X.1 b := by
    intro b h1 h2 h3 h4 h5 h6 h7
    have := ht b h1 h2 h3 h4 h5 h6 h7
    have := xA130 X
    exact rt b (by omega) (by omega)
  have x2 : X'.2 = X.2 := by rw [← hX]; rfl
  have xa : xA X' = xA X := by rw [← hX]; rfl
  have xt : ∀ b, xT X' b = xT X b := by intro b; rw [← hX]; rfl
  have mo : Mw T T X X' := ⟨by omega, fun _ _ => rfl, fun b q h => by rw [xt]; exact h⟩
  refine ⟨rfl, ?_, ?_⟩
  · refine ⟨RSk_frame hk ?_ ?_ ?_ ?_, hr, ?_, ?_, RSn_frame hn ?_ ?_ ?_, ?_⟩
    · rw [rf 1 (by omega) (by omega) (by omega) (by omega) (by omega) (by omega) (by omega)]
    · intro c h1 h2
      rw [rf c (by omega) (by omega) (by omega) (by omega) (by omega) (by omega) (by omega)]
    · simp (disch := omega) only [xTw, xLw, xAw, xTp, xLp, xAp, xTc, xLc, xAc, xAn, xTn, xLn, xw1, xw2, xp1, xp2, xp3, mw1, mw2, xn1, xn2, xc1, xc2, o_le, o_leL, o_leR, o_lt, o_ltL, o_ltR, o_eq, o_eqL, o_eqR, o_cl, o_add, o_addL, o_addR, o_mul, o_mulL, o_mulR, o_sub, o_subR, o_0le, o_lt0, o_ixo, n1_eq, n1_eq', n1_lt, n1_le, n1_ge, n1_gt, n2_eq, n2_eq', n2_lt, n2_le, n2_ge, n2_gt, ↓reduceIte, ite_self, Nat.reduceEqDiff, Nat.reduceAdd, Nat.reduceMul, Nat.reduceSub, Nat.reduceLT, Nat.reduceLeDiff, Nat.not_lt_zero, Nat.zero_le, if_true, if_false, ite_true, ite_false, true_and, and_true, false_and, and_false, true_implies, false_implies, implies_true, not_true_eq_false, not_false_eq_true, eq_self, true_or, or_true, false_or, or_false, and_self, reduceCtorEq, forall_const]
    · intro c h1 h2
      rw [mw_ne _ _ _ _ (by omega), mw_ne _ _ _ _ (by omega), mw_ne _ _ _ _ (by omega), mw_ne _ _ _ _ (by omega), mw_ne _ _ _ _ (by omega)]
    · rw [rf 1 (by omega) (by omega) (by omega) (by omega) (by omega) (by omega) (by omega)]
      exact e1
    · simp (disch := omega) only [xTw, xLw, xAw, xTp, xLp, xAp, xTc, xLc, xAc, xAn, xTn, xLn, xw1, xw2, xp1, xp2, xp3, mw1, mw2, xn1, xn2, xc1, xc2, e2, o_le, o_leL, o_leR, o_lt, o_ltL, o_ltR, o_eq, o_eqL, o_eqR, o_cl, o_add, o_addL, o_addR, o_mul, o_mulL, o_mulR, o_sub, o_subR, o_0le, o_lt0, o_ixo, n1_eq, n1_eq', n1_lt, n1_le, n1_ge, n1_gt, n2_eq, n2_eq', n2_lt, n2_le, n2_ge, n2_gt, ↓reduceIte, ite_self, Nat.reduceEqDiff, Nat.reduceAdd, Nat.reduceMul, Nat.reduceSub, Nat.reduceLT, Nat.reduceLeDiff, Nat.not_lt_zero, Nat.zero_le, if_true, if_false, ite_true, ite_false, true_and, and_true, false_and, and_false, true_implies, false_implies, implies_true, not_true_eq_false, not_false_eq_true, eq_self, true_or, or_true, false_or, or_false, and_self, reduceCtorEq, forall_const]
    · rw [rf 8 (by omega) (by omega) (by omega) (by omega) (by omega) (by omega) (by omega)]
    · rw [rf 9 (by omega) (by omega) (by omega) (by omega) (by omega) (by omega) (by omega)]
    · intro c h1 h2
      rw [mw_ne _ _ _ _ (by omega), mw_ne _ _ _ _ (by omega), mw_ne _ _ _ _ (by omega), mw_ne _ _ _ _ (by omega), mw_ne _ _ _ _ (by omega)]
    · intro m' hm'
      by_cases e : m' = m
      · subst e
        refine ⟨a, f, ⟨by rw [x2]; exact a1, by rw [xt]; exact a2, a3, fun k hk => by rw [x2, xt]; exact a4 k hk, fun k h1 h2 => by rw [x2, xt]; exact a5 k h1 h2⟩, ?_⟩
        unfold RSv
        rw [rt (f 7) (xT_lt b2) (by omega), rt (f 8) (xT_lt d2) (by omega), ← hX]
        simp (disch := omega) only [xTw, xLw, xAw, xTp, xLp, xAp, xTc, xLc, xAc, xAn, xTn, xLn, xw1, xw2, xp1, xp2, xp3, mw1, mw2, xn1, xn2, xc1, xc2, ng, nh, ni, nj, n1, n2, n3, n4, n5, n6, ng.symm, nh.symm, ni.symm, nj.symm, n1.symm, n2.symm, n3.symm, n4.symm, n5.symm, n6.symm, v1, v2, v3, v4, v5, v6, v7, o_le, o_leL, o_leR, o_lt, o_ltL, o_ltR, o_eq, o_eqL, o_eqR, o_cl, o_add, o_addL, o_addR, o_mul, o_mulL, o_mulR, o_sub, o_subR, o_0le, o_lt0, o_ixo, n1_eq, n1_eq', n1_lt, n1_le, n1_ge, n1_gt, n2_eq, n2_eq', n2_lt, n2_le, n2_ge, n2_gt, ↓reduceIte, ite_self, Nat.reduceEqDiff, Nat.reduceAdd, Nat.reduceMul, Nat.reduceSub, Nat.reduceLT, Nat.reduceLeDiff, Nat.not_lt_zero, Nat.zero_le, if_true, if_false, ite_true, ite_false, true_and, and_true, false_and, and_false, true_implies, false_implies, implies_true, not_true_eq_false, not_false_eq_true, eq_self, true_or, or_true, false_or, or_false, and_self, reduceCtorEq, forall_const]
        refine ⟨v9, v11, v12, v13, v14, v15, v16, ⟨s + 1, by omega, rfl, ?_⟩⟩
        intro i hi
        by_cases ei : i = s
        · subst ei
          have q1 : ¬ 24 * m' + 4 * i = 24 * m' + 4 * i + 3 := by omega
          have q2 : ¬ 24 * m' + 4 * i = 24 * m' + 4 * i + 2 := by omega
          have q3 : ¬ 24 * m' + 4 * i = 24 * m' + 4 * i + 1 := by omega
          have q4 : ¬ 24 * m' + 4 * i + 1 = 24 * m' + 4 * i + 3 := by omega
          have q5 : ¬ 24 * m' + 4 * i + 1 = 24 * m' + 4 * i + 2 := by omega
          have q6 : ¬ 24 * m' + 4 * i + 2 = 24 * m' + 4 * i + 3 := by omega
          simp (disch := omega) only [q1, q2, q3, q4, q5, q6, o_le, o_leL, o_leR, o_lt, o_ltL, o_ltR, o_eq, o_eqL, o_eqR, o_cl, o_add, o_addL, o_addR, o_mul, o_mulL, o_mulR, o_sub, o_subR, o_0le, o_lt0, o_ixo, n1_eq, n1_eq', n1_lt, n1_le, n1_ge, n1_gt, n2_eq, n2_eq', n2_lt, n2_le, n2_ge, n2_gt, ↓reduceIte, ite_self, Nat.reduceEqDiff, Nat.reduceAdd, Nat.reduceMul, Nat.reduceSub, Nat.reduceLT, Nat.reduceLeDiff, Nat.not_lt_zero, Nat.zero_le, if_true, if_false, ite_true, ite_false, true_and, and_true, false_and, and_false, true_implies, false_implies, implies_true, not_true_eq_false, not_false_eq_true, eq_self, true_or, or_true, false_or, or_false, and_self, reduceCtorEq, forall_const]
        · have w := v21 i (by omega)
          have z1 : ∀ d e : Nat, d < 4 → e < 4 → ¬ 24 * m' + 4 * i + d = 24 * m' + 4 * s + e := by intro d e _ _; omega
          have zz : ∀ d e : Nat, d < 4 → e < 4 → 24 * m' + 4 * i + d ≠ 24 * m' + 4 * s + e := by intro d e _ _; omega
          have z9 : ∀ e : Nat, e < 4 → 24 * m' + 4 * i ≠ 24 * m' + 4 * s + e := by intro e _; omega
          have za : ∀ d : Nat, d < 4 → 24 * m' + 4 * i + d ≠ 24 * m' + 4 * s := by intro d _; omega
          have zb : 24 * m' + 4 * i ≠ 24 * m' + 4 * s := by omega
          rw [if_neg ei, if_neg ei, if_neg ei, if_neg ei]
          have b1 := z9 1 (by omega)
          have b2 := z9 2 (by omega)
          have b3 := z9 3 (by omega)
          have b4 := za 1 (by omega)
          have b5 := za 2 (by omega)
          have b6 := za 3 (by omega)
          simp only [Nat.reduceEqDiff, b1, b2, b3, b4, b5, b6, zb, zz 1 1 (by omega) (by omega), zz 1 2 (by omega) (by omega), zz 1 3 (by omega) (by omega), zz 2 1 (by omega) (by omega), zz 2 2 (by omega) (by omega), zz 2 3 (by omega) (by omega), zz 3 1 (by omega) (by omega), zz 3 2 (by omega) (by omega), zz 3 3 (by omega) (by omega), if_false, ite_false, false_and, and_false]
          exact w
      · refine RSr_frame (hm m' hm') (Nat.le_refl _) ?_ (by rw [x2]) mo ?_ ?_ ?_
        · intro b hb hs'
          exact ⟨rt b hb (by omega), by rw [x2]⟩
        · intro c hc
          simp (disch := omega) only [xTw, xLw, xAw, xTp, xLp, xAp, xTc, xLc, xAc, xAn, xTn, xLn, xw1, xw2, xp1, xp2, xp3, mw1, mw2, xn1, xn2, xc1, xc2, o_le, o_leL, o_leR, o_lt, o_ltL, o_ltR, o_eq, o_eqL, o_eqR, o_cl, o_add, o_addL, o_addR, o_mul, o_mulL, o_mulR, o_sub, o_subR, o_0le, o_lt0, o_ixo, n1_eq, n1_eq', n1_lt, n1_le, n1_ge, n1_gt, n2_eq, n2_eq', n2_lt, n2_le, n2_ge, n2_gt, ↓reduceIte, ite_self, Nat.reduceEqDiff, Nat.reduceAdd, Nat.reduceMul, Nat.reduceSub, Nat.reduceLT, Nat.reduceLeDiff, Nat.not_lt_zero, Nat.zero_le, if_true, if_false, ite_true, ite_false, true_and, and_true, false_and, and_false, true_implies, false_implies, implies_true, not_true_eq_false, not_false_eq_true, eq_self, true_or, or_true, false_or, or_false, and_self, reduceCtorEq, forall_const]
          have q1 : ¬ (c = 73 ∧ m' = m) := by omega
          have q2 : ∀ i, ¬ (c = 74 ∧ m' = i) := by intro i; omega
          rw [if_neg q1, if_neg (q2 _), if_neg (q2 _), if_neg (q2 _), if_neg (q2 _)]
        · intro i hi
          simp (disch := omega) only [xTw, xLw, xAw, xTp, xLp, xAp, xTc, xLc, xAc, xAn, xTn, xLn, xw1, xw2, xp1, xp2, xp3, mw1, mw2, xn1, xn2, xc1, xc2, o_le, o_leL, o_leR, o_lt, o_ltL, o_ltR, o_eq, o_eqL, o_eqR, o_cl, o_add, o_addL, o_addR, o_mul, o_mulL, o_mulR, o_sub, o_subR, o_0le, o_lt0, o_ixo, n1_eq, n1_eq', n1_lt, n1_le, n1_ge, n1_gt, n2_eq, n2_eq', n2_lt, n2_le, n2_ge, n2_gt, ↓reduceIte, ite_self, Nat.reduceEqDiff, Nat.reduceAdd, Nat.reduceMul, Nat.reduceSub, Nat.reduceLT, Nat.reduceLeDiff, Nat.not_lt_zero, Nat.zero_le, if_true, if_false, ite_true, ite_false, true_and, and_true, false_and, and_false, true_implies, false_implies, implies_true, not_true_eq_false, not_false_eq_true, eq_self, true_or, or_true, false_or, or_false, and_self, reduceCtorEq, forall_const]
        · intro i hi
          have q1 : ¬ 24 * m' + i = 24 * m + 4 * s := by omega
          have q2 : ¬ 24 * m' + i = 24 * m + 4 * s + 1 := by omega
          have q3 : ¬ 24 * m' + i = 24 * m + 4 * s + 2 := by omega
          have q4 : ¬ 24 * m' + i = 24 * m + 4 * s + 3 := by omega
          simp (disch := omega) only [xTw, xLw, xAw, xTp, xLp, xAp, xTc, xLc, xAc, xAn, xTn, xLn, xw1, xw2, xp1, xp2, xp3, mw1, mw2, xn1, xn2, xc1, xc2, q1, q2, q3, q4, o_le, o_leL, o_leR, o_lt, o_ltL, o_ltR, o_eq, o_eqL, o_eqR, o_cl, o_add, o_addL, o_addR, o_mul, o_mulL, o_mulR, o_sub, o_subR, o_0le, o_lt0, o_ixo, n1_eq, n1_eq', n1_lt, n1_le, n1_ge, n1_gt, n2_eq, n2_eq', n2_lt, n2_le, n2_ge, n2_gt, ↓reduceIte, ite_self, Nat.reduceEqDiff, Nat.reduceAdd, Nat.reduceMul, Nat.reduceSub, Nat.reduceLT, Nat.reduceLeDiff, Nat.not_lt_zero, Nat.zero_le, if_true, if_false, ite_true, ite_false, true_and, and_true, false_and, and_false, true_implies, false_implies, implies_true, not_true_eq_false, not_false_eq_true, eq_self, true_or, or_true, false_or, or_false, and_self, reduceCtorEq, forall_const]
  · refine ⟨mo, ht, ⟨by show xA X' ≤ _; omega, by rw [aSm_2 x2]; omega, by rw [aW_2 x2]; exact Nat.le_refl _⟩, ?_, ?_, ?_, rfl⟩
    · intro b hb hs'
      refine ⟨rt b hb ?_, by rw [x2]⟩
      unfold SrcT at hs'
      omega
    · intro c hc
      rw [mw_ne _ _ _ _ (by omega), mw_ne _ _ _ _ (by omega), mw_ne _ _ _ _ (by omega), mw_ne _ _ _ _ (by omega), mw_ne _ _ _ _ (by omega)]
    · intro g _ _
      simp (disch := omega) only [xTw, xLw, xAw, xTp, xLp, xAp, xTc, xLc, xAc, xAn, xTn, xLn, xw1, xw2, xp1, xp2, xp3, mw1, mw2, xn1, xn2, xc1, xc2, o_le, o_leL, o_leR, o_lt, o_ltL, o_ltR, o_eq, o_eqL, o_eqR, o_cl, o_add, o_addL, o_addR, o_mul, o_mulL, o_mulR, o_sub, o_subR, o_0le, o_lt0, o_ixo, n1_eq, n1_eq', n1_lt, n1_le, n1_ge, n1_gt, n2_eq, n2_eq', n2_lt, n2_le, n2_ge, n2_gt, ↓reduceIte, ite_self, Nat.reduceEqDiff, Nat.reduceAdd, Nat.reduceMul, Nat.reduceSub, Nat.reduceLT, Nat.reduceLeDiff, Nat.not_lt_zero, Nat.zero_le, if_true, if_false, ite_true, ite_false, true_and, and_true, false_and, and_false, true_implies, false_implies, implies_true, not_true_eq_false, not_false_eq_true, eq_self, true_or, or_true, false_or, or_false, and_self, reduceCtorEq, forall_const]
set_option maxRecDepth 20000 in
set_option maxHeartbeats 4000000 in
theorem RS_cls {X : XS} {M : MS} {T : Nat → Nat} {kc rc : Nat} (h : RSc X M T kc rc) (ht : TG T) (x y z : Int32) : Wo (f_P_cls x y z X) (fun p => Wo (f_M_cls x y z M) (fun q => p.1 = q.1 ∧ (∃ kc', RSc p.2 q.2 T kc' rc) ∧ SrcOnly T T X p.2 M q.2)) := by
  have h0 := h
  obtain ⟨hk, hr, e1, e2, hn, hm⟩ := h
  obtain ⟨k1, k2, k3, k4⟩ := hk
  refine cls_sym k1 k2 k3 x y z _ ⟨rfl, ⟨kc, h0⟩, SrcOnly.refl ht⟩ ?_
  intro hk hy hz hx s t es et
  generalize hX : xw (xw (xw (xw (xw (xw X 3 kc x) 4 kc y) 5 kc z) 6 kc s) 7 kc t) 1 1 (Int32.ofNat (kc + 1)) = X'
  have rd : ∀ b, b ≠ 1 → b ≠ 3 → b ≠ 4 → b ≠ 5 → b ≠ 6 → b ≠ 7 → X'.1 b = X.1 b := by
    intro b h1 h3 h4 h5 h6 h7
    rw [← hX, xw_ne _ _ _ _ h1, xw_ne _ _ _ _ h7, xw_ne _ _ _ _ h6, xw_ne _ _ _ _ h5, xw_ne _ _ _ _ h4, xw_ne _ _ _ _ h3]
  have x2 : X'.2 = X.2 := by rw [← hX]; rfl
  have xa : xA X' = xA X := by rw [← hX]; rfl
  have xt : ∀ b, xT X' b = xT X b := by intro b; rw [← hX]; rfl
  have mo : Mw T T X X' := ⟨by omega, fun _ _ => rfl, fun b q h => by rw [xt]; exact h⟩
  have fx : ∀ b, b < 10 → T b = 1000 + b := fun b hb => ht b (by omega) (by omega) (by omega) (by omega) (by omega) (by omega) (by omega)
  have ru : ∀ b, ¬ (1001 ≤ T b ∧ T b ≤ 1007) → X'.1 b = X.1 b := by
    intro b hb
    refine rd b ?_ ?_ ?_ ?_ ?_ ?_ <;> intro e <;> subst e <;> (rw [fx _ (by omega)] at hb; omega)
  refine ⟨rfl, ⟨kc + 1, ?_⟩, ?_⟩
  · refine ⟨⟨by omega, ?_, ?_, ?_⟩, hr, ?_, ?_, RSn_frame hn (rd 8 (by omega) (by omega) (by omega) (by omega) (by omega) (by omega)) (rd 9 (by omega) (by omega) (by omega) (by omega) (by omega) (by omega)) ?_, ?_⟩
    · rw [← hX]; simp (disch := omega) only [xTw, xLw, xAw, xTp, xLp, xAp, xTc, xLc, xAc, xAn, xTn, xLn, xw1, xw2, xp1, xp2, xp3, mw1, mw2, xn1, xn2, xc1, xc2, o_le, o_leL, o_leR, o_lt, o_ltL, o_ltR, o_eq, o_eqL, o_eqR, o_cl, o_add, o_addL, o_addR, o_mul, o_mulL, o_mulR, o_sub, o_subR, o_0le, o_lt0, o_ixo, n1_eq, n1_eq', n1_lt, n1_le, n1_ge, n1_gt, n2_eq, n2_eq', n2_lt, n2_le, n2_ge, n2_gt, ↓reduceIte, ite_self, Nat.reduceEqDiff, Nat.reduceAdd, Nat.reduceMul, Nat.reduceSub, Nat.reduceLT, Nat.reduceLeDiff, Nat.not_lt_zero, Nat.zero_le, if_true, if_false, ite_true, ite_false, true_and, and_true, false_and, and_false, true_implies, false_implies, implies_true, not_true_eq_false, not_false_eq_true, eq_self, true_or, or_true, false_or, or_false, and_self, reduceCtorEq, forall_const]
    · simp (disch := omega) only [xTw, xLw, xAw, xTp, xLp, xAp, xTc, xLc, xAc, xAn, xTn, xLn, xw1, xw2, xp1, xp2, xp3, mw1, mw2, xn1, xn2, xc1, xc2, o_le, o_leL, o_leR, o_lt, o_ltL, o_ltR, o_eq, o_eqL, o_eqR, o_cl, o_add, o_addL, o_addR, o_mul, o_mulL, o_mulR, o_sub, o_subR, o_0le, o_lt0, o_ixo, n1_eq, n1_eq', n1_lt, n1_le, n1_ge, n1_gt, n2_eq, n2_eq', n2_lt, n2_le, n2_ge, n2_gt, ↓reduceIte, ite_self, Nat.reduceEqDiff, Nat.reduceAdd, Nat.reduceMul, Nat.reduceSub, Nat.reduceLT, Nat.reduceLeDiff, Nat.not_lt_zero, Nat.zero_le, if_true, if_false, ite_true, ite_false, true_and, and_true, false_and, and_false, true_implies, false_implies, implies_true, not_true_eq_false, not_false_eq_true, eq_self, true_or, or_true, false_or, or_false, and_self, reduceCtorEq, forall_const]
    · intro c hc
      by_cases ec : c = kc
      · subst ec
        rw [← hX]
        simp (disch := omega) only [xTw, xLw, xAw, xTp, xLp, xAp, xTc, xLc, xAc, xAn, xTn, xLn, xw1, xw2, xp1, xp2, xp3, mw1, mw2, xn1, xn2, xc1, xc2, o_le, o_leL, o_leR, o_lt, o_ltL, o_ltR, o_eq, o_eqL, o_eqR, o_cl, o_add, o_addL, o_addR, o_mul, o_mulL, o_mulR, o_sub, o_subR, o_0le, o_lt0, o_ixo, n1_eq, n1_eq', n1_lt, n1_le, n1_ge, n1_gt, n2_eq, n2_eq', n2_lt, n2_le, n2_ge, n2_gt, ↓reduceIte, ite_self, Nat.reduceEqDiff, Nat.reduceAdd, Nat.reduceMul, Nat.reduceSub, Nat.reduceLT, Nat.reduceLeDiff, Nat.not_lt_zero, Nat.zero_le, if_true, if_false, ite_true, ite_false, true_and, and_true, false_and, and_false, true_implies, false_implies, implies_true, not_true_eq_false, not_false_eq_true, eq_self, true_or, or_true, false_or, or_false, and_self, reduceCtorEq, forall_const]
        have hs1 : ∀ (g : Nat → Int32), (∀ d, d < c → ∃ s, s ≤ 6 * (d + 1) ∧ g d = Int32.ofNat s) → ∀ w v : Int32, 0 ≤ w ∧ w ≤ 6 → v = w + (if x = -1 then 0 else g x.toNatClampNeg) → ∃ s, s ≤ 6 * (c + 1) ∧ v = Int32.ofNat s := by
          intro g hg w v hw ev
          obtain ⟨k, hk6, rfl⟩ := toNle (n := 6) (by omega) hw.1 hw.2
          rcases hx with hx | ⟨d, hd, hx⟩
          · rw [if_pos hx, Int32.add_zero] at ev
            exact ⟨k, by omega, ev⟩
          · rw [if_neg (by rw [hx, n1_eq d (by omega)]; exact not_false), hx, o_cl d (by omega)] at ev
            obtain ⟨q, hq, e⟩ := hg d hd
            rw [e, o_add] at ev
            exact ⟨k + q, by omega, ev⟩
        refine ⟨?_, hy, hz, ?_, ?_, hs1 (X.1 6) (fun d hd => (k4 d hd).2.2.2.2.2.2.2.2.1) y s hy es, hs1 (X.1 7) (fun d hd => (k4 d hd).2.2.2.2.2.2.2.2.2) z t hz et⟩
        · rcases hx with hx | hx
          · exact Or.inl hx
          · exact Or.inr hx
        · rcases hx with hx | ⟨d, hd, hx⟩
          · rw [es]
            simp [hx]
          · have n1 : ¬ d = c := by omega
            subst hx
            simp (disch := omega) only [o_le, o_leL, o_leR, o_lt, o_ltL, o_ltR, o_eq, o_eqL, o_eqR, o_cl, o_add, o_addL, o_addR, o_mul, o_mulL, o_mulR, o_sub, o_subR, o_0le, o_lt0, o_ixo, n1_eq, n1_eq', n1_lt, n1_le, n1_ge, n1_gt, n2_eq, n2_eq', n2_lt, n2_le, n2_ge, n2_gt, ↓reduceIte, ite_self, Nat.reduceEqDiff, Nat.reduceAdd, Nat.reduceMul, Nat.reduceSub, Nat.reduceLT, Nat.reduceLeDiff, Nat.not_lt_zero, Nat.zero_le, if_true, if_false, ite_true, ite_false, true_and, and_true, false_and, and_false, true_implies, false_implies, implies_true, not_true_eq_false, not_false_eq_true, eq_self, true_or, or_true, false_or, or_false, and_self, reduceCtorEq, forall_const] at es ⊢
            rw [es]
            simp [n1]
        · rcases hx with hx | ⟨d, hd, hx⟩
          · rw [et]
            simp [hx]
          · have n1 : ¬ d = c := by omega
            subst hx
            simp (disch := omega) only [o_le, o_leL, o_leR, o_lt, o_ltL, o_ltR, o_eq, o_eqL, o_eqR, o_cl, o_add, o_addL, o_addR, o_mul, o_mulL, o_mulR, o_sub, o_subR, o_0le, o_lt0, o_ixo, n1_eq, n1_eq', n1_lt, n1_le, n1_ge, n1_gt, n2_eq, n2_eq', n2_lt, n2_le, n2_ge, n2_gt, ↓reduceIte, ite_self, Nat.reduceEqDiff, Nat.reduceAdd, Nat.reduceMul, Nat.reduceSub, Nat.reduceLT, Nat.reduceLeDiff, Nat.not_lt_zero, Nat.zero_le, if_true, if_false, ite_true, ite_false, true_and, and_true, false_and, and_false, true_implies, false_implies, implies_true, not_true_eq_false, not_false_eq_true, eq_self, true_or, or_true, false_or, or_false, and_self, reduceCtorEq, forall_const] at et ⊢
            rw [et]
            simp [n1]
      · have w := k4 c (by omega)
        obtain ⟨w1, w2, w3, w4, w5, w6, w7, w8, w9, w10⟩ := w
        rw [← hX]
        simp (disch := omega) only [xTw, xLw, xAw, xTp, xLp, xAp, xTc, xLc, xAc, xAn, xTn, xLn, xw1, xw2, xp1, xp2, xp3, mw1, mw2, xn1, xn2, xc1, xc2, ec, o_le, o_leL, o_leR, o_lt, o_ltL, o_ltR, o_eq, o_eqL, o_eqR, o_cl, o_add, o_addL, o_addR, o_mul, o_mulL, o_mulR, o_sub, o_subR, o_0le, o_lt0, o_ixo, n1_eq, n1_eq', n1_lt, n1_le, n1_ge, n1_gt, n2_eq, n2_eq', n2_lt, n2_le, n2_ge, n2_gt, ↓reduceIte, ite_self, Nat.reduceEqDiff, Nat.reduceAdd, Nat.reduceMul, Nat.reduceSub, Nat.reduceLT, Nat.reduceLeDiff, Nat.not_lt_zero, Nat.zero_le, if_true, if_false, ite_true, ite_false, true_and, and_true, false_and, and_false, true_implies, false_implies, implies_true, not_true_eq_false, not_false_eq_true, eq_self, true_or, or_true, false_or, or_false, and_self, reduceCtorEq, forall_const]
        refine ⟨w1, w2, w3, w4, w5, w6, ?_, ?_, w9, w10⟩
        · rcases w4 with w4 | ⟨d, hd, w4⟩
          · rw [w1, w4] at w7 ⊢
            exact w7
          · have n1 : ¬ d = kc := by omega
            rw [w1, w4] at w7 ⊢
            simp (disch := omega) only [n1, o_le, o_leL, o_leR, o_lt, o_ltL, o_ltR, o_eq, o_eqL, o_eqR, o_cl, o_add, o_addL, o_addR, o_mul, o_mulL, o_mulR, o_sub, o_subR, o_0le, o_lt0, o_ixo, n1_eq, n1_eq', n1_lt, n1_le, n1_ge, n1_gt, n2_eq, n2_eq', n2_lt, n2_le, n2_ge, n2_gt, ↓reduceIte, ite_self, Nat.reduceEqDiff, Nat.reduceAdd, Nat.reduceMul, Nat.reduceSub, Nat.reduceLT, Nat.reduceLeDiff, Nat.not_lt_zero, Nat.zero_le, if_true, if_false, ite_true, ite_false, true_and, and_true, false_and, and_false, true_implies, false_implies, implies_true, not_true_eq_false, not_false_eq_true, eq_self, true_or, or_true, false_or, or_false, and_self, reduceCtorEq, forall_const] at w7 ⊢
            exact w7
        · rcases w4 with w4 | ⟨d, hd, w4⟩
          · rw [w1, w4] at w8 ⊢
            exact w8
          · have n1 : ¬ d = kc := by omega
            rw [w1, w4] at w8 ⊢
            simp (disch := omega) only [n1, o_le, o_leL, o_leR, o_lt, o_ltL, o_ltR, o_eq, o_eqL, o_eqR, o_cl, o_add, o_addL, o_addR, o_mul, o_mulL, o_mulR, o_sub, o_subR, o_0le, o_lt0, o_ixo, n1_eq, n1_eq', n1_lt, n1_le, n1_ge, n1_gt, n2_eq, n2_eq', n2_lt, n2_le, n2_ge, n2_gt, ↓reduceIte, ite_self, Nat.reduceEqDiff, Nat.reduceAdd, Nat.reduceMul, Nat.reduceSub, Nat.reduceLT, Nat.reduceLeDiff, Nat.not_lt_zero, Nat.zero_le, if_true, if_false, ite_true, ite_false, true_and, and_true, false_and, and_false, true_implies, false_implies, implies_true, not_true_eq_false, not_false_eq_true, eq_self, true_or, or_true, false_or, or_false, and_self, reduceCtorEq, forall_const] at w8 ⊢
            exact w8
    · rw [← hX]; simp (disch := omega) only [xTw, xLw, xAw, xTp, xLp, xAp, xTc, xLc, xAc, xAn, xTn, xLn, xw1, xw2, xp1, xp2, xp3, mw1, mw2, xn1, xn2, xc1, xc2, e1, o_le, o_leL, o_leR, o_lt, o_ltL, o_ltR, o_eq, o_eqL, o_eqR, o_cl, o_add, o_addL, o_addR, o_mul, o_mulL, o_mulR, o_sub, o_subR, o_0le, o_lt0, o_ixo, n1_eq, n1_eq', n1_lt, n1_le, n1_ge, n1_gt, n2_eq, n2_eq', n2_lt, n2_le, n2_ge, n2_gt, ↓reduceIte, ite_self, Nat.reduceEqDiff, Nat.reduceAdd, Nat.reduceMul, Nat.reduceSub, Nat.reduceLT, Nat.reduceLeDiff, Nat.not_lt_zero, Nat.zero_le, if_true, if_false, ite_true, ite_false, true_and, and_true, false_and, and_false, true_implies, false_implies, implies_true, not_true_eq_false, not_false_eq_true, eq_self, true_or, or_true, false_or, or_false, and_self, reduceCtorEq, forall_const]
    · simp (disch := omega) only [xTw, xLw, xAw, xTp, xLp, xAp, xTc, xLc, xAc, xAn, xTn, xLn, xw1, xw2, xp1, xp2, xp3, mw1, mw2, xn1, xn2, xc1, xc2, e2, o_le, o_leL, o_leR, o_lt, o_ltL, o_ltR, o_eq, o_eqL, o_eqR, o_cl, o_add, o_addL, o_addR, o_mul, o_mulL, o_mulR, o_sub, o_subR, o_0le, o_lt0, o_ixo, n1_eq, n1_eq', n1_lt, n1_le, n1_ge, n1_gt, n2_eq, n2_eq', n2_lt, n2_le, n2_ge, n2_gt, ↓reduceIte, ite_self, Nat.reduceEqDiff, Nat.reduceAdd, Nat.reduceMul, Nat.reduceSub, Nat.reduceLT, Nat.reduceLeDiff, Nat.not_lt_zero, Nat.zero_le, if_true, if_false, ite_true, ite_false, true_and, and_true, false_and, and_false, true_implies, false_implies, implies_true, not_true_eq_false, not_false_eq_true, eq_self, true_or, or_true, false_or, or_false, and_self, reduceCtorEq, forall_const]
    · intro c h1 h2
      rw [mw_ne _ _ _ _ (by omega), mw_ne _ _ _ _ (by omega), mw_ne _ _ _ _ (by omega), mw_ne _ _ _ _ (by omega)]
    · intro m hm'
      refine RSr_frame (hm m hm') (by omega) ?_ (by rw [x2]) mo ?_ ?_ ?_
      · intro b hb hs'
        exact ⟨ru b (by omega), by rw [x2]⟩
      · intro c hc
        rw [mw_ne _ _ _ _ (by omega), mw_ne _ _ _ _ (by omega), mw_ne _ _ _ _ (by omega), mw_ne _ _ _ _ (by omega)]
      · intro i hi
        simp (disch := omega) only [xTw, xLw, xAw, xTp, xLp, xAp, xTc, xLc, xAc, xAn, xTn, xLn, xw1, xw2, xp1, xp2, xp3, mw1, mw2, xn1, xn2, xc1, xc2, o_le, o_leL, o_leR, o_lt, o_ltL, o_ltR, o_eq, o_eqL, o_eqR, o_cl, o_add, o_addL, o_addR, o_mul, o_mulL, o_mulR, o_sub, o_subR, o_0le, o_lt0, o_ixo, n1_eq, n1_eq', n1_lt, n1_le, n1_ge, n1_gt, n2_eq, n2_eq', n2_lt, n2_le, n2_ge, n2_gt, ↓reduceIte, ite_self, Nat.reduceEqDiff, Nat.reduceAdd, Nat.reduceMul, Nat.reduceSub, Nat.reduceLT, Nat.reduceLeDiff, Nat.not_lt_zero, Nat.zero_le, if_true, if_false, ite_true, ite_false, true_and, and_true, false_and, and_false, true_implies, false_implies, implies_true, not_true_eq_false, not_false_eq_true, eq_self, true_or, or_true, false_or, or_false, and_self, reduceCtorEq, forall_const]
      · intro i hi
        simp (disch := omega) only [xTw, xLw, xAw, xTp, xLp, xAp, xTc, xLc, xAc, xAn, xTn, xLn, xw1, xw2, xp1, xp2, xp3, mw1, mw2, xn1, xn2, xc1, xc2, o_le, o_leL, o_leR, o_lt, o_ltL, o_ltR, o_eq, o_eqL, o_eqR, o_cl, o_add, o_addL, o_addR, o_mul, o_mulL, o_mulR, o_sub, o_subR, o_0le, o_lt0, o_ixo, n1_eq, n1_eq', n1_lt, n1_le, n1_ge, n1_gt, n2_eq, n2_eq', n2_lt, n2_le, n2_ge, n2_gt, ↓reduceIte, ite_self, Nat.reduceEqDiff, Nat.reduceAdd, Nat.reduceMul, Nat.reduceSub, Nat.reduceLT, Nat.reduceLeDiff, Nat.not_lt_zero, Nat.zero_le, if_true, if_false, ite_true, ite_false, true_and, and_true, false_and, and_false, true_implies, false_implies, implies_true, not_true_eq_false, not_false_eq_true, eq_self, true_or, or_true, false_or, or_false, and_self, reduceCtorEq, forall_const]
  · refine ⟨mo, ht, ⟨by show xA X' ≤ _; omega, by rw [aSm_2 x2]; omega, by rw [aW_2 x2]; exact Nat.le_refl _⟩, ?_, ?_, ?_, rfl⟩
    · intro b hb hs'
      refine ⟨ru b ?_, by rw [x2]⟩
      unfold SrcT at hs'
      omega
    · intro c hc
      rw [mw_ne _ _ _ _ (by omega), mw_ne _ _ _ _ (by omega), mw_ne _ _ _ _ (by omega), mw_ne _ _ _ _ (by omega)]
    · intro g _ _
      simp (disch := omega) only [xTw, xLw, xAw, xTp, xLp, xAp, xTc, xLc, xAc, xAn, xTn, xLn, xw1, xw2, xp1, xp2, xp3, mw1, mw2, xn1, xn2, xc1, xc2, o_le, o_leL, o_leR, o_lt, o_ltL, o_ltR, o_eq, o_eqL, o_eqR, o_cl, o_add, o_addL, o_addR, o_mul, o_mulL, o_mulR, o_sub, o_subR, o_0le, o_lt0, o_ixo, n1_eq, n1_eq', n1_lt, n1_le, n1_ge, n1_gt, n2_eq, n2_eq', n2_lt, n2_le, n2_ge, n2_gt, ↓reduceIte, ite_self, Nat.reduceEqDiff, Nat.reduceAdd, Nat.reduceMul, Nat.reduceSub, Nat.reduceLT, Nat.reduceLeDiff, Nat.not_lt_zero, Nat.zero_le, if_true, if_false, ite_true, ite_false, true_and, and_true, false_and, and_false, true_implies, false_implies, implies_true, not_true_eq_false, not_false_eq_true, eq_self, true_or, or_true, false_or, or_false, and_self, reduceCtorEq, forall_const]
      grind
