/-! S4 -/
/-- what a call on the source leaves alone -/
def SrcOnly (T T' : Nat → Nat) (X X' : XS) (M M' : MS) : Prop := Mw T T' X X' ∧ TG T' ∧ (xA X' ≤ xA X + 7 ∧ aSm X' ≤ aSm X + 500 ∧ aW X ≤ aW X') ∧ Un (fun t => ¬ SrcT t) T X X' ∧ (∀ a, a < 60 ∨ 74 < a → M'.1 a = M.1 a) ∧ (∀ f, f ≠ 3 → f ≠ 15 → M'.1 60 f = M.1 60 f) ∧ M'.2 = M.2
theorem SrcOnly.refl {T : Nat → Nat} {X : XS} {M : MS} (ht : TG T) : SrcOnly T T X X M M := ⟨⟨Nat.le_refl _, fun _ _ => rfl, fun _ _ h => h⟩, ht, ⟨by omega, by omega, Nat.le_refl _⟩, fun _ _ _ => ⟨rfl, rfl⟩, fun _ _ => rfl, fun _ _ _ => rfl, rfl⟩
theorem xw_ne (X : XS) (a i : Nat) (v : Int32) {b : Nat} (h : b ≠ a) : (xw X a i v).1 b = X.1 b := if_neg h
set_option maxRecDepth 20000 in
set_option maxHeartbeats 4000000 in
theorem xw_un {S : Nat → Prop} {T : Nat → Nat} {X X' : XS} {a i : Nat} {v : Int32} (h : Un S T X X') (hn : ¬ S (T a)) (hA : xA X' = xA X) : Un S T X (xw X' a i v) := by
  intro b hb hs
  have q := h b hb hs
  have hne : b ≠ a := by
    intro e
    subst e
    exact hn hs
  exact ⟨(xw_ne X' a i v hne).trans q.1, q.2⟩
theorem mw_ne (M : MS) (a i : Nat) (v : Int32) {b : Nat} (h : b ≠ a) : (mw M a i v).1 b = M.1 b := if_neg h
set_option maxRecDepth 20000 in
set_option maxHeartbeats 4000000 in
theorem RS_code {X : XS} {M : MS} {T : Nat → Nat} {kc rc : Nat} (h : RSc X M T kc rc) (ht : TG T) (x y : Int32) : Wo (f_P_code x y X) (fun p => Wo (f_M_code x y M) (fun q => p.1 = q.1 ∧ RSc p.2 q.2 T kc rc ∧ SrcOnly T T X p.2 M q.2)) := by
  have h0 := h
  obtain ⟨hk, hr, e1, e2, hn, hm⟩ := h
  by_cases z : rc = 0
  · subst z
    have ir : f_Source_isRoutine (-1) X = false := isRoutine_not hr e1 (-1) (by intro ⟨m, h, _⟩; exact absurd h (Nat.not_lt_zero m))
    have e3 : Int32.ofNat 0 - 1 = -1 := rfl
    unfold f_P_code f_Source_addInstruction f_M_code
    simp only [W_bind, e1, e2, e3, ir]
    simp (disch := omega) only [W_some, W_none, W_bind, W_ite, W_ocz, W_lt, o_le, o_leL, o_leR, o_lt, o_ltL, o_ltR, o_eq, o_eqL, o_eqR, o_cl, o_add, o_addL, o_addR, o_mul, o_mulL, o_mulR, o_sub, o_subR, o_0le, o_lt0, o_ixo, n1_eq, n1_eq', n1_lt, n1_le, n1_ge, n1_gt, n2_eq, n2_eq', n2_lt, n2_le, n2_ge, n2_gt, ↓reduceIte, ite_self, Nat.reduceEqDiff, Nat.reduceAdd, Nat.reduceMul, Nat.reduceSub, Nat.reduceLT, Nat.reduceLeDiff, Nat.not_lt_zero, Nat.zero_le, if_true, if_false, ite_true, ite_false, true_and, and_true, false_and, and_false, true_implies, false_implies, implies_true, not_true_eq_false, not_false_eq_true, eq_self, true_or, or_true, false_or, or_false, and_self, reduceCtorEq, forall_const]
    exact ⟨h0, SrcOnly.refl ht⟩
  obtain ⟨m, rfl⟩ : ∃ m, rc = m + 1 := ⟨rc - 1, by omega⟩
  obtain ⟨a, f, ⟨a1, a2, a3, a4, a5⟩, v⟩ := hm m (by omega)
  obtain ⟨v1, v2, v3, v4, v5, v6, v7, v8, v9, v11, v12, v13, v14, v15, ⟨s, v16, v17, v18⟩, v21⟩ := v
  obtain ⟨b1, b2, b3⟩ := a4 7 (Or.inl rfl)
  obtain ⟨d1, d2, d3⟩ := a4 8 (Or.inr rfl)
  have na : a ≠ f 7 := fun e => by rw [← e] at b3; omega
  have nd : a ≠ f 8 := fun e => by rw [← e] at d3; omega
  have nf : f 7 ≠ f 8 := fun e => by rw [e] at b3; omega
  refine code_sym (m := m) (s := s) (a := a) (o := f 7) (d := f 8) (by omega) e1 e2 v16 v17 (v7.trans v17) a1 a2 b1 (xL_iff.mpr b2) d1 (xL_iff.mpr d2) na nd x y _ ⟨rfl, h0, SrcOnly.refl ht⟩ ?_
  intro hs hx
  refine ⟨rfl, ?_, ?_⟩
  · have fx : ∀ b, b < 130 → b ≠ 31 → b ≠ 36 → b ≠ 52 → b ≠ 42 → b ≠ 43 → b ≠ 44 → b ≠ a ∧ b ≠ f 7 ∧ b ≠ f 8 := by
      intro b h1 h2 h3 h4 h5 h6 h7
      have := ht b h1 h2 h3 h4 h5 h6 h7
      refine ⟨?_, ?_, ?_⟩ <;> intro e <;> subst e <;> omega
    have rd : ∀ b, b ≠ a → b ≠ f 7 → b ≠ f 8 → (xw (xw (xw X (f 7) s x) (f 8) s y) a 6 (Int32.ofNat (s + 1))).1 b = X.1 b := by
      intro b h1 h2 h3
      rw [xw_ne _ _ _ _ h1, xw_ne _ _ _ _ h3, xw_ne _ _ _ _ h2]
    have rf : ∀ b, b < 130 → b ≠ 31 → b ≠ 36 → b ≠ 52 → b ≠ 42 → b ≠ 43 → b ≠ 44 → (xw (xw (xw X (f 7) s x) (f 8) s y) a 6 (Int32.ofNat (s + 1))).1 b = X.1 b := by
      intro b h1 h2 h3 h4 h5 h6 h7
      have q := fx b h1 h2 h3 h4 h5 h6 h7
      exact rd b q.1 q.2.1 q.2.2
    refine ⟨RSk_frame hk ?_ ?_ ?_ ?_, hr, ?_, ?_, RSn_frame hn ?_ ?_ ?_, ?_⟩
    · rw [rf 1 (by omega) (by omega) (by omega) (by omega) (by omega) (by omega) (by omega)]
    · intro c h1 h2
      rw [rf c (by omega) (by omega) (by omega) (by omega) (by omega) (by omega) (by omega)]
    · simp (disch := omega) only [xTw, xLw, xAw, xTp, xLp, xAp, xTc, xLc, xAc, xAn, xTn, xLn, xw1, xw2, xp1, xp2, xp3, mw1, mw2, xn1, xn2, xc1, xc2, o_le, o_leL, o_leR, o_lt, o_ltL, o_ltR, o_eq, o_eqL, o_eqR, o_cl, o_add, o_addL, o_addR, o_mul, o_mulL, o_mulR, o_sub, o_subR, o_0le, o_lt0, o_ixo, n1_eq, n1_eq', n1_lt, n1_le, n1_ge, n1_gt, n2_eq, n2_eq', n2_lt, n2_le, n2_ge, n2_gt, ↓reduceIte, ite_self, Nat.reduceEqDiff, Nat.reduceAdd, Nat.reduceMul, Nat.reduceSub, Nat.reduceLT, Nat.reduceLeDiff, Nat.not_lt_zero, Nat.zero_le, if_true, if_false, ite_true, ite_false, true_and, and_true, false_and, and_false, true_implies, false_implies, implies_true, not_true_eq_false, not_false_eq_true, eq_self, true_or, or_true, false_or, or_false, and_self, reduceCtorEq, forall_const]
    · intro c h1 h2
      rw [mw_ne _ _ _ _ (by omega), mw_ne _ _ _ _ (by omega), mw_ne _ _ _ _ (by omega)]
    · rw [rf 1 (by omega) (by omega) (by omega) (by omega) (by omega) (by omega) (by omega)]
      exact e1
    · simp (disch := omega) only [xTw, xLw, xAw, xTp, xLp, xAp, xTc, xLc, xAc, xAn, xTn, xLn, xw1, xw2, xp1, xp2, xp3, mw1, mw2, xn1, xn2, xc1, xc2, e2, o_le, o_leL, o_leR, o_lt, o_ltL, o_ltR, o_eq, o_eqL, o_eqR, o_cl, o_add, o_addL, o_addR, o_mul, o_mulL, o_mulR, o_sub, o_subR, o_0le, o_lt0, o_ixo, n1_eq, n1_eq', n1_lt, n1_le, n1_ge, n1_gt, n2_eq, n2_eq', n2_lt, n2_le, n2_ge, n2_gt, ↓reduceIte, ite_self, Nat.reduceEqDiff, Nat.reduceAdd, Nat.reduceMul, Nat.reduceSub, Nat.reduceLT, Nat.reduceLeDiff, Nat.not_lt_zero, Nat.zero_le, if_true, if_false, ite_true, ite_false, true_and, and_true, false_and, and_false, true_implies, false_implies, implies_true, not_true_eq_false, not_false_eq_true, eq_self, true_or, or_true, false_or, or_false, and_self, reduceCtorEq, forall_const]
    · rw [rf 8 (by omega) (by omega) (by omega) (by omega) (by omega) (by omega) (by omega)]
    · rw [rf 9 (by omega) (by omega) (by omega) (by omega) (by omega) (by omega) (by omega)]
    · intro c h1 h2
      rw [mw_ne _ _ _ _ (by omega), mw_ne _ _ _ _ (by omega), mw_ne _ _ _ _ (by omega)]
    · intro m' hm'
      by_cases e : m' = m
      · subst e
        refine ⟨a, f, ⟨a1, a2, a3, a4, a5⟩, ?_⟩
        have c1 : f 10 ≠ a ∧ f 10 ≠ f 7 ∧ f 10 ≠ f 8 := by have := (a5 10 (by omega) (by omega)).2.2; refine ⟨?_, ?_, ?_⟩ <;> intro e <;> rw [e] at this <;> omega
        have c2 : f 11 ≠ a ∧ f 11 ≠ f 7 ∧ f 11 ≠ f 8 := by have := (a5 11 (by omega) (by omega)).2.2; refine ⟨?_, ?_, ?_⟩ <;> intro e <;> rw [e] at this <;> omega
        have c3 : f 12 ≠ a ∧ f 12 ≠ f 7 ∧ f 12 ≠ f 8 := by have := (a5 12 (by omega) (by omega)).2.2; refine ⟨?_, ?_, ?_⟩ <;> intro e <;> rw [e] at this <;> omega
        have c4 : f 13 ≠ a ∧ f 13 ≠ f 7 ∧ f 13 ≠ f 8 := by have := (a5 13 (by omega) (by omega)).2.2; refine ⟨?_, ?_, ?_⟩ <;> intro e <;> rw [e] at this <;> omega
        unfold RSv
        rw [rd (f 10) c1.1 c1.2.1 c1.2.2, rd (f 11) c2.1 c2.2.1 c2.2.2, rd (f 12) c3.1 c3.2.1 c3.2.2, rd (f 13) c4.1 c4.2.1 c4.2.2]
        simp only [xw1, mw1]
        have na' := na.symm
        have nd' := nd.symm
        have nf' := nf.symm
        simp (disch := omega) only [na, nd, nf, na', nd', nf', v1, v2, v3, v4, v5, v6, v8, o_le, o_leL, o_leR, o_lt, o_ltL, o_ltR, o_eq, o_eqL, o_eqR, o_cl, o_add, o_addL, o_addR, o_mul, o_mulL, o_mulR, o_sub, o_subR, o_0le, o_lt0, o_ixo, n1_eq, n1_eq', n1_lt, n1_le, n1_ge, n1_gt, n2_eq, n2_eq', n2_lt, n2_le, n2_ge, n2_gt, ↓reduceIte, ite_self, Nat.reduceEqDiff, Nat.reduceAdd, Nat.reduceMul, Nat.reduceSub, Nat.reduceLT, Nat.reduceLeDiff, Nat.not_lt_zero, Nat.zero_le, if_true, if_false, ite_true, ite_false, true_and, and_true, false_and, and_false, true_implies, false_implies, implies_true, not_true_eq_false, not_false_eq_true, eq_self, true_or, or_true, false_or, or_false, and_self, reduceCtorEq, forall_const]
        refine ⟨v9, v11, v12, v13, v14, v15, ⟨s + 1, by omega, rfl, ?_⟩, v21⟩
        intro i hi
        by_cases ei : i = s
        · subst ei
          simp (disch := omega) only [o_le, o_leL, o_leR, o_lt, o_ltL, o_ltR, o_eq, o_eqL, o_eqR, o_cl, o_add, o_addL, o_addR, o_mul, o_mulL, o_mulR, o_sub, o_subR, o_0le, o_lt0, o_ixo, n1_eq, n1_eq', n1_lt, n1_le, n1_ge, n1_gt, n2_eq, n2_eq', n2_lt, n2_le, n2_ge, n2_gt, ↓reduceIte, ite_self, Nat.reduceEqDiff, Nat.reduceAdd, Nat.reduceMul, Nat.reduceSub, Nat.reduceLT, Nat.reduceLeDiff, Nat.not_lt_zero, Nat.zero_le, if_true, if_false, ite_true, ite_false, true_and, and_true, false_and, and_false, true_implies, false_implies, implies_true, not_true_eq_false, not_false_eq_true, eq_self, true_or, or_true, false_or, or_false, and_self, reduceCtorEq, forall_const]
          exact hx
        · have ei2 : ¬ 60 * m' + i = 60 * m' + s := by omega
          simp (disch := omega) only [ei, ei2, o_le, o_leL, o_leR, o_lt, o_ltL, o_ltR, o_eq, o_eqL, o_eqR, o_cl, o_add, o_addL, o_addR, o_mul, o_mulL, o_mulR, o_sub, o_subR, o_0le, o_lt0, o_ixo, n1_eq, n1_eq', n1_lt, n1_le, n1_ge, n1_gt, n2_eq, n2_eq', n2_lt, n2_le, n2_ge, n2_gt, ↓reduceIte, ite_self, Nat.reduceEqDiff, Nat.reduceAdd, Nat.reduceMul, Nat.reduceSub, Nat.reduceLT, Nat.reduceLeDiff, Nat.not_lt_zero, Nat.zero_le, if_true, if_false, ite_true, ite_false, true_and, and_true, false_and, and_false, true_implies, false_implies, implies_true, not_true_eq_false, not_false_eq_true, eq_self, true_or, or_true, false_or, or_false, and_self, reduceCtorEq, forall_const]
          exact v18 i (by omega)
      · refine RSr_frame (hm m' hm') (Nat.le_refl _) ?_ rfl ⟨Nat.le_refl _, fun _ _ => rfl, fun _ _ h => h⟩ ?_ ?_ ?_
        · intro b hb hs'
          refine ⟨rd b ?_ ?_ ?_, rfl⟩ <;> intro e' <;> subst e' <;> omega
        · intro c hc
          simp (disch := omega) only [xTw, xLw, xAw, xTp, xLp, xAp, xTc, xLc, xAc, xAn, xTn, xLn, xw1, xw2, xp1, xp2, xp3, mw1, mw2, xn1, xn2, xc1, xc2, o_le, o_leL, o_leR, o_lt, o_ltL, o_ltR, o_eq, o_eqL, o_eqR, o_cl, o_add, o_addL, o_addR, o_mul, o_mulL, o_mulR, o_sub, o_subR, o_0le, o_lt0, o_ixo, n1_eq, n1_eq', n1_lt, n1_le, n1_ge, n1_gt, n2_eq, n2_eq', n2_lt, n2_le, n2_ge, n2_gt, ↓reduceIte, ite_self, Nat.reduceEqDiff, Nat.reduceAdd, Nat.reduceMul, Nat.reduceSub, Nat.reduceLT, Nat.reduceLeDiff, Nat.not_lt_zero, Nat.zero_le, if_true, if_false, ite_true, ite_false, true_and, and_true, false_and, and_false, true_implies, false_implies, implies_true, not_true_eq_false, not_false_eq_true, eq_self, true_or, or_true, false_or, or_false, and_self, reduceCtorEq, forall_const]
          have : ¬ (c = 70 ∧ m' = m) := by omega
          have c1 : ¬ (c = 71 ∧ m' = 60 * m + s) := by omega
          have c2 : ¬ (c = 72 ∧ m' = 60 * m + s) := by omega
          rw [if_neg this, if_neg c2, if_neg c1]
        · intro i hi
          have c1 : ¬ 60 * m' + i = 60 * m + s := by omega
          simp (disch := omega) only [xTw, xLw, xAw, xTp, xLp, xAp, xTc, xLc, xAc, xAn, xTn, xLn, xw1, xw2, xp1, xp2, xp3, mw1, mw2, xn1, xn2, xc1, xc2, c1, o_le, o_leL, o_leR, o_lt, o_ltL, o_ltR, o_eq, o_eqL, o_eqR, o_cl, o_add, o_addL, o_addR, o_mul, o_mulL, o_mulR, o_sub, o_subR, o_0le, o_lt0, o_ixo, n1_eq, n1_eq', n1_lt, n1_le, n1_ge, n1_gt, n2_eq, n2_eq', n2_lt, n2_le, n2_ge, n2_gt, ↓reduceIte, ite_self, Nat.reduceEqDiff, Nat.reduceAdd, Nat.reduceMul, Nat.reduceSub, Nat.reduceLT, Nat.reduceLeDiff, Nat.not_lt_zero, Nat.zero_le, if_true, if_false, ite_true, ite_false, true_and, and_true, false_and, and_false, true_implies, false_implies, implies_true, not_true_eq_false, not_false_eq_true, eq_self, true_or, or_true, false_or, or_false, and_self, reduceCtorEq, forall_const]
        · intro i hi
          simp (disch := omega) only [xTw, xLw, xAw, xTp, xLp, xAp, xTc, xLc, xAc, xAn, xTn, xLn, xw1, xw2, xp1, xp2, xp3, mw1, mw2, xn1, xn2, xc1, xc2, o_le, o_leL, o_leR, o_lt, o_ltL, o_ltR, o_eq, o_eqL, o_eqR, o_cl, o_add, o_addL, o_addR, o_mul, o_mulL, o_mulR, o_sub, o_subR, o_0le, o_lt0, o_ixo, n1_eq, n1_eq', n1_lt, n1_le, n1_ge, n1_gt, n2_eq, n2_eq', n2_lt, n2_le, n2_ge, n2_gt, ↓reduceIte, ite_self, Nat.reduceEqDiff, Nat.reduceAdd, Nat.reduceMul, Nat.reduceSub, Nat.reduceLT, Nat.reduceLeDiff, Nat.not_lt_zero, Nat.zero_le, if_true, if_false, ite_true, ite_false, true_and, and_true, false_and, and_false, true_implies, false_implies, implies_true, not_true_eq_false, not_false_eq_true, eq_self, true_or, or_true, false_or, or_false, and_self, reduceCtorEq, forall_const]
  · refine ⟨⟨Nat.le_refl _, fun _ _ => rfl, fun _ _ h => h⟩, ht, ⟨by show xA X ≤ _; omega, by show aSm X ≤ _; omega, Nat.le_refl _⟩, ?_, ?_, ?_, rfl⟩
    · refine xw_un (xw_un (xw_un (fun _ _ _ => ⟨rfl, rfl⟩) ?_ rfl) ?_ rfl) ?_ rfl
      · unfold SrcT; omega
      · unfold SrcT; omega
      · unfold SrcT; omega
    · intro c hc
      rw [mw_ne _ _ _ _ (by omega), mw_ne _ _ _ _ (by omega), mw_ne _ _ _ _ (by omega)]
    · intro g _ _
      simp (disch := omega) only [xTw, xLw, xAw, xTp, xLp, xAp, xTc, xLc, xAc, xAn, xTn, xLn, xw1, xw2, xp1, xp2, xp3, mw1, mw2, xn1, xn2, xc1, xc2, o_le, o_leL, o_leR, o_lt, o_ltL, o_ltR, o_eq, o_eqL, o_eqR, o_cl, o_add, o_addL, o_addR, o_mul, o_mulL, o_mulR, o_sub, o_subR, o_0le, o_lt0, o_ixo, n1_eq, n1_eq', n1_lt, n1_le, n1_ge, n1_gt, n2_eq, n2_eq', n2_lt, n2_le, n2_ge, n2_gt, ↓reduceIte, ite_self, Nat.reduceEqDiff, Nat.reduceAdd, Nat.reduceMul, Nat.reduceSub, Nat.reduceLT, Nat.reduceLeDiff, Nat.not_lt_zero, Nat.zero_le, if_true, if_false, ite_true, ite_false, true_and, and_true, false_and, and_false, true_implies, false_implies, implies_true, not_true_eq_false, not_false_eq_true, eq_self, true_or, or_true, false_or, or_false, and_self, reduceCtorEq, forall_const]
