/-! G6 -/
/-- a trap that fits -/
def TrV (M : MS) (kc m s t : Nat) : Prop := ¬ M.1 74 (24 * m + 4 * t) < 0 ∧ ¬ M.1 74 (24 * m + 4 * t + 1) ≤ M.1 74 (24 * m + 4 * t) ∧ ¬ Int32.ofNat s < M.1 74 (24 * m + 4 * t + 1) ∧ (0 ≤ M.1 74 (24 * m + 4 * t + 2) ∧ M.1 74 (24 * m + 4 * t + 2) ≤ Int32.ofNat s - 1) ∧ ((∃ c, c < kc ∧ M.1 74 (24 * m + 4 * t + 3) = Int32.ofNat c) ∨ (-10 ≤ M.1 74 (24 * m + 4 * t + 3) ∧ M.1 74 (24 * m + 4 * t + 3) ≤ -1))
set_option maxRecDepth 20000 in
set_option maxHeartbeats 4000000 in
theorem trapsX_ok {X : XS} {M : MS} {T : Nat → Nat} {kc rc m a s tc : Nat} (h : RSc X M T kc rc) (hm : m < rc) (hp : X.2.1 2 m = some a) (es : M.1 70 m = Int32.ofNat s) (etc : M.1 73 m = Int32.ofNat tc) (htc : tc ≤ 6) : ∃ b, f_Flow_trapsFit a X = some b ∧ (b = true ↔ ∀ t, t < tc → TrV M kc m s t) := by
  have k1 := h.1.1
  obtain ⟨a', f, ra, rv⟩ := h.2.2.2.2.2 m hm
  have ea : a' = a := by have := ra.1; rw [hp] at this; exact (Option.some.inj this).symm
  subst ea
  obtain ⟨v1, v2, v3, v4, v5, v6, v7, v8, v9, v11, v12, v13, v14, v15, v16, ⟨s2, v19, v20, v21⟩⟩ := rv
  have es2 : s2 = tc := by rw [v20, o_eq _ _ (by omega) (by omega)] at etc; exact etc
  have r6 : X.1 a' 6 = Int32.ofNat s := v7.trans es
  have r9 : X.1 a' 9 = Int32.ofNat s2 := v8.trans v20
  obtain ⟨g1, g2, _⟩ := ra.2.2.2.2 10 (by omega) (by omega)
  obtain ⟨h1, h2, _⟩ := ra.2.2.2.2 11 (by omega) (by omega)
  obtain ⟨i1, i2, _⟩ := ra.2.2.2.2 12 (by omega) (by omega)
  obtain ⟨j1, j2, _⟩ := ra.2.2.2.2 13 (by omega) (by omega)
  have l1 := xL_iff.mpr g2
  have l2 := xL_iff.mpr h2
  have l3 := xL_iff.mpr i2
  have l4 := xL_iff.mpr j2
  have w : Wo (lp (b2_Flow_trapsFit a' X) 10000 (0 : Int32)) (fun b => b = true ↔ ∀ t, t < s2 → TrV M kc m s t) := by
    refine W_lp (fun p => ∃ k, k ≤ s2 ∧ p = Int32.ofNat k ∧ ∀ t, t < k → TrV M kc m s t) (fun p => s2 - p.toNatClampNeg) ?_ 10000 _ ⟨0, Nat.zero_le _, rfl, fun j hj => absurd hj (Nat.not_lt_zero j)⟩ (by show s2 - 0 < 10000; omega)
    intro p ⟨k, hk, ep, hall⟩
    subst ep
    refine Wo.cps (fun Q hQ => ?_)
    by_cases hl : k < s2
    case neg =>
      have ek : k = s2 := by omega
      subst ek
      unfold b2_Flow_trapsFit
      simp (disch := omega) only [W_some, W_none, W_bind, W_ite, W_ocz, W_lt, ra.2.1, r9, Nat.le_refl, o_le, o_leL, o_leR, o_lt, o_ltL, o_ltR, o_eq, o_eqL, o_eqR, o_cl, o_add, o_addL, o_addR, o_mul, o_mulL, o_mulR, o_sub, o_subR, o_0le, o_lt0, o_ixo, n1_eq, n1_eq', n1_lt, n1_le, n1_ge, n1_gt, n2_eq, n2_eq', n2_lt, n2_le, n2_ge, n2_gt, ↓reduceIte, ite_self, Nat.reduceEqDiff, Nat.reduceAdd, Nat.reduceMul, Nat.reduceSub, Nat.reduceLT, Nat.reduceLeDiff, Nat.not_lt_zero, Nat.zero_le, if_true, if_false, ite_true, ite_false, true_and, and_true, false_and, and_false, true_implies, false_implies, implies_true, not_true_eq_false, not_false_eq_true, eq_self, true_or, or_true, false_or, or_false, and_self, reduceCtorEq, forall_const]
      exact hQ _ ⟨fun _ => hall, fun _ => rfl⟩
    have q1 : ¬ X.1 a' 9 ≤ Int32.ofNat k := by rw [r9]; simp (disch := omega) only [o_le, o_leL, o_leR, o_lt, o_ltL, o_ltR, o_eq, o_eqL, o_eqR, o_cl, o_add, o_addL, o_addR, o_mul, o_mulL, o_mulR, o_sub, o_subR, o_0le, o_lt0, o_ixo, n1_eq, n1_eq', n1_lt, n1_le, n1_ge, n1_gt, n2_eq, n2_eq', n2_lt, n2_le, n2_ge, n2_gt, ↓reduceIte, ite_self, Nat.reduceEqDiff, Nat.reduceAdd, Nat.reduceMul, Nat.reduceSub, Nat.reduceLT, Nat.reduceLeDiff, Nat.not_lt_zero, Nat.zero_le, if_true, if_false, ite_true, ite_false, true_and, and_true, false_and, and_false, true_implies, false_implies, implies_true, not_true_eq_false, not_false_eq_true, eq_self, true_or, or_true, false_or, or_false, and_self, reduceCtorEq, forall_const]; omega
    have q2 : ¬ 6 ≤ Int32.ofNat k := by simp (disch := omega) only [o_le, o_leL, o_leR, o_lt, o_ltL, o_ltR, o_eq, o_eqL, o_eqR, o_cl, o_add, o_addL, o_addR, o_mul, o_mulL, o_mulR, o_sub, o_subR, o_0le, o_lt0, o_ixo, n1_eq, n1_eq', n1_lt, n1_le, n1_ge, n1_gt, n2_eq, n2_eq', n2_lt, n2_le, n2_ge, n2_gt, ↓reduceIte, ite_self, Nat.reduceEqDiff, Nat.reduceAdd, Nat.reduceMul, Nat.reduceSub, Nat.reduceLT, Nat.reduceLeDiff, Nat.not_lt_zero, Nat.zero_le, if_true, if_false, ite_true, ite_false, true_and, and_true, false_and, and_false, true_implies, false_implies, implies_true, not_true_eq_false, not_false_eq_true, eq_self, true_or, or_true, false_or, or_false, and_self, reduceCtorEq, forall_const]; omega
    have q3 : ixo (Int32.ofNat k) 6 := by rw [o_ixo k 6 (by omega)]; omega
    have ek : (Int32.ofNat k).toNatClampNeg = k := o_cl k (by omega)
    obtain ⟨u1, u2, u3, u4⟩ := v21 k hl
    have u1 : X.1 (f 10) (Int32.ofNat k).toNatClampNeg = M.1 74 (24 * m + 4 * k) := by rw [ek]; exact u1
    have u2 : X.1 (f 11) (Int32.ofNat k).toNatClampNeg = M.1 74 (24 * m + 4 * k + 1) := by rw [ek]; exact u2
    have u3 : X.1 (f 12) (Int32.ofNat k).toNatClampNeg = M.1 74 (24 * m + 4 * k + 2) := by rw [ek]; exact u3
    have u4 : X.1 (f 13) (Int32.ofNat k).toNatClampNeg = M.1 74 (24 * m + 4 * k + 3) := by rw [ek]; exact u4
    have ik := isKind_iff k1 h.1.2.1 (M.1 74 (24 * m + 4 * k + 3))
    have no : ¬ TrV M kc m s k → Wo (some (.inr false) : Option (Int32 ⊕ Bool)) Q := by
      intro hn
      rw [W_some]
      refine hQ _ ?_
      constructor
      · intro q; cases q
      · intro q; exact absurd (q k hl) hn
    have yes : TrV M kc m s k → Wo (some (.inl (Int32.ofNat k + 1)) : Option (Int32 ⊕ Bool)) Q := by
      intro hy
      rw [W_some]
      have e1 : Int32.ofNat k + 1 = Int32.ofNat (k + 1) := by simp (disch := omega) only [o_le, o_leL, o_leR, o_lt, o_ltL, o_ltR, o_eq, o_eqL, o_eqR, o_cl, o_add, o_addL, o_addR, o_mul, o_mulL, o_mulR, o_sub, o_subR, o_0le, o_lt0, o_ixo, n1_eq, n1_eq', n1_lt, n1_le, n1_ge, n1_gt, n2_eq, n2_eq', n2_lt, n2_le, n2_ge, n2_gt, ↓reduceIte, ite_self, Nat.reduceEqDiff, Nat.reduceAdd, Nat.reduceMul, Nat.reduceSub, Nat.reduceLT, Nat.reduceLeDiff, Nat.not_lt_zero, Nat.zero_le, if_true, if_false, ite_true, ite_false, true_and, and_true, false_and, and_false, true_implies, false_implies, implies_true, not_true_eq_false, not_false_eq_true, eq_self, true_or, or_true, false_or, or_false, and_self, reduceCtorEq, forall_const]
      rw [e1]
      refine hQ _ ⟨⟨k + 1, by omega, rfl, ?_⟩, by simp (disch := omega) only [o_le, o_leL, o_leR, o_lt, o_ltL, o_ltR, o_eq, o_eqL, o_eqR, o_cl, o_add, o_addL, o_addR, o_mul, o_mulL, o_mulR, o_sub, o_subR, o_0le, o_lt0, o_ixo, n1_eq, n1_eq', n1_lt, n1_le, n1_ge, n1_gt, n2_eq, n2_eq', n2_lt, n2_le, n2_ge, n2_gt, ↓reduceIte, ite_self, Nat.reduceEqDiff, Nat.reduceAdd, Nat.reduceMul, Nat.reduceSub, Nat.reduceLT, Nat.reduceLeDiff, Nat.not_lt_zero, Nat.zero_le, if_true, if_false, ite_true, ite_false, true_and, and_true, false_and, and_false, true_implies, false_implies, implies_true, not_true_eq_false, not_false_eq_true, eq_self, true_or, or_true, false_or, or_false, and_self, reduceCtorEq, forall_const]; omega⟩
      intro t ht
      by_cases e : t = k
      · subst e; exact hy
      · exact hall t (by omega)
    unfold TrV at no yes
    unfold b2_Flow_trapsFit ocz
    have q3' : ixo (Int32.ofNat k) 6 = True := eq_true q3
    simp only [ra.2.1, g1, h1, i1, j1, l1, l2, l3, l4, q3', q1, q2, u1, u2, u3, u4, r6, if_true, if_false, ite_true, ite_false, ite_self, eq_self]
    by_cases c0 : M.1 74 (24 * m + 4 * k) < 0
    · have nn := no (fun q => q.1 c0)
      rw [if_pos c0]
      exact nn
    rw [if_neg c0]
    by_cases c1 : M.1 74 (24 * m + 4 * k + 1) ≤ M.1 74 (24 * m + 4 * k)
    · have nn := no (fun q => q.2.1 c1)
      rw [if_pos c1]
      exact nn
    rw [if_neg c1]
    by_cases c2 : Int32.ofNat s < M.1 74 (24 * m + 4 * k + 1)
    · have nn := no (fun q => q.2.2.1 c2)
      rw [if_pos c2]
      exact nn
    rw [if_neg c2]
    by_cases c4 : ∃ c, c < kc ∧ M.1 74 (24 * m + 4 * k + 3) = Int32.ofNat c
    · rw [if_pos (by rw [ik]; exact c4)]
      by_cases c3 : 0 ≤ M.1 74 (24 * m + 4 * k + 2) ∧ M.1 74 (24 * m + 4 * k + 2) ≤ Int32.ofNat s - 1
      · rw [if_pos c3]
        exact yes ⟨c0, c1, c2, c3, Or.inl c4⟩
      · rw [if_neg c3]
        exact no (fun q => c3 q.2.2.2.1)
    · rw [if_neg (by rw [ik]; exact c4)]
      by_cases c5 : -10 ≤ M.1 74 (24 * m + 4 * k + 3) ∧ M.1 74 (24 * m + 4 * k + 3) ≤ -1
      · rw [if_pos c5]
        by_cases c3 : 0 ≤ M.1 74 (24 * m + 4 * k + 2) ∧ M.1 74 (24 * m + 4 * k + 2) ≤ Int32.ofNat s - 1
        · rw [if_pos c3]
          exact yes ⟨c0, c1, c2, c3, Or.inr c5⟩
        · rw [if_neg c3]
          exact no (fun q => c3 q.2.2.2.1)
      · rw [if_neg c5]
        exact no (fun q => q.2.2.2.2.elim c4 c5)
  obtain ⟨b, e, hb⟩ := w
  refine ⟨b, e, ?_⟩
  rw [← es2]
  exact hb
set_option maxRecDepth 20000 in
set_option maxHeartbeats 4000000 in
theorem trapsM_ok {X : XS} {M0 M : MS} {T : Nat → Nat} {kc rc m s tc : Nat} (h : RSc X M0 T kc rc) (hsr : MSrc M0 M) (hm : m < rc) (es : M0.1 70 m = Int32.ofNat s) (etc : M0.1 73 m = Int32.ofNat tc) (htc : tc ≤ 6) : Wo (lp (b13_M_firstWrong (Int32.ofNat m) M) 10000 (0 : Int32)) (fun r => (r = .inr (99, M) ∧ ¬ ∀ t, t < tc → TrV M0 kc m s t) ∨ ((∃ v, r = .inl v) ∧ ∀ t, t < tc → TrV M0 kc m s t)) := by
  have k1 := h.1.1
  have hr24 := h.2.1
  have g74 : M.1 74 = M0.1 74 := hsr.1 74 (by omega) (by omega)
  have g73 : M.1 73 (Int32.ofNat m).toNatClampNeg = Int32.ofNat tc := by rw [o_cl m (by omega), hsr.1 73 (by omega) (by omega)]; exact etc
  have g70 : M.1 70 (Int32.ofNat m).toNatClampNeg = Int32.ofNat s := by rw [o_cl m (by omega), hsr.1 70 (by omega) (by omega)]; exact es
  refine W_lp (fun p => ∃ k, k ≤ tc ∧ p = Int32.ofNat k ∧ ∀ t, t < k → TrV M0 kc m s t) (fun p => tc - p.toNatClampNeg) ?_ 10000 _ ⟨0, Nat.zero_le _, rfl, fun j hj => absurd hj (Nat.not_lt_zero j)⟩ (by show tc - 0 < 10000; omega)
  intro p ⟨k, hk, ep, hall⟩
  subst ep
  refine Wo.cps (fun Q hQ => ?_)
  by_cases hl : k < tc
  case neg =>
    have ek : k = tc := by omega
    subst ek
    unfold b13_M_firstWrong
    rw [g73]
    simp (disch := omega) only [W_some, W_none, W_bind, W_ite, W_ocz, W_lt, Nat.le_refl, o_le, o_leL, o_leR, o_lt, o_ltL, o_ltR, o_eq, o_eqL, o_eqR, o_cl, o_add, o_addL, o_addR, o_mul, o_mulL, o_mulR, o_sub, o_subR, o_0le, o_lt0, o_ixo, n1_eq, n1_eq', n1_lt, n1_le, n1_ge, n1_gt, n2_eq, n2_eq', n2_lt, n2_le, n2_ge, n2_gt, ↓reduceIte, ite_self, Nat.reduceEqDiff, Nat.reduceAdd, Nat.reduceMul, Nat.reduceSub, Nat.reduceLT, Nat.reduceLeDiff, Nat.not_lt_zero, Nat.zero_le, if_true, if_false, ite_true, ite_false, true_and, and_true, false_and, and_false, true_implies, false_implies, implies_true, not_true_eq_false, not_false_eq_true, eq_self, true_or, or_true, false_or, or_false, and_self, reduceCtorEq, forall_const]
    exact hQ _ (Or.inr ⟨⟨_, rfl⟩, hall⟩)
  have q1 : ¬ Int32.ofNat tc ≤ Int32.ofNat k := by simp (disch := omega) only [o_le, o_leL, o_leR, o_lt, o_ltL, o_ltR, o_eq, o_eqL, o_eqR, o_cl, o_add, o_addL, o_addR, o_mul, o_mulL, o_mulR, o_sub, o_subR, o_0le, o_lt0, o_ixo, n1_eq, n1_eq', n1_lt, n1_le, n1_ge, n1_gt, n2_eq, n2_eq', n2_lt, n2_le, n2_ge, n2_gt, ↓reduceIte, ite_self, Nat.reduceEqDiff, Nat.reduceAdd, Nat.reduceMul, Nat.reduceSub, Nat.reduceLT, Nat.reduceLeDiff, Nat.not_lt_zero, Nat.zero_le, if_true, if_false, ite_true, ite_false, true_and, and_true, false_and, and_false, true_implies, false_implies, implies_true, not_true_eq_false, not_false_eq_true, eq_self, true_or, or_true, false_or, or_false, and_self, reduceCtorEq, forall_const]; omega
  have e0 : 24 * Int32.ofNat m + 4 * Int32.ofNat k = Int32.ofNat (24 * m + 4 * k) := by simp (disch := omega) only [o_le, o_leL, o_leR, o_lt, o_ltL, o_ltR, o_eq, o_eqL, o_eqR, o_cl, o_add, o_addL, o_addR, o_mul, o_mulL, o_mulR, o_sub, o_subR, o_0le, o_lt0, o_ixo, n1_eq, n1_eq', n1_lt, n1_le, n1_ge, n1_gt, n2_eq, n2_eq', n2_lt, n2_le, n2_ge, n2_gt, ↓reduceIte, ite_self, Nat.reduceEqDiff, Nat.reduceAdd, Nat.reduceMul, Nat.reduceSub, Nat.reduceLT, Nat.reduceLeDiff, Nat.not_lt_zero, Nat.zero_le, if_true, if_false, ite_true, ite_false, true_and, and_true, false_and, and_false, true_implies, false_implies, implies_true, not_true_eq_false, not_false_eq_true, eq_self, true_or, or_true, false_or, or_false, and_self, reduceCtorEq, forall_const]
  have e1 : Int32.ofNat (24 * m + 4 * k) + 1 = Int32.ofNat (24 * m + 4 * k + 1) := by simp (disch := omega) only [o_le, o_leL, o_leR, o_lt, o_ltL, o_ltR, o_eq, o_eqL, o_eqR, o_cl, o_add, o_addL, o_addR, o_mul, o_mulL, o_mulR, o_sub, o_subR, o_0le, o_lt0, o_ixo, n1_eq, n1_eq', n1_lt, n1_le, n1_ge, n1_gt, n2_eq, n2_eq', n2_lt, n2_le, n2_ge, n2_gt, ↓reduceIte, ite_self, Nat.reduceEqDiff, Nat.reduceAdd, Nat.reduceMul, Nat.reduceSub, Nat.reduceLT, Nat.reduceLeDiff, Nat.not_lt_zero, Nat.zero_le, if_true, if_false, ite_true, ite_false, true_and, and_true, false_and, and_false, true_implies, false_implies, implies_true, not_true_eq_false, not_false_eq_true, eq_self, true_or, or_true, false_or, or_false, and_self, reduceCtorEq, forall_const]
  have e2 : Int32.ofNat (24 * m + 4 * k) + 2 = Int32.ofNat (24 * m + 4 * k + 2) := by simp (disch := omega) only [o_le, o_leL, o_leR, o_lt, o_ltL, o_ltR, o_eq, o_eqL, o_eqR, o_cl, o_add, o_addL, o_addR, o_mul, o_mulL, o_mulR, o_sub, o_subR, o_0le, o_lt0, o_ixo, n1_eq, n1_eq', n1_lt, n1_le, n1_ge, n1_gt, n2_eq, n2_eq', n2_lt, n2_le, n2_ge, n2_gt, ↓reduceIte, ite_self, Nat.reduceEqDiff, Nat.reduceAdd, Nat.reduceMul, Nat.reduceSub, Nat.reduceLT, Nat.reduceLeDiff, Nat.not_lt_zero, Nat.zero_le, if_true, if_false, ite_true, ite_false, true_and, and_true, false_and, and_false, true_implies, false_implies, implies_true, not_true_eq_false, not_false_eq_true, eq_self, true_or, or_true, false_or, or_false, and_self, reduceCtorEq, forall_const]
  have e3 : Int32.ofNat (24 * m + 4 * k) + 3 = Int32.ofNat (24 * m + 4 * k + 3) := by simp (disch := omega) only [o_le, o_leL, o_leR, o_lt, o_ltL, o_ltR, o_eq, o_eqL, o_eqR, o_cl, o_add, o_addL, o_addR, o_mul, o_mulL, o_mulR, o_sub, o_subR, o_0le, o_lt0, o_ixo, n1_eq, n1_eq', n1_lt, n1_le, n1_ge, n1_gt, n2_eq, n2_eq', n2_lt, n2_le, n2_ge, n2_gt, ↓reduceIte, ite_self, Nat.reduceEqDiff, Nat.reduceAdd, Nat.reduceMul, Nat.reduceSub, Nat.reduceLT, Nat.reduceLeDiff, Nat.not_lt_zero, Nat.zero_le, if_true, if_false, ite_true, ite_false, true_and, and_true, false_and, and_false, true_implies, false_implies, implies_true, not_true_eq_false, not_false_eq_true, eq_self, true_or, or_true, false_or, or_false, and_self, reduceCtorEq, forall_const]
  have x0 : ixo (Int32.ofNat (24 * m + 4 * k)) 576 := by rw [o_ixo _ 576 (by omega)]; omega
  have x1 : ixo (Int32.ofNat (24 * m + 4 * k + 1)) 576 := by rw [o_ixo _ 576 (by omega)]; omega
  have x2 : ixo (Int32.ofNat (24 * m + 4 * k + 2)) 576 := by rw [o_ixo _ 576 (by omega)]; omega
  have x3 : ixo (Int32.ofNat (24 * m + 4 * k + 3)) 576 := by rw [o_ixo _ 576 (by omega)]; omega
  have u0 : M.1 74 (Int32.ofNat (24 * m + 4 * k)).toNatClampNeg = M0.1 74 (24 * m + 4 * k) := by rw [g74, o_cl _ (by omega)]
  have u1 : M.1 74 (Int32.ofNat (24 * m + 4 * k + 1)).toNatClampNeg = M0.1 74 (24 * m + 4 * k + 1) := by rw [g74, o_cl _ (by omega)]
  have u2 : M.1 74 (Int32.ofNat (24 * m + 4 * k + 2)).toNatClampNeg = M0.1 74 (24 * m + 4 * k + 2) := by rw [g74, o_cl _ (by omega)]
  have u3 : M.1 74 (Int32.ofNat (24 * m + 4 * k + 3)).toNatClampNeg = M0.1 74 (24 * m + 4 * k + 3) := by rw [g74, o_cl _ (by omega)]
  have ic := isClassM (M := M) k1 (hsr.2.1.trans h.1.2.2.1) (M0.1 74 (24 * m + 4 * k + 3))
  have no : ¬ TrV M0 kc m s k → Wo (some (.inr (.inr (99, M))) : Option (Int32 ⊕ (Int32 ⊕ (Int32 × MS)))) Q := by
    intro hn
    rw [W_some]
    exact hQ _ (Or.inl ⟨rfl, fun q => hn (q k hl)⟩)
  have yes : TrV M0 kc m s k → Wo (some (.inl (Int32.ofNat k + 1)) : Option (Int32 ⊕ (Int32 ⊕ (Int32 × MS)))) Q := by
    intro hy
    rw [W_some]
    have e1 : Int32.ofNat k + 1 = Int32.ofNat (k + 1) := by simp (disch := omega) only [o_le, o_leL, o_leR, o_lt, o_ltL, o_ltR, o_eq, o_eqL, o_eqR, o_cl, o_add, o_addL, o_addR, o_mul, o_mulL, o_mulR, o_sub, o_subR, o_0le, o_lt0, o_ixo, n1_eq, n1_eq', n1_lt, n1_le, n1_ge, n1_gt, n2_eq, n2_eq', n2_lt, n2_le, n2_ge, n2_gt, ↓reduceIte, ite_self, Nat.reduceEqDiff, Nat.reduceAdd, Nat.reduceMul, Nat.reduceSub, Nat.reduceLT, Nat.reduceLeDiff, Nat.not_lt_zero, Nat.zero_le, if_true, if_false, ite_true, ite_false, true_and, and_true, false_and, and_false, true_implies, false_implies, implies_true, not_true_eq_false, not_false_eq_true, eq_self, true_or, or_true, false_or, or_false, and_self, reduceCtorEq, forall_const]
    rw [e1]
    refine hQ _ ⟨⟨k + 1, by omega, rfl, ?_⟩, by simp (disch := omega) only [o_le, o_leL, o_leR, o_lt, o_ltL, o_ltR, o_eq, o_eqL, o_eqR, o_cl, o_add, o_addL, o_addR, o_mul, o_mulL, o_mulR, o_sub, o_subR, o_0le, o_lt0, o_ixo, n1_eq, n1_eq', n1_lt, n1_le, n1_ge, n1_gt, n2_eq, n2_eq', n2_lt, n2_le, n2_ge, n2_gt, ↓reduceIte, ite_self, Nat.reduceEqDiff, Nat.reduceAdd, Nat.reduceMul, Nat.reduceSub, Nat.reduceLT, Nat.reduceLeDiff, Nat.not_lt_zero, Nat.zero_le, if_true, if_false, ite_true, ite_false, true_and, and_true, false_and, and_false, true_implies, false_implies, implies_true, not_true_eq_false, not_false_eq_true, eq_self, true_or, or_true, false_or, or_false, and_self, reduceCtorEq, forall_const]; omega⟩
    intro t ht
    by_cases e : t = k
    · subst e; exact hy
    · exact hall t (by omega)
  unfold TrV at no yes
  unfold b13_M_firstWrong
  rw [g73, if_neg q1, e0, e1, e2, e3, if_pos x0, u0]
  by_cases c0 : M0.1 74 (24 * m + 4 * k) < 0
  · rw [if_pos c0]
    exact no (fun q => q.1 c0)
  rw [if_neg c0, if_pos x1, u1]
  by_cases c1 : M0.1 74 (24 * m + 4 * k + 1) ≤ M0.1 74 (24 * m + 4 * k)
  · rw [if_pos c1]
    exact no (fun q => q.2.1 c1)
  rw [if_neg c1, g70]
  by_cases c2 : Int32.ofNat s < M0.1 74 (24 * m + 4 * k + 1)
  · rw [if_pos c2]
    exact no (fun q => q.2.2.1 c2)
  rw [if_neg c2, if_pos x2, u2]
  by_cases c3 : 0 ≤ M0.1 74 (24 * m + 4 * k + 2) ∧ M0.1 74 (24 * m + 4 * k + 2) ≤ Int32.ofNat s - 1
  · rw [if_pos c3, if_pos x3, u3]
    by_cases c4 : ∃ c, c < kc ∧ M0.1 74 (24 * m + 4 * k + 3) = Int32.ofNat c
    · rw [if_pos (by rw [ic]; exact c4)]
      exact yes ⟨c0, c1, c2, c3, Or.inl c4⟩
    · rw [if_neg (by rw [ic]; exact c4)]
      by_cases c5 : -10 ≤ M0.1 74 (24 * m + 4 * k + 3) ∧ M0.1 74 (24 * m + 4 * k + 3) ≤ -1
      · rw [if_pos c5]
        exact yes ⟨c0, c1, c2, c3, Or.inr c5⟩
      · rw [if_neg c5]
        exact no (fun q => q.2.2.2.2.elim c4 c5)
  · rw [if_neg c3]
    exact no (fun q => c3 q.2.2.2.1)
set_option maxRecDepth 20000 in
set_option maxHeartbeats 4000000 in
theorem trO_of {M : MS} {kc m s tc : Nat} (hs : s ≤ 60) (h : ∀ t, t < tc → TrV M kc m s t) : TrO M m s tc (fun t => (M.1 74 (24 * m + 4 * t)).toNatClampNeg) (fun t => (M.1 74 (24 * m + 4 * t + 1)).toNatClampNeg) (fun t => (M.1 74 (24 * m + 4 * t + 2)).toNatClampNeg) := by
  intro t ht
  obtain ⟨a1, a2, a3, a4, _⟩ := h t ht
  obtain ⟨x, hx, ex⟩ := toN (Int32.not_lt.mp a1)
  have a2' := Int32.not_le.mp a2
  have a3' := Int32.not_lt.mp a3
  obtain ⟨y, hy, ey⟩ := toNle (n := s) (by omega) (Int32.le_trans (Int32.not_lt.mp a1) (Int32.le_of_lt a2')) a3'
  obtain ⟨z, hz, ez⟩ := (le1_iff (kc := s) (by omega) _).mp a4
  dsimp only
  rw [ex, ey, ez, o_cl x hx, o_cl y (by omega), o_cl z (by omega)]
  rw [ex, ey, o_lt _ _ hx (by omega)] at a2'
  exact ⟨rfl, rfl, rfl, a2', hy, hz⟩
