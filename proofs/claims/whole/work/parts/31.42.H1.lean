/-! H1 -/
def frM (M : MS) (m t : Nat) : Nat := (M.1 74 (24 * m + 4 * t)).toNatClampNeg
def ttM (M : MS) (m t : Nat) : Nat := (M.1 74 (24 * m + 4 * t + 1)).toNatClampNeg
def hdM (M : MS) (m t : Nat) : Nat := (M.1 74 (24 * m + 4 * t + 2)).toNatClampNeg
/-- a method's instructions fit -/
def FlowOk (M : MS) (kc rc m s tc tk : Nat) (S : FS) : Prop := 0 < s ∧ Typed M kc rc m s tc (frM M m) (ttM M m) (hdM M m) S ∧ (∀ i, S.1 i = true → S.2.1 i = false) ∧ S.1 0 = true ∧ S.2.2.1 0 = 0 ∧ (∀ k, leK (S.2.2.2.2.1 0 k) (lin M m tk k)) ∧ ∀ t, t < tc → TrV M kc m s t
set_option maxRecDepth 20000 in
set_option maxHeartbeats 4000000 in
theorem setM_loop {X : XS} {M0 M : MS} {T : Nat → Nat} {kc rc m n tk : Nat} (h : RSc X M0 T kc rc) (hsr : MSrc M0 M) (hm : m < rc) (hn : n ≤ 4) (en : M0.1 66 m = Int32.ofNat n) (etk : tk = if M0.1 65 m = -2 then n else n + 1) : ∃ q, (if ¬ M0.1 65 m = -2 then lp (b217_M_firstWrong (Int32.ofNat m)) 10000 ((0 : Int32), M) else lp (b217_M_firstWrong' (Int32.ofNat m)) 10000 ((0 : Int32), M)) = some q ∧ q.2.2 = M.2 ∧ (∀ a j, a ≠ 87 → q.2.1 a j = M.1 a j) ∧ ∀ k, k < 12 → q.2.1 87 k = lin M0 m tk k := by
  have hr24 := h.2.1
  have m24 : m < 24 := by omega
  by_cases cs : M0.1 65 m = -2
  · rw [if_neg (fun q => q cs)]
    rw [if_pos cs] at etk
    subst etk
    have w : Wo (lp (b217_M_firstWrong' (Int32.ofNat m)) 10000 ((0 : Int32), M)) (fun q => q.2.2 = M.2 ∧ (∀ a j, a ≠ 87 → q.2.1 a j = M.1 a j) ∧ ∀ k, k < 12 → q.2.1 87 k = lin M0 m tk k) := by
      refine W_lp (fun q => ∃ k, k ≤ 12 ∧ q.1 = Int32.ofNat k ∧ q.2.2 = M.2 ∧ (∀ a j, a ≠ 87 → q.2.1 a j = M.1 a j) ∧ ∀ j, j < k → q.2.1 87 j = lin M0 m tk j) (fun q => 12 - q.1.toNatClampNeg) ?_ 10000 _ ⟨0, by omega, rfl, rfl, fun _ _ _ => rfl, fun c hc => absurd hc (Nat.not_lt_zero c)⟩ (by show 12 - 0 < 10000; omega)
      intro q ⟨k, hk, eq, q2, qo, qf⟩
      refine Wo.cps (fun Q hQ => ?_)
      have g66 : q.2.1 66 m = Int32.ofNat tk := by rw [qo 66 m (by omega), hsr.1 66 (by omega) (by omega)]; exact en
      have g67 : q.2.1 67 m = M0.1 67 m := by rw [qo 67 m (by omega), hsr.1 67 (by omega) (by omega)]
      unfold b217_M_firstWrong'
      by_cases hl : k < 12
      case neg =>
        have ek : k = 12 := by omega
        subst ek
        simp (disch := omega) only [W_some, W_none, W_bind, W_ite, W_ocz, W_lt, eq, Nat.le_refl, o_le, o_leL, o_leR, o_lt, o_ltL, o_ltR, o_eq, o_eqL, o_eqR, o_cl, o_add, o_addL, o_addR, o_mul, o_mulL, o_mulR, o_sub, o_subR, o_0le, o_lt0, o_ixo, n1_eq, n1_eq', n1_lt, n1_le, n1_ge, n1_gt, n2_eq, n2_eq', n2_lt, n2_le, n2_ge, n2_gt, ↓reduceIte, ite_self, Nat.reduceEqDiff, Nat.reduceAdd, Nat.reduceMul, Nat.reduceSub, Nat.reduceLT, Nat.reduceLeDiff, Nat.not_lt_zero, Nat.zero_le, if_true, if_false, ite_true, ite_false, true_and, and_true, false_and, and_false, true_implies, false_implies, implies_true, not_true_eq_false, not_false_eq_true, eq_self, true_or, or_true, false_or, or_false, and_self, reduceCtorEq, forall_const]
        exact hQ _ ⟨q2, qo, qf⟩
      have q1 : ¬ 12 ≤ k := by omega
      have next : ∀ v, v = lin M0 m tk k → Q (.inl (Int32.ofNat (k + 1), mw q.2 87 k v)) := by
        intro v hv
        refine hQ _ ⟨⟨k + 1, by omega, rfl, q2, fun a j ha => (by rw [mw1, if_neg (fun z => ha z.1)]; exact qo a j ha), ?_⟩, by simp (disch := omega) only [eq, o_le, o_leL, o_leR, o_lt, o_ltL, o_ltR, o_eq, o_eqL, o_eqR, o_cl, o_add, o_addL, o_addR, o_mul, o_mulL, o_mulR, o_sub, o_subR, o_0le, o_lt0, o_ixo, n1_eq, n1_eq', n1_lt, n1_le, n1_ge, n1_gt, n2_eq, n2_eq', n2_lt, n2_le, n2_ge, n2_gt, ↓reduceIte, ite_self, Nat.reduceEqDiff, Nat.reduceAdd, Nat.reduceMul, Nat.reduceSub, Nat.reduceLT, Nat.reduceLeDiff, Nat.not_lt_zero, Nat.zero_le, if_true, if_false, ite_true, ite_false, true_and, and_true, false_and, and_false, true_implies, false_implies, implies_true, not_true_eq_false, not_false_eq_true, eq_self, true_or, or_true, false_or, or_false, and_self, reduceCtorEq, forall_const]; omega⟩
        intro j hj
        rw [mw1]
        by_cases e : j = k
        · subst e; rw [if_pos ⟨rfl, rfl⟩]; exact hv
        · rw [if_neg (fun z => e z.2)]; exact qf j (by omega)
      by_cases c : tk ≤ k
      · simp (disch := omega) only [W_some, W_none, W_bind, W_ite, W_ocz, W_lt, eq, q1, m24, g66, Nat.sub_zero, c, hl, o_le, o_leL, o_leR, o_lt, o_ltL, o_ltR, o_eq, o_eqL, o_eqR, o_cl, o_add, o_addL, o_addR, o_mul, o_mulL, o_mulR, o_sub, o_subR, o_0le, o_lt0, o_ixo, n1_eq, n1_eq', n1_lt, n1_le, n1_ge, n1_gt, n2_eq, n2_eq', n2_lt, n2_le, n2_ge, n2_gt, ↓reduceIte, ite_self, Nat.reduceEqDiff, Nat.reduceAdd, Nat.reduceMul, Nat.reduceSub, Nat.reduceLT, Nat.reduceLeDiff, Nat.not_lt_zero, Nat.zero_le, if_true, if_false, ite_true, ite_false, true_and, and_true, false_and, and_false, true_implies, false_implies, implies_true, not_true_eq_false, not_false_eq_true, eq_self, true_or, or_true, false_or, or_false, and_self, reduceCtorEq, forall_const]
        exact next 0 (by unfold lin; rw [if_neg (by omega)])
      · have lk : lin M0 m tk k = argK M0 m k := by unfold lin kdX; rw [if_pos (by omega), if_pos cs]
        by_cases c1 : ((M0.1 67 m : Int32) >>> ((Int32.ofNat k : Int32) &&& 31)) &&& 1 = 1
        · simp (disch := omega) only [W_some, W_none, W_bind, W_ite, W_ocz, W_lt, eq, q1, m24, g66, g67, Nat.sub_zero, c, hl, c1, o_le, o_leL, o_leR, o_lt, o_ltL, o_ltR, o_eq, o_eqL, o_eqR, o_cl, o_add, o_addL, o_addR, o_mul, o_mulL, o_mulR, o_sub, o_subR, o_0le, o_lt0, o_ixo, n1_eq, n1_eq', n1_lt, n1_le, n1_ge, n1_gt, n2_eq, n2_eq', n2_lt, n2_le, n2_ge, n2_gt, ↓reduceIte, ite_self, Nat.reduceEqDiff, Nat.reduceAdd, Nat.reduceMul, Nat.reduceSub, Nat.reduceLT, Nat.reduceLeDiff, Nat.not_lt_zero, Nat.zero_le, if_true, if_false, ite_true, ite_false, true_and, and_true, false_and, and_false, true_implies, false_implies, implies_true, not_true_eq_false, not_false_eq_true, eq_self, true_or, or_true, false_or, or_false, and_self, reduceCtorEq, forall_const]
          exact next 2 (by rw [lk]; unfold argK; rw [if_pos c1])
        · simp (disch := omega) only [W_some, W_none, W_bind, W_ite, W_ocz, W_lt, eq, q1, m24, g66, g67, Nat.sub_zero, c, hl, c1, o_le, o_leL, o_leR, o_lt, o_ltL, o_ltR, o_eq, o_eqL, o_eqR, o_cl, o_add, o_addL, o_addR, o_mul, o_mulL, o_mulR, o_sub, o_subR, o_0le, o_lt0, o_ixo, n1_eq, n1_eq', n1_lt, n1_le, n1_ge, n1_gt, n2_eq, n2_eq', n2_lt, n2_le, n2_ge, n2_gt, ↓reduceIte, ite_self, Nat.reduceEqDiff, Nat.reduceAdd, Nat.reduceMul, Nat.reduceSub, Nat.reduceLT, Nat.reduceLeDiff, Nat.not_lt_zero, Nat.zero_le, if_true, if_false, ite_true, ite_false, true_and, and_true, false_and, and_false, true_implies, false_implies, implies_true, not_true_eq_false, not_false_eq_true, eq_self, true_or, or_true, false_or, or_false, and_self, reduceCtorEq, forall_const]
          exact next 1 (by rw [lk]; unfold argK; rw [if_neg c1])
    obtain ⟨q, e, hq⟩ := w
    exact ⟨q, e, hq⟩
  · rw [if_pos cs]
    rw [if_neg cs] at etk
    subst etk
    have w : Wo (lp (b217_M_firstWrong (Int32.ofNat m)) 10000 ((0 : Int32), M)) (fun q => q.2.2 = M.2 ∧ (∀ a j, a ≠ 87 → q.2.1 a j = M.1 a j) ∧ ∀ k, k < 12 → q.2.1 87 k = lin M0 m (n + 1) k) := by
      refine W_lp (fun q => ∃ k, k ≤ 12 ∧ q.1 = Int32.ofNat k ∧ q.2.2 = M.2 ∧ (∀ a j, a ≠ 87 → q.2.1 a j = M.1 a j) ∧ ∀ j, j < k → q.2.1 87 j = lin M0 m (n + 1) j) (fun q => 12 - q.1.toNatClampNeg) ?_ 10000 _ ⟨0, by omega, rfl, rfl, fun _ _ _ => rfl, fun c hc => absurd hc (Nat.not_lt_zero c)⟩ (by show 12 - 0 < 10000; omega)
      intro q ⟨k, hk, eq, q2, qo, qf⟩
      refine Wo.cps (fun Q hQ => ?_)
      have g66 : q.2.1 66 m = Int32.ofNat n := by rw [qo 66 m (by omega), hsr.1 66 (by omega) (by omega)]; exact en
      have g67 : q.2.1 67 m = M0.1 67 m := by rw [qo 67 m (by omega), hsr.1 67 (by omega) (by omega)]
      unfold b217_M_firstWrong
      by_cases hl : k < 12
      case neg =>
        have ek : k = 12 := by omega
        subst ek
        simp (disch := omega) only [W_some, W_none, W_bind, W_ite, W_ocz, W_lt, eq, Nat.le_refl, o_le, o_leL, o_leR, o_lt, o_ltL, o_ltR, o_eq, o_eqL, o_eqR, o_cl, o_add, o_addL, o_addR, o_mul, o_mulL, o_mulR, o_sub, o_subR, o_0le, o_lt0, o_ixo, n1_eq, n1_eq', n1_lt, n1_le, n1_ge, n1_gt, n2_eq, n2_eq', n2_lt, n2_le, n2_ge, n2_gt, ↓reduceIte, ite_self, Nat.reduceEqDiff, Nat.reduceAdd, Nat.reduceMul, Nat.reduceSub, Nat.reduceLT, Nat.reduceLeDiff, Nat.not_lt_zero, Nat.zero_le, if_true, if_false, ite_true, ite_false, true_and, and_true, false_and, and_false, true_implies, false_implies, implies_true, not_true_eq_false, not_false_eq_true, eq_self, true_or, or_true, false_or, or_false, and_self, reduceCtorEq, forall_const]
        exact hQ _ ⟨q2, qo, qf⟩
      have q1 : ¬ 12 ≤ k := by omega
      have next : ∀ v, v = lin M0 m (n + 1) k → Q (.inl (Int32.ofNat (k + 1), mw q.2 87 k v)) := by
        intro v hv
        refine hQ _ ⟨⟨k + 1, by omega, rfl, q2, fun a j ha => (by rw [mw1, if_neg (fun z => ha z.1)]; exact qo a j ha), ?_⟩, by simp (disch := omega) only [eq, o_le, o_leL, o_leR, o_lt, o_ltL, o_ltR, o_eq, o_eqL, o_eqR, o_cl, o_add, o_addL, o_addR, o_mul, o_mulL, o_mulR, o_sub, o_subR, o_0le, o_lt0, o_ixo, n1_eq, n1_eq', n1_lt, n1_le, n1_ge, n1_gt, n2_eq, n2_eq', n2_lt, n2_le, n2_ge, n2_gt, ↓reduceIte, ite_self, Nat.reduceEqDiff, Nat.reduceAdd, Nat.reduceMul, Nat.reduceSub, Nat.reduceLT, Nat.reduceLeDiff, Nat.not_lt_zero, Nat.zero_le, if_true, if_false, ite_true, ite_false, true_and, and_true, false_and, and_false, true_implies, false_implies, implies_true, not_true_eq_false, not_false_eq_true, eq_self, true_or, or_true, false_or, or_false, and_self, reduceCtorEq, forall_const]; omega⟩
        intro j hj
        rw [mw1]
        by_cases e : j = k
        · subst e; rw [if_pos ⟨rfl, rfl⟩]; exact hv
        · rw [if_neg (fun z => e z.2)]; exact qf j (by omega)
      by_cases k0 : k = 0
      · subst k0
        simp (disch := omega) only [W_some, W_none, W_bind, W_ite, W_ocz, W_lt, eq, o_le, o_leL, o_leR, o_lt, o_ltL, o_ltR, o_eq, o_eqL, o_eqR, o_cl, o_add, o_addL, o_addR, o_mul, o_mulL, o_mulR, o_sub, o_subR, o_0le, o_lt0, o_ixo, n1_eq, n1_eq', n1_lt, n1_le, n1_ge, n1_gt, n2_eq, n2_eq', n2_lt, n2_le, n2_ge, n2_gt, ↓reduceIte, ite_self, Nat.reduceEqDiff, Nat.reduceAdd, Nat.reduceMul, Nat.reduceSub, Nat.reduceLT, Nat.reduceLeDiff, Nat.not_lt_zero, Nat.zero_le, if_true, if_false, ite_true, ite_false, true_and, and_true, false_and, and_false, true_implies, false_implies, implies_true, not_true_eq_false, not_false_eq_true, eq_self, true_or, or_true, false_or, or_false, and_self, reduceCtorEq, forall_const]
        exact next 2 (by unfold lin kdX; rw [if_pos (by omega), if_neg cs, if_pos rfl])
      by_cases c : n ≤ k - 1
      · simp (disch := omega) only [W_some, W_none, W_bind, W_ite, W_ocz, W_lt, eq, q1, k0, m24, g66, c, hl, o_le, o_leL, o_leR, o_lt, o_ltL, o_ltR, o_eq, o_eqL, o_eqR, o_cl, o_add, o_addL, o_addR, o_mul, o_mulL, o_mulR, o_sub, o_subR, o_0le, o_lt0, o_ixo, n1_eq, n1_eq', n1_lt, n1_le, n1_ge, n1_gt, n2_eq, n2_eq', n2_lt, n2_le, n2_ge, n2_gt, ↓reduceIte, ite_self, Nat.reduceEqDiff, Nat.reduceAdd, Nat.reduceMul, Nat.reduceSub, Nat.reduceLT, Nat.reduceLeDiff, Nat.not_lt_zero, Nat.zero_le, if_true, if_false, ite_true, ite_false, true_and, and_true, false_and, and_false, true_implies, false_implies, implies_true, not_true_eq_false, not_false_eq_true, eq_self, true_or, or_true, false_or, or_false, and_self, reduceCtorEq, forall_const]
        exact next 0 (by unfold lin; rw [if_neg (by omega)])
      · have lk : lin M0 m (n + 1) k = argK M0 m (k - 1) := by unfold lin kdX; rw [if_pos (by omega), if_neg cs, if_neg k0]
        by_cases c1 : ((M0.1 67 m : Int32) >>> ((Int32.ofNat (k - 1) : Int32) &&& 31)) &&& 1 = 1
        · simp (disch := omega) only [W_some, W_none, W_bind, W_ite, W_ocz, W_lt, eq, q1, k0, m24, g66, g67, c, hl, c1, o_le, o_leL, o_leR, o_lt, o_ltL, o_ltR, o_eq, o_eqL, o_eqR, o_cl, o_add, o_addL, o_addR, o_mul, o_mulL, o_mulR, o_sub, o_subR, o_0le, o_lt0, o_ixo, n1_eq, n1_eq', n1_lt, n1_le, n1_ge, n1_gt, n2_eq, n2_eq', n2_lt, n2_le, n2_ge, n2_gt, ↓reduceIte, ite_self, Nat.reduceEqDiff, Nat.reduceAdd, Nat.reduceMul, Nat.reduceSub, Nat.reduceLT, Nat.reduceLeDiff, Nat.not_lt_zero, Nat.zero_le, if_true, if_false, ite_true, ite_false, true_and, and_true, false_and, and_false, true_implies, false_implies, implies_true, not_true_eq_false, not_false_eq_true, eq_self, true_or, or_true, false_or, or_false, and_self, reduceCtorEq, forall_const]
          exact next 2 (by rw [lk]; unfold argK; rw [if_pos c1])
        · simp (disch := omega) only [W_some, W_none, W_bind, W_ite, W_ocz, W_lt, eq, q1, k0, m24, g66, g67, c, hl, c1, o_le, o_leL, o_leR, o_lt, o_ltL, o_ltR, o_eq, o_eqL, o_eqR, o_cl, o_add, o_addL, o_addR, o_mul, o_mulL, o_mulR, o_sub, o_subR, o_0le, o_lt0, o_ixo, n1_eq, n1_eq', n1_lt, n1_le, n1_ge, n1_gt, n2_eq, n2_eq', n2_lt, n2_le, n2_ge, n2_gt, ↓reduceIte, ite_self, Nat.reduceEqDiff, Nat.reduceAdd, Nat.reduceMul, Nat.reduceSub, Nat.reduceLT, Nat.reduceLeDiff, Nat.not_lt_zero, Nat.zero_le, if_true, if_false, ite_true, ite_false, true_and, and_true, false_and, and_false, true_implies, false_implies, implies_true, not_true_eq_false, not_false_eq_true, eq_self, true_or, or_true, false_or, or_false, and_self, reduceCtorEq, forall_const]
          exact next 1 (by rw [lk]; unfold argK; rw [if_neg c1])
    obtain ⟨q, e, hq⟩ := w
    exact ⟨q, e, hq⟩
set_option maxRecDepth 20000 in
set_option maxHeartbeats 4000000 in
theorem beginM {X : XS} {M0 M : MS} {T : Nat → Nat} {kc rc m n tk s : Nat} (h : RSc X M0 T kc rc) (hsr : MSrc M0 M) (hm : m < rc) (hn : n ≤ 4) (en : M0.1 66 m = Int32.ofNat n) (etk : tk = if M0.1 65 m = -2 then n else n + 1) (es : M0.1 70 m = Int32.ofNat s) (hs : s ≤ 60) (h0 : 0 < s) : ∃ M', (∀ (r : Int32 × MS → Option (Int32 × MS)), ((lp (b153_M_firstWrong (Int32.ofNat m)) 10000 ((0 : Int32), M)).bind fun x41 => (if ixo (Int32.ofNat m) 24 then (lt (mw x41.2 89 (Int32.ofNat m).toNatClampNeg 0) fun M43 => (if ¬ M43.1 65 (Int32.ofNat m).toNatClampNeg = (-2) then ((lp (b217_M_firstWrong (Int32.ofNat m)) 10000 ((0 : Int32), M43)).bind fun x74 => (lt (mw x74.2 60 30 0) fun M75 => ((f_M_comeTo_86 (Int32.ofNat m) 0 0 M75).bind fun x76 => ((f_M_nextLook (Int32.ofNat m) x76.2).bind fun x77 => r (x77, x76.2))))) else ((lp (b217_M_firstWrong' (Int32.ofNat m)) 10000 ((0 : Int32), M43)).bind fun x111 => (lt (mw x111.2 60 30 0) fun M112 => ((f_M_comeTo_86 (Int32.ofNat m) 0 0 M112).bind fun x113 => ((f_M_nextLook (Int32.ofNat m) x113.2).bind fun x114 => r (x114, x113.2))))))) else none)) = r (enc (-2) (low (S01 (lin M0 m tk))), M')) ∧ MO (Fml m) M M' ∧ FM M' m (S01 (lin M0 m tk)) := by
  have hr24 := h.2.1
  have m24 : m < 24 := by omega
  have w1 : Wo (lp (b153_M_firstWrong (Int32.ofNat m)) 10000 ((0 : Int32), M)) (fun p => p.2.2 = M.2 ∧ (∀ a j, a ≠ 81 → a ≠ 82 → (a ≠ 88 ∨ j < 60 * m ∨ 60 * m + 60 ≤ j) → p.2.1 a j = M.1 a j) ∧ ∀ i, i < 60 → p.2.1 81 i = 0 ∧ p.2.1 82 i = 0 ∧ p.2.1 88 (60 * m + i) = 0) := by
    refine W_lp (fun p => ∃ k, k ≤ 60 ∧ p.1 = Int32.ofNat k ∧ p.2.2 = M.2 ∧ (∀ a j, a ≠ 81 → a ≠ 82 → (a ≠ 88 ∨ j < 60 * m ∨ 60 * m + 60 ≤ j) → p.2.1 a j = M.1 a j) ∧ ∀ i, i < k → p.2.1 81 i = 0 ∧ p.2.1 82 i = 0 ∧ p.2.1 88 (60 * m + i) = 0) (fun p => 60 - p.1.toNatClampNeg) ?_ 10000 _ ⟨0, by omega, rfl, rfl, fun _ _ _ _ _ => rfl, fun c hc => absurd hc (Nat.not_lt_zero c)⟩ (by show 60 - 0 < 10000; omega)
    intro p ⟨k, hk, ep, p2, po, pf⟩
    refine Wo.cps (fun Q hQ => ?_)
    unfold b153_M_firstWrong
    by_cases hl : k < 60
    · have q1 : ¬ 60 ≤ k := by omega
      have q2 : 60 * m + k < 1440 := by omega
      simp (disch := omega) only [W_some, W_none, W_bind, W_ite, W_ocz, W_lt, ep, q1, hl, q2, o_le, o_leL, o_leR, o_lt, o_ltL, o_ltR, o_eq, o_eqL, o_eqR, o_cl, o_add, o_addL, o_addR, o_mul, o_mulL, o_mulR, o_sub, o_subR, o_0le, o_lt0, o_ixo, n1_eq, n1_eq', n1_lt, n1_le, n1_ge, n1_gt, n2_eq, n2_eq', n2_lt, n2_le, n2_ge, n2_gt, ↓reduceIte, ite_self, Nat.reduceEqDiff, Nat.reduceAdd, Nat.reduceMul, Nat.reduceSub, Nat.reduceLT, Nat.reduceLeDiff, Nat.not_lt_zero, Nat.zero_le, if_true, if_false, ite_true, ite_false, true_and, and_true, false_and, and_false, true_implies, false_implies, implies_true, not_true_eq_false, not_false_eq_true, eq_self, true_or, or_true, false_or, or_false, and_self, reduceCtorEq, forall_const]
      refine hQ _ ⟨⟨k + 1, by omega, rfl, p2, ?_, ?_⟩, by simp (disch := omega) only [ep, o_le, o_leL, o_leR, o_lt, o_ltL, o_ltR, o_eq, o_eqL, o_eqR, o_cl, o_add, o_addL, o_addR, o_mul, o_mulL, o_mulR, o_sub, o_subR, o_0le, o_lt0, o_ixo, n1_eq, n1_eq', n1_lt, n1_le, n1_ge, n1_gt, n2_eq, n2_eq', n2_lt, n2_le, n2_ge, n2_gt, ↓reduceIte, ite_self, Nat.reduceEqDiff, Nat.reduceAdd, Nat.reduceMul, Nat.reduceSub, Nat.reduceLT, Nat.reduceLeDiff, Nat.not_lt_zero, Nat.zero_le, if_true, if_false, ite_true, ite_false, true_and, and_true, false_and, and_false, true_implies, false_implies, implies_true, not_true_eq_false, not_false_eq_true, eq_self, true_or, or_true, false_or, or_false, and_self, reduceCtorEq, forall_const]; omega⟩
      · intro a j h1 h2 h3
        rw [mw1, if_neg (by omega), mw1, if_neg (by omega), mw1, if_neg (by omega)]
        exact po a j h1 h2 h3
      · intro i hi
        by_cases e : i = k
        · subst e
          simp (disch := omega) only [xTw, xLw, xAw, xTp, xLp, xAp, xTc, xLc, xAc, xAn, xTn, xLn, xw1, xw2, xp1, xp2, xp3, mw1, mw2, xn1, xn2, xc1, xc2, o_le, o_leL, o_leR, o_lt, o_ltL, o_ltR, o_eq, o_eqL, o_eqR, o_cl, o_add, o_addL, o_addR, o_mul, o_mulL, o_mulR, o_sub, o_subR, o_0le, o_lt0, o_ixo, n1_eq, n1_eq', n1_lt, n1_le, n1_ge, n1_gt, n2_eq, n2_eq', n2_lt, n2_le, n2_ge, n2_gt, ↓reduceIte, ite_self, Nat.reduceEqDiff, Nat.reduceAdd, Nat.reduceMul, Nat.reduceSub, Nat.reduceLT, Nat.reduceLeDiff, Nat.not_lt_zero, Nat.zero_le, if_true, if_false, ite_true, ite_false, true_and, and_true, false_and, and_false, true_implies, false_implies, implies_true, not_true_eq_false, not_false_eq_true, eq_self, true_or, or_true, false_or, or_false, and_self, reduceCtorEq, forall_const]
        · have e2 : ¬ 60 * m + i = 60 * m + k := by omega
          simp (disch := omega) only [xTw, xLw, xAw, xTp, xLp, xAp, xTc, xLc, xAc, xAn, xTn, xLn, xw1, xw2, xp1, xp2, xp3, mw1, mw2, xn1, xn2, xc1, xc2, e, e2, o_le, o_leL, o_leR, o_lt, o_ltL, o_ltR, o_eq, o_eqL, o_eqR, o_cl, o_add, o_addL, o_addR, o_mul, o_mulL, o_mulR, o_sub, o_subR, o_0le, o_lt0, o_ixo, n1_eq, n1_eq', n1_lt, n1_le, n1_ge, n1_gt, n2_eq, n2_eq', n2_lt, n2_le, n2_ge, n2_gt, ↓reduceIte, ite_self, Nat.reduceEqDiff, Nat.reduceAdd, Nat.reduceMul, Nat.reduceSub, Nat.reduceLT, Nat.reduceLeDiff, Nat.not_lt_zero, Nat.zero_le, if_true, if_false, ite_true, ite_false, true_and, and_true, false_and, and_false, true_implies, false_implies, implies_true, not_true_eq_false, not_false_eq_true, eq_self, true_or, or_true, false_or, or_false, and_self, reduceCtorEq, forall_const]
          exact pf i (by omega)
    · have ek : k = 60 := by omega
      subst ek
      simp (disch := omega) only [W_some, W_none, W_bind, W_ite, W_ocz, W_lt, ep, Nat.le_refl, o_le, o_leL, o_leR, o_lt, o_ltL, o_ltR, o_eq, o_eqL, o_eqR, o_cl, o_add, o_addL, o_addR, o_mul, o_mulL, o_mulR, o_sub, o_subR, o_0le, o_lt0, o_ixo, n1_eq, n1_eq', n1_lt, n1_le, n1_ge, n1_gt, n2_eq, n2_eq', n2_lt, n2_le, n2_ge, n2_gt, ↓reduceIte, ite_self, Nat.reduceEqDiff, Nat.reduceAdd, Nat.reduceMul, Nat.reduceSub, Nat.reduceLT, Nat.reduceLeDiff, Nat.not_lt_zero, Nat.zero_le, if_true, if_false, ite_true, ite_false, true_and, and_true, false_and, and_false, true_implies, false_implies, implies_true, not_true_eq_false, not_false_eq_true, eq_self, true_or, or_true, false_or, or_false, and_self, reduceCtorEq, forall_const]
      exact hQ _ ⟨p2, po, pf⟩
  obtain ⟨p, ep, p2, po, pf⟩ := w1
  generalize hM1 : mw p.2 89 m 0 = M1
  have r1 : ∀ a j, a ≠ 81 → a ≠ 82 → (a ≠ 88 ∨ j < 60 * m ∨ 60 * m + 60 ≤ j) → (a ≠ 89 ∨ j ≠ m) → M1.1 a j = M.1 a j := by
    intro a j h1 h2 h3 h4
    rw [← hM1, mw1, if_neg (by omega)]
    exact po a j h1 h2 h3
  have sr1 : MSrc M0 M1 := by
    refine ⟨fun a h1 h2 => ?_, ?_, ?_⟩
    · funext j
      rw [r1 a j (by omega) (by omega) (by omega) (by omega), hsr.1 a h1 h2]
    · rw [r1 60 3 (by omega) (by omega) (by omega) (by omega)]; exact hsr.2.1
    · rw [r1 60 15 (by omega) (by omega) (by omega) (by omega)]; exact hsr.2.2
  obtain ⟨q, eq, q2, qo, qf⟩ := setM_loop (M := M1) h sr1 hm hn en etk
  generalize hM2 : mw q.2 60 30 0 = M2
  have r2 : ∀ a j, a ≠ 81 → a ≠ 82 → a ≠ 87 → (a ≠ 88 ∨ j < 60 * m ∨ 60 * m + 60 ≤ j) → (a ≠ 89 ∨ j ≠ m) → (a ≠ 60 ∨ j ≠ 30) → M2.1 a j = M.1 a j := by
    intro a j h1 h2 h3 h4 h5 h6
    rw [← hM2, mw1, if_neg (by omega), qo a j h3, r1 a j h1 h2 h4 h5]
  have k2 : ∀ a j, a ≠ 87 → a ≠ 60 → M2.1 a j = M1.1 a j := by
    intro a j h1 h2
    rw [← hM2, mw1, if_neg (by omega), qo a j h1]
  have fm2 : FM M2 m S00 := by
    refine ⟨?_, ?_, ?_, by show (0 : Nat) ≤ 10; omega⟩
    · intro i hi
      obtain ⟨z1, z2, z3⟩ := pf i hi
      have e81 : M2.1 81 i = 0 := by rw [k2 81 i (by omega) (by omega), ← hM1, mw1, if_neg (by omega)]; exact z1
      have e82 : M2.1 82 i = 0 := by rw [k2 82 i (by omega) (by omega), ← hM1, mw1, if_neg (by omega)]; exact z2
      have e88 : M2.1 88 (60 * m + i) = 0 := by rw [k2 88 _ (by omega) (by omega), ← hM1, mw1, if_neg (by omega)]; exact z3
      unfold fm S00
      rw [e81, e82, e88]
      simp
    · intro i hi hs
      cases hs
    · rw [k2 89 m (by omega) (by omega), ← hM1, mw1, if_pos ⟨rfl, rfl⟩]
      rfl
  have l2 : ∀ k, k < 12 → M2.1 87 k = lin M0 m tk k := by
    intro k hk
    rw [← hM2, mw1, if_neg (by omega)]
    exact qf k hk
  obtain ⟨b, M3, e3, o3, b3⟩ := comeM_86 (i := 0) (h := 0) (g := fun _ => 0) (l := lin M0 m tk) m24 fm2 (by omega) (by omega) (fun k hk => absurd hk (Nat.not_lt_zero k)) l2
  have e3' : f_M_comeTo_86 (Int32.ofNat m) 0 0 M2 = some (b, M3) := e3
  rcases b3 with ⟨n1, _⟩ | ⟨S', n1, _, n3⟩
  · rw [come00] at n1; cases n1
  rw [come00] at n1
  cases n1
  have oo : MO (Fml m) M M3 := by
    refine ⟨?_, ?_⟩
    · rw [o3.1, ← hM2]
      show q.2.2 = M.2
      rw [q2, ← hM1]
      exact p2
    · intro a j ha
      have na : ¬ Fcm m a j := fun z => ha (Or.inr z)
      rw [o3.2 a j na]
      unfold Fml Flm Fcm at ha
      exact r2 a j (by omega) (by omega) (by omega) (by omega) (by omega) (by omega)
  have es3 : M3.1 70 m = Int32.ofNat s := by
    have z := oo.src (Fml_src m)
    rw [z.1 70 (by omega) (by omega), hsr.1 70 (by omega) (by omega)]
    exact es
  have nl := lowM m24 es3 hs n3 (fun i hi => by
    have hi' : updB (fun _ => false) 0 true i = true := hi
    unfold updB at hi'
    by_cases e : i = 0
    · omega
    · rw [if_neg e] at hi'; cases hi')
  refine ⟨M3, ?_, oo, n3⟩
  intro r
  have im : ixo (Int32.ofNat m) 24 := by rw [o_ixo m 24 (by omega)]; exact m24
  have em : (Int32.ofNat m).toNatClampNeg = m := o_cl m (by omega)
  have g65 : M1.1 65 m = M0.1 65 m := by rw [sr1.1 65 (by omega) (by omega)]
  rw [ep]
  simp only [Option.bind_some]
  rw [if_pos im]
  unfold lt
  dsimp only
  rw [em, hM1, g65]
  by_cases cs : M0.1 65 m = -2
  · rw [if_neg (fun z => z cs)] at eq
    rw [if_neg (fun z => z cs), eq]
    simp only [Option.bind_some]
    rw [hM2, e3']
    simp only [Option.bind_some]
    rw [nl]
    rfl
  · rw [if_pos cs] at eq
    rw [if_pos cs, eq]
    simp only [Option.bind_some]
    rw [hM2, e3']
    simp only [Option.bind_some]
    rw [nl]
    rfl
