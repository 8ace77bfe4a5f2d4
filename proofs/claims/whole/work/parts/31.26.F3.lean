/-! F3 -/
def kdX (M : MS) (r k : Nat) : Int32 := if M.1 65 r = -2 then argK M r k else if k = 0 then 2 else argK M r (k - 1)
def lsK (M : MS) (r : Nat) : Nat → List Int32
  | 0 => []
  | k + 1 => kdX M r k :: lsK M r k
set_option maxRecDepth 20000 in
set_option maxHeartbeats 4000000 in
theorem lsK_static {M : MS} {r : Nat} (h : M.1 65 r = -2) : ∀ n, lsK M r n = argsK M r n
  | 0 => rfl
  | n + 1 => by
    show kdX M r n :: lsK M r n = argK M r n :: argsK M r n
    rw [lsK_static h n]
    unfold kdX
    rw [if_pos h]
set_option maxRecDepth 20000 in
set_option maxHeartbeats 4000000 in
theorem lsK_named {M : MS} {r : Nat} (h : ¬ M.1 65 r = -2) : ∀ n, lsK M r (n + 1) = argsK M r n ++ [2]
  | 0 => by
    show kdX M r 0 :: [] = [2]
    unfold kdX
    rw [if_neg h, if_pos rfl]
  | n + 1 => by
    show kdX M r (n + 1) :: lsK M r (n + 1) = argK M r n :: (argsK M r n ++ [2])
    rw [lsK_named h n]
    unfold kdX
    rw [if_neg h, if_neg (by omega)]
    rfl
set_option maxRecDepth 20000 in
set_option maxHeartbeats 4000000 in
theorem argK12 (M : MS) (r k : Nat) : argK M r k = 1 ∨ argK M r k = 2 := by
  unfold argK
  split
  · exact Or.inr rfl
  · exact Or.inl rfl
set_option maxRecDepth 20000 in
set_option maxHeartbeats 4000000 in
theorem kdX12 (M : MS) (r k : Nat) : kdX M r k = 1 ∨ kdX M r k = 2 := by
  unfold kdX
  split
  · exact argK12 _ _ _
  · split
    · exact Or.inr rfl
    · exact argK12 _ _ _
set_option maxRecDepth 20000 in
set_option maxHeartbeats 4000000 in
theorem callX_ok {X0 : XS} {M : MS} {T : Nat → Nat} {kc rc r a : Nat} {g lo : Nat → Int32} (h : RSc X0 M T kc rc) (ht : TG T) (hr : r < rc) (hp : X0.2.1 2 r = some a) : ∀ (j : Nat) (X : XS) (hh N : Nat), j ≤ 5 → j < N → H9 X0 X → AX X g hh lo → ∃ s X', lp (b30_Flow_applyCall a) N (Int32.ofNat j - 1, X) = some s ∧ H9 X0 X' ∧ ((popsK g (lsK M r j) hh = none ∧ s = .inr (false, X')) ∨ (∃ h' v', popsK g (lsK M r j) hh = some h' ∧ s = .inl (v', X') ∧ AX X' g h' lo)) := by
  intro j
  induction j with
  | zero =>
    intro X hh N _ hN h9 ha
    obtain ⟨N, rfl⟩ : ∃ K, N = K + 1 := ⟨N - 1, by omega⟩
    refine ⟨.inl (-1, X), X, lp_inr ?_, h9, Or.inr ⟨hh, -1, rfl, rfl, ha⟩⟩
    rfl
  | succ j ih =>
    intro X hh N hj hN h9 ha
    obtain ⟨N, rfl⟩ : ∃ K, N = K + 1 := ⟨N - 1, by omega⟩
    have hc := Only.rsc h ht h9.1 (by unfold Flx; omega)
    obtain ⟨a', f, ra, rv⟩ := hc.2.2.2.2.2 r hr
    have ea : a' = a := by
      have := ra.1
      rw [h9.1.1, hp] at this
      exact (Option.some.inj this).symm
    subst ea
    have v2 := rv.2.1
    have v4 := rv.2.2.2.1
    have ej : Int32.ofNat (j + 1) - 1 = Int32.ofNat j := by rw [Int32.ofNat_add j 1]; exact Int32.add_sub_cancel _ _
    have tk : f_Routine_takenKind a' (Int32.ofNat j) X = some (kdX M r j) := by
      unfold f_Routine_takenKind f_Routine_isStatic kdX argK
      by_cases cs : M.1 65 r = -2
      · by_cases c1 : ((M.1 67 r : Int32) >>> ((Int32.ofNat j : Int32) &&& 31)) &&& 1 = 1
        · simp (disch := omega) only [ra.2.1, v2, cs, v4, c1, Option.bind_some, o_le, o_leL, o_leR, o_lt, o_ltL, o_ltR, o_eq, o_eqL, o_eqR, o_cl, o_add, o_addL, o_addR, o_mul, o_mulL, o_mulR, o_sub, o_subR, o_0le, o_lt0, o_ixo, n1_eq, n1_eq', n1_lt, n1_le, n1_ge, n1_gt, n2_eq, n2_eq', n2_lt, n2_le, n2_ge, n2_gt, ↓reduceIte, ite_self, Nat.reduceEqDiff, Nat.reduceAdd, Nat.reduceMul, Nat.reduceSub, Nat.reduceLT, Nat.reduceLeDiff, Nat.not_lt_zero, Nat.zero_le, if_true, if_false, ite_true, ite_false, true_and, and_true, false_and, and_false, true_implies, false_implies, implies_true, not_true_eq_false, not_false_eq_true, eq_self, true_or, or_true, false_or, or_false, and_self, reduceCtorEq, forall_const]
        · simp (disch := omega) only [ra.2.1, v2, cs, v4, c1, Option.bind_some, o_le, o_leL, o_leR, o_lt, o_ltL, o_ltR, o_eq, o_eqL, o_eqR, o_cl, o_add, o_addL, o_addR, o_mul, o_mulL, o_mulR, o_sub, o_subR, o_0le, o_lt0, o_ixo, n1_eq, n1_eq', n1_lt, n1_le, n1_ge, n1_gt, n2_eq, n2_eq', n2_lt, n2_le, n2_ge, n2_gt, ↓reduceIte, ite_self, Nat.reduceEqDiff, Nat.reduceAdd, Nat.reduceMul, Nat.reduceSub, Nat.reduceLT, Nat.reduceLeDiff, Nat.not_lt_zero, Nat.zero_le, if_true, if_false, ite_true, ite_false, true_and, and_true, false_and, and_false, true_implies, false_implies, implies_true, not_true_eq_false, not_false_eq_true, eq_self, true_or, or_true, false_or, or_false, and_self, reduceCtorEq, forall_const]
      · by_cases j0 : j = 0
        · subst j0
          simp (disch := omega) only [ra.2.1, v2, cs, Option.bind_some, o_le, o_leL, o_leR, o_lt, o_ltL, o_ltR, o_eq, o_eqL, o_eqR, o_cl, o_add, o_addL, o_addR, o_mul, o_mulL, o_mulR, o_sub, o_subR, o_0le, o_lt0, o_ixo, n1_eq, n1_eq', n1_lt, n1_le, n1_ge, n1_gt, n2_eq, n2_eq', n2_lt, n2_le, n2_ge, n2_gt, ↓reduceIte, ite_self, Nat.reduceEqDiff, Nat.reduceAdd, Nat.reduceMul, Nat.reduceSub, Nat.reduceLT, Nat.reduceLeDiff, Nat.not_lt_zero, Nat.zero_le, if_true, if_false, ite_true, ite_false, true_and, and_true, false_and, and_false, true_implies, false_implies, implies_true, not_true_eq_false, not_false_eq_true, eq_self, true_or, or_true, false_or, or_false, and_self, reduceCtorEq, forall_const]
        · by_cases c1 : ((M.1 67 r : Int32) >>> ((Int32.ofNat (j - 1) : Int32) &&& 31)) &&& 1 = 1
          · simp (disch := omega) only [ra.2.1, v2, cs, v4, j0, c1, Option.bind_some, o_le, o_leL, o_leR, o_lt, o_ltL, o_ltR, o_eq, o_eqL, o_eqR, o_cl, o_add, o_addL, o_addR, o_mul, o_mulL, o_mulR, o_sub, o_subR, o_0le, o_lt0, o_ixo, n1_eq, n1_eq', n1_lt, n1_le, n1_ge, n1_gt, n2_eq, n2_eq', n2_lt, n2_le, n2_ge, n2_gt, ↓reduceIte, ite_self, Nat.reduceEqDiff, Nat.reduceAdd, Nat.reduceMul, Nat.reduceSub, Nat.reduceLT, Nat.reduceLeDiff, Nat.not_lt_zero, Nat.zero_le, if_true, if_false, ite_true, ite_false, true_and, and_true, false_and, and_false, true_implies, false_implies, implies_true, not_true_eq_false, not_false_eq_true, eq_self, true_or, or_true, false_or, or_false, and_self, reduceCtorEq, forall_const]
          · simp (disch := omega) only [ra.2.1, v2, cs, v4, j0, c1, Option.bind_some, o_le, o_leL, o_leR, o_lt, o_ltL, o_ltR, o_eq, o_eqL, o_eqR, o_cl, o_add, o_addL, o_addR, o_mul, o_mulL, o_mulR, o_sub, o_subR, o_0le, o_lt0, o_ixo, n1_eq, n1_eq', n1_lt, n1_le, n1_ge, n1_gt, n2_eq, n2_eq', n2_lt, n2_le, n2_ge, n2_gt, ↓reduceIte, ite_self, Nat.reduceEqDiff, Nat.reduceAdd, Nat.reduceMul, Nat.reduceSub, Nat.reduceLT, Nat.reduceLeDiff, Nat.not_lt_zero, Nat.zero_le, if_true, if_false, ite_true, ite_false, true_and, and_true, false_and, and_false, true_implies, false_implies, implies_true, not_true_eq_false, not_false_eq_true, eq_self, true_or, or_true, false_or, or_false, and_self, reduceCtorEq, forall_const]
    have k12 := kdX12 M r j
    have hk : (kdX M r j = 3 ∧ kdX M r j = 0) ∨ (¬ kdX M r j = 3 ∧ ¬ kdX M r j = 0 ∧ kdX M r j = kdX M r j) := by
      refine Or.inr ?_
      rcases k12 with q | q <;> rw [q] <;> decide
    obtain ⟨b, X1, e1, o1, b1⟩ := take_ok ha (kdX M r j) (kdX M r j) hk
    rw [ej]
    show ∃ s X', _ ∧ _ ∧ ((popsK g (kdX M r j :: lsK M r j) hh = none ∧ _) ∨ (∃ h' v', popsK g (kdX M r j :: lsK M r j) hh = some h' ∧ _))
    unfold popsK
    rcases b1 with ⟨rfl, n2⟩ | ⟨rfl, n2, n3, n4⟩
    · refine ⟨.inr (false, X1), X1, lp_inr ?_, h9.trans o1, Or.inl ⟨by rw [n2], rfl⟩⟩
      unfold b30_Flow_applyCall
      simp (disch := omega) only [ra.2.1, tk, e1, Option.bind_some, o_le, o_leL, o_leR, o_lt, o_ltL, o_ltR, o_eq, o_eqL, o_eqR, o_cl, o_add, o_addL, o_addR, o_mul, o_mulL, o_mulR, o_sub, o_subR, o_0le, o_lt0, o_ixo, n1_eq, n1_eq', n1_lt, n1_le, n1_ge, n1_gt, n2_eq, n2_eq', n2_lt, n2_le, n2_ge, n2_gt, ↓reduceIte, ite_self, Nat.reduceEqDiff, Nat.reduceAdd, Nat.reduceMul, Nat.reduceSub, Nat.reduceLT, Nat.reduceLeDiff, Nat.not_lt_zero, Nat.zero_le, if_true, if_false, ite_true, ite_false, true_and, and_true, false_and, and_false, true_implies, false_implies, implies_true, not_true_eq_false, not_false_eq_true, eq_self, true_or, or_true, false_or, or_false, and_self, reduceCtorEq, forall_const]
    · obtain ⟨s, X', e2, o2, b2⟩ := ih X1 (hh - 1) N (by omega) (by omega) (h9.trans o1) n4
      refine ⟨s, X', ?_, o2, ?_⟩
      · rw [← e2]
        refine lp_inl ?_
        unfold b30_Flow_applyCall
        simp (disch := omega) only [ra.2.1, tk, e1, Option.bind_some, o_le, o_leL, o_leR, o_lt, o_ltL, o_ltR, o_eq, o_eqL, o_eqR, o_cl, o_add, o_addL, o_addR, o_mul, o_mulL, o_mulR, o_sub, o_subR, o_0le, o_lt0, o_ixo, n1_eq, n1_eq', n1_lt, n1_le, n1_ge, n1_gt, n2_eq, n2_eq', n2_lt, n2_le, n2_ge, n2_gt, ↓reduceIte, ite_self, Nat.reduceEqDiff, Nat.reduceAdd, Nat.reduceMul, Nat.reduceSub, Nat.reduceLT, Nat.reduceLeDiff, Nat.not_lt_zero, Nat.zero_le, if_true, if_false, ite_true, ite_false, true_and, and_true, false_and, and_false, true_implies, false_implies, implies_true, not_true_eq_false, not_false_eq_true, eq_self, true_or, or_true, false_or, or_false, and_self, reduceCtorEq, forall_const]
        rw [Int32.sub_eq_add_neg]
      · rw [n2]
        exact b2
set_option maxRecDepth 20000 in
set_option maxHeartbeats 4000000 in
theorem applyCall_ok {X : XS} {M : MS} {T : Nat → Nat} {kc rc r : Nat} {g lo : Nat → Int32} {hh : Nat} (h : RSc X M T kc rc) (ht : TG T) (hr : r < rc) (ha : AX X g hh lo) : ∃ b X', f_Flow_applyCall (Int32.ofNat r) X = some (b, X') ∧ H9 X X' ∧ ((b = false ∧ callT M r g hh lo = none) ∨ (b = true ∧ ∃ g' h', callT M r g hh lo = some (g', h', lo) ∧ AX X' g' h' lo)) := by
  have hr24 := h.2.1
  obtain ⟨a, f, ra, rv⟩ := h.2.2.2.2.2 r hr
  have ir := isRoutine_of hr24 h.2.2.1 hr ra.1
  obtain ⟨v1, v2, v3, v4, v5, v6, v7, v8, v9, v11, v12, v13, _⟩ := rv
  obtain ⟨n, hn, en⟩ := toNle (n := 4) (by omega) v11.1 v11.2
  obtain ⟨t, ht5, et⟩ : ∃ t, t ≤ 5 ∧ (if M.1 65 r = -2 then Int32.ofNat n else Int32.ofNat n + 1) = Int32.ofNat t ∧ callK M r = lsK M r t := by
    by_cases cs : M.1 65 r = -2
    · refine ⟨n, by omega, by rw [if_pos cs], ?_⟩
      unfold callK
      rw [if_pos cs, lsK_static cs, en, o_cl n (by omega)]
    · refine ⟨n + 1, by omega, by rw [if_neg cs]; simp (disch := omega) only [o_le, o_leL, o_leR, o_lt, o_ltL, o_ltR, o_eq, o_eqL, o_eqR, o_cl, o_add, o_addL, o_addR, o_mul, o_mulL, o_mulR, o_sub, o_subR, o_0le, o_lt0, o_ixo, n1_eq, n1_eq', n1_lt, n1_le, n1_ge, n1_gt, n2_eq, n2_eq', n2_lt, n2_le, n2_ge, n2_gt, ↓reduceIte, ite_self, Nat.reduceEqDiff, Nat.reduceAdd, Nat.reduceMul, Nat.reduceSub, Nat.reduceLT, Nat.reduceLeDiff, Nat.not_lt_zero, Nat.zero_le, if_true, if_false, ite_true, ite_false, true_and, and_true, false_and, and_false, true_implies, false_implies, implies_true, not_true_eq_false, not_false_eq_true, eq_self, true_or, or_true, false_or, or_false, and_self, reduceCtorEq, forall_const], ?_⟩
      unfold callK
      rw [if_neg cs, lsK_named cs, en, o_cl n (by omega)]
  have tk : f_Routine_taken a X = some (Int32.ofNat t) := by
    unfold f_Routine_taken f_Routine_isStatic
    rw [← et.1]
    by_cases cs : M.1 65 r = -2
    · simp (disch := omega) only [ra.2.1, v2, cs, v3, en, Option.bind_some, o_le, o_leL, o_leR, o_lt, o_ltL, o_ltR, o_eq, o_eqL, o_eqR, o_cl, o_add, o_addL, o_addR, o_mul, o_mulL, o_mulR, o_sub, o_subR, o_0le, o_lt0, o_ixo, n1_eq, n1_eq', n1_lt, n1_le, n1_ge, n1_gt, n2_eq, n2_eq', n2_lt, n2_le, n2_ge, n2_gt, ↓reduceIte, ite_self, Nat.reduceEqDiff, Nat.reduceAdd, Nat.reduceMul, Nat.reduceSub, Nat.reduceLT, Nat.reduceLeDiff, Nat.not_lt_zero, Nat.zero_le, if_true, if_false, ite_true, ite_false, true_and, and_true, false_and, and_false, true_implies, false_implies, implies_true, not_true_eq_false, not_false_eq_true, eq_self, true_or, or_true, false_or, or_false, and_self, reduceCtorEq, forall_const]
    · simp (disch := omega) only [ra.2.1, v2, cs, v3, en, Option.bind_some, o_le, o_leL, o_leR, o_lt, o_ltL, o_ltR, o_eq, o_eqL, o_eqR, o_cl, o_add, o_addL, o_addR, o_mul, o_mulL, o_mulR, o_sub, o_subR, o_0le, o_lt0, o_ixo, n1_eq, n1_eq', n1_lt, n1_le, n1_ge, n1_gt, n2_eq, n2_eq', n2_lt, n2_le, n2_ge, n2_gt, ↓reduceIte, ite_self, Nat.reduceEqDiff, Nat.reduceAdd, Nat.reduceMul, Nat.reduceSub, Nat.reduceLT, Nat.reduceLeDiff, Nat.not_lt_zero, Nat.zero_le, if_true, if_false, ite_true, ite_false, true_and, and_true, false_and, and_false, true_implies, false_implies, implies_true, not_true_eq_false, not_false_eq_true, eq_self, true_or, or_true, false_or, or_false, and_self, reduceCtorEq, forall_const]
  obtain ⟨s, X1, e1, o1, b1⟩ := callX_ok (g := g) (lo := lo) h ht hr ra.1 t X hh 10000 ht5 (by omega) (H9.refl X) ha
  unfold f_Flow_applyCall callT
  rw [et.2]
  rcases b1 with ⟨n1, rfl⟩ | ⟨h', v', n1, rfl, n2⟩
  · refine ⟨false, X1, ?_, o1, Or.inl ⟨rfl, by rw [n1]; rfl⟩⟩
    simp (disch := omega) only [ir, ra.1, ocz, ra.2.1, tk, e1, Option.bind_some, sb, o_le, o_leL, o_leR, o_lt, o_ltL, o_ltR, o_eq, o_eqL, o_eqR, o_cl, o_add, o_addL, o_addR, o_mul, o_mulL, o_mulR, o_sub, o_subR, o_0le, o_lt0, o_ixo, n1_eq, n1_eq', n1_lt, n1_le, n1_ge, n1_gt, n2_eq, n2_eq', n2_lt, n2_le, n2_ge, n2_gt, ↓reduceIte, ite_self, Nat.reduceEqDiff, Nat.reduceAdd, Nat.reduceMul, Nat.reduceSub, Nat.reduceLT, Nat.reduceLeDiff, Nat.not_lt_zero, Nat.zero_le, if_true, if_false, ite_true, ite_false, true_and, and_true, false_and, and_false, true_implies, false_implies, implies_true, not_true_eq_false, not_false_eq_true, eq_self, true_or, or_true, false_or, or_false, and_self, reduceCtorEq, forall_const]
  · have hc := Only.rsc h ht o1.1 (by unfold Flx; omega)
    obtain ⟨a', f', ra', rv'⟩ := hc.2.2.2.2.2 r hr
    have ea : a' = a := by
      have := ra'.1
      rw [o1.1.1, ra.1] at this
      exact (Option.some.inj this).symm
    subst ea
    have v5' := rv'.2.2.2.2.1
    rw [n1]
    obtain ⟨rt, hrt, ert⟩ := toNle (n := 2) (by omega) v13.1 v13.2
    have cases3 : rt = 0 ∨ rt = 1 ∨ rt = 2 := by omega
    simp only [Option.bind_some]
    unfold putT
    rcases cases3 with rfl | rfl | rfl
    · have e0 : M.1 68 r = 0 := ert
      refine ⟨true, X1, ?_, o1, Or.inr ⟨rfl, g, h', by rw [if_pos e0], n2⟩⟩
      simp (disch := omega) only [ir, ra.1, ocz, ra.2.1, tk, e1, Option.bind_some, sb, ra'.2.1, v5', e0, o_le, o_leL, o_leR, o_lt, o_ltL, o_ltR, o_eq, o_eqL, o_eqR, o_cl, o_add, o_addL, o_addR, o_mul, o_mulL, o_mulR, o_sub, o_subR, o_0le, o_lt0, o_ixo, n1_eq, n1_eq', n1_lt, n1_le, n1_ge, n1_gt, n2_eq, n2_eq', n2_lt, n2_le, n2_ge, n2_gt, ↓reduceIte, ite_self, Nat.reduceEqDiff, Nat.reduceAdd, Nat.reduceMul, Nat.reduceSub, Nat.reduceLT, Nat.reduceLeDiff, Nat.not_lt_zero, Nat.zero_le, if_true, if_false, ite_true, ite_false, true_and, and_true, false_and, and_false, true_implies, false_implies, implies_true, not_true_eq_false, not_false_eq_true, eq_self, true_or, or_true, false_or, or_false, and_self, reduceCtorEq, forall_const]
    · have e0 : M.1 68 r = 1 := ert
      have n10 : ¬ (1 : Int32) = 0 := by decide
      obtain ⟨b, X2, e2, o2, b2⟩ := put_ok n2 1
      rcases b2 with ⟨rfl, m1⟩ | ⟨rfl, m1, m2⟩
      · refine ⟨false, X2, ?_, o1.trans o2, Or.inl ⟨rfl, by rw [e0, if_neg n10, m1]; rfl⟩⟩
        simp (disch := omega) only [ir, ra.1, ocz, ra.2.1, tk, e1, Option.bind_some, sb, ra'.2.1, v5', e0, n10, e2, o_le, o_leL, o_leR, o_lt, o_ltL, o_ltR, o_eq, o_eqL, o_eqR, o_cl, o_add, o_addL, o_addR, o_mul, o_mulL, o_mulR, o_sub, o_subR, o_0le, o_lt0, o_ixo, n1_eq, n1_eq', n1_lt, n1_le, n1_ge, n1_gt, n2_eq, n2_eq', n2_lt, n2_le, n2_ge, n2_gt, ↓reduceIte, ite_self, Nat.reduceEqDiff, Nat.reduceAdd, Nat.reduceMul, Nat.reduceSub, Nat.reduceLT, Nat.reduceLeDiff, Nat.not_lt_zero, Nat.zero_le, if_true, if_false, ite_true, ite_false, true_and, and_true, false_and, and_false, true_implies, false_implies, implies_true, not_true_eq_false, not_false_eq_true, eq_self, true_or, or_true, false_or, or_false, and_self, reduceCtorEq, forall_const]
      · refine ⟨true, X2, ?_, o1.trans o2, Or.inr ⟨rfl, upd g h' 1, h' + 1, by rw [e0, if_neg n10, m1]; rfl, m2⟩⟩
        simp (disch := omega) only [ir, ra.1, ocz, ra.2.1, tk, e1, Option.bind_some, sb, ra'.2.1, v5', e0, n10, e2, o_le, o_leL, o_leR, o_lt, o_ltL, o_ltR, o_eq, o_eqL, o_eqR, o_cl, o_add, o_addL, o_addR, o_mul, o_mulL, o_mulR, o_sub, o_subR, o_0le, o_lt0, o_ixo, n1_eq, n1_eq', n1_lt, n1_le, n1_ge, n1_gt, n2_eq, n2_eq', n2_lt, n2_le, n2_ge, n2_gt, ↓reduceIte, ite_self, Nat.reduceEqDiff, Nat.reduceAdd, Nat.reduceMul, Nat.reduceSub, Nat.reduceLT, Nat.reduceLeDiff, Nat.not_lt_zero, Nat.zero_le, if_true, if_false, ite_true, ite_false, true_and, and_true, false_and, and_false, true_implies, false_implies, implies_true, not_true_eq_false, not_false_eq_true, eq_self, true_or, or_true, false_or, or_false, and_self, reduceCtorEq, forall_const]
    · have e0 : M.1 68 r = 2 := ert
      have n10 : ¬ (2 : Int32) = 0 := by decide
      have n11 : ¬ (2 : Int32) = 1 := by decide
      obtain ⟨b, X2, e2, o2, b2⟩ := put_ok n2 2
      rcases b2 with ⟨rfl, m1⟩ | ⟨rfl, m1, m2⟩
      · refine ⟨false, X2, ?_, o1.trans o2, Or.inl ⟨rfl, by rw [e0, if_neg n10, m1]; rfl⟩⟩
        simp (disch := omega) only [ir, ra.1, ocz, ra.2.1, tk, e1, Option.bind_some, sb, ra'.2.1, v5', e0, n10, n11, e2, o_le, o_leL, o_leR, o_lt, o_ltL, o_ltR, o_eq, o_eqL, o_eqR, o_cl, o_add, o_addL, o_addR, o_mul, o_mulL, o_mulR, o_sub, o_subR, o_0le, o_lt0, o_ixo, n1_eq, n1_eq', n1_lt, n1_le, n1_ge, n1_gt, n2_eq, n2_eq', n2_lt, n2_le, n2_ge, n2_gt, ↓reduceIte, ite_self, Nat.reduceEqDiff, Nat.reduceAdd, Nat.reduceMul, Nat.reduceSub, Nat.reduceLT, Nat.reduceLeDiff, Nat.not_lt_zero, Nat.zero_le, if_true, if_false, ite_true, ite_false, true_and, and_true, false_and, and_false, true_implies, false_implies, implies_true, not_true_eq_false, not_false_eq_true, eq_self, true_or, or_true, false_or, or_false, and_self, reduceCtorEq, forall_const]
      · refine ⟨true, X2, ?_, o1.trans o2, Or.inr ⟨rfl, upd g h' 2, h' + 1, by rw [e0, if_neg n10, m1]; rfl, m2⟩⟩
        simp (disch := omega) only [ir, ra.1, ocz, ra.2.1, tk, e1, Option.bind_some, sb, ra'.2.1, v5', e0, n10, n11, e2, o_le, o_leL, o_leR, o_lt, o_ltL, o_ltR, o_eq, o_eqL, o_eqR, o_cl, o_add, o_addL, o_addR, o_mul, o_mulL, o_mulR, o_sub, o_subR, o_0le, o_lt0, o_ixo, n1_eq, n1_eq', n1_lt, n1_le, n1_ge, n1_gt, n2_eq, n2_eq', n2_lt, n2_le, n2_ge, n2_gt, ↓reduceIte, ite_self, Nat.reduceEqDiff, Nat.reduceAdd, Nat.reduceMul, Nat.reduceSub, Nat.reduceLT, Nat.reduceLeDiff, Nat.not_lt_zero, Nat.zero_le, if_true, if_false, ite_true, ite_false, true_and, and_true, false_and, and_false, true_implies, false_implies, implies_true, not_true_eq_false, not_false_eq_true, eq_self, true_or, or_true, false_or, or_false, and_self, reduceCtorEq, forall_const]
