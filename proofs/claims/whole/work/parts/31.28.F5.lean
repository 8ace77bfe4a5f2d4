/-! F5 -/
set_option maxRecDepth 20000 in
set_option maxHeartbeats 4000000 in
theorem Flm_src : ∀ a i, Flm a i → 74 < a ∨ (a = 60 ∧ i ≠ 3 ∧ i ≠ 15) := by
  intro a i h
  unfold Flm at h
  omega
set_option maxRecDepth 20000 in
set_option maxHeartbeats 4000000 in
theorem pargs_bad {M0 : MS} {r : Nat} (hr : r < 24) : ∀ (j : Nat) (M : MS) (N : Nat), j ≤ 4 → j < N → MO Flm M0 M → Bad M → ∃ v' M', lp (b9_M_popArguments (Int32.ofNat r)) N (Int32.ofNat j - 1, M) = some (v', M') ∧ MO Flm M0 M' ∧ Bad M' := by
  intro j
  induction j with
  | zero =>
    intro M N _ hN ho hb
    obtain ⟨N, rfl⟩ : ∃ K, N = K + 1 := ⟨N - 1, by omega⟩
    exact ⟨-1, M, lp_inr rfl, ho, hb⟩
  | succ j ih =>
    intro M N hj hN ho hb
    obtain ⟨N, rfl⟩ : ∃ K, N = K + 1 := ⟨N - 1, by omega⟩
    have ej : Int32.ofNat (j + 1) - 1 = Int32.ofNat j := by rw [Int32.ofNat_add j 1]; exact Int32.add_sub_cancel _ _
    rw [ej]
    by_cases c : ((M.1 67 r : Int32) >>> ((Int32.ofNat j : Int32) &&& 31)) &&& 1 = 1
    · obtain ⟨q, M1, e1, o1, b1⟩ := pop_bad hb 2
      obtain ⟨v', M', e2, o2, b2⟩ := ih M1 N (by omega) (by omega) (ho.trans o1) b1
      refine ⟨v', M', ?_, o2, b2⟩
      rw [← e2]
      refine lp_inl ?_
      unfold b9_M_popArguments
      simp (disch := omega) only [hr, c, e1, Option.bind_some, o_le, o_leL, o_leR, o_lt, o_ltL, o_ltR, o_eq, o_eqL, o_eqR, o_cl, o_add, o_addL, o_addR, o_mul, o_mulL, o_mulR, o_sub, o_subR, o_0le, o_lt0, o_ixo, n1_eq, n1_eq', n1_lt, n1_le, n1_ge, n1_gt, n2_eq, n2_eq', n2_lt, n2_le, n2_ge, n2_gt, ↓reduceIte, ite_self, Nat.reduceEqDiff, Nat.reduceAdd, Nat.reduceMul, Nat.reduceSub, Nat.reduceLT, Nat.reduceLeDiff, Nat.not_lt_zero, Nat.zero_le, if_true, if_false, ite_true, ite_false, true_and, and_true, false_and, and_false, true_implies, false_implies, implies_true, not_true_eq_false, not_false_eq_true, eq_self, true_or, or_true, false_or, or_false, and_self, reduceCtorEq, forall_const]
      rw [Int32.sub_eq_add_neg]
    · obtain ⟨q, M1, e1, o1, b1⟩ := pop_bad hb 1
      obtain ⟨v', M', e2, o2, b2⟩ := ih M1 N (by omega) (by omega) (ho.trans o1) b1
      refine ⟨v', M', ?_, o2, b2⟩
      rw [← e2]
      refine lp_inl ?_
      unfold b9_M_popArguments
      simp (disch := omega) only [hr, c, e1, Option.bind_some, o_le, o_leL, o_leR, o_lt, o_ltL, o_ltR, o_eq, o_eqL, o_eqR, o_cl, o_add, o_addL, o_addR, o_mul, o_mulL, o_mulR, o_sub, o_subR, o_0le, o_lt0, o_ixo, n1_eq, n1_eq', n1_lt, n1_le, n1_ge, n1_gt, n2_eq, n2_eq', n2_lt, n2_le, n2_ge, n2_gt, ↓reduceIte, ite_self, Nat.reduceEqDiff, Nat.reduceAdd, Nat.reduceMul, Nat.reduceSub, Nat.reduceLT, Nat.reduceLeDiff, Nat.not_lt_zero, Nat.zero_le, if_true, if_false, ite_true, ite_false, true_and, and_true, false_and, and_false, true_implies, false_implies, implies_true, not_true_eq_false, not_false_eq_true, eq_self, true_or, or_true, false_or, or_false, and_self, reduceCtorEq, forall_const]
      rw [Int32.sub_eq_add_neg]
set_option maxRecDepth 20000 in
set_option maxHeartbeats 4000000 in
theorem pargs_ok {M0 : MS} {r : Nat} {g lo : Nat → Int32} (hr : r < 24) : ∀ (j : Nat) (M : MS) (h N : Nat), j ≤ 4 → j < N → MO Flm M0 M → AM M g h lo → M.1 60 32 = 0 → ∃ v' M', lp (b9_M_popArguments (Int32.ofNat r)) N (Int32.ofNat j - 1, M) = some (v', M') ∧ MO Flm M0 M' ∧ ((popsK g (argsK M0 r j) h = none ∧ Bad M') ∨ (∃ h', popsK g (argsK M0 r j) h = some h' ∧ AM M' g h' lo ∧ M'.1 60 32 = 0)) := by
  intro j
  induction j with
  | zero =>
    intro M h N _ hN ho ha hw
    obtain ⟨N, rfl⟩ : ∃ K, N = K + 1 := ⟨N - 1, by omega⟩
    exact ⟨-1, M, lp_inr rfl, ho, Or.inr ⟨h, rfl, ha, hw⟩⟩
  | succ j ih =>
    intro M h N hj hN ho ha hw
    obtain ⟨N, rfl⟩ : ∃ K, N = K + 1 := ⟨N - 1, by omega⟩
    have ej : Int32.ofNat (j + 1) - 1 = Int32.ofNat j := by rw [Int32.ofNat_add j 1]; exact Int32.add_sub_cancel _ _
    have g67 : M.1 67 r = M0.1 67 r := by rw [(ho.src Flm_src).1 67 (by omega) (by omega)]
    rw [ej]
    show ∃ v' M', _ ∧ _ ∧ ((popsK g (argK M0 r j :: argsK M0 r j) h = none ∧ _) ∨ (∃ h', popsK g (argK M0 r j :: argsK M0 r j) h = some h' ∧ _))
    obtain ⟨q, M1, e1, o1, b1⟩ := pop_ok ha hw (argK M0 r j)
    have st : ∀ x, lp (b9_M_popArguments (Int32.ofNat r)) N (Int32.ofNat j - 1, M1) = some x → lp (b9_M_popArguments (Int32.ofNat r)) (N + 1) (Int32.ofNat j, M) = some x := by
      intro x hx
      rw [← hx]
      refine lp_inl ?_
      unfold b9_M_popArguments
      unfold argK at e1
      by_cases c : ((M0.1 67 r : Int32) >>> ((Int32.ofNat j : Int32) &&& 31)) &&& 1 = 1
      · rw [if_pos c] at e1
        simp (disch := omega) only [hr, g67, c, e1, Option.bind_some, o_le, o_leL, o_leR, o_lt, o_ltL, o_ltR, o_eq, o_eqL, o_eqR, o_cl, o_add, o_addL, o_addR, o_mul, o_mulL, o_mulR, o_sub, o_subR, o_0le, o_lt0, o_ixo, n1_eq, n1_eq', n1_lt, n1_le, n1_ge, n1_gt, n2_eq, n2_eq', n2_lt, n2_le, n2_ge, n2_gt, ↓reduceIte, ite_self, Nat.reduceEqDiff, Nat.reduceAdd, Nat.reduceMul, Nat.reduceSub, Nat.reduceLT, Nat.reduceLeDiff, Nat.not_lt_zero, Nat.zero_le, if_true, if_false, ite_true, ite_false, true_and, and_true, false_and, and_false, true_implies, false_implies, implies_true, not_true_eq_false, not_false_eq_true, eq_self, true_or, or_true, false_or, or_false, and_self, reduceCtorEq, forall_const]
        rw [Int32.sub_eq_add_neg]
      · rw [if_neg c] at e1
        simp (disch := omega) only [hr, g67, c, e1, Option.bind_some, o_le, o_leL, o_leR, o_lt, o_ltL, o_ltR, o_eq, o_eqL, o_eqR, o_cl, o_add, o_addL, o_addR, o_mul, o_mulL, o_mulR, o_sub, o_subR, o_0le, o_lt0, o_ixo, n1_eq, n1_eq', n1_lt, n1_le, n1_ge, n1_gt, n2_eq, n2_eq', n2_lt, n2_le, n2_ge, n2_gt, ↓reduceIte, ite_self, Nat.reduceEqDiff, Nat.reduceAdd, Nat.reduceMul, Nat.reduceSub, Nat.reduceLT, Nat.reduceLeDiff, Nat.not_lt_zero, Nat.zero_le, if_true, if_false, ite_true, ite_false, true_and, and_true, false_and, and_false, true_implies, false_implies, implies_true, not_true_eq_false, not_false_eq_true, eq_self, true_or, or_true, false_or, or_false, and_self, reduceCtorEq, forall_const]
        rw [Int32.sub_eq_add_neg]
    unfold popsK
    rcases b1 with ⟨n1, n2⟩ | ⟨n1, n2, n3, n4, n5⟩
    · obtain ⟨v', M', e2, o2, b2⟩ := pargs_bad hr j M1 N (by omega) (by omega) (ho.trans o1) n2
      exact ⟨v', M', st _ e2, o2, Or.inl ⟨by rw [n1], b2⟩⟩
    · obtain ⟨v', M', e2, o2, b2⟩ := ih M1 (h - 1) N (by omega) (by omega) (ho.trans o1) n4 n5
      refine ⟨v', M', st _ e2, o2, ?_⟩
      rw [n1]
      exact b2
set_option maxRecDepth 20000 in
set_option maxHeartbeats 4000000 in
theorem popsK_append (g : Nat → Int32) : ∀ (a b : List Int32) (h : Nat), popsK g (a ++ b) h = (popsK g a h).bind (popsK g b)
  | [], b, h => rfl
  | k :: r, b, h => by
    show (match popK k g h with | none => none | some h' => popsK g (r ++ b) h') = (match popK k g h with | none => none | some h' => popsK g r h').bind (popsK g b)
    cases popK k g h with
    | none => rfl
    | some h' => exact popsK_append g r b h'
set_option maxRecDepth 20000 in
set_option maxHeartbeats 4000000 in
/-- the reference's side of a call's kinds -/
theorem callM_ok {X : XS} {M0 M : MS} {T : Nat → Nat} {kc rc r : Nat} {g lo : Nat → Int32} {hh : Nat} (h : RSc X M0 T kc rc) (ho : MO Flm M0 M) (hr : r < rc) (ha : AM M g hh lo) (hw : M.1 60 32 = 0) : ∃ M', f_M_popArguments (Int32.ofNat r) M = some M' ∧ MO Flm M0 M' ∧ ((popsK g (argsK M0 r (M0.1 66 r).toNatClampNeg) hh = none ∧ Bad M') ∨ (∃ h', popsK g (argsK M0 r (M0.1 66 r).toNatClampNeg) hh = some h' ∧ AM M' g h' lo ∧ M'.1 60 32 = 0)) := by
  have hr24 := h.2.1
  have r24 : r < 24 := by omega
  obtain ⟨a, f, ra, rv⟩ := h.2.2.2.2.2 r hr
  have v11 := rv.2.2.2.2.2.2.2.2.2.1
  obtain ⟨n, hn, en⟩ := toNle (n := 4) (by omega) v11.1 v11.2
  have g66 : M.1 66 r = Int32.ofNat n := by rw [(ho.src Flm_src).1 66 (by omega) (by omega), en]
  obtain ⟨v', M', e, o', b'⟩ := pargs_ok (M0 := M0) (g := g) (lo := lo) r24 n M hh 10000 hn (by omega) ho ha hw
  rw [en, o_cl n (by omega)]
  refine ⟨M', ?_, o', b'⟩
  unfold f_M_popArguments
  rw [if_pos (by rw [o_ixo r 24 (by omega)]; exact r24), o_cl r (by omega), g66, e]
  rfl
set_option maxRecDepth 20000 in
set_option maxHeartbeats 4000000 in
theorem pushR_ok {X : XS} {M0 M : MS} {T : Nat → Nat} {kc rc r : Nat} {g lo : Nat → Int32} {hh : Nat} (h : RSc X M0 T kc rc) (ho : MO Flm M0 M) (hr : r < rc) (ha : AM M g hh lo) (hw : M.1 60 32 = 0) : ∃ M', f_M_pushReturn (Int32.ofNat r) M = some M' ∧ MO Flm M0 M' ∧ ((putT (M0.1 68 r) g hh lo = none ∧ Bad M') ∨ (∃ g' h', putT (M0.1 68 r) g hh lo = some (g', h', lo) ∧ AM M' g' h' lo ∧ M'.1 60 32 = 0)) := by
  have hr24 := h.2.1
  have r24 : r < 24 := by omega
  obtain ⟨a, f, ra, rv⟩ := h.2.2.2.2.2 r hr
  have v13 := rv.2.2.2.2.2.2.2.2.2.2.2.1
  obtain ⟨n, hn, en⟩ := toNle (n := 2) (by omega) v13.1 v13.2
  have g68 : M.1 68 r = Int32.ofNat n := by rw [(ho.src Flm_src).1 68 (by omega) (by omega), en]
  unfold f_M_pushReturn putT
  rw [en]
  by_cases z : n = 0
  · subst z
    refine ⟨M, ?_, ho, Or.inr ⟨g, hh, if_pos rfl, ha, hw⟩⟩
    simp (disch := omega) only [r24, g68, o_le, o_leL, o_leR, o_lt, o_ltL, o_ltR, o_eq, o_eqL, o_eqR, o_cl, o_add, o_addL, o_addR, o_mul, o_mulL, o_mulR, o_sub, o_subR, o_0le, o_lt0, o_ixo, n1_eq, n1_eq', n1_lt, n1_le, n1_ge, n1_gt, n2_eq, n2_eq', n2_lt, n2_le, n2_ge, n2_gt, ↓reduceIte, ite_self, Nat.reduceEqDiff, Nat.reduceAdd, Nat.reduceMul, Nat.reduceSub, Nat.reduceLT, Nat.reduceLeDiff, Nat.not_lt_zero, Nat.zero_le, if_true, if_false, ite_true, ite_false, true_and, and_true, false_and, and_false, true_implies, false_implies, implies_true, not_true_eq_false, not_false_eq_true, eq_self, true_or, or_true, false_or, or_false, and_self, reduceCtorEq, forall_const]
  · have z0 : ¬ Int32.ofNat n = 0 := by simp (disch := omega) only [o_le, o_leL, o_leR, o_lt, o_ltL, o_ltR, o_eq, o_eqL, o_eqR, o_cl, o_add, o_addL, o_addR, o_mul, o_mulL, o_mulR, o_sub, o_subR, o_0le, o_lt0, o_ixo, n1_eq, n1_eq', n1_lt, n1_le, n1_ge, n1_gt, n2_eq, n2_eq', n2_lt, n2_le, n2_ge, n2_gt, ↓reduceIte, ite_self, Nat.reduceEqDiff, Nat.reduceAdd, Nat.reduceMul, Nat.reduceSub, Nat.reduceLT, Nat.reduceLeDiff, Nat.not_lt_zero, Nat.zero_le, if_true, if_false, ite_true, ite_false, true_and, and_true, false_and, and_false, true_implies, false_implies, implies_true, not_true_eq_false, not_false_eq_true, eq_self, true_or, or_true, false_or, or_false, and_self, reduceCtorEq, forall_const]; exact z
    have z1 : ¬ n ≤ 0 := by omega
    obtain ⟨M', e, o', b'⟩ := push_ok ha hw (Int32.ofNat n)
    refine ⟨M', ?_, ho.trans o', ?_⟩
    · simp (disch := omega) only [r24, g68, z1, z, e, Option.bind_some, o_le, o_leL, o_leR, o_lt, o_ltL, o_ltR, o_eq, o_eqL, o_eqR, o_cl, o_add, o_addL, o_addR, o_mul, o_mulL, o_mulR, o_sub, o_subR, o_0le, o_lt0, o_ixo, n1_eq, n1_eq', n1_lt, n1_le, n1_ge, n1_gt, n2_eq, n2_eq', n2_lt, n2_le, n2_ge, n2_gt, ↓reduceIte, ite_self, Nat.reduceEqDiff, Nat.reduceAdd, Nat.reduceMul, Nat.reduceSub, Nat.reduceLT, Nat.reduceLeDiff, Nat.not_lt_zero, Nat.zero_le, if_true, if_false, ite_true, ite_false, true_and, and_true, false_and, and_false, true_implies, false_implies, implies_true, not_true_eq_false, not_false_eq_true, eq_self, true_or, or_true, false_or, or_false, and_self, reduceCtorEq, forall_const]
    · rw [if_neg z0]
      rcases b' with ⟨n1, n2⟩ | ⟨n1, n2, n3⟩
      · exact Or.inl ⟨by rw [n1]; rfl, n2⟩
      · exact Or.inr ⟨_, _, by rw [n1]; rfl, n2, n3⟩
set_option maxRecDepth 20000 in
set_option maxHeartbeats 4000000 in
theorem pushR_bad {X : XS} {M0 M : MS} {T : Nat → Nat} {kc rc r : Nat} (h : RSc X M0 T kc rc) (ho : MO Flm M0 M) (hr : r < rc) (hb : Bad M) : f_M_pushReturn (Int32.ofNat r) M = some M := by
  have hr24 := h.2.1
  have r24 : r < 24 := by omega
  unfold f_M_pushReturn
  rw [push_bad hb]
  simp (disch := omega) only [r24, Option.bind_some, o_le, o_leL, o_leR, o_lt, o_ltL, o_ltR, o_eq, o_eqL, o_eqR, o_cl, o_add, o_addL, o_addR, o_mul, o_mulL, o_mulR, o_sub, o_subR, o_0le, o_lt0, o_ixo, n1_eq, n1_eq', n1_lt, n1_le, n1_ge, n1_gt, n2_eq, n2_eq', n2_lt, n2_le, n2_ge, n2_gt, ↓reduceIte, ite_self, Nat.reduceEqDiff, Nat.reduceAdd, Nat.reduceMul, Nat.reduceSub, Nat.reduceLT, Nat.reduceLeDiff, Nat.not_lt_zero, Nat.zero_le, if_true, if_false, ite_true, ite_false, true_and, and_true, false_and, and_false, true_implies, false_implies, implies_true, not_true_eq_false, not_false_eq_true, eq_self, true_or, or_true, false_or, or_false, and_self, reduceCtorEq, forall_const]
theorem bad_ne {M : MS} (h : Bad M) : ¬ M.1 60 32 = 0 := by
  rw [h.1]
  decide
set_option maxRecDepth 20000 in
set_option maxHeartbeats 4000000 in
theorem act_ok {X : XS} {M0 M : MS} {T : Nat → Nat} {kc rc m op : Nat} {od : Int32} {g lo : Nat → Int32} {hh : Nat} (h : RSc X M0 T kc rc) (ho : MO Flm M0 M) (hm : m < rc) (hop : op < 56) (hpos : Pos M0 kc rc m op od) (hod : op = 2 ∨ op = 3 → ∃ k, k < 12 ∧ od = Int32.ofNat k) (ha : AM M g hh lo) (hw : M.1 60 32 = 0) : ∃ M', f_M_act (Int32.ofNat m) (Int32.ofNat op) od M = some M' ∧ MO Flm M0 M' ∧ ((¬ M'.1 60 32 = 0 ∧ Tr M0 rc op od g hh lo = none) ∨ (M'.1 60 32 = 0 ∧ ∃ g' h' l', Tr M0 rc op od g hh lo = some (g', h', l') ∧ AM M' g' h' l')) := by
  have hr24 := h.2.1
  have n10 : ¬ (1 : Int32) = 0 := by decide
  unfold f_M_act Tr
  by_cases c2 : op = 2
  · obtain ⟨k, hk, rfl⟩ := hod (Or.inl c2)
    subst c2
    have ek := ha.2.2.2 k hk
    by_cases z : lo k = 0
    · have hb : Bad (mw M 60 32 1) := ⟨by simp (disch := omega) only [xTw, xLw, xAw, xTp, xLp, xAp, xTc, xLc, xAc, xAn, xTn, xLn, xw1, xw2, xp1, xp2, xp3, mw1, mw2, xn1, xn2, xc1, xc2, o_le, o_leL, o_leR, o_lt, o_ltL, o_ltR, o_eq, o_eqL, o_eqR, o_cl, o_add, o_addL, o_addR, o_mul, o_mulL, o_mulR, o_sub, o_subR, o_0le, o_lt0, o_ixo, n1_eq, n1_eq', n1_lt, n1_le, n1_ge, n1_gt, n2_eq, n2_eq', n2_lt, n2_le, n2_ge, n2_gt, ↓reduceIte, ite_self, Nat.reduceEqDiff, Nat.reduceAdd, Nat.reduceMul, Nat.reduceSub, Nat.reduceLT, Nat.reduceLeDiff, Nat.not_lt_zero, Nat.zero_le, if_true, if_false, ite_true, ite_false, true_and, and_true, false_and, and_false, true_implies, false_implies, implies_true, not_true_eq_false, not_false_eq_true, eq_self, true_or, or_true, false_or, or_false, and_self, reduceCtorEq, forall_const], hh, ha.2.1, by simp (disch := omega) only [xTw, xLw, xAw, xTp, xLp, xAp, xTc, xLc, xAc, xAn, xTn, xLn, xw1, xw2, xp1, xp2, xp3, mw1, mw2, xn1, xn2, xc1, xc2, o_le, o_leL, o_leR, o_lt, o_ltL, o_ltR, o_eq, o_eqL, o_eqR, o_cl, o_add, o_addL, o_addR, o_mul, o_mulL, o_mulR, o_sub, o_subR, o_0le, o_lt0, o_ixo, n1_eq, n1_eq', n1_lt, n1_le, n1_ge, n1_gt, n2_eq, n2_eq', n2_lt, n2_le, n2_ge, n2_gt, ↓reduceIte, ite_self, Nat.reduceEqDiff, Nat.reduceAdd, Nat.reduceMul, Nat.reduceSub, Nat.reduceLT, Nat.reduceLeDiff, Nat.not_lt_zero, Nat.zero_le, if_true, if_false, ite_true, ite_false, true_and, and_true, false_and, and_false, true_implies, false_implies, implies_true, not_true_eq_false, not_false_eq_true, eq_self, true_or, or_true, false_or, or_false, and_self, reduceCtorEq, forall_const]; exact ha.1⟩
      refine ⟨mw M 60 32 1, ?_, ho.mw (by unfold Flm; omega) _, Or.inl ⟨bad_ne hb, ?_⟩⟩
      · simp (disch := omega) only [hk, ek, z, lt, xTw, xLw, xAw, xTp, xLp, xAp, xTc, xLc, xAc, xAn, xTn, xLn, xw1, xw2, xp1, xp2, xp3, mw1, mw2, xn1, xn2, xc1, xc2, Option.bind_some, push_bad hb, o_le, o_leL, o_leR, o_lt, o_ltL, o_ltR, o_eq, o_eqL, o_eqR, o_cl, o_add, o_addL, o_addR, o_mul, o_mulL, o_mulR, o_sub, o_subR, o_0le, o_lt0, o_ixo, n1_eq, n1_eq', n1_lt, n1_le, n1_ge, n1_gt, n2_eq, n2_eq', n2_lt, n2_le, n2_ge, n2_gt, ↓reduceIte, ite_self, Nat.reduceEqDiff, Nat.reduceAdd, Nat.reduceMul, Nat.reduceSub, Nat.reduceLT, Nat.reduceLeDiff, Nat.not_lt_zero, Nat.zero_le, if_true, if_false, ite_true, ite_false, true_and, and_true, false_and, and_false, true_implies, false_implies, implies_true, not_true_eq_false, not_false_eq_true, eq_self, true_or, or_true, false_or, or_false, and_self, reduceCtorEq, forall_const]
      · simp (disch := omega) only [z, o_le, o_leL, o_leR, o_lt, o_ltL, o_ltR, o_eq, o_eqL, o_eqR, o_cl, o_add, o_addL, o_addR, o_mul, o_mulL, o_mulR, o_sub, o_subR, o_0le, o_lt0, o_ixo, n1_eq, n1_eq', n1_lt, n1_le, n1_ge, n1_gt, n2_eq, n2_eq', n2_lt, n2_le, n2_ge, n2_gt, ↓reduceIte, ite_self, Nat.reduceEqDiff, Nat.reduceAdd, Nat.reduceMul, Nat.reduceSub, Nat.reduceLT, Nat.reduceLeDiff, Nat.not_lt_zero, Nat.zero_le, if_true, if_false, ite_true, ite_false, true_and, and_true, false_and, and_false, true_implies, false_implies, implies_true, not_true_eq_false, not_false_eq_true, eq_self, true_or, or_true, false_or, or_false, and_self, reduceCtorEq, forall_const]
    · have ha' : AM (mw M 60 32 0) g hh lo := ⟨by simp (disch := omega) only [xTw, xLw, xAw, xTp, xLp, xAp, xTc, xLc, xAc, xAn, xTn, xLn, xw1, xw2, xp1, xp2, xp3, mw1, mw2, xn1, xn2, xc1, xc2, o_le, o_leL, o_leR, o_lt, o_ltL, o_ltR, o_eq, o_eqL, o_eqR, o_cl, o_add, o_addL, o_addR, o_mul, o_mulL, o_mulR, o_sub, o_subR, o_0le, o_lt0, o_ixo, n1_eq, n1_eq', n1_lt, n1_le, n1_ge, n1_gt, n2_eq, n2_eq', n2_lt, n2_le, n2_ge, n2_gt, ↓reduceIte, ite_self, Nat.reduceEqDiff, Nat.reduceAdd, Nat.reduceMul, Nat.reduceSub, Nat.reduceLT, Nat.reduceLeDiff, Nat.not_lt_zero, Nat.zero_le, if_true, if_false, ite_true, ite_false, true_and, and_true, false_and, and_false, true_implies, false_implies, implies_true, not_true_eq_false, not_false_eq_true, eq_self, true_or, or_true, false_or, or_false, and_self, reduceCtorEq, forall_const]; exact ha.1, ha.2.1, fun j hj => by simp (disch := omega) only [xTw, xLw, xAw, xTp, xLp, xAp, xTc, xLc, xAc, xAn, xTn, xLn, xw1, xw2, xp1, xp2, xp3, mw1, mw2, xn1, xn2, xc1, xc2, o_le, o_leL, o_leR, o_lt, o_ltL, o_ltR, o_eq, o_eqL, o_eqR, o_cl, o_add, o_addL, o_addR, o_mul, o_mulL, o_mulR, o_sub, o_subR, o_0le, o_lt0, o_ixo, n1_eq, n1_eq', n1_lt, n1_le, n1_ge, n1_gt, n2_eq, n2_eq', n2_lt, n2_le, n2_ge, n2_gt, ↓reduceIte, ite_self, Nat.reduceEqDiff, Nat.reduceAdd, Nat.reduceMul, Nat.reduceSub, Nat.reduceLT, Nat.reduceLeDiff, Nat.not_lt_zero, Nat.zero_le, if_true, if_false, ite_true, ite_false, true_and, and_true, false_and, and_false, true_implies, false_implies, implies_true, not_true_eq_false, not_false_eq_true, eq_self, true_or, or_true, false_or, or_false, and_self, reduceCtorEq, forall_const]; exact ha.2.2.1 j hj, fun j hj => by simp (disch := omega) only [xTw, xLw, xAw, xTp, xLp, xAp, xTc, xLc, xAc, xAn, xTn, xLn, xw1, xw2, xp1, xp2, xp3, mw1, mw2, xn1, xn2, xc1, xc2, o_le, o_leL, o_leR, o_lt, o_ltL, o_ltR, o_eq, o_eqL, o_eqR, o_cl, o_add, o_addL, o_addR, o_mul, o_mulL, o_mulR, o_sub, o_subR, o_0le, o_lt0, o_ixo, n1_eq, n1_eq', n1_lt, n1_le, n1_ge, n1_gt, n2_eq, n2_eq', n2_lt, n2_le, n2_ge, n2_gt, ↓reduceIte, ite_self, Nat.reduceEqDiff, Nat.reduceAdd, Nat.reduceMul, Nat.reduceSub, Nat.reduceLT, Nat.reduceLeDiff, Nat.not_lt_zero, Nat.zero_le, if_true, if_false, ite_true, ite_false, true_and, and_true, false_and, and_false, true_implies, false_implies, implies_true, not_true_eq_false, not_false_eq_true, eq_self, true_or, or_true, false_or, or_false, and_self, reduceCtorEq, forall_const]; exact ha.2.2.2 j hj⟩
      obtain ⟨M', e, o', b'⟩ := push_ok ha' (by simp (disch := omega) only [xTw, xLw, xAw, xTp, xLp, xAp, xTc, xLc, xAc, xAn, xTn, xLn, xw1, xw2, xp1, xp2, xp3, mw1, mw2, xn1, xn2, xc1, xc2, o_le, o_leL, o_leR, o_lt, o_ltL, o_ltR, o_eq, o_eqL, o_eqR, o_cl, o_add, o_addL, o_addR, o_mul, o_mulL, o_mulR, o_sub, o_subR, o_0le, o_lt0, o_ixo, n1_eq, n1_eq', n1_lt, n1_le, n1_ge, n1_gt, n2_eq, n2_eq', n2_lt, n2_le, n2_ge, n2_gt, ↓reduceIte, ite_self, Nat.reduceEqDiff, Nat.reduceAdd, Nat.reduceMul, Nat.reduceSub, Nat.reduceLT, Nat.reduceLeDiff, Nat.not_lt_zero, Nat.zero_le, if_true, if_false, ite_true, ite_false, true_and, and_true, false_and, and_false, true_implies, false_implies, implies_true, not_true_eq_false, not_false_eq_true, eq_self, true_or, or_true, false_or, or_false, and_self, reduceCtorEq, forall_const]) (lo k)
      refine ⟨M', ?_, (ho.mw (by unfold Flm; omega) _).trans o', ?_⟩
      · simp (disch := omega) only [hk, ek, z, lt, xTw, xLw, xAw, xTp, xLp, xAp, xTc, xLc, xAc, xAn, xTn, xLn, xw1, xw2, xp1, xp2, xp3, mw1, mw2, xn1, xn2, xc1, xc2, e, Option.bind_some, o_le, o_leL, o_leR, o_lt, o_ltL, o_ltR, o_eq, o_eqL, o_eqR, o_cl, o_add, o_addL, o_addR, o_mul, o_mulL, o_mulR, o_sub, o_subR, o_0le, o_lt0, o_ixo, n1_eq, n1_eq', n1_lt, n1_le, n1_ge, n1_gt, n2_eq, n2_eq', n2_lt, n2_le, n2_ge, n2_gt, ↓reduceIte, ite_self, Nat.reduceEqDiff, Nat.reduceAdd, Nat.reduceMul, Nat.reduceSub, Nat.reduceLT, Nat.reduceLeDiff, Nat.not_lt_zero, Nat.zero_le, if_true, if_false, ite_true, ite_false, true_and, and_true, false_and, and_false, true_implies, false_implies, implies_true, not_true_eq_false, not_false_eq_true, eq_self, true_or, or_true, false_or, or_false, and_self, reduceCtorEq, forall_const]
      · simp (disch := omega) only [z, o_le, o_leL, o_leR, o_lt, o_ltL, o_ltR, o_eq, o_eqL, o_eqR, o_cl, o_add, o_addL, o_addR, o_mul, o_mulL, o_mulR, o_sub, o_subR, o_0le, o_lt0, o_ixo, n1_eq, n1_eq', n1_lt, n1_le, n1_ge, n1_gt, n2_eq, n2_eq', n2_lt, n2_le, n2_ge, n2_gt, ↓reduceIte, ite_self, Nat.reduceEqDiff, Nat.reduceAdd, Nat.reduceMul, Nat.reduceSub, Nat.reduceLT, Nat.reduceLeDiff, Nat.not_lt_zero, Nat.zero_le, if_true, if_false, ite_true, ite_false, true_and, and_true, false_and, and_false, true_implies, false_implies, implies_true, not_true_eq_false, not_false_eq_true, eq_self, true_or, or_true, false_or, or_false, and_self, reduceCtorEq, forall_const]
        rcases b' with ⟨n1, n2⟩ | ⟨n1, n2, n3⟩
        · exact Or.inl ⟨bad_ne n2, by rw [n1]; rfl⟩
        · exact Or.inr ⟨n3, _, _, _, by rw [n1]; rfl, n2⟩
  by_cases c3 : op = 3
  · obtain ⟨k, hk, rfl⟩ := hod (Or.inr c3)
    subst c3
    obtain ⟨q, M1, e1, o1, b1⟩ := pop_ok ha hw 0
    rcases b1 with ⟨n1, n2⟩ | ⟨n1, n2, n3, n4, n5⟩
    · have nb := bad_ne n2
      refine ⟨mw M1 87 k (M1.1 87 k), ?_, (ho.trans o1).mw (by unfold Flm; omega) _, Or.inl ⟨?_, ?_⟩⟩
      · simp (disch := omega) only [hk, e1, nb, lt, Option.bind_some, o_le, o_leL, o_leR, o_lt, o_ltL, o_ltR, o_eq, o_eqL, o_eqR, o_cl, o_add, o_addL, o_addR, o_mul, o_mulL, o_mulR, o_sub, o_subR, o_0le, o_lt0, o_ixo, n1_eq, n1_eq', n1_lt, n1_le, n1_ge, n1_gt, n2_eq, n2_eq', n2_lt, n2_le, n2_ge, n2_gt, ↓reduceIte, ite_self, Nat.reduceEqDiff, Nat.reduceAdd, Nat.reduceMul, Nat.reduceSub, Nat.reduceLT, Nat.reduceLeDiff, Nat.not_lt_zero, Nat.zero_le, if_true, if_false, ite_true, ite_false, true_and, and_true, false_and, and_false, true_implies, false_implies, implies_true, not_true_eq_false, not_false_eq_true, eq_self, true_or, or_true, false_or, or_false, and_self, reduceCtorEq, forall_const]
      · simp (disch := omega) only [xTw, xLw, xAw, xTp, xLp, xAp, xTc, xLc, xAc, xAn, xTn, xLn, xw1, xw2, xp1, xp2, xp3, mw1, mw2, xn1, xn2, xc1, xc2, o_le, o_leL, o_leR, o_lt, o_ltL, o_ltR, o_eq, o_eqL, o_eqR, o_cl, o_add, o_addL, o_addR, o_mul, o_mulL, o_mulR, o_sub, o_subR, o_0le, o_lt0, o_ixo, n1_eq, n1_eq', n1_lt, n1_le, n1_ge, n1_gt, n2_eq, n2_eq', n2_lt, n2_le, n2_ge, n2_gt, ↓reduceIte, ite_self, Nat.reduceEqDiff, Nat.reduceAdd, Nat.reduceMul, Nat.reduceSub, Nat.reduceLT, Nat.reduceLeDiff, Nat.not_lt_zero, Nat.zero_le, if_true, if_false, ite_true, ite_false, true_and, and_true, false_and, and_false, true_implies, false_implies, implies_true, not_true_eq_false, not_false_eq_true, eq_self, true_or, or_true, false_or, or_false, and_self, reduceCtorEq, forall_const]
        exact nb
      · simp (disch := omega) only [n1, o_le, o_leL, o_leR, o_lt, o_ltL, o_ltR, o_eq, o_eqL, o_eqR, o_cl, o_add, o_addL, o_addR, o_mul, o_mulL, o_mulR, o_sub, o_subR, o_0le, o_lt0, o_ixo, n1_eq, n1_eq', n1_lt, n1_le, n1_ge, n1_gt, n2_eq, n2_eq', n2_lt, n2_le, n2_ge, n2_gt, ↓reduceIte, ite_self, Nat.reduceEqDiff, Nat.reduceAdd, Nat.reduceMul, Nat.reduceSub, Nat.reduceLT, Nat.reduceLeDiff, Nat.not_lt_zero, Nat.zero_le, if_true, if_false, ite_true, ite_false, true_and, and_true, false_and, and_false, true_implies, false_implies, implies_true, not_true_eq_false, not_false_eq_true, eq_self, true_or, or_true, false_or, or_false, and_self, reduceCtorEq, forall_const]
        rfl
    · refine ⟨mw M1 87 k q, ?_, (ho.trans o1).mw (by unfold Flm; omega) _, Or.inr ⟨?_, g, hh - 1, upd lo k (g (hh - 1)), ?_, ?_, n4.2.1, ?_, ?_⟩⟩
      · simp (disch := omega) only [hk, e1, n5, lt, Option.bind_some, o_le, o_leL, o_leR, o_lt, o_ltL, o_ltR, o_eq, o_eqL, o_eqR, o_cl, o_add, o_addL, o_addR, o_mul, o_mulL, o_mulR, o_sub, o_subR, o_0le, o_lt0, o_ixo, n1_eq, n1_eq', n1_lt, n1_le, n1_ge, n1_gt, n2_eq, n2_eq', n2_lt, n2_le, n2_ge, n2_gt, ↓reduceIte, ite_self, Nat.reduceEqDiff, Nat.reduceAdd, Nat.reduceMul, Nat.reduceSub, Nat.reduceLT, Nat.reduceLeDiff, Nat.not_lt_zero, Nat.zero_le, if_true, if_false, ite_true, ite_false, true_and, and_true, false_and, and_false, true_implies, false_implies, implies_true, not_true_eq_false, not_false_eq_true, eq_self, true_or, or_true, false_or, or_false, and_self, reduceCtorEq, forall_const]
      · simp (disch := omega) only [xTw, xLw, xAw, xTp, xLp, xAp, xTc, xLc, xAc, xAn, xTn, xLn, xw1, xw2, xp1, xp2, xp3, mw1, mw2, xn1, xn2, xc1, xc2, o_le, o_leL, o_leR, o_lt, o_ltL, o_ltR, o_eq, o_eqL, o_eqR, o_cl, o_add, o_addL, o_addR, o_mul, o_mulL, o_mulR, o_sub, o_subR, o_0le, o_lt0, o_ixo, n1_eq, n1_eq', n1_lt, n1_le, n1_ge, n1_gt, n2_eq, n2_eq', n2_lt, n2_le, n2_ge, n2_gt, ↓reduceIte, ite_self, Nat.reduceEqDiff, Nat.reduceAdd, Nat.reduceMul, Nat.reduceSub, Nat.reduceLT, Nat.reduceLeDiff, Nat.not_lt_zero, Nat.zero_le, if_true, if_false, ite_true, ite_false, true_and, and_true, false_and, and_false, true_implies, false_implies, implies_true, not_true_eq_false, not_false_eq_true, eq_self, true_or, or_true, false_or, or_false, and_self, reduceCtorEq, forall_const]
        exact n5
      · simp (disch := omega) only [n1, o_le, o_leL, o_leR, o_lt, o_ltL, o_ltR, o_eq, o_eqL, o_eqR, o_cl, o_add, o_addL, o_addR, o_mul, o_mulL, o_mulR, o_sub, o_subR, o_0le, o_lt0, o_ixo, n1_eq, n1_eq', n1_lt, n1_le, n1_ge, n1_gt, n2_eq, n2_eq', n2_lt, n2_le, n2_ge, n2_gt, ↓reduceIte, ite_self, Nat.reduceEqDiff, Nat.reduceAdd, Nat.reduceMul, Nat.reduceSub, Nat.reduceLT, Nat.reduceLeDiff, Nat.not_lt_zero, Nat.zero_le, if_true, if_false, ite_true, ite_false, true_and, and_true, false_and, and_false, true_implies, false_implies, implies_true, not_true_eq_false, not_false_eq_true, eq_self, true_or, or_true, false_or, or_false, and_self, reduceCtorEq, forall_const]
        rfl
      · simp (disch := omega) only [xTw, xLw, xAw, xTp, xLp, xAp, xTc, xLc, xAc, xAn, xTn, xLn, xw1, xw2, xp1, xp2, xp3, mw1, mw2, xn1, xn2, xc1, xc2, o_le, o_leL, o_leR, o_lt, o_ltL, o_ltR, o_eq, o_eqL, o_eqR, o_cl, o_add, o_addL, o_addR, o_mul, o_mulL, o_mulR, o_sub, o_subR, o_0le, o_lt0, o_ixo, n1_eq, n1_eq', n1_lt, n1_le, n1_ge, n1_gt, n2_eq, n2_eq', n2_lt, n2_le, n2_ge, n2_gt, ↓reduceIte, ite_self, Nat.reduceEqDiff, Nat.reduceAdd, Nat.reduceMul, Nat.reduceSub, Nat.reduceLT, Nat.reduceLeDiff, Nat.not_lt_zero, Nat.zero_le, if_true, if_false, ite_true, ite_false, true_and, and_true, false_and, and_false, true_implies, false_implies, implies_true, not_true_eq_false, not_false_eq_true, eq_self, true_or, or_true, false_or, or_false, and_self, reduceCtorEq, forall_const]
        exact n4.1
      · intro j hj
        simp (disch := omega) only [xTw, xLw, xAw, xTp, xLp, xAp, xTc, xLc, xAc, xAn, xTn, xLn, xw1, xw2, xp1, xp2, xp3, mw1, mw2, xn1, xn2, xc1, xc2, o_le, o_leL, o_leR, o_lt, o_ltL, o_ltR, o_eq, o_eqL, o_eqR, o_cl, o_add, o_addL, o_addR, o_mul, o_mulL, o_mulR, o_sub, o_subR, o_0le, o_lt0, o_ixo, n1_eq, n1_eq', n1_lt, n1_le, n1_ge, n1_gt, n2_eq, n2_eq', n2_lt, n2_le, n2_ge, n2_gt, ↓reduceIte, ite_self, Nat.reduceEqDiff, Nat.reduceAdd, Nat.reduceMul, Nat.reduceSub, Nat.reduceLT, Nat.reduceLeDiff, Nat.not_lt_zero, Nat.zero_le, if_true, if_false, ite_true, ite_false, true_and, and_true, false_and, and_false, true_implies, false_implies, implies_true, not_true_eq_false, not_false_eq_true, eq_self, true_or, or_true, false_or, or_false, and_self, reduceCtorEq, forall_const]
        exact n4.2.2.1 j hj
      · intro j hj
        rw [mw1, updE]
        by_cases ej : j = k
        · subst ej
          rw [if_pos ⟨rfl, rfl⟩, if_pos rfl]
          exact n3
        · rw [if_neg (fun q => ej q.2), if_neg ej]
          exact n4.2.2.2 j hj
  by_cases c16 : op = 16
  · subst c16
    obtain ⟨q, M1, e1, o1, b1⟩ := pop_ok ha hw 0
    rcases b1 with ⟨n1, n2⟩ | ⟨n1, n2, n3, n4, n5⟩
    · refine ⟨M1, ?_, ho.trans o1, Or.inl ⟨bad_ne n2, ?_⟩⟩
      · simp (disch := omega) only [e1, Option.bind_some, push_bad n2, o_le, o_leL, o_leR, o_lt, o_ltL, o_ltR, o_eq, o_eqL, o_eqR, o_cl, o_add, o_addL, o_addR, o_mul, o_mulL, o_mulR, o_sub, o_subR, o_0le, o_lt0, o_ixo, n1_eq, n1_eq', n1_lt, n1_le, n1_ge, n1_gt, n2_eq, n2_eq', n2_lt, n2_le, n2_ge, n2_gt, ↓reduceIte, ite_self, Nat.reduceEqDiff, Nat.reduceAdd, Nat.reduceMul, Nat.reduceSub, Nat.reduceLT, Nat.reduceLeDiff, Nat.not_lt_zero, Nat.zero_le, if_true, if_false, ite_true, ite_false, true_and, and_true, false_and, and_false, true_implies, false_implies, implies_true, not_true_eq_false, not_false_eq_true, eq_self, true_or, or_true, false_or, or_false, and_self, reduceCtorEq, forall_const]
      · have : ¬ 0 < hh := by
          intro hp
          unfold popK at n1
          rw [if_pos ⟨hp, Or.inl rfl⟩] at n1
          cases n1
        simp (disch := omega) only [this, o_le, o_leL, o_leR, o_lt, o_ltL, o_ltR, o_eq, o_eqL, o_eqR, o_cl, o_add, o_addL, o_addR, o_mul, o_mulL, o_mulR, o_sub, o_subR, o_0le, o_lt0, o_ixo, n1_eq, n1_eq', n1_lt, n1_le, n1_ge, n1_gt, n2_eq, n2_eq', n2_lt, n2_le, n2_ge, n2_gt, ↓reduceIte, ite_self, Nat.reduceEqDiff, Nat.reduceAdd, Nat.reduceMul, Nat.reduceSub, Nat.reduceLT, Nat.reduceLeDiff, Nat.not_lt_zero, Nat.zero_le, if_true, if_false, ite_true, ite_false, true_and, and_true, false_and, and_false, true_implies, false_implies, implies_true, not_true_eq_false, not_false_eq_true, eq_self, true_or, or_true, false_or, or_false, and_self, reduceCtorEq, forall_const]
    · obtain ⟨M2, e2, o2, b2⟩ := push_ok n4 n5 q
      have h10 : hh - 1 < 10 := by have := ha.2.1; omega
      rcases b2 with ⟨p1, p2⟩ | ⟨p1, p2, p3⟩
      · unfold pushK at p1
        rw [if_pos h10] at p1
        cases p1
      · have eh : hh - 1 + 1 = hh := by omega
        have gg : upd g (hh - 1) q = g := by
          funext j
          rw [updE]
          by_cases ej : j = hh - 1
          · rw [if_pos ej, ej, n3]
          · rw [if_neg ej]
        rw [eh, gg] at p2
        obtain ⟨M3, e3, o3, b3⟩ := push_ok p2 p3 q
        refine ⟨M3, ?_, ((ho.trans o1).trans o2).trans o3, ?_⟩
        · simp (disch := omega) only [e1, e2, e3, Option.bind_some, o_le, o_leL, o_leR, o_lt, o_ltL, o_ltR, o_eq, o_eqL, o_eqR, o_cl, o_add, o_addL, o_addR, o_mul, o_mulL, o_mulR, o_sub, o_subR, o_0le, o_lt0, o_ixo, n1_eq, n1_eq', n1_lt, n1_le, n1_ge, n1_gt, n2_eq, n2_eq', n2_lt, n2_le, n2_ge, n2_gt, ↓reduceIte, ite_self, Nat.reduceEqDiff, Nat.reduceAdd, Nat.reduceMul, Nat.reduceSub, Nat.reduceLT, Nat.reduceLeDiff, Nat.not_lt_zero, Nat.zero_le, if_true, if_false, ite_true, ite_false, true_and, and_true, false_and, and_false, true_implies, false_implies, implies_true, not_true_eq_false, not_false_eq_true, eq_self, true_or, or_true, false_or, or_false, and_self, reduceCtorEq, forall_const]
        · simp (disch := omega) only [n2, o_le, o_leL, o_leR, o_lt, o_ltL, o_ltR, o_eq, o_eqL, o_eqR, o_cl, o_add, o_addL, o_addR, o_mul, o_mulL, o_mulR, o_sub, o_subR, o_0le, o_lt0, o_ixo, n1_eq, n1_eq', n1_lt, n1_le, n1_ge, n1_gt, n2_eq, n2_eq', n2_lt, n2_le, n2_ge, n2_gt, ↓reduceIte, ite_self, Nat.reduceEqDiff, Nat.reduceAdd, Nat.reduceMul, Nat.reduceSub, Nat.reduceLT, Nat.reduceLeDiff, Nat.not_lt_zero, Nat.zero_le, if_true, if_false, ite_true, ite_false, true_and, and_true, false_and, and_false, true_implies, false_implies, implies_true, not_true_eq_false, not_false_eq_true, eq_self, true_or, or_true, false_or, or_false, and_self, reduceCtorEq, forall_const]
          rw [← n3]
          rcases b3 with ⟨r1, r2⟩ | ⟨r1, r2, r3⟩
          · exact Or.inl ⟨bad_ne r2, by rw [r1]; rfl⟩
          · exact Or.inr ⟨r3, _, _, _, by rw [r1]; rfl, r2⟩
  by_cases c18 : op = 18
  · subst c18
    have n17 : ¬ (18 : Nat) = 17 := by decide
    obtain ⟨q, M1, e1, o1, b1⟩ := pop_ok ha hw 0
    rcases b1 with ⟨n1, n2⟩ | ⟨n1, n2, n3, n4, n5⟩
    · obtain ⟨q2, M2, e2, o2, b2⟩ := pop_bad n2 0
      refine ⟨M2, ?_, (ho.trans o1).trans o2, Or.inl ⟨bad_ne b2, ?_⟩⟩
      · simp (disch := omega) only [e1, e2, Option.bind_some, push_bad b2, o_le, o_leL, o_leR, o_lt, o_ltL, o_ltR, o_eq, o_eqL, o_eqR, o_cl, o_add, o_addL, o_addR, o_mul, o_mulL, o_mulR, o_sub, o_subR, o_0le, o_lt0, o_ixo, n1_eq, n1_eq', n1_lt, n1_le, n1_ge, n1_gt, n2_eq, n2_eq', n2_lt, n2_le, n2_ge, n2_gt, ↓reduceIte, ite_self, Nat.reduceEqDiff, Nat.reduceAdd, Nat.reduceMul, Nat.reduceSub, Nat.reduceLT, Nat.reduceLeDiff, Nat.not_lt_zero, Nat.zero_le, if_true, if_false, ite_true, ite_false, true_and, and_true, false_and, and_false, true_implies, false_implies, implies_true, not_true_eq_false, not_false_eq_true, eq_self, true_or, or_true, false_or, or_false, and_self, reduceCtorEq, forall_const]
      · have : ¬ 2 ≤ hh := by
          intro hp
          unfold popK at n1
          rw [if_pos ⟨by omega, Or.inl rfl⟩] at n1
          cases n1
        simp (disch := omega) only [this, o_le, o_leL, o_leR, o_lt, o_ltL, o_ltR, o_eq, o_eqL, o_eqR, o_cl, o_add, o_addL, o_addR, o_mul, o_mulL, o_mulR, o_sub, o_subR, o_0le, o_lt0, o_ixo, n1_eq, n1_eq', n1_lt, n1_le, n1_ge, n1_gt, n2_eq, n2_eq', n2_lt, n2_le, n2_ge, n2_gt, ↓reduceIte, ite_self, Nat.reduceEqDiff, Nat.reduceAdd, Nat.reduceMul, Nat.reduceSub, Nat.reduceLT, Nat.reduceLeDiff, Nat.not_lt_zero, Nat.zero_le, if_true, if_false, ite_true, ite_false, true_and, and_true, false_and, and_false, true_implies, false_implies, implies_true, not_true_eq_false, not_false_eq_true, eq_self, true_or, or_true, false_or, or_false, and_self, reduceCtorEq, forall_const]
    · obtain ⟨q2, M2, e2, o2, b2⟩ := pop_ok n4 n5 0
      rcases b2 with ⟨p1, p2⟩ | ⟨p1, p2, p3, p4, p5⟩
      · refine ⟨M2, ?_, (ho.trans o1).trans o2, Or.inl ⟨bad_ne p2, ?_⟩⟩
        · simp (disch := omega) only [e1, e2, Option.bind_some, push_bad p2, o_le, o_leL, o_leR, o_lt, o_ltL, o_ltR, o_eq, o_eqL, o_eqR, o_cl, o_add, o_addL, o_addR, o_mul, o_mulL, o_mulR, o_sub, o_subR, o_0le, o_lt0, o_ixo, n1_eq, n1_eq', n1_lt, n1_le, n1_ge, n1_gt, n2_eq, n2_eq', n2_lt, n2_le, n2_ge, n2_gt, ↓reduceIte, ite_self, Nat.reduceEqDiff, Nat.reduceAdd, Nat.reduceMul, Nat.reduceSub, Nat.reduceLT, Nat.reduceLeDiff, Nat.not_lt_zero, Nat.zero_le, if_true, if_false, ite_true, ite_false, true_and, and_true, false_and, and_false, true_implies, false_implies, implies_true, not_true_eq_false, not_false_eq_true, eq_self, true_or, or_true, false_or, or_false, and_self, reduceCtorEq, forall_const]
        · have : ¬ 2 ≤ hh := by
            intro hp
            unfold popK at p1
            rw [if_pos ⟨by omega, Or.inl rfl⟩] at p1
            cases p1
          simp (disch := omega) only [this, o_le, o_leL, o_leR, o_lt, o_ltL, o_ltR, o_eq, o_eqL, o_eqR, o_cl, o_add, o_addL, o_addR, o_mul, o_mulL, o_mulR, o_sub, o_subR, o_0le, o_lt0, o_ixo, n1_eq, n1_eq', n1_lt, n1_le, n1_ge, n1_gt, n2_eq, n2_eq', n2_lt, n2_le, n2_ge, n2_gt, ↓reduceIte, ite_self, Nat.reduceEqDiff, Nat.reduceAdd, Nat.reduceMul, Nat.reduceSub, Nat.reduceLT, Nat.reduceLeDiff, Nat.not_lt_zero, Nat.zero_le, if_true, if_false, ite_true, ite_false, true_and, and_true, false_and, and_false, true_implies, false_implies, implies_true, not_true_eq_false, not_false_eq_true, eq_self, true_or, or_true, false_or, or_false, and_self, reduceCtorEq, forall_const]
      · have h2 : 2 ≤ hh := by omega
        have h10 : hh - 1 - 1 < 10 := by have := ha.2.1; omega
        obtain ⟨M3, e3, o3, b3⟩ := push_ok p4 p5 q
        rcases b3 with ⟨r1, r2⟩ | ⟨r1, r2, r3⟩
        · unfold pushK at r1
          rw [if_pos h10] at r1
          cases r1
        · obtain ⟨M4, e4, o4, b4⟩ := push_ok r2 r3 q2
          have h11 : hh - 1 - 1 + 1 < 10 := by have := ha.2.1; omega
          rcases b4 with ⟨s1, s2⟩ | ⟨s1, s2, s3⟩
          · unfold pushK at s1
            rw [if_pos h11] at s1
            cases s1
          · refine ⟨M4, ?_, (((ho.trans o1).trans o2).trans o3).trans o4, Or.inr ⟨s3, _, _, _, by simp (disch := omega) only [h2, o_le, o_leL, o_leR, o_lt, o_ltL, o_ltR, o_eq, o_eqL, o_eqR, o_cl, o_add, o_addL, o_addR, o_mul, o_mulL, o_mulR, o_sub, o_subR, o_0le, o_lt0, o_ixo, n1_eq, n1_eq', n1_lt, n1_le, n1_ge, n1_gt, n2_eq, n2_eq', n2_lt, n2_le, n2_ge, n2_gt, ↓reduceIte, ite_self, Nat.reduceEqDiff, Nat.reduceAdd, Nat.reduceMul, Nat.reduceSub, Nat.reduceLT, Nat.reduceLeDiff, Nat.not_lt_zero, Nat.zero_le, if_true, if_false, ite_true, ite_false, true_and, and_true, false_and, and_false, true_implies, false_implies, implies_true, not_true_eq_false, not_false_eq_true, eq_self, true_or, or_true, false_or, or_false, and_self, reduceCtorEq, forall_const]; rfl, ?_⟩⟩
            · simp (disch := omega) only [e1, e2, e3, e4, Option.bind_some, o_le, o_leL, o_leR, o_lt, o_ltL, o_ltR, o_eq, o_eqL, o_eqR, o_cl, o_add, o_addL, o_addR, o_mul, o_mulL, o_mulR, o_sub, o_subR, o_0le, o_lt0, o_ixo, n1_eq, n1_eq', n1_lt, n1_le, n1_ge, n1_gt, n2_eq, n2_eq', n2_lt, n2_le, n2_ge, n2_gt, ↓reduceIte, ite_self, Nat.reduceEqDiff, Nat.reduceAdd, Nat.reduceMul, Nat.reduceSub, Nat.reduceLT, Nat.reduceLeDiff, Nat.not_lt_zero, Nat.zero_le, if_true, if_false, ite_true, ite_false, true_and, and_true, false_and, and_false, true_implies, false_implies, implies_true, not_true_eq_false, not_false_eq_true, eq_self, true_or, or_true, false_or, or_false, and_self, reduceCtorEq, forall_const]
            · obtain ⟨t1, t2, t3, t4⟩ := s2
              refine ⟨by rw [t1]; congr 1; omega, ha.2.1, ?_, t4⟩
              intro j hj
              rw [t3 j (by omega), updE, updE, updE, updE]
              have e11 : hh - 1 - 1 = hh - 2 := by omega
              have e12 : hh - 2 + 1 = hh - 1 := by omega
              rw [e11, e12, n3, p3, e11]
              by_cases j1 : j = hh - 1
              · rw [if_pos j1, if_neg (by omega), if_pos j1]
              · rw [if_neg j1]
                by_cases j2 : j = hh - 2
                · rw [if_pos j2, if_pos j2]
                · rw [if_neg j2, if_neg j2, if_neg j1]
  by_cases c38 : op = 38
  · subst c38
    obtain ⟨r, hr, rfl, hst⟩ := hpos.2.2.2.2.2.2.1 rfl
    obtain ⟨M1, e1, o1, b1⟩ := callM_ok h ho hr ha hw
    have ck : callK M0 r = argsK M0 r (M0.1 66 r).toNatClampNeg := by unfold callK; rw [if_pos hst]
    rcases b1 with ⟨n1, n2⟩ | ⟨h', n1, n2, n3⟩
    · refine ⟨M1, ?_, o1, Or.inl ⟨bad_ne n2, ?_⟩⟩
      · simp (disch := omega) only [e1, Option.bind_some, pushR_bad h o1 hr n2, o_le, o_leL, o_leR, o_lt, o_ltL, o_ltR, o_eq, o_eqL, o_eqR, o_cl, o_add, o_addL, o_addR, o_mul, o_mulL, o_mulR, o_sub, o_subR, o_0le, o_lt0, o_ixo, n1_eq, n1_eq', n1_lt, n1_le, n1_ge, n1_gt, n2_eq, n2_eq', n2_lt, n2_le, n2_ge, n2_gt, ↓reduceIte, ite_self, Nat.reduceEqDiff, Nat.reduceAdd, Nat.reduceMul, Nat.reduceSub, Nat.reduceLT, Nat.reduceLeDiff, Nat.not_lt_zero, Nat.zero_le, if_true, if_false, ite_true, ite_false, true_and, and_true, false_and, and_false, true_implies, false_implies, implies_true, not_true_eq_false, not_false_eq_true, eq_self, true_or, or_true, false_or, or_false, and_self, reduceCtorEq, forall_const]
      · simp (disch := omega) only [callT, ck, n1, o_le, o_leL, o_leR, o_lt, o_ltL, o_ltR, o_eq, o_eqL, o_eqR, o_cl, o_add, o_addL, o_addR, o_mul, o_mulL, o_mulR, o_sub, o_subR, o_0le, o_lt0, o_ixo, n1_eq, n1_eq', n1_lt, n1_le, n1_ge, n1_gt, n2_eq, n2_eq', n2_lt, n2_le, n2_ge, n2_gt, ↓reduceIte, ite_self, Nat.reduceEqDiff, Nat.reduceAdd, Nat.reduceMul, Nat.reduceSub, Nat.reduceLT, Nat.reduceLeDiff, Nat.not_lt_zero, Nat.zero_le, if_true, if_false, ite_true, ite_false, true_and, and_true, false_and, and_false, true_implies, false_implies, implies_true, not_true_eq_false, not_false_eq_true, eq_self, true_or, or_true, false_or, or_false, and_self, reduceCtorEq, forall_const]
        rfl
    · obtain ⟨M2, e2, o2, b2⟩ := pushR_ok h o1 hr n2 n3
      refine ⟨M2, ?_, o2, ?_⟩
      · simp (disch := omega) only [e1, e2, Option.bind_some, o_le, o_leL, o_leR, o_lt, o_ltL, o_ltR, o_eq, o_eqL, o_eqR, o_cl, o_add, o_addL, o_addR, o_mul, o_mulL, o_mulR, o_sub, o_subR, o_0le, o_lt0, o_ixo, n1_eq, n1_eq', n1_lt, n1_le, n1_ge, n1_gt, n2_eq, n2_eq', n2_lt, n2_le, n2_ge, n2_gt, ↓reduceIte, ite_self, Nat.reduceEqDiff, Nat.reduceAdd, Nat.reduceMul, Nat.reduceSub, Nat.reduceLT, Nat.reduceLeDiff, Nat.not_lt_zero, Nat.zero_le, if_true, if_false, ite_true, ite_false, true_and, and_true, false_and, and_false, true_implies, false_implies, implies_true, not_true_eq_false, not_false_eq_true, eq_self, true_or, or_true, false_or, or_false, and_self, reduceCtorEq, forall_const]
      · simp (disch := omega) only [callT, ck, n1, Option.bind_some, o_le, o_leL, o_leR, o_lt, o_ltL, o_ltR, o_eq, o_eqL, o_eqR, o_cl, o_add, o_addL, o_addR, o_mul, o_mulL, o_mulR, o_sub, o_subR, o_0le, o_lt0, o_ixo, n1_eq, n1_eq', n1_lt, n1_le, n1_ge, n1_gt, n2_eq, n2_eq', n2_lt, n2_le, n2_ge, n2_gt, ↓reduceIte, ite_self, Nat.reduceEqDiff, Nat.reduceAdd, Nat.reduceMul, Nat.reduceSub, Nat.reduceLT, Nat.reduceLeDiff, Nat.not_lt_zero, Nat.zero_le, if_true, if_false, ite_true, ite_false, true_and, and_true, false_and, and_false, true_implies, false_implies, implies_true, not_true_eq_false, not_false_eq_true, eq_self, true_or, or_true, false_or, or_false, and_self, reduceCtorEq, forall_const]
        rcases b2 with ⟨p1, p2⟩ | ⟨g', h2, p1, p2, p3⟩
        · exact Or.inl ⟨bad_ne p2, p1⟩
        · exact Or.inr ⟨p3, g', h2, lo, p1, p2⟩
  by_cases c39 : op = 39
  · subst c39
    obtain ⟨n0, hn0, rfl, r, er⟩ := hpos.2.2.2.2.2.2.2.1 rfl
    have hr := (anyM_some er).1
    have nst : ¬ M0.1 65 r = -2 := by rw [(anyM_some er).2.1, n2_eq n0 (by omega)]; exact not_false
    have an : ∀ K, MO Flm M0 K → f_M_anyOf (Int32.ofNat n0) K = some (Int32.ofNat r) := by
      intro K hK
      have sr := hK.src Flm_src
      have ee : anyM K rc n0 = anyM M0 rc n0 := by
        unfold anyM
        rw [sr.1 65 (by omega) (by omega)]
      rw [anyOf_ok hr24 (sr.2.2.trans h.2.2.2.1), ee, er]
      rfl
    obtain ⟨M1, e1, o1, b1⟩ := callM_ok h ho hr ha hw
    have ck : callK M0 r = argsK M0 r (M0.1 66 r).toNatClampNeg ++ [2] := by unfold callK; rw [if_neg nst]
    rcases b1 with ⟨n1, n2⟩ | ⟨h', n1, n2, n3⟩
    · obtain ⟨q, M2, e2, o2, b2⟩ := pop_bad n2 2
      refine ⟨M2, ?_, o1.trans o2, Or.inl ⟨bad_ne b2, ?_⟩⟩
      · simp (disch := omega) only [an M ho, e1, e2, Option.bind_some, an M2 (o1.trans o2), pushR_bad h (o1.trans o2) hr b2, o_le, o_leL, o_leR, o_lt, o_ltL, o_ltR, o_eq, o_eqL, o_eqR, o_cl, o_add, o_addL, o_addR, o_mul, o_mulL, o_mulR, o_sub, o_subR, o_0le, o_lt0, o_ixo, n1_eq, n1_eq', n1_lt, n1_le, n1_ge, n1_gt, n2_eq, n2_eq', n2_lt, n2_le, n2_ge, n2_gt, ↓reduceIte, ite_self, Nat.reduceEqDiff, Nat.reduceAdd, Nat.reduceMul, Nat.reduceSub, Nat.reduceLT, Nat.reduceLeDiff, Nat.not_lt_zero, Nat.zero_le, if_true, if_false, ite_true, ite_false, true_and, and_true, false_and, and_false, true_implies, false_implies, implies_true, not_true_eq_false, not_false_eq_true, eq_self, true_or, or_true, false_or, or_false, and_self, reduceCtorEq, forall_const]
      · simp (disch := omega) only [er, Option.bind_some, callT, ck, popsK_append, n1, o_le, o_leL, o_leR, o_lt, o_ltL, o_ltR, o_eq, o_eqL, o_eqR, o_cl, o_add, o_addL, o_addR, o_mul, o_mulL, o_mulR, o_sub, o_subR, o_0le, o_lt0, o_ixo, n1_eq, n1_eq', n1_lt, n1_le, n1_ge, n1_gt, n2_eq, n2_eq', n2_lt, n2_le, n2_ge, n2_gt, ↓reduceIte, ite_self, Nat.reduceEqDiff, Nat.reduceAdd, Nat.reduceMul, Nat.reduceSub, Nat.reduceLT, Nat.reduceLeDiff, Nat.not_lt_zero, Nat.zero_le, if_true, if_false, ite_true, ite_false, true_and, and_true, false_and, and_false, true_implies, false_implies, implies_true, not_true_eq_false, not_false_eq_true, eq_self, true_or, or_true, false_or, or_false, and_self, reduceCtorEq, forall_const]
        rfl
    · obtain ⟨q, M2, e2, o2, b2⟩ := pop_ok n2 n3 2
      rcases b2 with ⟨p1, p2⟩ | ⟨p1, p2, p3, p4, p5⟩
      · refine ⟨M2, ?_, o1.trans o2, Or.inl ⟨bad_ne p2, ?_⟩⟩
        · simp (disch := omega) only [an M ho, e1, e2, Option.bind_some, an M2 (o1.trans o2), pushR_bad h (o1.trans o2) hr p2, o_le, o_leL, o_leR, o_lt, o_ltL, o_ltR, o_eq, o_eqL, o_eqR, o_cl, o_add, o_addL, o_addR, o_mul, o_mulL, o_mulR, o_sub, o_subR, o_0le, o_lt0, o_ixo, n1_eq, n1_eq', n1_lt, n1_le, n1_ge, n1_gt, n2_eq, n2_eq', n2_lt, n2_le, n2_ge, n2_gt, ↓reduceIte, ite_self, Nat.reduceEqDiff, Nat.reduceAdd, Nat.reduceMul, Nat.reduceSub, Nat.reduceLT, Nat.reduceLeDiff, Nat.not_lt_zero, Nat.zero_le, if_true, if_false, ite_true, ite_false, true_and, and_true, false_and, and_false, true_implies, false_implies, implies_true, not_true_eq_false, not_false_eq_true, eq_self, true_or, or_true, false_or, or_false, and_self, reduceCtorEq, forall_const]
        · simp (disch := omega) only [er, Option.bind_some, callT, ck, popsK_append, n1, popsK, p1, o_le, o_leL, o_leR, o_lt, o_ltL, o_ltR, o_eq, o_eqL, o_eqR, o_cl, o_add, o_addL, o_addR, o_mul, o_mulL, o_mulR, o_sub, o_subR, o_0le, o_lt0, o_ixo, n1_eq, n1_eq', n1_lt, n1_le, n1_ge, n1_gt, n2_eq, n2_eq', n2_lt, n2_le, n2_ge, n2_gt, ↓reduceIte, ite_self, Nat.reduceEqDiff, Nat.reduceAdd, Nat.reduceMul, Nat.reduceSub, Nat.reduceLT, Nat.reduceLeDiff, Nat.not_lt_zero, Nat.zero_le, if_true, if_false, ite_true, ite_false, true_and, and_true, false_and, and_false, true_implies, false_implies, implies_true, not_true_eq_false, not_false_eq_true, eq_self, true_or, or_true, false_or, or_false, and_self, reduceCtorEq, forall_const]
          rfl
      · obtain ⟨M3, e3, o3, b3⟩ := pushR_ok h (o1.trans o2) hr p4 p5
        refine ⟨M3, ?_, o3, ?_⟩
        · simp (disch := omega) only [an M ho, e1, e2, Option.bind_some, an M2 (o1.trans o2), e3, o_le, o_leL, o_leR, o_lt, o_ltL, o_ltR, o_eq, o_eqL, o_eqR, o_cl, o_add, o_addL, o_addR, o_mul, o_mulL, o_mulR, o_sub, o_subR, o_0le, o_lt0, o_ixo, n1_eq, n1_eq', n1_lt, n1_le, n1_ge, n1_gt, n2_eq, n2_eq', n2_lt, n2_le, n2_ge, n2_gt, ↓reduceIte, ite_self, Nat.reduceEqDiff, Nat.reduceAdd, Nat.reduceMul, Nat.reduceSub, Nat.reduceLT, Nat.reduceLeDiff, Nat.not_lt_zero, Nat.zero_le, if_true, if_false, ite_true, ite_false, true_and, and_true, false_and, and_false, true_implies, false_implies, implies_true, not_true_eq_false, not_false_eq_true, eq_self, true_or, or_true, false_or, or_false, and_self, reduceCtorEq, forall_const]
        · simp (disch := omega) only [er, Option.bind_some, callT, ck, popsK_append, n1, popsK, p1, o_le, o_leL, o_leR, o_lt, o_ltL, o_ltR, o_eq, o_eqL, o_eqR, o_cl, o_add, o_addL, o_addR, o_mul, o_mulL, o_mulR, o_sub, o_subR, o_0le, o_lt0, o_ixo, n1_eq, n1_eq', n1_lt, n1_le, n1_ge, n1_gt, n2_eq, n2_eq', n2_lt, n2_le, n2_ge, n2_gt, ↓reduceIte, ite_self, Nat.reduceEqDiff, Nat.reduceAdd, Nat.reduceMul, Nat.reduceSub, Nat.reduceLT, Nat.reduceLeDiff, Nat.not_lt_zero, Nat.zero_le, if_true, if_false, ite_true, ite_false, true_and, and_true, false_and, and_false, true_implies, false_implies, implies_true, not_true_eq_false, not_false_eq_true, eq_self, true_or, or_true, false_or, or_false, and_self, reduceCtorEq, forall_const]
          rcases b3 with ⟨r1, r2⟩ | ⟨g', h2, r1, r2, r3⟩
          · exact Or.inl ⟨bad_ne r2, r1⟩
          · exact Or.inr ⟨r3, g', h2, lo, r1, r2⟩
  by_cases c17 : op = 17
  · subst c17
    obtain ⟨q, M1, e1, o1, b1⟩ := pop_ok ha hw 0
    have tk : tkL 17 = [0] := rfl
    have pt : ptL 17 = 0 := by decide
    rcases b1 with ⟨n1, n2⟩ | ⟨n1, n2, n3, n4, n5⟩
    · refine ⟨M1, ?_, ho.trans o1, Or.inl ⟨bad_ne n2, ?_⟩⟩
      · simp (disch := omega) only [e1, Option.bind_some, o_le, o_leL, o_leR, o_lt, o_ltL, o_ltR, o_eq, o_eqL, o_eqR, o_cl, o_add, o_addL, o_addR, o_mul, o_mulL, o_mulR, o_sub, o_subR, o_0le, o_lt0, o_ixo, n1_eq, n1_eq', n1_lt, n1_le, n1_ge, n1_gt, n2_eq, n2_eq', n2_lt, n2_le, n2_ge, n2_gt, ↓reduceIte, ite_self, Nat.reduceEqDiff, Nat.reduceAdd, Nat.reduceMul, Nat.reduceSub, Nat.reduceLT, Nat.reduceLeDiff, Nat.not_lt_zero, Nat.zero_le, if_true, if_false, ite_true, ite_false, true_and, and_true, false_and, and_false, true_implies, false_implies, implies_true, not_true_eq_false, not_false_eq_true, eq_self, true_or, or_true, false_or, or_false, and_self, reduceCtorEq, forall_const]
      · simp (disch := omega) only [tk, popsK, n1, o_le, o_leL, o_leR, o_lt, o_ltL, o_ltR, o_eq, o_eqL, o_eqR, o_cl, o_add, o_addL, o_addR, o_mul, o_mulL, o_mulR, o_sub, o_subR, o_0le, o_lt0, o_ixo, n1_eq, n1_eq', n1_lt, n1_le, n1_ge, n1_gt, n2_eq, n2_eq', n2_lt, n2_le, n2_ge, n2_gt, ↓reduceIte, ite_self, Nat.reduceEqDiff, Nat.reduceAdd, Nat.reduceMul, Nat.reduceSub, Nat.reduceLT, Nat.reduceLeDiff, Nat.not_lt_zero, Nat.zero_le, if_true, if_false, ite_true, ite_false, true_and, and_true, false_and, and_false, true_implies, false_implies, implies_true, not_true_eq_false, not_false_eq_true, eq_self, true_or, or_true, false_or, or_false, and_self, reduceCtorEq, forall_const]
        rfl
    · refine ⟨M1, ?_, ho.trans o1, Or.inr ⟨n5, g, hh - 1, lo, ?_, n4⟩⟩
      · simp (disch := omega) only [e1, Option.bind_some, o_le, o_leL, o_leR, o_lt, o_ltL, o_ltR, o_eq, o_eqL, o_eqR, o_cl, o_add, o_addL, o_addR, o_mul, o_mulL, o_mulR, o_sub, o_subR, o_0le, o_lt0, o_ixo, n1_eq, n1_eq', n1_lt, n1_le, n1_ge, n1_gt, n2_eq, n2_eq', n2_lt, n2_le, n2_ge, n2_gt, ↓reduceIte, ite_self, Nat.reduceEqDiff, Nat.reduceAdd, Nat.reduceMul, Nat.reduceSub, Nat.reduceLT, Nat.reduceLeDiff, Nat.not_lt_zero, Nat.zero_le, if_true, if_false, ite_true, ite_false, true_and, and_true, false_and, and_false, true_implies, false_implies, implies_true, not_true_eq_false, not_false_eq_true, eq_self, true_or, or_true, false_or, or_false, and_self, reduceCtorEq, forall_const]
      · simp (disch := omega) only [tk, popsK, n1, Option.bind_some, putT, pt, o_le, o_leL, o_leR, o_lt, o_ltL, o_ltR, o_eq, o_eqL, o_eqR, o_cl, o_add, o_addL, o_addR, o_mul, o_mulL, o_mulR, o_sub, o_subR, o_0le, o_lt0, o_ixo, n1_eq, n1_eq', n1_lt, n1_le, n1_ge, n1_gt, n2_eq, n2_eq', n2_lt, n2_le, n2_ge, n2_gt, ↓reduceIte, ite_self, Nat.reduceEqDiff, Nat.reduceAdd, Nat.reduceMul, Nat.reduceSub, Nat.reduceLT, Nat.reduceLeDiff, Nat.not_lt_zero, Nat.zero_le, if_true, if_false, ite_true, ite_false, true_and, and_true, false_and, and_false, true_implies, false_implies, implies_true, not_true_eq_false, not_false_eq_true, eq_self, true_or, or_true, false_or, or_false, and_self, reduceCtorEq, forall_const]
  obtain ⟨v', M1, e1, o1, b1⟩ := popsM_ok (g := g) (lo := lo) (tkL op) (oT 2 op) M hh 10000 (tk10 op hop c17) ha hw (by
    have : ∀ op, op < 56 → (tkL op).length < 10000 := by decide +kernel
    exact this op hop)
  have p3 : oT 3 op = ptL op := rfl
  rcases b1 with ⟨n1, n2⟩ | ⟨h', n1, n2, n3⟩
  · have nb := n2
    by_cases z : oT 3 op ≤ 0
    · refine ⟨M1, ?_, ho.trans o1, Or.inl ⟨bad_ne n2, ?_⟩⟩
      · simp (disch := omega) only [c2, c3, c16, c17, c18, c38, c39, hop, e1, Option.bind_some, z, o_le, o_leL, o_leR, o_lt, o_ltL, o_ltR, o_eq, o_eqL, o_eqR, o_cl, o_add, o_addL, o_addR, o_mul, o_mulL, o_mulR, o_sub, o_subR, o_0le, o_lt0, o_ixo, n1_eq, n1_eq', n1_lt, n1_le, n1_ge, n1_gt, n2_eq, n2_eq', n2_lt, n2_le, n2_ge, n2_gt, ↓reduceIte, ite_self, Nat.reduceEqDiff, Nat.reduceAdd, Nat.reduceMul, Nat.reduceSub, Nat.reduceLT, Nat.reduceLeDiff, Nat.not_lt_zero, Nat.zero_le, if_true, if_false, ite_true, ite_false, true_and, and_true, false_and, and_false, true_implies, false_implies, implies_true, not_true_eq_false, not_false_eq_true, eq_self, true_or, or_true, false_or, or_false, and_self, reduceCtorEq, forall_const]
      · simp (disch := omega) only [c2, c3, c16, c18, c38, c39, n1, o_le, o_leL, o_leR, o_lt, o_ltL, o_ltR, o_eq, o_eqL, o_eqR, o_cl, o_add, o_addL, o_addR, o_mul, o_mulL, o_mulR, o_sub, o_subR, o_0le, o_lt0, o_ixo, n1_eq, n1_eq', n1_lt, n1_le, n1_ge, n1_gt, n2_eq, n2_eq', n2_lt, n2_le, n2_ge, n2_gt, ↓reduceIte, ite_self, Nat.reduceEqDiff, Nat.reduceAdd, Nat.reduceMul, Nat.reduceSub, Nat.reduceLT, Nat.reduceLeDiff, Nat.not_lt_zero, Nat.zero_le, if_true, if_false, ite_true, ite_false, true_and, and_true, false_and, and_false, true_implies, false_implies, implies_true, not_true_eq_false, not_false_eq_true, eq_self, true_or, or_true, false_or, or_false, and_self, reduceCtorEq, forall_const]
        rfl
    · refine ⟨M1, ?_, ho.trans o1, Or.inl ⟨bad_ne n2, ?_⟩⟩
      · simp (disch := omega) only [c2, c3, c16, c17, c18, c38, c39, hop, e1, Option.bind_some, z, push_bad n2, o_le, o_leL, o_leR, o_lt, o_ltL, o_ltR, o_eq, o_eqL, o_eqR, o_cl, o_add, o_addL, o_addR, o_mul, o_mulL, o_mulR, o_sub, o_subR, o_0le, o_lt0, o_ixo, n1_eq, n1_eq', n1_lt, n1_le, n1_ge, n1_gt, n2_eq, n2_eq', n2_lt, n2_le, n2_ge, n2_gt, ↓reduceIte, ite_self, Nat.reduceEqDiff, Nat.reduceAdd, Nat.reduceMul, Nat.reduceSub, Nat.reduceLT, Nat.reduceLeDiff, Nat.not_lt_zero, Nat.zero_le, if_true, if_false, ite_true, ite_false, true_and, and_true, false_and, and_false, true_implies, false_implies, implies_true, not_true_eq_false, not_false_eq_true, eq_self, true_or, or_true, false_or, or_false, and_self, reduceCtorEq, forall_const]
      · simp (disch := omega) only [c2, c3, c16, c18, c38, c39, n1, o_le, o_leL, o_leR, o_lt, o_ltL, o_ltR, o_eq, o_eqL, o_eqR, o_cl, o_add, o_addL, o_addR, o_mul, o_mulL, o_mulR, o_sub, o_subR, o_0le, o_lt0, o_ixo, n1_eq, n1_eq', n1_lt, n1_le, n1_ge, n1_gt, n2_eq, n2_eq', n2_lt, n2_le, n2_ge, n2_gt, ↓reduceIte, ite_self, Nat.reduceEqDiff, Nat.reduceAdd, Nat.reduceMul, Nat.reduceSub, Nat.reduceLT, Nat.reduceLeDiff, Nat.not_lt_zero, Nat.zero_le, if_true, if_false, ite_true, ite_false, true_and, and_true, false_and, and_false, true_implies, false_implies, implies_true, not_true_eq_false, not_false_eq_true, eq_self, true_or, or_true, false_or, or_false, and_self, reduceCtorEq, forall_const]
        rfl
  · rcases pt012 op hop with z | z
    · have z' : oT 3 op ≤ 0 := by rw [p3, z]; decide
      refine ⟨M1, ?_, ho.trans o1, Or.inr ⟨n3, g, h', lo, ?_, n2⟩⟩
      · simp (disch := omega) only [c2, c3, c16, c17, c18, c38, c39, hop, e1, Option.bind_some, z', o_le, o_leL, o_leR, o_lt, o_ltL, o_ltR, o_eq, o_eqL, o_eqR, o_cl, o_add, o_addL, o_addR, o_mul, o_mulL, o_mulR, o_sub, o_subR, o_0le, o_lt0, o_ixo, n1_eq, n1_eq', n1_lt, n1_le, n1_ge, n1_gt, n2_eq, n2_eq', n2_lt, n2_le, n2_ge, n2_gt, ↓reduceIte, ite_self, Nat.reduceEqDiff, Nat.reduceAdd, Nat.reduceMul, Nat.reduceSub, Nat.reduceLT, Nat.reduceLeDiff, Nat.not_lt_zero, Nat.zero_le, if_true, if_false, ite_true, ite_false, true_and, and_true, false_and, and_false, true_implies, false_implies, implies_true, not_true_eq_false, not_false_eq_true, eq_self, true_or, or_true, false_or, or_false, and_self, reduceCtorEq, forall_const]
      · simp (disch := omega) only [c2, c3, c16, c18, c38, c39, n1, Option.bind_some, putT, z, o_le, o_leL, o_leR, o_lt, o_ltL, o_ltR, o_eq, o_eqL, o_eqR, o_cl, o_add, o_addL, o_addR, o_mul, o_mulL, o_mulR, o_sub, o_subR, o_0le, o_lt0, o_ixo, n1_eq, n1_eq', n1_lt, n1_le, n1_ge, n1_gt, n2_eq, n2_eq', n2_lt, n2_le, n2_ge, n2_gt, ↓reduceIte, ite_self, Nat.reduceEqDiff, Nat.reduceAdd, Nat.reduceMul, Nat.reduceSub, Nat.reduceLT, Nat.reduceLeDiff, Nat.not_lt_zero, Nat.zero_le, if_true, if_false, ite_true, ite_false, true_and, and_true, false_and, and_false, true_implies, false_implies, implies_true, not_true_eq_false, not_false_eq_true, eq_self, true_or, or_true, false_or, or_false, and_self, reduceCtorEq, forall_const]
    · have z0 : ¬ ptL op = 0 := by rcases z with z | z <;> rw [z] <;> decide
      have z' : ¬ oT 3 op ≤ 0 := by rw [p3]; rcases z with z | z <;> rw [z] <;> decide
      obtain ⟨M2, e2, o2, b2⟩ := push_ok n2 n3 (ptL op)
      refine ⟨M2, ?_, (ho.trans o1).trans o2, ?_⟩
      · rw [← p3] at e2
        simp (disch := omega) only [c2, c3, c16, c17, c18, c38, c39, hop, e1, Option.bind_some, z', e2, o_le, o_leL, o_leR, o_lt, o_ltL, o_ltR, o_eq, o_eqL, o_eqR, o_cl, o_add, o_addL, o_addR, o_mul, o_mulL, o_mulR, o_sub, o_subR, o_0le, o_lt0, o_ixo, n1_eq, n1_eq', n1_lt, n1_le, n1_ge, n1_gt, n2_eq, n2_eq', n2_lt, n2_le, n2_ge, n2_gt, ↓reduceIte, ite_self, Nat.reduceEqDiff, Nat.reduceAdd, Nat.reduceMul, Nat.reduceSub, Nat.reduceLT, Nat.reduceLeDiff, Nat.not_lt_zero, Nat.zero_le, if_true, if_false, ite_true, ite_false, true_and, and_true, false_and, and_false, true_implies, false_implies, implies_true, not_true_eq_false, not_false_eq_true, eq_self, true_or, or_true, false_or, or_false, and_self, reduceCtorEq, forall_const]
      · simp (disch := omega) only [c2, c3, c16, c18, c38, c39, n1, Option.bind_some, putT, z0, o_le, o_leL, o_leR, o_lt, o_ltL, o_ltR, o_eq, o_eqL, o_eqR, o_cl, o_add, o_addL, o_addR, o_mul, o_mulL, o_mulR, o_sub, o_subR, o_0le, o_lt0, o_ixo, n1_eq, n1_eq', n1_lt, n1_le, n1_ge, n1_gt, n2_eq, n2_eq', n2_lt, n2_le, n2_ge, n2_gt, ↓reduceIte, ite_self, Nat.reduceEqDiff, Nat.reduceAdd, Nat.reduceMul, Nat.reduceSub, Nat.reduceLT, Nat.reduceLeDiff, Nat.not_lt_zero, Nat.zero_le, if_true, if_false, ite_true, ite_false, true_and, and_true, false_and, and_false, true_implies, false_implies, implies_true, not_true_eq_false, not_false_eq_true, eq_self, true_or, or_true, false_or, or_false, and_self, reduceCtorEq, forall_const]
        rcases b2 with ⟨r1, r2⟩ | ⟨r1, r2, r3⟩
        · exact Or.inl ⟨bad_ne r2, by rw [r1]; rfl⟩
        · exact Or.inr ⟨r3, _, _, _, by rw [r1]; rfl, r2⟩
