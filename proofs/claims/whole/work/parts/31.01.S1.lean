/-! S1 -/
def rA (X : XS) (m : Nat) : Nat := (X.2.1 2 m).getD 0
def rF (X : XS) (m f : Nat) : Nat := (X.2.1 (rA X m) f).getD 0
def Bd (l u : Int32) (v : Int32) : Prop := l ≤ v ∧ v ≤ u
/-- the classes of the source -/
def RSk (X : XS) (M : MS) (kc : Nat) : Prop := kc ≤ 10 ∧ X.1 1 1 = Int32.ofNat kc ∧ M.1 60 3 = Int32.ofNat kc ∧
  ∀ c, c < kc → X.1 3 c = M.1 61 c ∧ X.1 4 c = M.1 62 c ∧ X.1 5 c = M.1 63 c ∧ (M.1 61 c = -1 ∨ ∃ d, d < c ∧ M.1 61 c = Int32.ofNat d) ∧ Bd 0 6 (M.1 62 c) ∧ Bd 0 6 (M.1 63 c) ∧
    X.1 6 c = X.1 4 c + (if X.1 3 c = -1 then 0 else X.1 6 (X.1 3 c).toNatClampNeg) ∧ X.1 7 c = X.1 5 c + (if X.1 3 c = -1 then 0 else X.1 7 (X.1 3 c).toNatClampNeg) ∧
    (∃ s, s ≤ 6 * (c + 1) ∧ X.1 6 c = Int32.ofNat s) ∧ (∃ s, s ≤ 6 * (c + 1) ∧ X.1 7 c = Int32.ofNat s)
set_option maxRecDepth 20000 in
set_option maxHeartbeats 4000000 in
theorem isKind_iff {X : XS} {kc : Nat} (hk : kc ≤ 10) (h : X.1 1 1 = Int32.ofNat kc) (x : Int32) : (f_Source_isKind x X = true) = ∃ c, c < kc ∧ x = Int32.ofNat c := by
  apply propext
  unfold f_Source_isKind
  rw [h]
  constructor
  · intro hh
    by_cases h0 : x < 0
    · simp [h0] at hh
    obtain ⟨c, hc, rfl⟩ := toN (Int32.not_lt.mp h0)
    refine ⟨c, ?_, rfl⟩
    by_cases h1 : c < kc
    · exact h1
    · have : Int32.ofNat kc ≤ Int32.ofNat c := by
        rw [o_le kc c (by omega) hc]; omega
      simp [h0, this] at hh
  · intro ⟨c, hc, e⟩
    subst e
    simp (disch := omega) only [o_le, o_leL, o_leR, o_lt, o_ltL, o_ltR, o_eq, o_eqL, o_eqR, o_cl, o_add, o_addL, o_addR, o_mul, o_mulL, o_mulR, o_sub, o_subR, o_0le, o_lt0, o_ixo, n1_eq, n1_eq', n1_lt, n1_le, n1_ge, n1_gt, n2_eq, n2_eq', n2_lt, n2_le, n2_ge, n2_gt, ↓reduceIte, ite_self, Nat.reduceEqDiff, Nat.reduceAdd, Nat.reduceMul, Nat.reduceSub, Nat.reduceLT, Nat.reduceLeDiff, Nat.not_lt_zero, Nat.zero_le, if_true, if_false, ite_true, ite_false, true_and, and_true, false_and, and_false, true_implies, false_implies, implies_true, not_true_eq_false, not_false_eq_true, eq_self, true_or, or_true, false_or, or_false, and_self, reduceCtorEq, forall_const]
    rw [if_neg (by omega), if_neg (by omega)]
set_option maxRecDepth 20000 in
set_option maxHeartbeats 4000000 in
theorem le1_iff {kc : Nat} (hk : kc < 1000000) (x : Int32) : (0 ≤ x ∧ x ≤ Int32.ofNat kc - 1) = ∃ c, c < kc ∧ x = Int32.ofNat c := by
  apply propext
  constructor
  · intro ⟨h0, h1⟩
    obtain ⟨c, hc, rfl⟩ := toN h0
    refine ⟨c, ?_, rfl⟩
    by_cases e : kc = 0
    · subst e
      exact absurd h1 (by rw [show Int32.ofNat 0 - 1 = -1 from rfl, n1_ge c hc]; exact not_false)
    · simp (disch := omega) only [o_le, o_leL, o_leR, o_lt, o_ltL, o_ltR, o_eq, o_eqL, o_eqR, o_cl, o_add, o_addL, o_addR, o_mul, o_mulL, o_mulR, o_sub, o_subR, o_0le, o_lt0, o_ixo, n1_eq, n1_eq', n1_lt, n1_le, n1_ge, n1_gt, n2_eq, n2_eq', n2_lt, n2_le, n2_ge, n2_gt, ↓reduceIte, ite_self, Nat.reduceEqDiff, Nat.reduceAdd, Nat.reduceMul, Nat.reduceSub, Nat.reduceLT, Nat.reduceLeDiff, Nat.not_lt_zero, Nat.zero_le, if_true, if_false, ite_true, ite_false, true_and, and_true, false_and, and_false, true_implies, false_implies, implies_true, not_true_eq_false, not_false_eq_true, eq_self, true_or, or_true, false_or, or_false, and_self, reduceCtorEq, forall_const] at h1
      omega
  · intro ⟨c, hc, e⟩
    subst e
    simp (disch := omega) only [o_le, o_leL, o_leR, o_lt, o_ltL, o_ltR, o_eq, o_eqL, o_eqR, o_cl, o_add, o_addL, o_addR, o_mul, o_mulL, o_mulR, o_sub, o_subR, o_0le, o_lt0, o_ixo, n1_eq, n1_eq', n1_lt, n1_le, n1_ge, n1_gt, n2_eq, n2_eq', n2_lt, n2_le, n2_ge, n2_gt, ↓reduceIte, ite_self, Nat.reduceEqDiff, Nat.reduceAdd, Nat.reduceMul, Nat.reduceSub, Nat.reduceLT, Nat.reduceLeDiff, Nat.not_lt_zero, Nat.zero_le, if_true, if_false, ite_true, ite_false, true_and, and_true, false_and, and_false, true_implies, false_implies, implies_true, not_true_eq_false, not_false_eq_true, eq_self, true_or, or_true, false_or, or_false, and_self, reduceCtorEq, forall_const]
    omega
set_option maxRecDepth 20000 in
set_option maxHeartbeats 4000000 in
theorem cls_sym {X : XS} {M : MS} {kc : Nat} (hk : kc ≤ 10) (e1 : X.1 1 1 = Int32.ofNat kc) (e2 : M.1 60 3 = Int32.ofNat kc) (x y z : Int32) (Q : Int32 × XS → Int32 × MS → Prop) (bad : Q (-1, X) (-1, M))
    (good : kc < 10 → 0 ≤ y ∧ y ≤ 6 → 0 ≤ z ∧ z ≤ 6 → (x = -1 ∨ ∃ c, c < kc ∧ x = Int32.ofNat c) → ∀ s t, s = y + (if x = -1 then 0 else X.1 6 x.toNatClampNeg) → t = z + (if x = -1 then 0 else X.1 7 x.toNatClampNeg) →
      Q (Int32.ofNat kc, xw (xw (xw (xw (xw (xw X 3 kc x) 4 kc y) 5 kc z) 6 kc s) 7 kc t) 1 1 (Int32.ofNat (kc + 1))) (Int32.ofNat kc, mw (mw (mw (mw M 61 kc x) 62 kc y) 63 kc z) 60 3 (Int32.ofNat (kc + 1)))) : Wo (f_P_cls x y z X) (fun p => Wo (f_M_cls x y z M) (fun q => Q p q)) := by
  have ik := isKind_iff hk e1 x
  have mx := le1_iff (kc := kc) (by omega) x
  unfold f_P_cls f_Source_addKind f_M_cls
  by_cases hy : 0 ≤ y ∧ y ≤ 6
  · by_cases hz : 0 ≤ z ∧ z ≤ 6
    · by_cases hx : x = -1
      · subst hx
        by_cases h10 : kc = 10
        · subst h10
          simp (disch := omega) only [hy, hz, e1, e2, W_some, W_none, W_bind, W_ite, W_ocz, W_lt, xTw, xLw, xAw, xTp, xLp, xAp, xTc, xLc, xAc, xAn, xTn, xLn, xw1, xw2, xp1, xp2, xp3, mw1, mw2, xn1, xn2, xc1, xc2, o_le, o_leL, o_leR, o_lt, o_ltL, o_ltR, o_eq, o_eqL, o_eqR, o_cl, o_add, o_addL, o_addR, o_mul, o_mulL, o_mulR, o_sub, o_subR, o_0le, o_lt0, o_ixo, n1_eq, n1_eq', n1_lt, n1_le, n1_ge, n1_gt, n2_eq, n2_eq', n2_lt, n2_le, n2_ge, n2_gt, ↓reduceIte, ite_self, Nat.reduceEqDiff, Nat.reduceAdd, Nat.reduceMul, Nat.reduceSub, Nat.reduceLT, Nat.reduceLeDiff, Nat.not_lt_zero, Nat.zero_le, if_true, if_false, ite_true, ite_false, true_and, and_true, false_and, and_false, true_implies, false_implies, implies_true, not_true_eq_false, not_false_eq_true, eq_self, true_or, or_true, false_or, or_false, and_self, reduceCtorEq, forall_const]
          exact bad
        · have h11 : kc < 10 := by omega
          simp (disch := omega) only [hy, hz, e1, e2, W_some, W_none, W_bind, W_ite, W_ocz, W_lt, xTw, xLw, xAw, xTp, xLp, xAp, xTc, xLc, xAc, xAn, xTn, xLn, xw1, xw2, xp1, xp2, xp3, mw1, mw2, xn1, xn2, xc1, xc2, h10, h11, Nat.add_sub_cancel, f_Source_allInts, f_Source_allRefs, f_Source_isKind, o_le, o_leL, o_leR, o_lt, o_ltL, o_ltR, o_eq, o_eqL, o_eqR, o_cl, o_add, o_addL, o_addR, o_mul, o_mulL, o_mulR, o_sub, o_subR, o_0le, o_lt0, o_ixo, n1_eq, n1_eq', n1_lt, n1_le, n1_ge, n1_gt, n2_eq, n2_eq', n2_lt, n2_le, n2_ge, n2_gt, ↓reduceIte, ite_self, Nat.reduceEqDiff, Nat.reduceAdd, Nat.reduceMul, Nat.reduceSub, Nat.reduceLT, Nat.reduceLeDiff, Nat.not_lt_zero, Nat.zero_le, if_true, if_false, ite_true, ite_false, true_and, and_true, false_and, and_false, true_implies, false_implies, implies_true, not_true_eq_false, not_false_eq_true, eq_self, true_or, or_true, false_or, or_false, and_self, reduceCtorEq, forall_const]
          exact good h11 hy hz (Or.inl rfl) _ _ rfl rfl
      · by_cases hc : ∃ c, c < kc ∧ x = Int32.ofNat c
        · by_cases h10 : kc = 10
          · subst h10
            simp (disch := omega) only [hy, hz, e1, e2, W_some, W_none, W_bind, W_ite, W_ocz, W_lt, xTw, xLw, xAw, xTp, xLp, xAp, xTc, xLc, xAc, xAn, xTn, xLn, xw1, xw2, xp1, xp2, xp3, mw1, mw2, xn1, xn2, xc1, xc2, hx, ik, hc, o_le, o_leL, o_leR, o_lt, o_ltL, o_ltR, o_eq, o_eqL, o_eqR, o_cl, o_add, o_addL, o_addR, o_mul, o_mulL, o_mulR, o_sub, o_subR, o_0le, o_lt0, o_ixo, n1_eq, n1_eq', n1_lt, n1_le, n1_ge, n1_gt, n2_eq, n2_eq', n2_lt, n2_le, n2_ge, n2_gt, ↓reduceIte, ite_self, Nat.reduceEqDiff, Nat.reduceAdd, Nat.reduceMul, Nat.reduceSub, Nat.reduceLT, Nat.reduceLeDiff, Nat.not_lt_zero, Nat.zero_le, if_true, if_false, ite_true, ite_false, true_and, and_true, false_and, and_false, true_implies, false_implies, implies_true, not_true_eq_false, not_false_eq_true, eq_self, true_or, or_true, false_or, or_false, and_self, reduceCtorEq, forall_const]
            exact bad
          · have h11 : kc < 10 := by omega
            have hc0 := hc
            obtain ⟨c, hck, rfl⟩ := hc
            have q1 : ¬ kc ≤ c := by omega
            have q2 : ¬ 10 ≤ c := by omega
            have q3 : c ≤ kc - 1 := by omega
            simp (disch := omega) only [hy, hz, e1, e2, W_some, W_none, W_bind, W_ite, W_ocz, W_lt, xTw, xLw, xAw, xTp, xLp, xAp, xTc, xLc, xAc, xAn, xTn, xLn, xw1, xw2, xp1, xp2, xp3, mw1, mw2, xn1, xn2, xc1, xc2, hx, ik, hc0, h10, h11, Nat.add_sub_cancel, f_Source_allInts, f_Source_allRefs, f_Source_isKind, q1, q2, q3, o_le, o_leL, o_leR, o_lt, o_ltL, o_ltR, o_eq, o_eqL, o_eqR, o_cl, o_add, o_addL, o_addR, o_mul, o_mulL, o_mulR, o_sub, o_subR, o_0le, o_lt0, o_ixo, n1_eq, n1_eq', n1_lt, n1_le, n1_ge, n1_gt, n2_eq, n2_eq', n2_lt, n2_le, n2_ge, n2_gt, ↓reduceIte, ite_self, Nat.reduceEqDiff, Nat.reduceAdd, Nat.reduceMul, Nat.reduceSub, Nat.reduceLT, Nat.reduceLeDiff, Nat.not_lt_zero, Nat.zero_le, if_true, if_false, ite_true, ite_false, true_and, and_true, false_and, and_false, true_implies, false_implies, implies_true, not_true_eq_false, not_false_eq_true, eq_self, true_or, or_true, false_or, or_false, and_self, reduceCtorEq, forall_const]
            refine good h11 hy hz (Or.inr hc0) (y + X.1 6 c) (z + X.1 7 c) ?_ ?_ <;> simp (disch := omega) only [o_le, o_leL, o_leR, o_lt, o_ltL, o_ltR, o_eq, o_eqL, o_eqR, o_cl, o_add, o_addL, o_addR, o_mul, o_mulL, o_mulR, o_sub, o_subR, o_0le, o_lt0, o_ixo, n1_eq, n1_eq', n1_lt, n1_le, n1_ge, n1_gt, n2_eq, n2_eq', n2_lt, n2_le, n2_ge, n2_gt, ↓reduceIte, ite_self, Nat.reduceEqDiff, Nat.reduceAdd, Nat.reduceMul, Nat.reduceSub, Nat.reduceLT, Nat.reduceLeDiff, Nat.not_lt_zero, Nat.zero_le, if_true, if_false, ite_true, ite_false, true_and, and_true, false_and, and_false, true_implies, false_implies, implies_true, not_true_eq_false, not_false_eq_true, eq_self, true_or, or_true, false_or, or_false, and_self, reduceCtorEq, forall_const]
        · simp (disch := omega) only [hy, hz, e1, e2, W_some, W_none, W_bind, W_ite, W_ocz, W_lt, xTw, xLw, xAw, xTp, xLp, xAp, xTc, xLc, xAc, xAn, xTn, xLn, xw1, xw2, xp1, xp2, xp3, mw1, mw2, xn1, xn2, xc1, xc2, hx, ik, hc, mx, o_le, o_leL, o_leR, o_lt, o_ltL, o_ltR, o_eq, o_eqL, o_eqR, o_cl, o_add, o_addL, o_addR, o_mul, o_mulL, o_mulR, o_sub, o_subR, o_0le, o_lt0, o_ixo, n1_eq, n1_eq', n1_lt, n1_le, n1_ge, n1_gt, n2_eq, n2_eq', n2_lt, n2_le, n2_ge, n2_gt, ↓reduceIte, ite_self, Nat.reduceEqDiff, Nat.reduceAdd, Nat.reduceMul, Nat.reduceSub, Nat.reduceLT, Nat.reduceLeDiff, Nat.not_lt_zero, Nat.zero_le, if_true, if_false, ite_true, ite_false, true_and, and_true, false_and, and_false, true_implies, false_implies, implies_true, not_true_eq_false, not_false_eq_true, eq_self, true_or, or_true, false_or, or_false, and_self, reduceCtorEq, forall_const]
          grind
    · simp (disch := omega) only [hy, hz, e1, e2, W_some, W_none, W_bind, W_ite, W_ocz, W_lt, xTw, xLw, xAw, xTp, xLp, xAp, xTc, xLc, xAc, xAn, xTn, xLn, xw1, xw2, xp1, xp2, xp3, mw1, mw2, xn1, xn2, xc1, xc2, ik, mx, o_le, o_leL, o_leR, o_lt, o_ltL, o_ltR, o_eq, o_eqL, o_eqR, o_cl, o_add, o_addL, o_addR, o_mul, o_mulL, o_mulR, o_sub, o_subR, o_0le, o_lt0, o_ixo, n1_eq, n1_eq', n1_lt, n1_le, n1_ge, n1_gt, n2_eq, n2_eq', n2_lt, n2_le, n2_ge, n2_gt, ↓reduceIte, ite_self, Nat.reduceEqDiff, Nat.reduceAdd, Nat.reduceMul, Nat.reduceSub, Nat.reduceLT, Nat.reduceLeDiff, Nat.not_lt_zero, Nat.zero_le, if_true, if_false, ite_true, ite_false, true_and, and_true, false_and, and_false, true_implies, false_implies, implies_true, not_true_eq_false, not_false_eq_true, eq_self, true_or, or_true, false_or, or_false, and_self, reduceCtorEq, forall_const]
      grind
  · simp (disch := omega) only [hy, e1, e2, W_some, W_none, W_bind, W_ite, W_ocz, W_lt, xTw, xLw, xAw, xTp, xLp, xAp, xTc, xLc, xAc, xAn, xTn, xLn, xw1, xw2, xp1, xp2, xp3, mw1, mw2, xn1, xn2, xc1, xc2, ik, mx, o_le, o_leL, o_leR, o_lt, o_ltL, o_ltR, o_eq, o_eqL, o_eqR, o_cl, o_add, o_addL, o_addR, o_mul, o_mulL, o_mulR, o_sub, o_subR, o_0le, o_lt0, o_ixo, n1_eq, n1_eq', n1_lt, n1_le, n1_ge, n1_gt, n2_eq, n2_eq', n2_lt, n2_le, n2_ge, n2_gt, ↓reduceIte, ite_self, Nat.reduceEqDiff, Nat.reduceAdd, Nat.reduceMul, Nat.reduceSub, Nat.reduceLT, Nat.reduceLeDiff, Nat.not_lt_zero, Nat.zero_le, if_true, if_false, ite_true, ite_false, true_and, and_true, false_and, and_false, true_implies, false_implies, implies_true, not_true_eq_false, not_false_eq_true, eq_self, true_or, or_true, false_or, or_false, and_self, reduceCtorEq, forall_const]
    grind
set_option maxRecDepth 20000 in
set_option maxHeartbeats 4000000 in
theorem isRoutine_of {X : XS} {rc m a : Nat} (hr : rc ≤ 24) (h : X.1 1 2 = Int32.ofNat rc) (hm : m < rc) (hp : X.2.1 2 m = some a) : f_Source_isRoutine (Int32.ofNat m) X = true := by
  unfold f_Source_isRoutine
  simp (disch := omega) only [h, hp, ocz, o_le, o_leL, o_leR, o_lt, o_ltL, o_ltR, o_eq, o_eqL, o_eqR, o_cl, o_add, o_addL, o_addR, o_mul, o_mulL, o_mulR, o_sub, o_subR, o_0le, o_lt0, o_ixo, n1_eq, n1_eq', n1_lt, n1_le, n1_ge, n1_gt, n2_eq, n2_eq', n2_lt, n2_le, n2_ge, n2_gt, ↓reduceIte, ite_self, Nat.reduceEqDiff, Nat.reduceAdd, Nat.reduceMul, Nat.reduceSub, Nat.reduceLT, Nat.reduceLeDiff, Nat.not_lt_zero, Nat.zero_le, if_true, if_false, ite_true, ite_false, true_and, and_true, false_and, and_false, true_implies, false_implies, implies_true, not_true_eq_false, not_false_eq_true, eq_self, true_or, or_true, false_or, or_false, and_self, reduceCtorEq, forall_const]
  rw [if_neg (by omega), if_neg (by omega)]
set_option maxRecDepth 20000 in
set_option maxHeartbeats 4000000 in
theorem isRoutine_not {X : XS} {rc : Nat} (hr : rc ≤ 24) (h : X.1 1 2 = Int32.ofNat rc) (x : Int32) (hn : ¬ ∃ m, m < rc ∧ x = Int32.ofNat m) : f_Source_isRoutine x X = false := by
  unfold f_Source_isRoutine
  rw [h]
  by_cases h0 : x < 0
  · rw [if_pos h0]
  · obtain ⟨c, hc, rfl⟩ := toN (Int32.not_lt.mp h0)
    rw [if_neg h0, if_pos]
    rw [o_le _ _ (by omega) hc]
    apply Nat.le_of_not_lt
    intro h
    exact hn ⟨c, h, rfl⟩
set_option maxRecDepth 20000 in
set_option maxHeartbeats 4000000 in
theorem code_sym {X : XS} {M : MS} {m s a o d : Nat} (hm : m < 24) (e1 : X.1 1 2 = Int32.ofNat (m + 1)) (e2 : M.1 60 15 = Int32.ofNat (m + 1)) (hs : s ≤ 60) (es : M.1 70 m = Int32.ofNat s) (ex : X.1 a 6 = Int32.ofNat s)
    (p : X.2.1 2 m = some a) (ta : xT X a = some (12, 0)) (p7 : X.2.1 a 7 = some o) (t7 : xL X 0 o = some 60) (p8 : X.2.1 a 8 = some d) (t8 : xL X 0 d = some 60) (n1 : a ≠ o) (n2 : a ≠ d)
    (x y : Int32) (Q : Int32 × XS → Int32 × MS → Prop) (bad : Q (-1, X) (-1, M))
    (good : s < 60 → 0 ≤ x ∧ x ≤ 55 → Q (Int32.ofNat s, xw (xw (xw X o s x) d s y) a 6 (Int32.ofNat (s + 1))) (Int32.ofNat s, mw (mw (mw M 71 (60 * m + s) x) 72 (60 * m + s) y) 70 m (Int32.ofNat (s + 1)))) : Wo (f_P_code x y X) (fun p => Wo (f_M_code x y M) (fun q => Q p q)) := by
  have ir := isRoutine_of (rc := m + 1) (by omega) e1 (by omega) p
  unfold f_P_code f_Source_addInstruction f_M_code
  by_cases hx : 0 ≤ x ∧ x ≤ 55
  · by_cases h6 : s < 60
    · have h6' : ¬ s = 60 := by omega
      have g : 60 * m + s < 1440 := by omega
      simp (disch := omega) only [e1, e2, W_some, W_none, W_bind, W_ite, W_ocz, W_lt, xTw, xLw, xAw, xTp, xLp, xAp, xTc, xLc, xAc, xAn, xTn, xLn, xw1, xw2, xp1, xp2, xp3, mw1, mw2, xn1, xn2, xc1, xc2, Nat.add_sub_cancel, Nat.succ_ne_zero, ir, hx, p, ta, p7, t7, p8, t8, g, ex, es, h6, h6', hm, n1, n2, o_le, o_leL, o_leR, o_lt, o_ltL, o_ltR, o_eq, o_eqL, o_eqR, o_cl, o_add, o_addL, o_addR, o_mul, o_mulL, o_mulR, o_sub, o_subR, o_0le, o_lt0, o_ixo, n1_eq, n1_eq', n1_lt, n1_le, n1_ge, n1_gt, n2_eq, n2_eq', n2_lt, n2_le, n2_ge, n2_gt, ↓reduceIte, ite_self, Nat.reduceEqDiff, Nat.reduceAdd, Nat.reduceMul, Nat.reduceSub, Nat.reduceLT, Nat.reduceLeDiff, Nat.not_lt_zero, Nat.zero_le, if_true, if_false, ite_true, ite_false, true_and, and_true, false_and, and_false, true_implies, false_implies, implies_true, not_true_eq_false, not_false_eq_true, eq_self, true_or, or_true, false_or, or_false, and_self, reduceCtorEq, forall_const]
      exact good h6 hx
    · have h6' : s = 60 := by omega
      simp (disch := omega) only [e1, e2, W_some, W_none, W_bind, W_ite, W_ocz, W_lt, xTw, xLw, xAw, xTp, xLp, xAp, xTc, xLc, xAc, xAn, xTn, xLn, xw1, xw2, xp1, xp2, xp3, mw1, mw2, xn1, xn2, xc1, xc2, Nat.add_sub_cancel, Nat.succ_ne_zero, ir, hx, p, ta, ex, es, h6', hm, o_le, o_leL, o_leR, o_lt, o_ltL, o_ltR, o_eq, o_eqL, o_eqR, o_cl, o_add, o_addL, o_addR, o_mul, o_mulL, o_mulR, o_sub, o_subR, o_0le, o_lt0, o_ixo, n1_eq, n1_eq', n1_lt, n1_le, n1_ge, n1_gt, n2_eq, n2_eq', n2_lt, n2_le, n2_ge, n2_gt, ↓reduceIte, ite_self, Nat.reduceEqDiff, Nat.reduceAdd, Nat.reduceMul, Nat.reduceSub, Nat.reduceLT, Nat.reduceLeDiff, Nat.not_lt_zero, Nat.zero_le, if_true, if_false, ite_true, ite_false, true_and, and_true, false_and, and_false, true_implies, false_implies, implies_true, not_true_eq_false, not_false_eq_true, eq_self, true_or, or_true, false_or, or_false, and_self, reduceCtorEq, forall_const]
      exact bad
  · simp (disch := omega) only [e1, e2, W_some, W_none, W_bind, W_ite, W_ocz, W_lt, xTw, xLw, xAw, xTp, xLp, xAp, xTc, xLc, xAc, xAn, xTn, xLn, xw1, xw2, xp1, xp2, xp3, mw1, mw2, xn1, xn2, xc1, xc2, Nat.add_sub_cancel, Nat.succ_ne_zero, ir, hx, o_le, o_leL, o_leR, o_lt, o_ltL, o_ltR, o_eq, o_eqL, o_eqR, o_cl, o_add, o_addL, o_addR, o_mul, o_mulL, o_mulR, o_sub, o_subR, o_0le, o_lt0, o_ixo, n1_eq, n1_eq', n1_lt, n1_le, n1_ge, n1_gt, n2_eq, n2_eq', n2_lt, n2_le, n2_ge, n2_gt, ↓reduceIte, ite_self, Nat.reduceEqDiff, Nat.reduceAdd, Nat.reduceMul, Nat.reduceSub, Nat.reduceLT, Nat.reduceLeDiff, Nat.not_lt_zero, Nat.zero_le, if_true, if_false, ite_true, ite_false, true_and, and_true, false_and, and_false, true_implies, false_implies, implies_true, not_true_eq_false, not_false_eq_true, eq_self, true_or, or_true, false_or, or_false, and_self, reduceCtorEq, forall_const]
    exact bad
set_option maxRecDepth 20000 in
set_option maxHeartbeats 4000000 in
theorem trap_sym {X : XS} {M : MS} {m s a o1 o2 o3 o4 : Nat} (hm : m < 24) (e1 : X.1 1 2 = Int32.ofNat (m + 1)) (e2 : M.1 60 15 = Int32.ofNat (m + 1)) (hs : s ≤ 6) (es : M.1 73 m = Int32.ofNat s) (ex : X.1 a 9 = Int32.ofNat s)
    (p : X.2.1 2 m = some a) (ta : xT X a = some (12, 0)) (p1 : X.2.1 a 10 = some o1) (t1 : xL X 0 o1 = some 6) (p2 : X.2.1 a 11 = some o2) (t2 : xL X 0 o2 = some 6) (p3 : X.2.1 a 12 = some o3) (t3 : xL X 0 o3 = some 6) (p4 : X.2.1 a 13 = some o4) (t4 : xL X 0 o4 = some 6) (n1 : a ≠ o1) (n2 : a ≠ o2) (n3 : a ≠ o3) (n4 : a ≠ o4)
    (x y z u : Int32) (Q : Int32 × XS → Int32 × MS → Prop) (bad : Q (-1, X) (-1, M))
    (good : s < 6 → Q (Int32.ofNat (s + 1), xw (xw (xw (xw (xw X o1 s x) o2 s y) o3 s z) o4 s u) a 9 (Int32.ofNat (s + 1))) (Int32.ofNat (s + 1), mw (mw (mw (mw (mw M 74 (24 * m + 4 * s) x) 74 (24 * m + 4 * s + 1) y) 74 (24 * m + 4 * s + 2) z) 74 (24 * m + 4 * s + 3) u) 73 m (Int32.ofNat (s + 1)))) : Wo (f_P_trap x y z u X) (fun p => Wo (f_M_trap x y z u M) (fun q => Q p q)) := by
  have ir := isRoutine_of (rc := m + 1) (by omega) e1 (by omega) p
  unfold f_P_trap f_Source_addTrap f_M_trap
  by_cases h6 : s < 6
  · have h6' : ¬ s = 6 := by omega
    have g1 : 24 * m + 4 * s < 576 := by omega
    have g2 : 24 * m + 4 * s + 1 < 576 := by omega
    have g3 : 24 * m + 4 * s + 2 < 576 := by omega
    have g4 : 24 * m + 4 * s + 3 < 576 := by omega
    simp (disch := omega) only [e1, e2, W_some, W_none, W_bind, W_ite, W_ocz, W_lt, xTw, xLw, xAw, xTp, xLp, xAp, xTc, xLc, xAc, xAn, xTn, xLn, xw1, xw2, xp1, xp2, xp3, mw1, mw2, xn1, xn2, xc1, xc2, Nat.add_sub_cancel, Nat.succ_ne_zero, ir, p, ta, p1, t1, p2, t2, p3, t3, p4, t4, ex, es, h6, h6', hm, n1, n2, n3, n4, g1, g2, g3, g4, o_le, o_leL, o_leR, o_lt, o_ltL, o_ltR, o_eq, o_eqL, o_eqR, o_cl, o_add, o_addL, o_addR, o_mul, o_mulL, o_mulR, o_sub, o_subR, o_0le, o_lt0, o_ixo, n1_eq, n1_eq', n1_lt, n1_le, n1_ge, n1_gt, n2_eq, n2_eq', n2_lt, n2_le, n2_ge, n2_gt, ↓reduceIte, ite_self, Nat.reduceEqDiff, Nat.reduceAdd, Nat.reduceMul, Nat.reduceSub, Nat.reduceLT, Nat.reduceLeDiff, Nat.not_lt_zero, Nat.zero_le, if_true, if_false, ite_true, ite_false, true_and, and_true, false_and, and_false, true_implies, false_implies, implies_true, not_true_eq_false, not_false_eq_true, eq_self, true_or, or_true, false_or, or_false, and_self, reduceCtorEq, forall_const]
    exact good h6
  · have h6' : s = 6 := by omega
    simp (disch := omega) only [e1, e2, W_some, W_none, W_bind, W_ite, W_ocz, W_lt, xTw, xLw, xAw, xTp, xLp, xAp, xTc, xLc, xAc, xAn, xTn, xLn, xw1, xw2, xp1, xp2, xp3, mw1, mw2, xn1, xn2, xc1, xc2, Nat.add_sub_cancel, Nat.succ_ne_zero, ir, p, ta, ex, es, h6', hm, o_le, o_leL, o_leR, o_lt, o_ltL, o_ltR, o_eq, o_eqL, o_eqR, o_cl, o_add, o_addL, o_addR, o_mul, o_mulL, o_mulR, o_sub, o_subR, o_0le, o_lt0, o_ixo, n1_eq, n1_eq', n1_lt, n1_le, n1_ge, n1_gt, n2_eq, n2_eq', n2_lt, n2_le, n2_ge, n2_gt, ↓reduceIte, ite_self, Nat.reduceEqDiff, Nat.reduceAdd, Nat.reduceMul, Nat.reduceSub, Nat.reduceLT, Nat.reduceLeDiff, Nat.not_lt_zero, Nat.zero_le, if_true, if_false, ite_true, ite_false, true_and, and_true, false_and, and_false, true_implies, false_implies, implies_true, not_true_eq_false, not_false_eq_true, eq_self, true_or, or_true, false_or, or_false, and_self, reduceCtorEq, forall_const]
    exact bad
/-- a method that the new one can't stand beside -/
def Clash (M : MS) (x y z u v : Int32) (k : Nat) : Prop := ¬ y = -2 ∧ M.1 65 k = y ∧ (M.1 64 k = x ∨ ¬ M.1 66 k = z ∨ ¬ M.1 67 k = u ∨ ¬ M.1 68 k = v)
set_option maxRecDepth 20000 in
set_option maxHeartbeats 4000000 in
theorem method_loop {M : MS} {rc : Nat} (hr : rc ≤ 24) (e2 : M.1 60 15 = Int32.ofNat rc) (x y z u v : Int32) (hy : ¬ y = -2) : Wo (lp (b117_M_method' x y z u v M) 10000 0) (fun r => (r = .inr (-1, M) ∧ ∃ j, j < rc ∧ Clash M x y z u v j) ∨ ((∃ i, r = .inl i) ∧ ∀ j, j < rc → ¬ Clash M x y z u v j)) := by
  refine W_lp (fun s => ∃ k, k ≤ rc ∧ s = Int32.ofNat k ∧ ∀ j, j < k → ¬ Clash M x y z u v j) (fun s => rc - s.toNatClampNeg) ?_ 10000 0 ⟨0, Nat.zero_le _, rfl, fun j h => absurd h (Nat.not_lt_zero j)⟩ (by show rc - 0 < 10000; omega)
  intro s ⟨k, hk, e, hj⟩
  subst e
  unfold b117_M_method'
  simp (disch := omega) only [e2, o_le, o_leL, o_leR, o_lt, o_ltL, o_ltR, o_eq, o_eqL, o_eqR, o_cl, o_add, o_addL, o_addR, o_mul, o_mulL, o_mulR, o_sub, o_subR, o_0le, o_lt0, o_ixo, n1_eq, n1_eq', n1_lt, n1_le, n1_ge, n1_gt, n2_eq, n2_eq', n2_lt, n2_le, n2_ge, n2_gt, ↓reduceIte, ite_self, Nat.reduceEqDiff, Nat.reduceAdd, Nat.reduceMul, Nat.reduceSub, Nat.reduceLT, Nat.reduceLeDiff, Nat.not_lt_zero, Nat.zero_le, if_true, if_false, ite_true, ite_false, true_and, and_true, false_and, and_false, true_implies, false_implies, implies_true, not_true_eq_false, not_false_eq_true, eq_self, true_or, or_true, false_or, or_false, and_self, reduceCtorEq, forall_const]
  by_cases h1 : rc ≤ k
  · have : k = rc := by omega
    subst this
    simp (disch := omega) only [h1, W_some, o_le, o_leL, o_leR, o_lt, o_ltL, o_ltR, o_eq, o_eqL, o_eqR, o_cl, o_add, o_addL, o_addR, o_mul, o_mulL, o_mulR, o_sub, o_subR, o_0le, o_lt0, o_ixo, n1_eq, n1_eq', n1_lt, n1_le, n1_ge, n1_gt, n2_eq, n2_eq', n2_lt, n2_le, n2_ge, n2_gt, ↓reduceIte, ite_self, Nat.reduceEqDiff, Nat.reduceAdd, Nat.reduceMul, Nat.reduceSub, Nat.reduceLT, Nat.reduceLeDiff, Nat.not_lt_zero, Nat.zero_le, if_true, if_false, ite_true, ite_false, true_and, and_true, false_and, and_false, true_implies, false_implies, implies_true, not_true_eq_false, not_false_eq_true, eq_self, true_or, or_true, false_or, or_false, and_self, reduceCtorEq, forall_const]
    grind
  · have h2 : k < 24 := by omega
    have step : (∀ j, j < k + 1 → ¬ Clash M x y z u v j) ↔ ¬ Clash M x y z u v k := by
      constructor
      · intro h; exact h k (by omega)
      · intro h j hl
        by_cases e : j = k
        · subst e; exact h
        · exact hj j (by omega)
    have nx : ¬ Clash M x y z u v k → ∃ j, j ≤ rc ∧ Int32.ofNat (k + 1) = Int32.ofNat j ∧ ∀ i, i < j → ¬ Clash M x y z u v i := fun h => ⟨k + 1, by omega, rfl, step.mpr h⟩
    have lt : rc - (k + 1) < rc - k := by omega
    have bad : Clash M x y z u v k → ∃ j, j < rc ∧ Clash M x y z u v j := fun h => ⟨k, by omega, h⟩
    simp (disch := omega) only [h1, h2, W_some, W_none, W_bind, W_ite, W_ocz, W_lt, lt, o_le, o_leL, o_leR, o_lt, o_ltL, o_ltR, o_eq, o_eqL, o_eqR, o_cl, o_add, o_addL, o_addR, o_mul, o_mulL, o_mulR, o_sub, o_subR, o_0le, o_lt0, o_ixo, n1_eq, n1_eq', n1_lt, n1_le, n1_ge, n1_gt, n2_eq, n2_eq', n2_lt, n2_le, n2_ge, n2_gt, ↓reduceIte, ite_self, Nat.reduceEqDiff, Nat.reduceAdd, Nat.reduceMul, Nat.reduceSub, Nat.reduceLT, Nat.reduceLeDiff, Nat.not_lt_zero, Nat.zero_le, if_true, if_false, ite_true, ite_false, true_and, and_true, false_and, and_false, true_implies, false_implies, implies_true, not_true_eq_false, not_false_eq_true, eq_self, true_or, or_true, false_or, or_false, and_self, reduceCtorEq, forall_const]
    unfold Clash at nx bad ⊢
    grind
set_option maxRecDepth 20000 in
set_option maxHeartbeats 4000000 in
theorem method_loop0 {M : MS} {rc : Nat} (hr : rc ≤ 24) (e2 : M.1 60 15 = Int32.ofNat rc) : Wo (lp (b117_M_method M) 10000 0) (fun r => ∃ i, r = .inl i) := by
  refine W_lp (fun s => ∃ k, k ≤ rc ∧ s = Int32.ofNat k) (fun s => rc - s.toNatClampNeg) ?_ 10000 0 ⟨0, Nat.zero_le _, rfl⟩ (by show rc - 0 < 10000; omega)
  intro s ⟨k, hk, e⟩
  subst e
  unfold b117_M_method
  by_cases h1 : rc ≤ k
  · simp (disch := omega) only [e2, h1, W_some, o_le, o_leL, o_leR, o_lt, o_ltL, o_ltR, o_eq, o_eqL, o_eqR, o_cl, o_add, o_addL, o_addR, o_mul, o_mulL, o_mulR, o_sub, o_subR, o_0le, o_lt0, o_ixo, n1_eq, n1_eq', n1_lt, n1_le, n1_ge, n1_gt, n2_eq, n2_eq', n2_lt, n2_le, n2_ge, n2_gt, ↓reduceIte, ite_self, Nat.reduceEqDiff, Nat.reduceAdd, Nat.reduceMul, Nat.reduceSub, Nat.reduceLT, Nat.reduceLeDiff, Nat.not_lt_zero, Nat.zero_le, if_true, if_false, ite_true, ite_false, true_and, and_true, false_and, and_false, true_implies, false_implies, implies_true, not_true_eq_false, not_false_eq_true, eq_self, true_or, or_true, false_or, or_false, and_self, reduceCtorEq, forall_const]
    exact ⟨_, rfl⟩
  · simp (disch := omega) only [e2, h1, W_some, o_le, o_leL, o_leR, o_lt, o_ltL, o_ltR, o_eq, o_eqL, o_eqR, o_cl, o_add, o_addL, o_addR, o_mul, o_mulL, o_mulR, o_sub, o_subR, o_0le, o_lt0, o_ixo, n1_eq, n1_eq', n1_lt, n1_le, n1_ge, n1_gt, n2_eq, n2_eq', n2_lt, n2_le, n2_ge, n2_gt, ↓reduceIte, ite_self, Nat.reduceEqDiff, Nat.reduceAdd, Nat.reduceMul, Nat.reduceSub, Nat.reduceLT, Nat.reduceLeDiff, Nat.not_lt_zero, Nat.zero_le, if_true, if_false, ite_true, ite_false, true_and, and_true, false_and, and_false, true_implies, false_implies, implies_true, not_true_eq_false, not_false_eq_true, eq_self, true_or, or_true, false_or, or_false, and_self, reduceCtorEq, forall_const]
    exact ⟨⟨k + 1, by omega, rfl⟩, by omega⟩
