/-! S2 -/
/-- a new method's cells -/
def NewR (X X1 : XS) : Prop := xA X1 = xA X + 7 ∧
  (∀ b j, X1.1 b j = if xA X ≤ b ∧ b ≤ xA X + 6 then 0 else X.1 b j) ∧
  (∀ b j, X1.2.1 b j = if b = xA X then (if j = 7 then some (xA X + 1) else if j = 8 then some (xA X + 2) else if j = 10 then some (xA X + 3) else if j = 11 then some (xA X + 4) else if j = 12 then some (xA X + 5) else if j = 13 then some (xA X + 6) else none) else if xA X < b ∧ b ≤ xA X + 6 then none else X.2.1 b j) ∧
  (∀ b, xT X1 b = if b = xA X then some (12, 0) else if b = xA X + 1 ∨ b = xA X + 2 then some (0, 60) else if xA X + 3 ≤ b ∧ b ≤ xA X + 6 then some (0, 6) else xT X b) ∧
  X1.2.2 = X.2.2 ++ [(12, 0), (0, 60), (0, 60), (0, 6), (0, 6), (0, 6), (0, 6)]
set_option maxRecDepth 20000 in
set_option maxHeartbeats 4000000 in
theorem newR_ok (X : XS) : Wo (f_Routine_init (xA X) (xn X 12 0)) (fun X1 => NewR X X1) := by
  unfold f_Routine_init
  have n1 : xA X ≠ xA X + 1 := by omega
  have n2 : xA X ≠ xA X + 1 + 1 := by omega
  have n3 : xA X ≠ xA X + 1 + 1 + 1 := by omega
  have n4 : xA X ≠ xA X + 1 + 1 + 1 + 1 := by omega
  have n5 : xA X ≠ xA X + 1 + 1 + 1 + 1 + 1 := by omega
  have n6 : xA X ≠ xA X + 1 + 1 + 1 + 1 + 1 + 1 := by omega
  simp (disch := omega) only [W_some, W_none, W_bind, W_ite, W_ocz, W_lt, xTw, xLw, xAw, xTp, xLp, xAp, xTc, xLc, xAc, xAn, xTn, xLn, xw1, xw2, xp1, xp2, xp3, mw1, mw2, xn1, xn2, xc1, xc2, n1, n2, n3, n4, n5, n6, o_le, o_leL, o_leR, o_lt, o_ltL, o_ltR, o_eq, o_eqL, o_eqR, o_cl, o_add, o_addL, o_addR, o_mul, o_mulL, o_mulR, o_sub, o_subR, o_0le, o_lt0, o_ixo, n1_eq, n1_eq', n1_lt, n1_le, n1_ge, n1_gt, n2_eq, n2_eq', n2_lt, n2_le, n2_ge, n2_gt, ↓reduceIte, ite_self, Nat.reduceEqDiff, Nat.reduceAdd, Nat.reduceMul, Nat.reduceSub, Nat.reduceLT, Nat.reduceLeDiff, Nat.not_lt_zero, Nat.zero_le, if_true, if_false, ite_true, ite_false, true_and, and_true, false_and, and_false, true_implies, false_implies, implies_true, not_true_eq_false, not_false_eq_true, eq_self, true_or, or_true, false_or, or_false, and_self, reduceCtorEq, forall_const]
  unfold NewR
  refine ⟨?_, ?_, ?_, ?_, ?_⟩
  · simp (disch := omega) only [xTw, xLw, xAw, xTp, xLp, xAp, xTc, xLc, xAc, xAn, xTn, xLn, xw1, xw2, xp1, xp2, xp3, mw1, mw2, xn1, xn2, xc1, xc2, o_le, o_leL, o_leR, o_lt, o_ltL, o_ltR, o_eq, o_eqL, o_eqR, o_cl, o_add, o_addL, o_addR, o_mul, o_mulL, o_mulR, o_sub, o_subR, o_0le, o_lt0, o_ixo, n1_eq, n1_eq', n1_lt, n1_le, n1_ge, n1_gt, n2_eq, n2_eq', n2_lt, n2_le, n2_ge, n2_gt, ↓reduceIte, ite_self, Nat.reduceEqDiff, Nat.reduceAdd, Nat.reduceMul, Nat.reduceSub, Nat.reduceLT, Nat.reduceLeDiff, Nat.not_lt_zero, Nat.zero_le, if_true, if_false, ite_true, ite_false, true_and, and_true, false_and, and_false, true_implies, false_implies, implies_true, not_true_eq_false, not_false_eq_true, eq_self, true_or, or_true, false_or, or_false, and_self, reduceCtorEq, forall_const]
  · intro b j
    simp only [xTw, xLw, xAw, xTp, xLp, xAp, xTc, xLc, xAc, xAn, xTn, xLn, xw1, xw2, xp1, xp2, xp3, mw1, mw2, xn1, xn2, xc1, xc2]
    grind (splits := 40)
  · intro b j
    simp only [xTw, xLw, xAw, xTp, xLp, xAp, xTc, xLc, xAc, xAn, xTn, xLn, xw1, xw2, xp1, xp2, xp3, mw1, mw2, xn1, xn2, xc1, xc2]
    grind (splits := 40)
  · intro b
    simp only [xTw, xLw, xAw, xTp, xLp, xAp, xTc, xLc, xAc, xAn, xTn, xLn, xw1, xw2, xp1, xp2, xp3, mw1, mw2, xn1, xn2, xc1, xc2]
    grind (splits := 40)
  · simp [xp, xn]
set_option maxRecDepth 20000 in
set_option maxHeartbeats 4000000 in
theorem shl_le {z u : Int32} (h0 : 0 ≤ z) (h4 : z ≤ 4) : (0 ≤ u ∧ u ≤ ((1 : Int32) <<< ((z : Int32) &&& 31)) - 1) = (¬ u < 0 ∧ ¬ (1 : Int32) <<< ((z : Int32) &&& 31) ≤ u) ∧ ∃ w, 0 < w ∧ w ≤ 16 ∧ (1 : Int32) <<< ((z : Int32) &&& 31) = Int32.ofNat w := by
  obtain ⟨k, hk, rfl⟩ := toNle (n := 4) (by omega) h0 h4
  have w : ∃ w, 0 < w ∧ w ≤ 16 ∧ (1 : Int32) <<< ((Int32.ofNat k : Int32) &&& 31) = Int32.ofNat w := by
    have : k = 0 ∨ k = 1 ∨ k = 2 ∨ k = 3 ∨ k = 4 := by omega
    rcases this with rfl | rfl | rfl | rfl | rfl
    · exact ⟨1, by omega, by omega, by decide⟩
    · exact ⟨2, by omega, by omega, by decide⟩
    · exact ⟨4, by omega, by omega, by decide⟩
    · exact ⟨8, by omega, by omega, by decide⟩
    · exact ⟨16, by omega, by omega, by decide⟩
  refine ⟨?_, w⟩
  obtain ⟨w, w0, w1, e⟩ := w
  rw [e]
  apply propext
  rw [Int32.not_lt, Int32.not_le]
  constructor
  · intro ⟨a, b⟩
    refine ⟨a, ?_⟩
    obtain ⟨i, hi, rfl⟩ := toN a
    simp (disch := omega) only [o_le, o_leL, o_leR, o_lt, o_ltL, o_ltR, o_eq, o_eqL, o_eqR, o_cl, o_add, o_addL, o_addR, o_mul, o_mulL, o_mulR, o_sub, o_subR, o_0le, o_lt0, o_ixo, n1_eq, n1_eq', n1_lt, n1_le, n1_ge, n1_gt, n2_eq, n2_eq', n2_lt, n2_le, n2_ge, n2_gt, ↓reduceIte, ite_self, Nat.reduceEqDiff, Nat.reduceAdd, Nat.reduceMul, Nat.reduceSub, Nat.reduceLT, Nat.reduceLeDiff, Nat.not_lt_zero, Nat.zero_le, if_true, if_false, ite_true, ite_false, true_and, and_true, false_and, and_false, true_implies, false_implies, implies_true, not_true_eq_false, not_false_eq_true, eq_self, true_or, or_true, false_or, or_false, and_self, reduceCtorEq, forall_const] at b ⊢
    omega
  · intro ⟨a, b⟩
    refine ⟨a, ?_⟩
    obtain ⟨i, hi, rfl⟩ := toN a
    simp (disch := omega) only [o_le, o_leL, o_leR, o_lt, o_ltL, o_ltR, o_eq, o_eqL, o_eqR, o_cl, o_add, o_addL, o_addR, o_mul, o_mulL, o_mulR, o_sub, o_subR, o_0le, o_lt0, o_ixo, n1_eq, n1_eq', n1_lt, n1_le, n1_ge, n1_gt, n2_eq, n2_eq', n2_lt, n2_le, n2_ge, n2_gt, ↓reduceIte, ite_self, Nat.reduceEqDiff, Nat.reduceAdd, Nat.reduceMul, Nat.reduceSub, Nat.reduceLT, Nat.reduceLeDiff, Nat.not_lt_zero, Nat.zero_le, if_true, if_false, ite_true, ite_false, true_and, and_true, false_and, and_false, true_implies, false_implies, implies_true, not_true_eq_false, not_false_eq_true, eq_self, true_or, or_true, false_or, or_false, and_self, reduceCtorEq, forall_const] at b ⊢
    omega
/-- what the source keeps of its methods by names -/
def RSn (X : XS) (M : MS) (kc rc : Nat) : Prop :=
  (∀ c n, c < 10 → n < 8 → (X.1 8 (c * 8 + n) = -1 ∧ ∀ k, k < rc → ¬ (M.1 64 k = Int32.ofNat c ∧ M.1 65 k = Int32.ofNat n)) ∨ ∃ k, k < rc ∧ X.1 8 (c * 8 + n) = Int32.ofNat k ∧ M.1 64 k = Int32.ofNat c ∧ M.1 65 k = Int32.ofNat n) ∧
  (∀ n, n < 8 → (X.1 9 n = -1 ∧ ∀ k, k < rc → ¬ M.1 65 k = Int32.ofNat n) ∨ ∃ k, k < rc ∧ X.1 9 n = Int32.ofNat k ∧ M.1 65 k = Int32.ofNat n ∧ ∀ j, j < k → ¬ M.1 65 j = Int32.ofNat n) ∧
  (∀ j k, j < rc → k < rc → M.1 65 j = M.1 65 k → ¬ M.1 65 j = -2 → M.1 66 j = M.1 66 k ∧ M.1 67 j = M.1 67 k ∧ M.1 68 j = M.1 68 k ∧ (M.1 64 j = M.1 64 k → j = k)) ∧
  (∀ k, k < rc → M.1 65 k = -2 ∨ ∃ n, n < 8 ∧ M.1 65 k = Int32.ofNat n)
theorem own_none {X : XS} {M : MS} {kc rc : Nat} (hk : kc ≤ 10) (e1 : X.1 1 1 = Int32.ofNat kc) {c : Nat} (hc : c < kc) : f_Source_ownRoutine (Int32.ofNat c) (-2) X = some (-1) := by
  unfold f_Source_ownRoutine
  rw [if_pos ((isKind_iff hk e1 _).mpr ⟨c, hc, rfl⟩), if_neg (by decide)]
set_option maxRecDepth 20000 in
set_option maxHeartbeats 4000000 in
theorem own_named {X : XS} {kc : Nat} (hk : kc ≤ 10) (e1 : X.1 1 1 = Int32.ofNat kc) {c n : Nat} (hc : c < kc) (hn : n < 8) : f_Source_ownRoutine (Int32.ofNat c) (Int32.ofNat n) X = some (X.1 8 (c * 8 + n)) := by
  unfold f_Source_ownRoutine
  have h7 : n ≤ 7 := by omega
  have h8 : c * 8 + n < 80 := by omega
  rw [if_pos ((isKind_iff hk e1 _).mpr ⟨c, hc, rfl⟩)]
  simp (disch := omega) only [h7, h8, o_le, o_leL, o_leR, o_lt, o_ltL, o_ltR, o_eq, o_eqL, o_eqR, o_cl, o_add, o_addL, o_addR, o_mul, o_mulL, o_mulR, o_sub, o_subR, o_0le, o_lt0, o_ixo, n1_eq, n1_eq', n1_lt, n1_le, n1_ge, n1_gt, n2_eq, n2_eq', n2_lt, n2_le, n2_ge, n2_gt, ↓reduceIte, ite_self, Nat.reduceEqDiff, Nat.reduceAdd, Nat.reduceMul, Nat.reduceSub, Nat.reduceLT, Nat.reduceLeDiff, Nat.not_lt_zero, Nat.zero_le, if_true, if_false, ite_true, ite_false, true_and, and_true, false_and, and_false, true_implies, false_implies, implies_true, not_true_eq_false, not_false_eq_true, eq_self, true_or, or_true, false_or, or_false, and_self, reduceCtorEq, forall_const]
theorem ofName_none {X : XS} : f_Source_routineOfName (-2) X = -1 := by
  unfold f_Source_routineOfName
  rw [if_neg (by decide)]
set_option maxRecDepth 20000 in
set_option maxHeartbeats 4000000 in
theorem ofName_named {X : XS} {n : Nat} (hn : n < 8) : f_Source_routineOfName (Int32.ofNat n) X = X.1 9 n := by
  unfold f_Source_routineOfName
  have h7 : n ≤ 7 := by omega
  simp (disch := omega) only [h7, o_le, o_leL, o_leR, o_lt, o_ltL, o_ltR, o_eq, o_eqL, o_eqR, o_cl, o_add, o_addL, o_addR, o_mul, o_mulL, o_mulR, o_sub, o_subR, o_0le, o_lt0, o_ixo, n1_eq, n1_eq', n1_lt, n1_le, n1_ge, n1_gt, n2_eq, n2_eq', n2_lt, n2_le, n2_ge, n2_gt, ↓reduceIte, ite_self, Nat.reduceEqDiff, Nat.reduceAdd, Nat.reduceMul, Nat.reduceSub, Nat.reduceLT, Nat.reduceLeDiff, Nat.not_lt_zero, Nat.zero_le, if_true, if_false, ite_true, ite_false, true_and, and_true, false_and, and_false, true_implies, false_implies, implies_true, not_true_eq_false, not_false_eq_true, eq_self, true_or, or_true, false_or, or_false, and_self, reduceCtorEq, forall_const]
set_option maxRecDepth 20000 in
set_option maxHeartbeats 4000000 in
theorem fresh_sym {X : XS} {M : MS} {kc rc c : Nat} (hk : kc ≤ 10) (hr : rc ≤ 24) (e1 : X.1 1 1 = Int32.ofNat kc) (e3 : X.1 1 2 = Int32.ofNat rc) (hN : RSn X M kc rc)
    (hR : ∀ k, k < rc → ∃ a, X.2.1 2 k = some a ∧ xT X a = some (12, 0) ∧ X.1 a 2 = M.1 66 k ∧ X.1 a 3 = M.1 67 k ∧ X.1 a 4 = M.1 68 k) (hc : c < kc) (y z u v : Int32) (hy : y = -2 ∨ ∃ n, n < 8 ∧ y = Int32.ofNat n) :
    ∃ r b, f_Source_ownRoutine (Int32.ofNat c) y X = some r ∧ f_Source_agrees y z u v X = some b ∧ ((r = -1 ∧ b = true) ↔ ∀ j, j < rc → ¬ Clash M (Int32.ofNat c) y z u v j) := by
  have nr : f_Source_isRoutine (-1) X = false := isRoutine_not hr e3 (-1) (by
    intro ⟨m, hm, e⟩
    rw [n1_eq' m (by omega)] at e
    exact e)
  obtain ⟨hO, hF, hS, _⟩ := hN
  rcases hy with rfl | ⟨n, hn, rfl⟩
  · refine ⟨-1, true, own_none (M := M) (rc := rc) hk e1 hc, ?_, ?_⟩
    · unfold f_Source_agrees
      rw [ofName_none, nr]
      rfl
    · unfold Clash
      grind
  · have h2 : ¬ Int32.ofNat n = -2 := by rw [n2_eq n (by omega)]; exact not_false
    refine ⟨X.1 8 (c * 8 + n), ?_⟩
    have hOO := hO c n (by omega) hn
    rcases hF n hn with ⟨f1, f2⟩ | ⟨k, hkr, f1, f2, f3⟩
    · refine ⟨true, own_named hk e1 hc hn, ?_, ?_⟩
      · unfold f_Source_agrees
        rw [ofName_named hn, f1, nr]
        rfl
      · unfold Clash
        grind
    · obtain ⟨a, p, ta, g1, g2, g3⟩ := hR k hkr
      have ir := isRoutine_of hr e3 hkr p
      refine ⟨decide (M.1 66 k = z ∧ M.1 67 k = u ∧ M.1 68 k = v), own_named hk e1 hc hn, ?_, ?_⟩
      · unfold f_Source_agrees
        rw [ofName_named hn, f1, ir]
        simp (disch := omega) only [p, ta, g1, g2, g3, ocz, o_le, o_leL, o_leR, o_lt, o_ltL, o_ltR, o_eq, o_eqL, o_eqR, o_cl, o_add, o_addL, o_addR, o_mul, o_mulL, o_mulR, o_sub, o_subR, o_0le, o_lt0, o_ixo, n1_eq, n1_eq', n1_lt, n1_le, n1_ge, n1_gt, n2_eq, n2_eq', n2_lt, n2_le, n2_ge, n2_gt, ↓reduceIte, ite_self, Nat.reduceEqDiff, Nat.reduceAdd, Nat.reduceMul, Nat.reduceSub, Nat.reduceLT, Nat.reduceLeDiff, Nat.not_lt_zero, Nat.zero_le, if_true, if_false, ite_true, ite_false, true_and, and_true, false_and, and_false, true_implies, false_implies, implies_true, not_true_eq_false, not_false_eq_true, eq_self, true_or, or_true, false_or, or_false, and_self, reduceCtorEq, forall_const]
        by_cases q1 : M.1 66 k = z <;> by_cases q2 : M.1 67 k = u <;> by_cases q3 : M.1 68 k = v <;> simp [q1, q2, q3]
      · have hn1 : ∀ j, j < 2147483648 → ¬ Int32.ofNat j = -1 := fun j hj => by rw [n1_eq j hj]; exact not_false
        rw [decide_eq_true_iff]
        constructor
        · intro ⟨q1, q2, q3, q4⟩ j hj ⟨d1, d2, d3⟩
          have s := hS j k hj hkr (d2.trans f2.symm) (by rw [d2]; exact h2)
          rcases hOO with ⟨o1, o2⟩ | ⟨o, o1, o2, o3, o4⟩
          · have := o2 j hj
            grind
          · exact hn1 o (by omega) (o2.symm.trans q1)
        · intro h
          have := h k hkr
          rcases hOO with ⟨o1, o2⟩ | ⟨o, o1, o2, o3, o4⟩
          · refine ⟨o1, ?_⟩
            unfold Clash at this
            grind
          · exact absurd ⟨h2, o4, Or.inl o3⟩ (h o o1)
set_option maxRecDepth 20000 in
set_option maxHeartbeats 4000000 in
theorem addRoutine_neg {X : XS} {kc rc : Nat} (hk : kc ≤ 10) (hr : rc ≤ 24) (e1 : X.1 1 1 = Int32.ofNat kc) (e3 : X.1 1 2 = Int32.ofNat rc) (x y z u v t : Int32) {r : Int32} {b : Bool}
    (f1 : (∃ c, c < kc ∧ x = Int32.ofNat c) → f_Source_ownRoutine x y X = some r) (f2 : f_Source_agrees y z u v X = some b)
    (hn : ¬ ((∃ c, c < kc ∧ x = Int32.ofNat c) ∧ (y = -2 ∨ 0 ≤ y ∧ y ≤ 7) ∧ (0 ≤ z ∧ z ≤ 4) ∧ (0 ≤ v ∧ v ≤ 2) ∧ rc < 24 ∧ (0 ≤ u ∧ u ≤ ((1 : Int32) <<< ((z : Int32) &&& 31)) - 1) ∧ (if y = -2 then z else z + 1) ≤ t ∧ t ≤ 12 ∧ r = -1 ∧ b = true)) : f_P_method x y z u v t X = some (-1, X) := by
  have ik := isKind_iff hk e1 x
  unfold f_P_method f_Source_addRoutine
  by_cases hx : ∃ c, c < kc ∧ x = Int32.ofNat c
  case neg => simp (disch := omega) only [ik, hx, Option.bind_some, o_le, o_leL, o_leR, o_lt, o_ltL, o_ltR, o_eq, o_eqL, o_eqR, o_cl, o_add, o_addL, o_addR, o_mul, o_mulL, o_mulR, o_sub, o_subR, o_0le, o_lt0, o_ixo, n1_eq, n1_eq', n1_lt, n1_le, n1_ge, n1_gt, n2_eq, n2_eq', n2_lt, n2_le, n2_ge, n2_gt, ↓reduceIte, ite_self, Nat.reduceEqDiff, Nat.reduceAdd, Nat.reduceMul, Nat.reduceSub, Nat.reduceLT, Nat.reduceLeDiff, Nat.not_lt_zero, Nat.zero_le, if_true, if_false, ite_true, ite_false, true_and, and_true, false_and, and_false, true_implies, false_implies, implies_true, not_true_eq_false, not_false_eq_true, eq_self, true_or, or_true, false_or, or_false, and_self, reduceCtorEq, forall_const]
  by_cases hz : 0 ≤ z ∧ z ≤ 4
  case neg =>
    simp (disch := omega) only [ik, hx, hz, ite_self, Option.bind_some, o_le, o_leL, o_leR, o_lt, o_ltL, o_ltR, o_eq, o_eqL, o_eqR, o_cl, o_add, o_addL, o_addR, o_mul, o_mulL, o_mulR, o_sub, o_subR, o_0le, o_lt0, o_ixo, n1_eq, n1_eq', n1_lt, n1_le, n1_ge, n1_gt, n2_eq, n2_eq', n2_lt, n2_le, n2_ge, n2_gt, ↓reduceIte, ite_self, Nat.reduceEqDiff, Nat.reduceAdd, Nat.reduceMul, Nat.reduceSub, Nat.reduceLT, Nat.reduceLeDiff, Nat.not_lt_zero, Nat.zero_le, if_true, if_false, ite_true, ite_false, true_and, and_true, false_and, and_false, true_implies, false_implies, implies_true, not_true_eq_false, not_false_eq_true, eq_self, true_or, or_true, false_or, or_false, and_self, reduceCtorEq, forall_const]
  by_cases hv : 0 ≤ v ∧ v ≤ 2
  case neg =>
    simp (disch := omega) only [ik, hx, hz, hv, ite_self, Option.bind_some, o_le, o_leL, o_leR, o_lt, o_ltL, o_ltR, o_eq, o_eqL, o_eqR, o_cl, o_add, o_addL, o_addR, o_mul, o_mulL, o_mulR, o_sub, o_subR, o_0le, o_lt0, o_ixo, n1_eq, n1_eq', n1_lt, n1_le, n1_ge, n1_gt, n2_eq, n2_eq', n2_lt, n2_le, n2_ge, n2_gt, ↓reduceIte, ite_self, Nat.reduceEqDiff, Nat.reduceAdd, Nat.reduceMul, Nat.reduceSub, Nat.reduceLT, Nat.reduceLeDiff, Nat.not_lt_zero, Nat.zero_le, if_true, if_false, ite_true, ite_false, true_and, and_true, false_and, and_false, true_implies, false_implies, implies_true, not_true_eq_false, not_false_eq_true, eq_self, true_or, or_true, false_or, or_false, and_self, reduceCtorEq, forall_const]
  by_cases h24 : rc = 24
  · subst h24
    simp (disch := omega) only [e3, ik, hx, hz, hv, ite_self, Option.bind_some, o_le, o_leL, o_leR, o_lt, o_ltL, o_ltR, o_eq, o_eqL, o_eqR, o_cl, o_add, o_addL, o_addR, o_mul, o_mulL, o_mulR, o_sub, o_subR, o_0le, o_lt0, o_ixo, n1_eq, n1_eq', n1_lt, n1_le, n1_ge, n1_gt, n2_eq, n2_eq', n2_lt, n2_le, n2_ge, n2_gt, ↓reduceIte, ite_self, Nat.reduceEqDiff, Nat.reduceAdd, Nat.reduceMul, Nat.reduceSub, Nat.reduceLT, Nat.reduceLeDiff, Nat.not_lt_zero, Nat.zero_le, if_true, if_false, ite_true, ite_false, true_and, and_true, false_and, and_false, true_implies, false_implies, implies_true, not_true_eq_false, not_false_eq_true, eq_self, true_or, or_true, false_or, or_false, and_self, reduceCtorEq, forall_const]
  have hr2 : ¬ 24 ≤ rc := by omega
  by_cases hu : 0 ≤ u ∧ u ≤ ((1 : Int32) <<< ((z : Int32) &&& 31)) - 1
  case neg =>
    simp (disch := omega) only [e3, ik, hx, hz, hv, hr2, hu, ite_self, Option.bind_some, o_le, o_leL, o_leR, o_lt, o_ltL, o_ltR, o_eq, o_eqL, o_eqR, o_cl, o_add, o_addL, o_addR, o_mul, o_mulL, o_mulR, o_sub, o_subR, o_0le, o_lt0, o_ixo, n1_eq, n1_eq', n1_lt, n1_le, n1_ge, n1_gt, n2_eq, n2_eq', n2_lt, n2_le, n2_ge, n2_gt, ↓reduceIte, ite_self, Nat.reduceEqDiff, Nat.reduceAdd, Nat.reduceMul, Nat.reduceSub, Nat.reduceLT, Nat.reduceLeDiff, Nat.not_lt_zero, Nat.zero_le, if_true, if_false, ite_true, ite_false, true_and, and_true, false_and, and_false, true_implies, false_implies, implies_true, not_true_eq_false, not_false_eq_true, eq_self, true_or, or_true, false_or, or_false, and_self, reduceCtorEq, forall_const]
  have f1 := f1 hx
  by_cases hy1 : y = -2
  · rw [if_pos hy1] at hn
    by_cases ht : z ≤ t ∧ t ≤ 12
    · by_cases hr1 : r = -1
      · by_cases hb : b = true
        · exact absurd ⟨hx, Or.inl hy1, hz, hv, by omega, hu, ht.1, ht.2, hr1, hb⟩ hn
        · simp (disch := omega) only [e3, ik, hx, hz, hv, hr2, hu, ht, f1, f2, hr1, hb, Option.bind_some, o_le, o_leL, o_leR, o_lt, o_ltL, o_ltR, o_eq, o_eqL, o_eqR, o_cl, o_add, o_addL, o_addR, o_mul, o_mulL, o_mulR, o_sub, o_subR, o_0le, o_lt0, o_ixo, n1_eq, n1_eq', n1_lt, n1_le, n1_ge, n1_gt, n2_eq, n2_eq', n2_lt, n2_le, n2_ge, n2_gt, ↓reduceIte, ite_self, Nat.reduceEqDiff, Nat.reduceAdd, Nat.reduceMul, Nat.reduceSub, Nat.reduceLT, Nat.reduceLeDiff, Nat.not_lt_zero, Nat.zero_le, if_true, if_false, ite_true, ite_false, true_and, and_true, false_and, and_false, true_implies, false_implies, implies_true, not_true_eq_false, not_false_eq_true, eq_self, true_or, or_true, false_or, or_false, and_self, reduceCtorEq, forall_const]
      · simp (disch := omega) only [e3, ik, hx, hz, hv, hr2, hu, ht, f1, hr1, Option.bind_some, o_le, o_leL, o_leR, o_lt, o_ltL, o_ltR, o_eq, o_eqL, o_eqR, o_cl, o_add, o_addL, o_addR, o_mul, o_mulL, o_mulR, o_sub, o_subR, o_0le, o_lt0, o_ixo, n1_eq, n1_eq', n1_lt, n1_le, n1_ge, n1_gt, n2_eq, n2_eq', n2_lt, n2_le, n2_ge, n2_gt, ↓reduceIte, ite_self, Nat.reduceEqDiff, Nat.reduceAdd, Nat.reduceMul, Nat.reduceSub, Nat.reduceLT, Nat.reduceLeDiff, Nat.not_lt_zero, Nat.zero_le, if_true, if_false, ite_true, ite_false, true_and, and_true, false_and, and_false, true_implies, false_implies, implies_true, not_true_eq_false, not_false_eq_true, eq_self, true_or, or_true, false_or, or_false, and_self, reduceCtorEq, forall_const]
    · simp (disch := omega) only [e3, ik, hx, hz, hv, hr2, hu, ht, hy1, Option.bind_some, o_le, o_leL, o_leR, o_lt, o_ltL, o_ltR, o_eq, o_eqL, o_eqR, o_cl, o_add, o_addL, o_addR, o_mul, o_mulL, o_mulR, o_sub, o_subR, o_0le, o_lt0, o_ixo, n1_eq, n1_eq', n1_lt, n1_le, n1_ge, n1_gt, n2_eq, n2_eq', n2_lt, n2_le, n2_ge, n2_gt, ↓reduceIte, ite_self, Nat.reduceEqDiff, Nat.reduceAdd, Nat.reduceMul, Nat.reduceSub, Nat.reduceLT, Nat.reduceLeDiff, Nat.not_lt_zero, Nat.zero_le, if_true, if_false, ite_true, ite_false, true_and, and_true, false_and, and_false, true_implies, false_implies, implies_true, not_true_eq_false, not_false_eq_true, eq_self, true_or, or_true, false_or, or_false, and_self, reduceCtorEq, forall_const]
  · rw [if_neg hy1] at hn
    by_cases hy2 : 0 ≤ y ∧ y ≤ 7
    · by_cases ht : z + 1 ≤ t ∧ t ≤ 12
      · by_cases hr1 : r = -1
        · by_cases hb : b = true
          · exact absurd ⟨hx, Or.inr hy2, hz, hv, by omega, hu, ht.1, ht.2, hr1, hb⟩ hn
          · simp (disch := omega) only [e3, ik, hx, hz, hv, hr2, hu, ht, f1, f2, hr1, hb, hy1, hy2, Option.bind_some, o_le, o_leL, o_leR, o_lt, o_ltL, o_ltR, o_eq, o_eqL, o_eqR, o_cl, o_add, o_addL, o_addR, o_mul, o_mulL, o_mulR, o_sub, o_subR, o_0le, o_lt0, o_ixo, n1_eq, n1_eq', n1_lt, n1_le, n1_ge, n1_gt, n2_eq, n2_eq', n2_lt, n2_le, n2_ge, n2_gt, ↓reduceIte, ite_self, Nat.reduceEqDiff, Nat.reduceAdd, Nat.reduceMul, Nat.reduceSub, Nat.reduceLT, Nat.reduceLeDiff, Nat.not_lt_zero, Nat.zero_le, if_true, if_false, ite_true, ite_false, true_and, and_true, false_and, and_false, true_implies, false_implies, implies_true, not_true_eq_false, not_false_eq_true, eq_self, true_or, or_true, false_or, or_false, and_self, reduceCtorEq, forall_const]
        · simp (disch := omega) only [e3, ik, hx, hz, hv, hr2, hu, ht, f1, hr1, hy1, hy2, Option.bind_some, o_le, o_leL, o_leR, o_lt, o_ltL, o_ltR, o_eq, o_eqL, o_eqR, o_cl, o_add, o_addL, o_addR, o_mul, o_mulL, o_mulR, o_sub, o_subR, o_0le, o_lt0, o_ixo, n1_eq, n1_eq', n1_lt, n1_le, n1_ge, n1_gt, n2_eq, n2_eq', n2_lt, n2_le, n2_ge, n2_gt, ↓reduceIte, ite_self, Nat.reduceEqDiff, Nat.reduceAdd, Nat.reduceMul, Nat.reduceSub, Nat.reduceLT, Nat.reduceLeDiff, Nat.not_lt_zero, Nat.zero_le, if_true, if_false, ite_true, ite_false, true_and, and_true, false_and, and_false, true_implies, false_implies, implies_true, not_true_eq_false, not_false_eq_true, eq_self, true_or, or_true, false_or, or_false, and_self, reduceCtorEq, forall_const]
      · simp (disch := omega) only [e3, ik, hx, hz, hv, hr2, hu, ht, hy1, hy2, Option.bind_some, o_le, o_leL, o_leR, o_lt, o_ltL, o_ltR, o_eq, o_eqL, o_eqR, o_cl, o_add, o_addL, o_addR, o_mul, o_mulL, o_mulR, o_sub, o_subR, o_0le, o_lt0, o_ixo, n1_eq, n1_eq', n1_lt, n1_le, n1_ge, n1_gt, n2_eq, n2_eq', n2_lt, n2_le, n2_ge, n2_gt, ↓reduceIte, ite_self, Nat.reduceEqDiff, Nat.reduceAdd, Nat.reduceMul, Nat.reduceSub, Nat.reduceLT, Nat.reduceLeDiff, Nat.not_lt_zero, Nat.zero_le, if_true, if_false, ite_true, ite_false, true_and, and_true, false_and, and_false, true_implies, false_implies, implies_true, not_true_eq_false, not_false_eq_true, eq_self, true_or, or_true, false_or, or_false, and_self, reduceCtorEq, forall_const]
    · simp (disch := omega) only [ik, hx, hy1, hy2, Option.bind_some, o_le, o_leL, o_leR, o_lt, o_ltL, o_ltR, o_eq, o_eqL, o_eqR, o_cl, o_add, o_addL, o_addR, o_mul, o_mulL, o_mulR, o_sub, o_subR, o_0le, o_lt0, o_ixo, n1_eq, n1_eq', n1_lt, n1_le, n1_ge, n1_gt, n2_eq, n2_eq', n2_lt, n2_le, n2_ge, n2_gt, ↓reduceIte, ite_self, Nat.reduceEqDiff, Nat.reduceAdd, Nat.reduceMul, Nat.reduceSub, Nat.reduceLT, Nat.reduceLeDiff, Nat.not_lt_zero, Nat.zero_le, if_true, if_false, ite_true, ite_false, true_and, and_true, false_and, and_false, true_implies, false_implies, implies_true, not_true_eq_false, not_false_eq_true, eq_self, true_or, or_true, false_or, or_false, and_self, reduceCtorEq, forall_const]
set_option maxRecDepth 20000 in
set_option maxHeartbeats 4000000 in
theorem addRoutine_pos {X : XS} {kc rc c : Nat} (hk : kc ≤ 10) (hr : rc < 24) (e1 : X.1 1 1 = Int32.ofNat kc) (e3 : X.1 1 2 = Int32.ofNat rc) (y z u v t : Int32)
    (hc : c < kc) (f1 : f_Source_ownRoutine (Int32.ofNat c) y X = some (-1)) (f2 : f_Source_agrees y z u v X = some true)
    (hy : y = -2 ∨ ∃ n, n < 8 ∧ y = Int32.ofNat n) (hz : 0 ≤ z ∧ z ≤ 4) (hv : 0 ≤ v ∧ v ≤ 2) (hu : 0 ≤ u ∧ u ≤ ((1 : Int32) <<< ((z : Int32) &&& 31)) - 1) (ht : (if y = -2 then z else z + 1) ≤ t ∧ t ≤ 12) :
    Wo (f_P_method (Int32.ofNat c) y z u v t X) (fun p => ∃ X1 X2 X3, NewR X X1 ∧ X2 = xp (xw (xw (xw (xw (xw (xw X1 (xA X) 0 (Int32.ofNat c)) (xA X) 1 y) (xA X) 2 z) (xA X) 3 u) (xA X) 4 v) (xA X) 5 t) 2 rc (some (xA X)) ∧
      ((y = -2 ∧ X3 = X2) ∨ (∃ n, n < 8 ∧ y = Int32.ofNat n ∧ ((¬ X.1 9 n = -1 ∧ X3 = xw X2 8 (c * 8 + n) (Int32.ofNat rc)) ∨ (X.1 9 n = -1 ∧ X3 = xw (xw X2 8 (c * 8 + n) (Int32.ofNat rc)) 9 n (Int32.ofNat rc))))) ∧
      p = (Int32.ofNat rc, xw X3 1 2 (Int32.ofNat (rc + 1)))) := by
  have ik := isKind_iff hk e1 (Int32.ofNat c)
  have hx : ∃ d, d < kc ∧ Int32.ofNat c = Int32.ofNat d := ⟨c, hc, rfl⟩
  have hr2 : ¬ 24 ≤ rc := by omega
  have hge := xA130 X
  have m1 : ¬ 1 = xA X := by omega
  have m2 : ¬ 9 = xA X := by omega
  have m3 : ¬ 8 = xA X := by omega
  have main : Wo ((f_Routine_init (xA X) (xn X 12 0)).bind fun x23 => (if (xT x23 (xA X) = some (12, 0)) then (lt (xw x23 (xA X) 0 (Int32.ofNat c)) fun X25 => (lt (xw X25 (xA X) 1 y) fun X26 => (lt (xw X26 (xA X) 2 z) fun X27 => (lt (xw X27 (xA X) 3 u) fun X28 => (lt (xw X28 (xA X) 4 v) fun X29 => (lt (xw X29 (xA X) 5 t) fun X30 => (if ixo (X30.1 1 2) 24 then (lt (xp X30 2 (X30.1 1 2).toNatClampNeg (some (xA X))) fun X32 => ((f_Source_enlist (xA X) (X32.1 1 2) X32).bind fun x33 => (lt (xw x33 1 2 ((x33.1 1 2) + 1)) fun X34 => some (x33.1 1 2, X34)))) else none))))))) else none)) (fun p => ∃ X1 X2 X3, NewR X X1 ∧ X2 = xp (xw (xw (xw (xw (xw (xw X1 (xA X) 0 (Int32.ofNat c)) (xA X) 1 y) (xA X) 2 z) (xA X) 3 u) (xA X) 4 v) (xA X) 5 t) 2 rc (some (xA X)) ∧
      ((y = -2 ∧ X3 = X2) ∨ (∃ n, n < 8 ∧ y = Int32.ofNat n ∧ ((¬ X.1 9 n = -1 ∧ X3 = xw X2 8 (c * 8 + n) (Int32.ofNat rc)) ∨ (X.1 9 n = -1 ∧ X3 = xw (xw X2 8 (c * 8 + n) (Int32.ofNat rc)) 9 n (Int32.ofNat rc))))) ∧
      p = (Int32.ofNat rc, xw X3 1 2 (Int32.ofNat (rc + 1)))) := by
    generalize hQ : (fun p : Int32 × XS => ∃ X1 X2 X3, NewR X X1 ∧ X2 = xp (xw (xw (xw (xw (xw (xw X1 (xA X) 0 (Int32.ofNat c)) (xA X) 1 y) (xA X) 2 z) (xA X) 3 u) (xA X) 4 v) (xA X) 5 t) 2 rc (some (xA X)) ∧
      ((y = -2 ∧ X3 = X2) ∨ (∃ n, n < 8 ∧ y = Int32.ofNat n ∧ ((¬ X.1 9 n = -1 ∧ X3 = xw X2 8 (c * 8 + n) (Int32.ofNat rc)) ∨ (X.1 9 n = -1 ∧ X3 = xw (xw X2 8 (c * 8 + n) (Int32.ofNat rc)) 9 n (Int32.ofNat rc))))) ∧
      p = (Int32.ofNat rc, xw X3 1 2 (Int32.ofNat (rc + 1)))) = Q
    rw [W_bind]
    refine Wo.mono (newR_ok X) ?_
    intro X1 h1
    obtain ⟨n1, n2, n3, n4, n5⟩ := h1
    have r1 : xT X1 (xA X) = some (12, 0) := by rw [n4, if_pos rfl]
    have r2 : X1.1 1 2 = Int32.ofNat rc := by rw [n2, if_neg (by omega), e3]
    have r3 : X1.1 1 1 = Int32.ofNat kc := by rw [n2, if_neg (by omega), e1]
    have r4 : ∀ j, X1.1 9 j = X.1 9 j := by intro j; rw [n2, if_neg (by omega)]
    generalize hX2 : xp (xw (xw (xw (xw (xw (xw X1 (xA X) 0 (Int32.ofNat c)) (xA X) 1 y) (xA X) 2 z) (xA X) 3 u) (xA X) 4 v) (xA X) 5 t) 2 rc (some (xA X)) = X2
    have s1 : xT X2 (xA X) = some (12, 0) := by rw [← hX2]; exact r1
    have s2 : X2.1 1 2 = Int32.ofNat rc := by rw [← hX2]; simp (disch := omega) only [xTw, xLw, xAw, xTp, xLp, xAp, xTc, xLc, xAc, xAn, xTn, xLn, xw1, xw2, xp1, xp2, xp3, mw1, mw2, xn1, xn2, xc1, xc2, m1, r2, o_le, o_leL, o_leR, o_lt, o_ltL, o_ltR, o_eq, o_eqL, o_eqR, o_cl, o_add, o_addL, o_addR, o_mul, o_mulL, o_mulR, o_sub, o_subR, o_0le, o_lt0, o_ixo, n1_eq, n1_eq', n1_lt, n1_le, n1_ge, n1_gt, n2_eq, n2_eq', n2_lt, n2_le, n2_ge, n2_gt, ↓reduceIte, ite_self, Nat.reduceEqDiff, Nat.reduceAdd, Nat.reduceMul, Nat.reduceSub, Nat.reduceLT, Nat.reduceLeDiff, Nat.not_lt_zero, Nat.zero_le, if_true, if_false, ite_true, ite_false, true_and, and_true, false_and, and_false, true_implies, false_implies, implies_true, not_true_eq_false, not_false_eq_true, eq_self, true_or, or_true, false_or, or_false, and_self, reduceCtorEq, forall_const]
    have s3 : X2.1 1 1 = Int32.ofNat kc := by rw [← hX2]; simp (disch := omega) only [xTw, xLw, xAw, xTp, xLp, xAp, xTc, xLc, xAc, xAn, xTn, xLn, xw1, xw2, xp1, xp2, xp3, mw1, mw2, xn1, xn2, xc1, xc2, m1, r3, o_le, o_leL, o_leR, o_lt, o_ltL, o_ltR, o_eq, o_eqL, o_eqR, o_cl, o_add, o_addL, o_addR, o_mul, o_mulL, o_mulR, o_sub, o_subR, o_0le, o_lt0, o_ixo, n1_eq, n1_eq', n1_lt, n1_le, n1_ge, n1_gt, n2_eq, n2_eq', n2_lt, n2_le, n2_ge, n2_gt, ↓reduceIte, ite_self, Nat.reduceEqDiff, Nat.reduceAdd, Nat.reduceMul, Nat.reduceSub, Nat.reduceLT, Nat.reduceLeDiff, Nat.not_lt_zero, Nat.zero_le, if_true, if_false, ite_true, ite_false, true_and, and_true, false_and, and_false, true_implies, false_implies, implies_true, not_true_eq_false, not_false_eq_true, eq_self, true_or, or_true, false_or, or_false, and_self, reduceCtorEq, forall_const]
    have s4 : ∀ j, X2.1 9 j = X.1 9 j := by intro j; rw [← hX2]; simp (disch := omega) only [xTw, xLw, xAw, xTp, xLp, xAp, xTc, xLc, xAc, xAn, xTn, xLn, xw1, xw2, xp1, xp2, xp3, mw1, mw2, xn1, xn2, xc1, xc2, m2, r4, o_le, o_leL, o_leR, o_lt, o_ltL, o_ltR, o_eq, o_eqL, o_eqR, o_cl, o_add, o_addL, o_addR, o_mul, o_mulL, o_mulR, o_sub, o_subR, o_0le, o_lt0, o_ixo, n1_eq, n1_eq', n1_lt, n1_le, n1_ge, n1_gt, n2_eq, n2_eq', n2_lt, n2_le, n2_ge, n2_gt, ↓reduceIte, ite_self, Nat.reduceEqDiff, Nat.reduceAdd, Nat.reduceMul, Nat.reduceSub, Nat.reduceLT, Nat.reduceLeDiff, Nat.not_lt_zero, Nat.zero_le, if_true, if_false, ite_true, ite_false, true_and, and_true, false_and, and_false, true_implies, false_implies, implies_true, not_true_eq_false, not_false_eq_true, eq_self, true_or, or_true, false_or, or_false, and_self, reduceCtorEq, forall_const]
    have s5 : X2.1 (xA X) 0 = Int32.ofNat c := by rw [← hX2]; simp (disch := omega) only [xTw, xLw, xAw, xTp, xLp, xAp, xTc, xLc, xAc, xAn, xTn, xLn, xw1, xw2, xp1, xp2, xp3, mw1, mw2, xn1, xn2, xc1, xc2, o_le, o_leL, o_leR, o_lt, o_ltL, o_ltR, o_eq, o_eqL, o_eqR, o_cl, o_add, o_addL, o_addR, o_mul, o_mulL, o_mulR, o_sub, o_subR, o_0le, o_lt0, o_ixo, n1_eq, n1_eq', n1_lt, n1_le, n1_ge, n1_gt, n2_eq, n2_eq', n2_lt, n2_le, n2_ge, n2_gt, ↓reduceIte, ite_self, Nat.reduceEqDiff, Nat.reduceAdd, Nat.reduceMul, Nat.reduceSub, Nat.reduceLT, Nat.reduceLeDiff, Nat.not_lt_zero, Nat.zero_le, if_true, if_false, ite_true, ite_false, true_and, and_true, false_and, and_false, true_implies, false_implies, implies_true, not_true_eq_false, not_false_eq_true, eq_self, true_or, or_true, false_or, or_false, and_self, reduceCtorEq, forall_const]
    have s6 : X2.1 (xA X) 1 = y := by rw [← hX2]; simp (disch := omega) only [xTw, xLw, xAw, xTp, xLp, xAp, xTc, xLc, xAc, xAn, xTn, xLn, xw1, xw2, xp1, xp2, xp3, mw1, mw2, xn1, xn2, xc1, xc2, o_le, o_leL, o_leR, o_lt, o_ltL, o_ltR, o_eq, o_eqL, o_eqR, o_cl, o_add, o_addL, o_addR, o_mul, o_mulL, o_mulR, o_sub, o_subR, o_0le, o_lt0, o_ixo, n1_eq, n1_eq', n1_lt, n1_le, n1_ge, n1_gt, n2_eq, n2_eq', n2_lt, n2_le, n2_ge, n2_gt, ↓reduceIte, ite_self, Nat.reduceEqDiff, Nat.reduceAdd, Nat.reduceMul, Nat.reduceSub, Nat.reduceLT, Nat.reduceLeDiff, Nat.not_lt_zero, Nat.zero_le, if_true, if_false, ite_true, ite_false, true_and, and_true, false_and, and_false, true_implies, false_implies, implies_true, not_true_eq_false, not_false_eq_true, eq_self, true_or, or_true, false_or, or_false, and_self, reduceCtorEq, forall_const]
    simp (disch := omega) only [W_some, W_none, W_bind, W_ite, W_ocz, W_lt, xTw, xLw, xAw, xTp, xLp, xAp, xTc, xLc, xAc, xAn, xTn, xLn, xw1, xw2, xp1, xp2, xp3, mw1, mw2, xn1, xn2, xc1, xc2, r1, r2, m1, hr, hX2, s2, o_le, o_leL, o_leR, o_lt, o_ltL, o_ltR, o_eq, o_eqL, o_eqR, o_cl, o_add, o_addL, o_addR, o_mul, o_mulL, o_mulR, o_sub, o_subR, o_0le, o_lt0, o_ixo, n1_eq, n1_eq', n1_lt, n1_le, n1_ge, n1_gt, n2_eq, n2_eq', n2_lt, n2_le, n2_ge, n2_gt, ↓reduceIte, ite_self, Nat.reduceEqDiff, Nat.reduceAdd, Nat.reduceMul, Nat.reduceSub, Nat.reduceLT, Nat.reduceLeDiff, Nat.not_lt_zero, Nat.zero_le, if_true, if_false, ite_true, ite_false, true_and, and_true, false_and, and_false, true_implies, false_implies, implies_true, not_true_eq_false, not_false_eq_true, eq_self, true_or, or_true, false_or, or_false, and_self, reduceCtorEq, forall_const]
    unfold f_Source_enlist
    have ik2 := isKind_iff hk s3 (Int32.ofNat c)
    rcases hy with hy | ⟨n, hn, hy⟩
    · subst hy
      have q : ¬ ((0 : Int32) ≤ -2 ∧ (-2 : Int32) ≤ 7) := by decide
      simp (disch := omega) only [W_some, W_none, W_bind, W_ite, W_ocz, W_lt, xTw, xLw, xAw, xTp, xLp, xAp, xTc, xLc, xAc, xAn, xTn, xLn, xw1, xw2, xp1, xp2, xp3, mw1, mw2, xn1, xn2, xc1, xc2, s1, s2, s6, q, o_le, o_leL, o_leR, o_lt, o_ltL, o_ltR, o_eq, o_eqL, o_eqR, o_cl, o_add, o_addL, o_addR, o_mul, o_mulL, o_mulR, o_sub, o_subR, o_0le, o_lt0, o_ixo, n1_eq, n1_eq', n1_lt, n1_le, n1_ge, n1_gt, n2_eq, n2_eq', n2_lt, n2_le, n2_ge, n2_gt, ↓reduceIte, ite_self, Nat.reduceEqDiff, Nat.reduceAdd, Nat.reduceMul, Nat.reduceSub, Nat.reduceLT, Nat.reduceLeDiff, Nat.not_lt_zero, Nat.zero_le, if_true, if_false, ite_true, ite_false, true_and, and_true, false_and, and_false, true_implies, false_implies, implies_true, not_true_eq_false, not_false_eq_true, eq_self, true_or, or_true, false_or, or_false, and_self, reduceCtorEq, forall_const]
      rw [← hQ]
      exact ⟨X1, X2, X2, ⟨n1, n2, n3, n4, n5⟩, hX2.symm, Or.inl ⟨rfl, rfl⟩, rfl⟩
    · subst hy
      have q1 : n ≤ 7 := by omega
      have q2 : c * 8 + n < 80 := by omega
      have m4 : ¬ xA X = 8 := by omega
      by_cases h9 : X.1 9 n = -1
      · simp (disch := omega) only [W_some, W_none, W_bind, W_ite, W_ocz, W_lt, xTw, xLw, xAw, xTp, xLp, xAp, xTc, xLc, xAc, xAn, xTn, xLn, xw1, xw2, xp1, xp2, xp3, mw1, mw2, xn1, xn2, xc1, xc2, s1, s2, s4, s5, s6, q1, q2, ik2, hx, m4, hn, h9, o_le, o_leL, o_leR, o_lt, o_ltL, o_ltR, o_eq, o_eqL, o_eqR, o_cl, o_add, o_addL, o_addR, o_mul, o_mulL, o_mulR, o_sub, o_subR, o_0le, o_lt0, o_ixo, n1_eq, n1_eq', n1_lt, n1_le, n1_ge, n1_gt, n2_eq, n2_eq', n2_lt, n2_le, n2_ge, n2_gt, ↓reduceIte, ite_self, Nat.reduceEqDiff, Nat.reduceAdd, Nat.reduceMul, Nat.reduceSub, Nat.reduceLT, Nat.reduceLeDiff, Nat.not_lt_zero, Nat.zero_le, if_true, if_false, ite_true, ite_false, true_and, and_true, false_and, and_false, true_implies, false_implies, implies_true, not_true_eq_false, not_false_eq_true, eq_self, true_or, or_true, false_or, or_false, and_self, reduceCtorEq, forall_const]
        rw [← hQ]
        exact ⟨X1, X2, _, ⟨n1, n2, n3, n4, n5⟩, hX2.symm, Or.inr ⟨n, hn, rfl, Or.inr ⟨h9, rfl⟩⟩, rfl⟩
      · simp (disch := omega) only [W_some, W_none, W_bind, W_ite, W_ocz, W_lt, xTw, xLw, xAw, xTp, xLp, xAp, xTc, xLc, xAc, xAn, xTn, xLn, xw1, xw2, xp1, xp2, xp3, mw1, mw2, xn1, xn2, xc1, xc2, s1, s2, s4, s5, s6, q1, q2, ik2, hx, m4, hn, h9, o_le, o_leL, o_leR, o_lt, o_ltL, o_ltR, o_eq, o_eqL, o_eqR, o_cl, o_add, o_addL, o_addR, o_mul, o_mulL, o_mulR, o_sub, o_subR, o_0le, o_lt0, o_ixo, n1_eq, n1_eq', n1_lt, n1_le, n1_ge, n1_gt, n2_eq, n2_eq', n2_lt, n2_le, n2_ge, n2_gt, ↓reduceIte, ite_self, Nat.reduceEqDiff, Nat.reduceAdd, Nat.reduceMul, Nat.reduceSub, Nat.reduceLT, Nat.reduceLeDiff, Nat.not_lt_zero, Nat.zero_le, if_true, if_false, ite_true, ite_false, true_and, and_true, false_and, and_false, true_implies, false_implies, implies_true, not_true_eq_false, not_false_eq_true, eq_self, true_or, or_true, false_or, or_false, and_self, reduceCtorEq, forall_const]
        rw [← hQ]
        exact ⟨X1, X2, _, ⟨n1, n2, n3, n4, n5⟩, hX2.symm, Or.inr ⟨n, hn, rfl, Or.inl ⟨h9, rfl⟩⟩, rfl⟩
  have mainQ := main
  generalize (fun p : Int32 × XS => ∃ X1 X2 X3, NewR X X1 ∧ X2 = xp (xw (xw (xw (xw (xw (xw X1 (xA X) 0 (Int32.ofNat c)) (xA X) 1 y) (xA X) 2 z) (xA X) 3 u) (xA X) 4 v) (xA X) 5 t) 2 rc (some (xA X)) ∧
      ((y = -2 ∧ X3 = X2) ∨ (∃ n, n < 8 ∧ y = Int32.ofNat n ∧ ((¬ X.1 9 n = -1 ∧ X3 = xw X2 8 (c * 8 + n) (Int32.ofNat rc)) ∨ (X.1 9 n = -1 ∧ X3 = xw (xw X2 8 (c * 8 + n) (Int32.ofNat rc)) 9 n (Int32.ofNat rc))))) ∧
      p = (Int32.ofNat rc, xw X3 1 2 (Int32.ofNat (rc + 1)))) = Q at mainQ ⊢
  clear main
  have t0 : xT (xn X 12 0) (xA X) = some (12, 0) := by rw [xTn, if_pos rfl]
  unfold f_P_method f_Source_addRoutine
  rw [W_bind]
  rw [if_pos (ik.mpr hx)]
  have fin : Wo ((f_Source_ownRoutine (Int32.ofNat c) y X).bind fun x16 => (if ¬ x16 = (-1) then some ((-1), X) else ((f_Source_agrees y z u v X).bind fun x18 => (if x18 = true then (lt (xn X 12 0) fun X21 => (if (xT X21 (xA X) = some (12, 0)) then ((f_Routine_init (xA X) X21).bind fun x23 => (if (xT x23 (xA X) = some (12, 0)) then (lt (xw x23 (xA X) 0 (Int32.ofNat c)) fun X25 => (lt (xw X25 (xA X) 1 y) fun X26 => (lt (xw X26 (xA X) 2 z) fun X27 => (lt (xw X27 (xA X) 3 u) fun X28 => (lt (xw X28 (xA X) 4 v) fun X29 => (lt (xw X29 (xA X) 5 t) fun X30 => (if ixo (X30.1 1 2) 24 then (lt (xp X30 2 (X30.1 1 2).toNatClampNeg (some (xA X))) fun X32 => ((f_Source_enlist (xA X) (X32.1 1 2) X32).bind fun x33 => (lt (xw x33 1 2 ((x33.1 1 2) + 1)) fun X34 => some (x33.1 1 2, X34)))) else none))))))) else none)) else none)) else some ((-1), X))))) (fun a => Wo (some (a.1, a.2)) Q) := by
    rw [f1, f2]
    show Wo (if xT (xn X 12 0) (xA X) = some (12, 0) then _ else none) _
    rw [if_pos t0]
    exact Wo.mono mainQ (fun a h => W_some.mpr h)
  have c24 : ¬ 24 ≤ X.1 1 2 := by simp (disch := omega) only [e3, o_le, o_leL, o_leR, o_lt, o_ltL, o_ltR, o_eq, o_eqL, o_eqR, o_cl, o_add, o_addL, o_addR, o_mul, o_mulL, o_mulR, o_sub, o_subR, o_0le, o_lt0, o_ixo, n1_eq, n1_eq', n1_lt, n1_le, n1_ge, n1_gt, n2_eq, n2_eq', n2_lt, n2_le, n2_ge, n2_gt, ↓reduceIte, ite_self, Nat.reduceEqDiff, Nat.reduceAdd, Nat.reduceMul, Nat.reduceSub, Nat.reduceLT, Nat.reduceLeDiff, Nat.not_lt_zero, Nat.zero_le, if_true, if_false, ite_true, ite_false, true_and, and_true, false_and, and_false, true_implies, false_implies, implies_true, not_true_eq_false, not_false_eq_true, eq_self, true_or, or_true, false_or, or_false, and_self, reduceCtorEq, forall_const]; exact hr2
  rcases hy with hy | ⟨n, hn, hy⟩
  · rw [if_pos hy] at ht
    rw [if_pos hy, if_pos hz, if_pos hv, if_neg c24, if_pos hu, if_pos ht]
    exact fin
  · have h7 : n ≤ 7 := by omega
    have hy1 : ¬ y = -2 := by subst hy; rw [n2_eq n (by omega)]; exact not_false
    have hy2 : 0 ≤ y ∧ y ≤ 7 := by subst hy; simp (disch := omega) only [h7, o_le, o_leL, o_leR, o_lt, o_ltL, o_ltR, o_eq, o_eqL, o_eqR, o_cl, o_add, o_addL, o_addR, o_mul, o_mulL, o_mulR, o_sub, o_subR, o_0le, o_lt0, o_ixo, n1_eq, n1_eq', n1_lt, n1_le, n1_ge, n1_gt, n2_eq, n2_eq', n2_lt, n2_le, n2_ge, n2_gt, ↓reduceIte, ite_self, Nat.reduceEqDiff, Nat.reduceAdd, Nat.reduceMul, Nat.reduceSub, Nat.reduceLT, Nat.reduceLeDiff, Nat.not_lt_zero, Nat.zero_le, if_true, if_false, ite_true, ite_false, true_and, and_true, false_and, and_false, true_implies, false_implies, implies_true, not_true_eq_false, not_false_eq_true, eq_self, true_or, or_true, false_or, or_false, and_self, reduceCtorEq, forall_const]
    rw [if_neg hy1] at ht
    rw [if_neg hy1, if_pos hy2, if_pos hz, if_pos hv, if_neg c24, if_pos hu, if_pos ht]
    exact fin
set_option maxRecDepth 20000 in
set_option maxHeartbeats 4000000 in
theorem methodM_sym {M : MS} {kc rc : Nat} (hk : kc ≤ 10) (hr : rc ≤ 24) (e2 : M.1 60 3 = Int32.ofNat kc) (e4 : M.1 60 15 = Int32.ofNat rc) (x y z u v t : Int32) :
    (((∃ c, c < kc ∧ x = Int32.ofNat c) ∧ (y = -2 ∨ 0 ≤ y ∧ y ≤ 7) ∧ (0 ≤ z ∧ z ≤ 4) ∧ (0 ≤ v ∧ v ≤ 2) ∧ rc < 24 ∧ (0 ≤ u ∧ u ≤ ((1 : Int32) <<< ((z : Int32) &&& 31)) - 1) ∧ (if y = -2 then z else z + 1) ≤ t ∧ t ≤ 12 ∧ ∀ j, j < rc → ¬ Clash M x y z u v j) →
      f_M_method x y z u v t M = some (Int32.ofNat rc, mw (mw (mw (mw (mw (mw (mw (mw (mw M 64 rc x) 65 rc y) 66 rc z) 67 rc u) 68 rc v) 69 rc t) 70 rc 0) 73 rc 0) 60 15 (Int32.ofNat (rc + 1)))) ∧
    (¬ ((∃ c, c < kc ∧ x = Int32.ofNat c) ∧ (y = -2 ∨ 0 ≤ y ∧ y ≤ 7) ∧ (0 ≤ z ∧ z ≤ 4) ∧ (0 ≤ v ∧ v ≤ 2) ∧ rc < 24 ∧ (0 ≤ u ∧ u ≤ ((1 : Int32) <<< ((z : Int32) &&& 31)) - 1) ∧ (if y = -2 then z else z + 1) ≤ t ∧ t ≤ 12 ∧ ∀ j, j < rc → ¬ Clash M x y z u v j) →
      f_M_method x y z u v t M = some (-1, M)) := by
  have mx := le1_iff (kc := kc) (by omega) x
  unfold f_M_method
  by_cases hx : ∃ c, c < kc ∧ x = Int32.ofNat c
  case neg =>
    refine ⟨fun h => absurd h.1 hx, fun _ => ?_⟩
    simp (disch := omega) only [e2, mx, hx, o_le, o_leL, o_leR, o_lt, o_ltL, o_ltR, o_eq, o_eqL, o_eqR, o_cl, o_add, o_addL, o_addR, o_mul, o_mulL, o_mulR, o_sub, o_subR, o_0le, o_lt0, o_ixo, n1_eq, n1_eq', n1_lt, n1_le, n1_ge, n1_gt, n2_eq, n2_eq', n2_lt, n2_le, n2_ge, n2_gt, ↓reduceIte, ite_self, Nat.reduceEqDiff, Nat.reduceAdd, Nat.reduceMul, Nat.reduceSub, Nat.reduceLT, Nat.reduceLeDiff, Nat.not_lt_zero, Nat.zero_le, if_true, if_false, ite_true, ite_false, true_and, and_true, false_and, and_false, true_implies, false_implies, implies_true, not_true_eq_false, not_false_eq_true, eq_self, true_or, or_true, false_or, or_false, and_self, reduceCtorEq, forall_const]
  by_cases hz : 0 ≤ z ∧ z ≤ 4
  case neg =>
    refine ⟨fun h => absurd h.2.2.1 hz, fun _ => ?_⟩
    simp (disch := omega) only [e2, mx, hx, hz, ite_self, o_le, o_leL, o_leR, o_lt, o_ltL, o_ltR, o_eq, o_eqL, o_eqR, o_cl, o_add, o_addL, o_addR, o_mul, o_mulL, o_mulR, o_sub, o_subR, o_0le, o_lt0, o_ixo, n1_eq, n1_eq', n1_lt, n1_le, n1_ge, n1_gt, n2_eq, n2_eq', n2_lt, n2_le, n2_ge, n2_gt, ↓reduceIte, ite_self, Nat.reduceEqDiff, Nat.reduceAdd, Nat.reduceMul, Nat.reduceSub, Nat.reduceLT, Nat.reduceLeDiff, Nat.not_lt_zero, Nat.zero_le, if_true, if_false, ite_true, ite_false, true_and, and_true, false_and, and_false, true_implies, false_implies, implies_true, not_true_eq_false, not_false_eq_true, eq_self, true_or, or_true, false_or, or_false, and_self, reduceCtorEq, forall_const]
  by_cases hv : 0 ≤ v ∧ v ≤ 2
  case neg =>
    refine ⟨fun h => absurd h.2.2.2.1 hv, fun _ => ?_⟩
    simp (disch := omega) only [e2, mx, hx, hz, hv, ite_self, o_le, o_leL, o_leR, o_lt, o_ltL, o_ltR, o_eq, o_eqL, o_eqR, o_cl, o_add, o_addL, o_addR, o_mul, o_mulL, o_mulR, o_sub, o_subR, o_0le, o_lt0, o_ixo, n1_eq, n1_eq', n1_lt, n1_le, n1_ge, n1_gt, n2_eq, n2_eq', n2_lt, n2_le, n2_ge, n2_gt, ↓reduceIte, ite_self, Nat.reduceEqDiff, Nat.reduceAdd, Nat.reduceMul, Nat.reduceSub, Nat.reduceLT, Nat.reduceLeDiff, Nat.not_lt_zero, Nat.zero_le, if_true, if_false, ite_true, ite_false, true_and, and_true, false_and, and_false, true_implies, false_implies, implies_true, not_true_eq_false, not_false_eq_true, eq_self, true_or, or_true, false_or, or_false, and_self, reduceCtorEq, forall_const]
  by_cases h24 : rc = 24
  · refine ⟨fun h => absurd h.2.2.2.2.1 (by omega), fun _ => ?_⟩
    subst h24
    simp (disch := omega) only [e2, e4, mx, hx, hz, hv, ite_self, o_le, o_leL, o_leR, o_lt, o_ltL, o_ltR, o_eq, o_eqL, o_eqR, o_cl, o_add, o_addL, o_addR, o_mul, o_mulL, o_mulR, o_sub, o_subR, o_0le, o_lt0, o_ixo, n1_eq, n1_eq', n1_lt, n1_le, n1_ge, n1_gt, n2_eq, n2_eq', n2_lt, n2_le, n2_ge, n2_gt, ↓reduceIte, ite_self, Nat.reduceEqDiff, Nat.reduceAdd, Nat.reduceMul, Nat.reduceSub, Nat.reduceLT, Nat.reduceLeDiff, Nat.not_lt_zero, Nat.zero_le, if_true, if_false, ite_true, ite_false, true_and, and_true, false_and, and_false, true_implies, false_implies, implies_true, not_true_eq_false, not_false_eq_true, eq_self, true_or, or_true, false_or, or_false, and_self, reduceCtorEq, forall_const]
  have hr' : rc < 24 := by omega
  obtain ⟨su, w, w0, w1, ew⟩ := shl_le (u := u) hz.1 hz.2
  by_cases hu : 0 ≤ u ∧ u ≤ ((1 : Int32) <<< ((z : Int32) &&& 31)) - 1
  case neg =>
    refine ⟨fun h => absurd h.2.2.2.2.2.1 hu, fun _ => ?_⟩
    have hu' := hu
    rw [su] at hu'
    by_cases q : u < 0
    · simp (disch := omega) only [e2, e4, mx, hx, hz, hv, hr', h24, q, ite_self, o_le, o_leL, o_leR, o_lt, o_ltL, o_ltR, o_eq, o_eqL, o_eqR, o_cl, o_add, o_addL, o_addR, o_mul, o_mulL, o_mulR, o_sub, o_subR, o_0le, o_lt0, o_ixo, n1_eq, n1_eq', n1_lt, n1_le, n1_ge, n1_gt, n2_eq, n2_eq', n2_lt, n2_le, n2_ge, n2_gt, ↓reduceIte, ite_self, Nat.reduceEqDiff, Nat.reduceAdd, Nat.reduceMul, Nat.reduceSub, Nat.reduceLT, Nat.reduceLeDiff, Nat.not_lt_zero, Nat.zero_le, if_true, if_false, ite_true, ite_false, true_and, and_true, false_and, and_false, true_implies, false_implies, implies_true, not_true_eq_false, not_false_eq_true, eq_self, true_or, or_true, false_or, or_false, and_self, reduceCtorEq, forall_const]
    · have q2 : (1 : Int32) <<< ((z : Int32) &&& 31) ≤ u := Classical.byContradiction (fun h => hu' ⟨q, h⟩)
      simp (disch := omega) only [e2, e4, mx, hx, hz, hv, hr', h24, q, q2, ite_self, o_le, o_leL, o_leR, o_lt, o_ltL, o_ltR, o_eq, o_eqL, o_eqR, o_cl, o_add, o_addL, o_addR, o_mul, o_mulL, o_mulR, o_sub, o_subR, o_0le, o_lt0, o_ixo, n1_eq, n1_eq', n1_lt, n1_le, n1_ge, n1_gt, n2_eq, n2_eq', n2_lt, n2_le, n2_ge, n2_gt, ↓reduceIte, ite_self, Nat.reduceEqDiff, Nat.reduceAdd, Nat.reduceMul, Nat.reduceSub, Nat.reduceLT, Nat.reduceLeDiff, Nat.not_lt_zero, Nat.zero_le, if_true, if_false, ite_true, ite_false, true_and, and_true, false_and, and_false, true_implies, false_implies, implies_true, not_true_eq_false, not_false_eq_true, eq_self, true_or, or_true, false_or, or_false, and_self, reduceCtorEq, forall_const]
  have u12 := hu
  rw [su] at u12
  obtain ⟨u1, u2⟩ := u12
  obtain ⟨kz, hkz, ez⟩ := toNle (n := 4) (by omega) hz.1 hz.2
  have z0 : z + 0 = z := Int32.add_zero z
  by_cases hy : y = -2 ∨ 0 ≤ y ∧ y ≤ 7
  case neg =>
    refine ⟨fun h => absurd h.2.1 hy, fun _ => ?_⟩
    have hy1 : ¬ y = -2 := fun h => hy (Or.inl h)
    have hy2 : ¬ (0 ≤ y ∧ y ≤ 7) := fun h => hy (Or.inr h)
    simp (disch := omega) only [e2, mx, hx, hy1, hy2, o_le, o_leL, o_leR, o_lt, o_ltL, o_ltR, o_eq, o_eqL, o_eqR, o_cl, o_add, o_addL, o_addR, o_mul, o_mulL, o_mulR, o_sub, o_subR, o_0le, o_lt0, o_ixo, n1_eq, n1_eq', n1_lt, n1_le, n1_ge, n1_gt, n2_eq, n2_eq', n2_lt, n2_le, n2_ge, n2_gt, ↓reduceIte, ite_self, Nat.reduceEqDiff, Nat.reduceAdd, Nat.reduceMul, Nat.reduceSub, Nat.reduceLT, Nat.reduceLeDiff, Nat.not_lt_zero, Nat.zero_le, if_true, if_false, ite_true, ite_false, true_and, and_true, false_and, and_false, true_implies, false_implies, implies_true, not_true_eq_false, not_false_eq_true, eq_self, true_or, or_true, false_or, or_false, and_self, reduceCtorEq, forall_const]
  by_cases ht : (if y = -2 then z else z + 1) ≤ t ∧ t ≤ 12
  case neg =>
    refine ⟨fun h => absurd ⟨h.2.2.2.2.2.2.1, h.2.2.2.2.2.2.2.1⟩ ht, fun _ => ?_⟩
    by_cases q : 0 ≤ t ∧ t ≤ 12
    · have ht1 : ¬ (if y = -2 then z else z + 1) ≤ t := fun h => ht ⟨h, q.2⟩
      by_cases hy1 : y = -2
      · rw [if_pos hy1] at ht1
        simp (disch := omega) only [e2, e4, mx, hx, hz, hv, hr', h24, u1, u2, hy1, q, z0, ht1, o_le, o_leL, o_leR, o_lt, o_ltL, o_ltR, o_eq, o_eqL, o_eqR, o_cl, o_add, o_addL, o_addR, o_mul, o_mulL, o_mulR, o_sub, o_subR, o_0le, o_lt0, o_ixo, n1_eq, n1_eq', n1_lt, n1_le, n1_ge, n1_gt, n2_eq, n2_eq', n2_lt, n2_le, n2_ge, n2_gt, ↓reduceIte, ite_self, Nat.reduceEqDiff, Nat.reduceAdd, Nat.reduceMul, Nat.reduceSub, Nat.reduceLT, Nat.reduceLeDiff, Nat.not_lt_zero, Nat.zero_le, if_true, if_false, ite_true, ite_false, true_and, and_true, false_and, and_false, true_implies, false_implies, implies_true, not_true_eq_false, not_false_eq_true, eq_self, true_or, or_true, false_or, or_false, and_self, reduceCtorEq, forall_const]
      · rw [if_neg hy1] at ht1
        have hy2 := hy.resolve_left hy1
        simp (disch := omega) only [e2, e4, mx, hx, hz, hv, hr', h24, u1, u2, hy1, hy2, q, ht1, o_le, o_leL, o_leR, o_lt, o_ltL, o_ltR, o_eq, o_eqL, o_eqR, o_cl, o_add, o_addL, o_addR, o_mul, o_mulL, o_mulR, o_sub, o_subR, o_0le, o_lt0, o_ixo, n1_eq, n1_eq', n1_lt, n1_le, n1_ge, n1_gt, n2_eq, n2_eq', n2_lt, n2_le, n2_ge, n2_gt, ↓reduceIte, ite_self, Nat.reduceEqDiff, Nat.reduceAdd, Nat.reduceMul, Nat.reduceSub, Nat.reduceLT, Nat.reduceLeDiff, Nat.not_lt_zero, Nat.zero_le, if_true, if_false, ite_true, ite_false, true_and, and_true, false_and, and_false, true_implies, false_implies, implies_true, not_true_eq_false, not_false_eq_true, eq_self, true_or, or_true, false_or, or_false, and_self, reduceCtorEq, forall_const]
    · simp (disch := omega) only [e2, e4, mx, hx, hz, hv, q, ite_self, o_le, o_leL, o_leR, o_lt, o_ltL, o_ltR, o_eq, o_eqL, o_eqR, o_cl, o_add, o_addL, o_addR, o_mul, o_mulL, o_mulR, o_sub, o_subR, o_0le, o_lt0, o_ixo, n1_eq, n1_eq', n1_lt, n1_le, n1_ge, n1_gt, n2_eq, n2_eq', n2_lt, n2_le, n2_ge, n2_gt, ↓reduceIte, ite_self, Nat.reduceEqDiff, Nat.reduceAdd, Nat.reduceMul, Nat.reduceSub, Nat.reduceLT, Nat.reduceLeDiff, Nat.not_lt_zero, Nat.zero_le, if_true, if_false, ite_true, ite_false, true_and, and_true, false_and, and_false, true_implies, false_implies, implies_true, not_true_eq_false, not_false_eq_true, eq_self, true_or, or_true, false_or, or_false, and_self, reduceCtorEq, forall_const]
  have t0 : 0 ≤ t ∧ t ≤ 12 := by
    refine ⟨?_, ht.2⟩
    by_cases hy1 : y = -2
    · rw [if_pos hy1] at ht
      exact Int32.le_trans hz.1 ht.1
    · rw [if_neg hy1] at ht
      refine Int32.le_trans ?_ ht.1
      subst ez
      simp (disch := omega) only [o_le, o_leL, o_leR, o_lt, o_ltL, o_ltR, o_eq, o_eqL, o_eqR, o_cl, o_add, o_addL, o_addR, o_mul, o_mulL, o_mulR, o_sub, o_subR, o_0le, o_lt0, o_ixo, n1_eq, n1_eq', n1_lt, n1_le, n1_ge, n1_gt, n2_eq, n2_eq', n2_lt, n2_le, n2_ge, n2_gt, ↓reduceIte, ite_self, Nat.reduceEqDiff, Nat.reduceAdd, Nat.reduceMul, Nat.reduceSub, Nat.reduceLT, Nat.reduceLeDiff, Nat.not_lt_zero, Nat.zero_le, if_true, if_false, ite_true, ite_false, true_and, and_true, false_and, and_false, true_implies, false_implies, implies_true, not_true_eq_false, not_false_eq_true, eq_self, true_or, or_true, false_or, or_false, and_self, reduceCtorEq, forall_const]
  have key : ¬ y = -2 → ∀ (f : Int32 → Option (Int32 × MS)), (∀ i, f i = some (Int32.ofNat rc, mw (mw (mw (mw (mw (mw (mw (mw (mw M 64 rc x) 65 rc y) 66 rc z) 67 rc u) 68 rc v) 69 rc t) 70 rc 0) 73 rc 0) 60 15 (Int32.ofNat (rc + 1)))) → ((∀ j, j < rc → ¬ Clash M x y z u v j) → ((lp (b117_M_method' x y z u v M) 10000 (0 : Int32)).bind fun s => sb s f) = some (Int32.ofNat rc, mw (mw (mw (mw (mw (mw (mw (mw (mw M 64 rc x) 65 rc y) 66 rc z) 67 rc u) 68 rc v) 69 rc t) 70 rc 0) 73 rc 0) 60 15 (Int32.ofNat (rc + 1)))) ∧ ((¬ ∀ j, j < rc → ¬ Clash M x y z u v j) → ((lp (b117_M_method' x y z u v M) 10000 (0 : Int32)).bind fun s => sb s f) = some (-1, M)) := by
    intro hy f hf
    obtain ⟨s, ws, hs⟩ := method_loop (x := x) (y := y) (z := z) (u := u) (v := v) hr e4 hy
    rw [ws]
    rcases hs with ⟨rfl, j, hj, hc⟩ | ⟨⟨i, rfl⟩, hn⟩
    · exact ⟨fun h => absurd hc (h j hj), fun _ => rfl⟩
    · exact ⟨fun _ => hf i, fun h => absurd hn h⟩
  have key0 : ∀ (f : Int32 → Option (Int32 × MS)), (∀ i, f i = some (Int32.ofNat rc, mw (mw (mw (mw (mw (mw (mw (mw (mw M 64 rc x) 65 rc y) 66 rc z) 67 rc u) 68 rc v) 69 rc t) 70 rc 0) 73 rc 0) 60 15 (Int32.ofNat (rc + 1)))) → ((lp (b117_M_method M) 10000 (0 : Int32)).bind fun s => sb s f) = some (Int32.ofNat rc, mw (mw (mw (mw (mw (mw (mw (mw (mw M 64 rc x) 65 rc y) 66 rc z) 67 rc u) 68 rc v) 69 rc t) 70 rc 0) 73 rc 0) 60 15 (Int32.ofNat (rc + 1))) := by
    intro f hf
    obtain ⟨s, ws, i, rfl⟩ := method_loop0 hr e4
    rw [ws]
    exact hf i
  have rest : ∀ i : Int32, (if ixo (M.1 60 15) 24 then (lt (mw M 64 (M.1 60 15).toNatClampNeg x) fun M27 => (if ixo (M27.1 60 15) 24 then (lt (mw M27 65 (M27.1 60 15).toNatClampNeg y) fun M29 => (if ixo (M29.1 60 15) 24 then (lt (mw M29 66 (M29.1 60 15).toNatClampNeg z) fun M31 => (if ixo (M31.1 60 15) 24 then (lt (mw M31 67 (M31.1 60 15).toNatClampNeg u) fun M33 => (if ixo (M33.1 60 15) 24 then (lt (mw M33 68 (M33.1 60 15).toNatClampNeg v) fun M35 => (if ixo (M35.1 60 15) 24 then (lt (mw M35 69 (M35.1 60 15).toNatClampNeg t) fun M37 => (if ixo (M37.1 60 15) 24 then (lt (mw M37 70 (M37.1 60 15).toNatClampNeg 0) fun M39 => (if ixo (M39.1 60 15) 24 then (lt (mw M39 73 (M39.1 60 15).toNatClampNeg 0) fun M41 => (lt (mw M41 60 15 ((M41.1 60 15) + 1)) fun M42 => some ((M42.1 60 15) - 1, M42))) else none)) else none)) else none)) else none)) else none)) else none)) else none)) else none) = some (Int32.ofNat rc, mw (mw (mw (mw (mw (mw (mw (mw (mw M 64 rc x) 65 rc y) 66 rc z) 67 rc u) 68 rc v) 69 rc t) 70 rc 0) 73 rc 0) 60 15 (Int32.ofNat (rc + 1))) := by
    intro i
    simp (disch := omega) only [lt, e4, xTw, xLw, xAw, xTp, xLp, xAp, xTc, xLc, xAc, xAn, xTn, xLn, xw1, xw2, xp1, xp2, xp3, mw1, mw2, xn1, xn2, xc1, xc2, hr', Nat.add_sub_cancel, o_le, o_leL, o_leR, o_lt, o_ltL, o_ltR, o_eq, o_eqL, o_eqR, o_cl, o_add, o_addL, o_addR, o_mul, o_mulL, o_mulR, o_sub, o_subR, o_0le, o_lt0, o_ixo, n1_eq, n1_eq', n1_lt, n1_le, n1_ge, n1_gt, n2_eq, n2_eq', n2_lt, n2_le, n2_ge, n2_gt, ↓reduceIte, ite_self, Nat.reduceEqDiff, Nat.reduceAdd, Nat.reduceMul, Nat.reduceSub, Nat.reduceLT, Nat.reduceLeDiff, Nat.not_lt_zero, Nat.zero_le, if_true, if_false, ite_true, ite_false, true_and, and_true, false_and, and_false, true_implies, false_implies, implies_true, not_true_eq_false, not_false_eq_true, eq_self, true_or, or_true, false_or, or_false, and_self, reduceCtorEq, forall_const]
  have kk0 := key0 _ rest
  have fin : (if 0 ≤ t ∧ t ≤ 12 then True else False) := by rw [if_pos t0]; trivial
  have c24 : ¬ M.1 60 15 = 24 := by simp (disch := omega) only [e4, o_le, o_leL, o_leR, o_lt, o_ltL, o_ltR, o_eq, o_eqL, o_eqR, o_cl, o_add, o_addL, o_addR, o_mul, o_mulL, o_mulR, o_sub, o_subR, o_0le, o_lt0, o_ixo, n1_eq, n1_eq', n1_lt, n1_le, n1_ge, n1_gt, n2_eq, n2_eq', n2_lt, n2_le, n2_ge, n2_gt, ↓reduceIte, ite_self, Nat.reduceEqDiff, Nat.reduceAdd, Nat.reduceMul, Nat.reduceSub, Nat.reduceLT, Nat.reduceLeDiff, Nat.not_lt_zero, Nat.zero_le, if_true, if_false, ite_true, ite_false, true_and, and_true, false_and, and_false, true_implies, false_implies, implies_true, not_true_eq_false, not_false_eq_true, eq_self, true_or, or_true, false_or, or_false, and_self, reduceCtorEq, forall_const]; exact h24
  have cx : 0 ≤ x ∧ x ≤ (M.1 60 3) - 1 := by rw [e2, mx]; exact hx
  by_cases hy1 : y = -2
  · have hn : ¬ ¬ y = -2 := fun h => h hy1
    rw [if_pos hy1] at ht
    have ht' : z + 0 ≤ t := by rw [z0]; exact ht.1
    have all : ∀ j, j < rc → ¬ Clash M x y z u v j := fun j _ h => h.1 hy1
    refine ⟨fun h => ?_, fun h => absurd ⟨hx, hy, hz, hv, hr', hu, by rw [if_pos hy1]; exact ht.1, ht.2, all⟩ h⟩
    rw [if_pos cx, if_pos hy1, if_pos hz, if_pos hv, if_pos t0, if_neg c24, if_neg u1, if_neg u2, if_pos ht']
    exact kk0
  · have hy2 := hy.resolve_left hy1
    have kk := key hy1 _ rest
    rw [if_neg hy1] at ht
    refine ⟨fun h => ?_, fun h => ?_⟩
    · rw [if_pos cx, if_neg hy1, if_pos hy2, if_pos hz, if_pos hv, if_pos t0, if_neg c24, if_neg u1, if_neg u2, if_pos ht.1]
      exact kk.1 h.2.2.2.2.2.2.2.2
    · rw [if_pos cx, if_neg hy1, if_pos hy2, if_pos hz, if_pos hv, if_pos t0, if_neg c24, if_neg u1, if_neg u2, if_pos ht.1]
      exact kk.2 (fun h2 => h ⟨hx, hy, hz, hv, hr', hu, by rw [if_neg hy1]; exact ht.1, ht.2, h2⟩)
