/-! I3 -/
/-- the sum of all bytes but two -/
def sumB (g : Nat → Int32) : Nat → Int32
  | 0 => 0
  | n + 1 => sumB g n + (if n = 7 ∨ n = 8 then 0 else g n)
set_option maxRecDepth 20000 in
set_option maxHeartbeats 4000000 in
theorem sumB_congr {g g' : Nat → Int32} : ∀ n, (∀ j, j < n → g j = g' j) → sumB g n = sumB g' n
  | 0, _ => rfl
  | n + 1, h => by
    unfold sumB
    rw [sumB_congr n (fun j hj => h j (by omega)), h n (by omega)]
set_option maxRecDepth 20000 in
set_option maxHeartbeats 4000000 in
theorem sum_35 {X : XS} {T : Nat → Nat} {n b L : Nat} (h : IMG 35 2 X T n b L) (hn : n ≤ 6000) : f_Image_sum_35 X = some (sumB (X.1 b) n &&& 65535) := by
  have w : Wo (lp (b4_Image_sum_35 X) 10000 ((0 : Int32), (0 : Int32))) (fun r => r.1 = sumB (X.1 b) n) := by
    refine W_lp (fun s => ∃ k, k ≤ n ∧ s = (sumB (X.1 b) k, Int32.ofNat k)) (fun s => n - s.2.toNatClampNeg) ?_ 10000 _ ⟨0, Nat.zero_le _, rfl⟩ (by show n - 0 < 10000; omega)
    intro s ⟨k, hk, e⟩
    subst e
    unfold b4_Image_sum_35
    by_cases hl : k < n
    · obtain ⟨h1, h2, h3, h4, h5, h6⟩ := at_of h k hl
      have q : ¬ n ≤ k := by omega
      have st : sumB (X.1 b) (k + 1) = sumB (X.1 b) k + (if k = 7 ∨ k = 8 then 0 else X.1 b k) := rfl
      have lt' : n - (k + 1) < n - k := by omega
      by_cases e7 : k = 7
      · subst e7
        simp (disch := omega) only [W_some, W_none, W_bind, W_ite, W_ocz, W_lt, h1, h2, h3, h4, h5, q, o_le, o_leL, o_leR, o_lt, o_ltL, o_ltR, o_eq, o_eqL, o_eqR, o_cl, o_add, o_addL, o_addR, o_mul, o_mulL, o_mulR, o_sub, o_subR, o_0le, o_lt0, o_ixo, n1_eq, n1_eq', n1_lt, n1_le, n1_ge, n1_gt, n2_eq, n2_eq', n2_lt, n2_le, n2_ge, n2_gt, ↓reduceIte, ite_self, Nat.reduceEqDiff, Nat.reduceAdd, Nat.reduceMul, Nat.reduceSub, Nat.reduceLT, Nat.reduceLeDiff, Nat.not_lt_zero, Nat.zero_le, if_true, if_false, ite_true, ite_false, true_and, and_true, false_and, and_false, true_implies, false_implies, implies_true, not_true_eq_false, not_false_eq_true, eq_self, true_or, or_true, false_or, or_false, and_self, reduceCtorEq, forall_const]
        exact ⟨⟨8, by omega, by rw [st]; rfl⟩, by omega⟩
      · by_cases e8 : k = 8
        · subst e8
          simp (disch := omega) only [W_some, W_none, W_bind, W_ite, W_ocz, W_lt, h1, h2, h3, h4, h5, q, o_le, o_leL, o_leR, o_lt, o_ltL, o_ltR, o_eq, o_eqL, o_eqR, o_cl, o_add, o_addL, o_addR, o_mul, o_mulL, o_mulR, o_sub, o_subR, o_0le, o_lt0, o_ixo, n1_eq, n1_eq', n1_lt, n1_le, n1_ge, n1_gt, n2_eq, n2_eq', n2_lt, n2_le, n2_ge, n2_gt, ↓reduceIte, ite_self, Nat.reduceEqDiff, Nat.reduceAdd, Nat.reduceMul, Nat.reduceSub, Nat.reduceLT, Nat.reduceLeDiff, Nat.not_lt_zero, Nat.zero_le, if_true, if_false, ite_true, ite_false, true_and, and_true, false_and, and_false, true_implies, false_implies, implies_true, not_true_eq_false, not_false_eq_true, eq_self, true_or, or_true, false_or, or_false, and_self, reduceCtorEq, forall_const]
          exact ⟨⟨9, by omega, by rw [st]; rfl⟩, by omega⟩
        · simp (disch := omega) only [W_some, W_none, W_bind, W_ite, W_ocz, W_lt, h1, h2, h3, h4, h5, q, e7, e8, o_le, o_leL, o_leR, o_lt, o_ltL, o_ltR, o_eq, o_eqL, o_eqR, o_cl, o_add, o_addL, o_addR, o_mul, o_mulL, o_mulR, o_sub, o_subR, o_0le, o_lt0, o_ixo, n1_eq, n1_eq', n1_lt, n1_le, n1_ge, n1_gt, n2_eq, n2_eq', n2_lt, n2_le, n2_ge, n2_gt, ↓reduceIte, ite_self, Nat.reduceEqDiff, Nat.reduceAdd, Nat.reduceMul, Nat.reduceSub, Nat.reduceLT, Nat.reduceLeDiff, Nat.not_lt_zero, Nat.zero_le, if_true, if_false, ite_true, ite_false, true_and, and_true, false_and, and_false, true_implies, false_implies, implies_true, not_true_eq_false, not_false_eq_true, eq_self, true_or, or_true, false_or, or_false, and_self, reduceCtorEq, forall_const]
          exact ⟨⟨k + 1, by omega, by rw [st, if_neg (by omega)]⟩, by omega⟩
    · have e : k = n := by omega
      subst e
      have h1 := h.1
      simp (disch := omega) only [W_some, W_none, W_bind, W_ite, W_ocz, W_lt, h1, Nat.le_refl, o_le, o_leL, o_leR, o_lt, o_ltL, o_ltR, o_eq, o_eqL, o_eqR, o_cl, o_add, o_addL, o_addR, o_mul, o_mulL, o_mulR, o_sub, o_subR, o_0le, o_lt0, o_ixo, n1_eq, n1_eq', n1_lt, n1_le, n1_ge, n1_gt, n2_eq, n2_eq', n2_lt, n2_le, n2_ge, n2_gt, ↓reduceIte, ite_self, Nat.reduceEqDiff, Nat.reduceAdd, Nat.reduceMul, Nat.reduceSub, Nat.reduceLT, Nat.reduceLeDiff, Nat.not_lt_zero, Nat.zero_le, if_true, if_false, ite_true, ite_false, true_and, and_true, false_and, and_false, true_implies, false_implies, implies_true, not_true_eq_false, not_false_eq_true, eq_self, true_or, or_true, false_or, or_false, and_self, reduceCtorEq, forall_const]
  obtain ⟨r, e, hr⟩ := w
  unfold f_Image_sum_35
  rw [e]
  show some (r.1 &&& 65535) = _
  rw [hr]
set_option maxRecDepth 20000 in
set_option maxHeartbeats 4000000 in
theorem sum_M {M M1 : MS} {n : Nat} (e : M.1 60 42 = Int32.ofNat n) (hn : n ≤ 6000) : Wo (lp (b68_M_check M M1) 10000 ((0 : Int32), (0 : Int32))) (fun r => r.1 = sumB (M1.1 94) n) := by
  refine W_lp (fun s => ∃ k, k ≤ n ∧ s = (sumB (M1.1 94) k, Int32.ofNat k)) (fun s => n - s.2.toNatClampNeg) ?_ 10000 _ ⟨0, Nat.zero_le _, rfl⟩ (by show n - 0 < 10000; omega)
  intro s ⟨k, hk, es⟩
  subst es
  unfold b68_M_check
  by_cases hl : k < n
  · have q : ¬ n ≤ k := by omega
    have q2 : k < 6000 := by omega
    have st : sumB (M1.1 94) (k + 1) = sumB (M1.1 94) k + (if k = 7 ∨ k = 8 then 0 else M1.1 94 k) := rfl
    by_cases e7 : k = 7
    · subst e7
      simp (disch := omega) only [W_some, W_none, W_bind, W_ite, W_ocz, W_lt, e, q, o_le, o_leL, o_leR, o_lt, o_ltL, o_ltR, o_eq, o_eqL, o_eqR, o_cl, o_add, o_addL, o_addR, o_mul, o_mulL, o_mulR, o_sub, o_subR, o_0le, o_lt0, o_ixo, n1_eq, n1_eq', n1_lt, n1_le, n1_ge, n1_gt, n2_eq, n2_eq', n2_lt, n2_le, n2_ge, n2_gt, ↓reduceIte, ite_self, Nat.reduceEqDiff, Nat.reduceAdd, Nat.reduceMul, Nat.reduceSub, Nat.reduceLT, Nat.reduceLeDiff, Nat.not_lt_zero, Nat.zero_le, if_true, if_false, ite_true, ite_false, true_and, and_true, false_and, and_false, true_implies, false_implies, implies_true, not_true_eq_false, not_false_eq_true, eq_self, true_or, or_true, false_or, or_false, and_self, reduceCtorEq, forall_const]
      exact ⟨⟨8, by omega, by rw [st]; rfl⟩, by omega⟩
    · by_cases e8 : k = 8
      · subst e8
        simp (disch := omega) only [W_some, W_none, W_bind, W_ite, W_ocz, W_lt, e, q, o_le, o_leL, o_leR, o_lt, o_ltL, o_ltR, o_eq, o_eqL, o_eqR, o_cl, o_add, o_addL, o_addR, o_mul, o_mulL, o_mulR, o_sub, o_subR, o_0le, o_lt0, o_ixo, n1_eq, n1_eq', n1_lt, n1_le, n1_ge, n1_gt, n2_eq, n2_eq', n2_lt, n2_le, n2_ge, n2_gt, ↓reduceIte, ite_self, Nat.reduceEqDiff, Nat.reduceAdd, Nat.reduceMul, Nat.reduceSub, Nat.reduceLT, Nat.reduceLeDiff, Nat.not_lt_zero, Nat.zero_le, if_true, if_false, ite_true, ite_false, true_and, and_true, false_and, and_false, true_implies, false_implies, implies_true, not_true_eq_false, not_false_eq_true, eq_self, true_or, or_true, false_or, or_false, and_self, reduceCtorEq, forall_const]
        exact ⟨⟨9, by omega, by rw [st]; rfl⟩, by omega⟩
      · simp (disch := omega) only [W_some, W_none, W_bind, W_ite, W_ocz, W_lt, e, q, q2, e7, e8, o_le, o_leL, o_leR, o_lt, o_ltL, o_ltR, o_eq, o_eqL, o_eqR, o_cl, o_add, o_addL, o_addR, o_mul, o_mulL, o_mulR, o_sub, o_subR, o_0le, o_lt0, o_ixo, n1_eq, n1_eq', n1_lt, n1_le, n1_ge, n1_gt, n2_eq, n2_eq', n2_lt, n2_le, n2_ge, n2_gt, ↓reduceIte, ite_self, Nat.reduceEqDiff, Nat.reduceAdd, Nat.reduceMul, Nat.reduceSub, Nat.reduceLT, Nat.reduceLeDiff, Nat.not_lt_zero, Nat.zero_le, if_true, if_false, ite_true, ite_false, true_and, and_true, false_and, and_false, true_implies, false_implies, implies_true, not_true_eq_false, not_false_eq_true, eq_self, true_or, or_true, false_or, or_false, and_self, reduceCtorEq, forall_const]
        exact ⟨⟨k + 1, by omega, by rw [st, if_neg (by omega)]⟩, by omega⟩
  · have ek : k = n := by omega
    subst ek
    simp (disch := omega) only [W_some, W_none, W_bind, W_ite, W_ocz, W_lt, e, Nat.le_refl, o_le, o_leL, o_leR, o_lt, o_ltL, o_ltR, o_eq, o_eqL, o_eqR, o_cl, o_add, o_addL, o_addR, o_mul, o_mulL, o_mulR, o_sub, o_subR, o_0le, o_lt0, o_ixo, n1_eq, n1_eq', n1_lt, n1_le, n1_ge, n1_gt, n2_eq, n2_eq', n2_lt, n2_le, n2_ge, n2_gt, ↓reduceIte, ite_self, Nat.reduceEqDiff, Nat.reduceAdd, Nat.reduceMul, Nat.reduceSub, Nat.reduceLT, Nat.reduceLeDiff, Nat.not_lt_zero, Nat.zero_le, if_true, if_false, ite_true, ite_false, true_and, and_true, false_and, and_false, true_implies, false_implies, implies_true, not_true_eq_false, not_false_eq_true, eq_self, true_or, or_true, false_or, or_false, and_self, reduceCtorEq, forall_const]
set_option maxRecDepth 20000 in
set_option maxHeartbeats 4000000 in
theorem same_X {X : XS} {T : Nat → Nat} {n b L b0 L0 : Nat} (h : IMG 35 2 X T n b L) (h0 : IMG 30 1 X T n b0 L0) (hn : n ≤ 6000) : Wo (lp (b15_Image_isSame_35_30 X) 10000 (0 : Int32)) (fun r => r = decide (∀ j, j < n → X.1 b j = X.1 b0 j)) := by
  refine W_lp (fun s => ∃ k, k ≤ n ∧ s = Int32.ofNat k ∧ ∀ j, j < k → X.1 b j = X.1 b0 j) (fun s => n - s.toNatClampNeg) ?_ 10000 _ ⟨0, Nat.zero_le _, rfl, fun j hj => absurd hj (Nat.not_lt_zero j)⟩ (by show n - 0 < 10000; omega)
  intro s ⟨k, hk, es, hj⟩
  subst es
  unfold b15_Image_isSame_35_30
  have h1 := h.1
  by_cases hl : k < n
  · have q : ¬ n ≤ k := by omega
    by_cases eq : X.1 b k = X.1 b0 k
    · simp (disch := omega) only [W_some, W_none, W_bind, W_ite, W_ocz, W_lt, h1, q, at_35 h hl (by omega), at_30 h0 hl (by omega), eq, o_le, o_leL, o_leR, o_lt, o_ltL, o_ltR, o_eq, o_eqL, o_eqR, o_cl, o_add, o_addL, o_addR, o_mul, o_mulL, o_mulR, o_sub, o_subR, o_0le, o_lt0, o_ixo, n1_eq, n1_eq', n1_lt, n1_le, n1_ge, n1_gt, n2_eq, n2_eq', n2_lt, n2_le, n2_ge, n2_gt, ↓reduceIte, ite_self, Nat.reduceEqDiff, Nat.reduceAdd, Nat.reduceMul, Nat.reduceSub, Nat.reduceLT, Nat.reduceLeDiff, Nat.not_lt_zero, Nat.zero_le, if_true, if_false, ite_true, ite_false, true_and, and_true, false_and, and_false, true_implies, false_implies, implies_true, not_true_eq_false, not_false_eq_true, eq_self, true_or, or_true, false_or, or_false, and_self, reduceCtorEq, forall_const]
      exact ⟨⟨k + 1, by omega, rfl, fun j hj' => by by_cases ej : j = k; (subst ej; exact eq); exact hj j (by omega)⟩, by omega⟩
    · simp (disch := omega) only [W_some, W_none, W_bind, W_ite, W_ocz, W_lt, h1, q, at_35 h hl (by omega), at_30 h0 hl (by omega), eq, o_le, o_leL, o_leR, o_lt, o_ltL, o_ltR, o_eq, o_eqL, o_eqR, o_cl, o_add, o_addL, o_addR, o_mul, o_mulL, o_mulR, o_sub, o_subR, o_0le, o_lt0, o_ixo, n1_eq, n1_eq', n1_lt, n1_le, n1_ge, n1_gt, n2_eq, n2_eq', n2_lt, n2_le, n2_ge, n2_gt, ↓reduceIte, ite_self, Nat.reduceEqDiff, Nat.reduceAdd, Nat.reduceMul, Nat.reduceSub, Nat.reduceLT, Nat.reduceLeDiff, Nat.not_lt_zero, Nat.zero_le, if_true, if_false, ite_true, ite_false, true_and, and_true, false_and, and_false, true_implies, false_implies, implies_true, not_true_eq_false, not_false_eq_true, eq_self, true_or, or_true, false_or, or_false, and_self, reduceCtorEq, forall_const]
      symm
      exact decide_eq_false (fun h => eq (h k hl))
  · have ek : k = n := by omega
    subst ek
    simp (disch := omega) only [W_some, W_none, W_bind, W_ite, W_ocz, W_lt, h1, Nat.le_refl, o_le, o_leL, o_leR, o_lt, o_ltL, o_ltR, o_eq, o_eqL, o_eqR, o_cl, o_add, o_addL, o_addR, o_mul, o_mulL, o_mulR, o_sub, o_subR, o_0le, o_lt0, o_ixo, n1_eq, n1_eq', n1_lt, n1_le, n1_ge, n1_gt, n2_eq, n2_eq', n2_lt, n2_le, n2_ge, n2_gt, ↓reduceIte, ite_self, Nat.reduceEqDiff, Nat.reduceAdd, Nat.reduceMul, Nat.reduceSub, Nat.reduceLT, Nat.reduceLeDiff, Nat.not_lt_zero, Nat.zero_le, if_true, if_false, ite_true, ite_false, true_and, and_true, false_and, and_false, true_implies, false_implies, implies_true, not_true_eq_false, not_false_eq_true, eq_self, true_or, or_true, false_or, or_false, and_self, reduceCtorEq, forall_const]
    exact (decide_eq_true hj).symm
set_option maxRecDepth 20000 in
set_option maxHeartbeats 4000000 in
theorem same_M {M M1 : MS} {n : Nat} (e : M.1 60 42 = Int32.ofNat n) (hn : n ≤ 6000) (body : (Int32 × Int32) → Option ((Int32 × Int32) ⊕ (Int32 × Int32))) (hb : body = b150_M_check M M1) : Wo (lp body 10000 ((1 : Int32), (0 : Int32))) (fun r => (r.1 = 0) = ¬ ∀ j, j < n → M1.1 94 j = M1.1 91 j) := by
  subst hb
  refine W_lp (fun s => ∃ k, k ≤ n ∧ s.2 = Int32.ofNat k ∧ (s.1 = 1 ∧ (∀ j, j < k → M1.1 94 j = M1.1 91 j) ∨ s.1 = 0 ∧ ¬ ∀ j, j < n → M1.1 94 j = M1.1 91 j)) (fun s => n - s.2.toNatClampNeg) ?_ 10000 _ ⟨0, Nat.zero_le _, rfl, Or.inl ⟨rfl, fun j hj => absurd hj (Nat.not_lt_zero j)⟩⟩ (by show n - 0 < 10000; omega)
  intro s ⟨k, hk, es, hj⟩
  unfold b150_M_check
  by_cases hl : k < n
  · have q : ¬ n ≤ k := by omega
    have q2 : k < 6000 := by omega
    have q3 : k < 8000 := by omega
    rcases hj with ⟨s1, hj⟩ | ⟨s1, hj⟩
    · have n10 : ¬ (1 : Int32) = 0 := by decide
      by_cases eq : M1.1 94 k = M1.1 91 k
      · simp (disch := omega) only [W_some, W_none, W_bind, W_ite, W_ocz, W_lt, e, es, s1, q, q2, q3, eq, n10, o_le, o_leL, o_leR, o_lt, o_ltL, o_ltR, o_eq, o_eqL, o_eqR, o_cl, o_add, o_addL, o_addR, o_mul, o_mulL, o_mulR, o_sub, o_subR, o_0le, o_lt0, o_ixo, n1_eq, n1_eq', n1_lt, n1_le, n1_ge, n1_gt, n2_eq, n2_eq', n2_lt, n2_le, n2_ge, n2_gt, ↓reduceIte, ite_self, Nat.reduceEqDiff, Nat.reduceAdd, Nat.reduceMul, Nat.reduceSub, Nat.reduceLT, Nat.reduceLeDiff, Nat.not_lt_zero, Nat.zero_le, if_true, if_false, ite_true, ite_false, true_and, and_true, false_and, and_false, true_implies, false_implies, implies_true, not_true_eq_false, not_false_eq_true, eq_self, true_or, or_true, false_or, or_false, and_self, reduceCtorEq, forall_const]
        exact ⟨⟨k + 1, by omega, rfl, fun j hj' => (by by_cases ej : j = k; (subst ej; exact eq); exact hj j (by omega))⟩, by omega⟩
      · simp (disch := omega) only [W_some, W_none, W_bind, W_ite, W_ocz, W_lt, e, es, s1, q, q2, q3, eq, n10, o_le, o_leL, o_leR, o_lt, o_ltL, o_ltR, o_eq, o_eqL, o_eqR, o_cl, o_add, o_addL, o_addR, o_mul, o_mulL, o_mulR, o_sub, o_subR, o_0le, o_lt0, o_ixo, n1_eq, n1_eq', n1_lt, n1_le, n1_ge, n1_gt, n2_eq, n2_eq', n2_lt, n2_le, n2_ge, n2_gt, ↓reduceIte, ite_self, Nat.reduceEqDiff, Nat.reduceAdd, Nat.reduceMul, Nat.reduceSub, Nat.reduceLT, Nat.reduceLeDiff, Nat.not_lt_zero, Nat.zero_le, if_true, if_false, ite_true, ite_false, true_and, and_true, false_and, and_false, true_implies, false_implies, implies_true, not_true_eq_false, not_false_eq_true, eq_self, true_or, or_true, false_or, or_false, and_self, reduceCtorEq, forall_const]
        refine ⟨⟨k + 1, by omega, rfl, ?_⟩, by omega⟩
        first | exact fun h => eq (h k hl) | exact Or.inr (fun h => eq (h k hl)) | exact Or.inr ⟨rfl, fun h => eq (h k hl)⟩
    · simp (disch := omega) only [W_some, W_none, W_bind, W_ite, W_ocz, W_lt, e, es, s1, q, o_le, o_leL, o_leR, o_lt, o_ltL, o_ltR, o_eq, o_eqL, o_eqR, o_cl, o_add, o_addL, o_addR, o_mul, o_mulL, o_mulR, o_sub, o_subR, o_0le, o_lt0, o_ixo, n1_eq, n1_eq', n1_lt, n1_le, n1_ge, n1_gt, n2_eq, n2_eq', n2_lt, n2_le, n2_ge, n2_gt, ↓reduceIte, ite_self, Nat.reduceEqDiff, Nat.reduceAdd, Nat.reduceMul, Nat.reduceSub, Nat.reduceLT, Nat.reduceLeDiff, Nat.not_lt_zero, Nat.zero_le, if_true, if_false, ite_true, ite_false, true_and, and_true, false_and, and_false, true_implies, false_implies, implies_true, not_true_eq_false, not_false_eq_true, eq_self, true_or, or_true, false_or, or_false, and_self, reduceCtorEq, forall_const]
      simp only [hj, not_false_eq_true]
  · have ek : k = n := by omega
    subst ek
    simp (disch := omega) only [W_some, W_none, W_bind, W_ite, W_ocz, W_lt, e, es, Nat.le_refl, o_le, o_leL, o_leR, o_lt, o_ltL, o_ltR, o_eq, o_eqL, o_eqR, o_cl, o_add, o_addL, o_addR, o_mul, o_mulL, o_mulR, o_sub, o_subR, o_0le, o_lt0, o_ixo, n1_eq, n1_eq', n1_lt, n1_le, n1_ge, n1_gt, n2_eq, n2_eq', n2_lt, n2_le, n2_ge, n2_gt, ↓reduceIte, ite_self, Nat.reduceEqDiff, Nat.reduceAdd, Nat.reduceMul, Nat.reduceSub, Nat.reduceLT, Nat.reduceLeDiff, Nat.not_lt_zero, Nat.zero_le, if_true, if_false, ite_true, ite_false, true_and, and_true, false_and, and_false, true_implies, false_implies, implies_true, not_true_eq_false, not_false_eq_true, eq_self, true_or, or_true, false_or, or_false, and_self, reduceCtorEq, forall_const]
    have n10 : ¬ (1 : Int32) = 0 := by decide
    rcases hj with ⟨s1, hj⟩ | ⟨s1, hj⟩
    · rw [s1]
      exact propext ⟨fun h => absurd h n10, fun h => absurd hj h⟩
    · rw [s1]
      exact propext ⟨fun _ => hj, fun _ => rfl⟩
