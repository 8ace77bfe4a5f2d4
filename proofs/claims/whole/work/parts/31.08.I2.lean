/-! I2 -/
/-- the fed bytes on both sides -/
def RFd (X : XS) (M : MS) (T : Nat → Nat) : Prop := ∃ n b L, n ≤ 6000 ∧ IMG 35 2 X T n b L ∧ M.1 60 42 = Int32.ofNat n ∧ ∀ j, j < n → X.1 b j = M.1 94 j ∧ ∃ k, k < 256 ∧ M.1 94 j = Int32.ofNat k
/-- the linked bytes on both sides -/
def RIm (X : XS) (M : MS) (T : Nat → Nat) : Prop := ∃ n b L, n ≤ 5663 ∧ IMG 30 1 X T n b L ∧ M.1 60 37 = Int32.ofNat n ∧ ∀ j, j < n → X.1 b j = M.1 91 j ∧ ∃ k, k < 256 ∧ M.1 91 j = Int32.ofNat k
def FedOnly (T T' : Nat → Nat) (X X' : XS) (M M' : MS) : Prop := Mo T T' X X' ∧ TG T' ∧ Un (fun t => t ≠ 2 ∧ t ≠ 1035) T X X' ∧ (∀ a, a ≠ 94 → a ≠ 60 → M'.1 a = M.1 a) ∧ (∀ f, f ≠ 42 → M'.1 60 f = M.1 60 f) ∧ M'.2 = M.2
set_option maxRecDepth 20000 in
set_option maxHeartbeats 4000000 in
theorem RFd_feed {X : XS} {M : MS} {T : Nat → Nat} (h : RFd X M T) (ht : TG T) (x : Int32) : Wo (f_P_feed x X) (fun p => Wo (f_M_feed x M) (fun q => p.1 = q.1 ∧ ∃ T', RFd p.2 q.2 T' ∧ FedOnly T T' X p.2 M q.2)) := by
  have h0 := h
  obtain ⟨n, b, L, hn, hi, e, hj⟩ := h
  have same : RFd X M T ∧ FedOnly T T X X M M := ⟨h0, Mo.id T rfl, ht, fun _ _ _ => ⟨rfl, rfl⟩, fun _ _ _ => rfl, fun _ _ => rfl, rfl⟩
  refine Wo.cps2 (fun Q hQ => ?_)
  unfold f_P_feed f_M_feed
  by_cases hx : 0 ≤ x ∧ x ≤ 255
  case neg =>
    simp (disch := omega) only [W_some, W_none, W_bind, W_ite, W_ocz, W_lt, hx, o_le, o_leL, o_leR, o_lt, o_ltL, o_ltR, o_eq, o_eqL, o_eqR, o_cl, o_add, o_addL, o_addR, o_mul, o_mulL, o_mulR, o_sub, o_subR, o_0le, o_lt0, o_ixo, n1_eq, n1_eq', n1_lt, n1_le, n1_ge, n1_gt, n2_eq, n2_eq', n2_lt, n2_le, n2_ge, n2_gt, ↓reduceIte, ite_self, Nat.reduceEqDiff, Nat.reduceAdd, Nat.reduceMul, Nat.reduceSub, Nat.reduceLT, Nat.reduceLeDiff, Nat.not_lt_zero, Nat.zero_le, if_true, if_false, ite_true, ite_false, true_and, and_true, false_and, and_false, true_implies, false_implies, implies_true, not_true_eq_false, not_false_eq_true, eq_self, true_or, or_true, false_or, or_false, and_self, reduceCtorEq, forall_const]
    exact hQ _ _ ⟨rfl, T, same⟩
  obtain ⟨v, hv, rfl⟩ := toNle (n := 255) (by omega) hx.1 hx.2
  by_cases hn6 : n < 6000
  · have n6 : ¬ n = 6000 := by omega
    rw [if_pos hx, W_bind]
    refine Wo.mono (put_35 hi ht hn6 (Int32.ofNat v)) ?_
    intro p hp
    obtain ⟨p1, T', b', L', i', c1, c2, mo, tg, un, c3, c4⟩ := hp
    have p1' : p.1 = true := p1
    simp (disch := omega) only [W_some, W_none, W_bind, W_ite, W_ocz, W_lt, p1', hx, e, n6, hn6, mw1, o_le, o_leL, o_leR, o_lt, o_ltL, o_ltR, o_eq, o_eqL, o_eqR, o_cl, o_add, o_addL, o_addR, o_mul, o_mulL, o_mulR, o_sub, o_subR, o_0le, o_lt0, o_ixo, n1_eq, n1_eq', n1_lt, n1_le, n1_ge, n1_gt, n2_eq, n2_eq', n2_lt, n2_le, n2_ge, n2_gt, ↓reduceIte, ite_self, Nat.reduceEqDiff, Nat.reduceAdd, Nat.reduceMul, Nat.reduceSub, Nat.reduceLT, Nat.reduceLeDiff, Nat.not_lt_zero, Nat.zero_le, if_true, if_false, ite_true, ite_false, true_and, and_true, false_and, and_false, true_implies, false_implies, implies_true, not_true_eq_false, not_false_eq_true, eq_self, true_or, or_true, false_or, or_false, and_self, reduceCtorEq, forall_const]
    refine hQ _ _ ⟨rfl, T', ⟨n + 1, b', L', by omega, i', ?_, ?_⟩, mo, tg, un, ?_, ?_, rfl⟩
    · simp (disch := omega) only [xTw, xLw, xAw, xTp, xLp, xAp, xTc, xLc, xAc, xAn, xTn, xLn, xw1, xw2, xp1, xp2, xp3, mw1, mw2, xn1, xn2, xc1, xc2, o_le, o_leL, o_leR, o_lt, o_ltL, o_ltR, o_eq, o_eqL, o_eqR, o_cl, o_add, o_addL, o_addR, o_mul, o_mulL, o_mulR, o_sub, o_subR, o_0le, o_lt0, o_ixo, n1_eq, n1_eq', n1_lt, n1_le, n1_ge, n1_gt, n2_eq, n2_eq', n2_lt, n2_le, n2_ge, n2_gt, ↓reduceIte, ite_self, Nat.reduceEqDiff, Nat.reduceAdd, Nat.reduceMul, Nat.reduceSub, Nat.reduceLT, Nat.reduceLeDiff, Nat.not_lt_zero, Nat.zero_le, if_true, if_false, ite_true, ite_false, true_and, and_true, false_and, and_false, true_implies, false_implies, implies_true, not_true_eq_false, not_false_eq_true, eq_self, true_or, or_true, false_or, or_false, and_self, reduceCtorEq, forall_const]
    · intro j hj'
      by_cases ej : j = n
      · subst ej
        rw [c2, and255 (by omega)]
        simp (disch := omega) only [xTw, xLw, xAw, xTp, xLp, xAp, xTc, xLc, xAc, xAn, xTn, xLn, xw1, xw2, xp1, xp2, xp3, mw1, mw2, xn1, xn2, xc1, xc2, o_le, o_leL, o_leR, o_lt, o_ltL, o_ltR, o_eq, o_eqL, o_eqR, o_cl, o_add, o_addL, o_addR, o_mul, o_mulL, o_mulR, o_sub, o_subR, o_0le, o_lt0, o_ixo, n1_eq, n1_eq', n1_lt, n1_le, n1_ge, n1_gt, n2_eq, n2_eq', n2_lt, n2_le, n2_ge, n2_gt, ↓reduceIte, ite_self, Nat.reduceEqDiff, Nat.reduceAdd, Nat.reduceMul, Nat.reduceSub, Nat.reduceLT, Nat.reduceLeDiff, Nat.not_lt_zero, Nat.zero_le, if_true, if_false, ite_true, ite_false, true_and, and_true, false_and, and_false, true_implies, false_implies, implies_true, not_true_eq_false, not_false_eq_true, eq_self, true_or, or_true, false_or, or_false, and_self, reduceCtorEq, forall_const]
        exact ⟨v, by omega, rfl⟩
      · rw [c1 j (by omega)]
        simp (disch := omega) only [xTw, xLw, xAw, xTp, xLp, xAp, xTc, xLc, xAc, xAn, xTn, xLn, xw1, xw2, xp1, xp2, xp3, mw1, mw2, xn1, xn2, xc1, xc2, ej, o_le, o_leL, o_leR, o_lt, o_ltL, o_ltR, o_eq, o_eqL, o_eqR, o_cl, o_add, o_addL, o_addR, o_mul, o_mulL, o_mulR, o_sub, o_subR, o_0le, o_lt0, o_ixo, n1_eq, n1_eq', n1_lt, n1_le, n1_ge, n1_gt, n2_eq, n2_eq', n2_lt, n2_le, n2_ge, n2_gt, ↓reduceIte, ite_self, Nat.reduceEqDiff, Nat.reduceAdd, Nat.reduceMul, Nat.reduceSub, Nat.reduceLT, Nat.reduceLeDiff, Nat.not_lt_zero, Nat.zero_le, if_true, if_false, ite_true, ite_false, true_and, and_true, false_and, and_false, true_implies, false_implies, implies_true, not_true_eq_false, not_false_eq_true, eq_self, true_or, or_true, false_or, or_false, and_self, reduceCtorEq, forall_const]
        exact hj j (by omega)
    · intro a h1 h2
      rw [mw_ne _ _ _ _ h2, mw_ne _ _ _ _ h1]
    · intro f hf
      simp (disch := omega) only [xTw, xLw, xAw, xTp, xLp, xAp, xTc, xLc, xAc, xAn, xTn, xLn, xw1, xw2, xp1, xp2, xp3, mw1, mw2, xn1, xn2, xc1, xc2, hf, o_le, o_leL, o_leR, o_lt, o_ltL, o_ltR, o_eq, o_eqL, o_eqR, o_cl, o_add, o_addL, o_addR, o_mul, o_mulL, o_mulR, o_sub, o_subR, o_0le, o_lt0, o_ixo, n1_eq, n1_eq', n1_lt, n1_le, n1_ge, n1_gt, n2_eq, n2_eq', n2_lt, n2_le, n2_ge, n2_gt, ↓reduceIte, ite_self, Nat.reduceEqDiff, Nat.reduceAdd, Nat.reduceMul, Nat.reduceSub, Nat.reduceLT, Nat.reduceLeDiff, Nat.not_lt_zero, Nat.zero_le, if_true, if_false, ite_true, ite_false, true_and, and_true, false_and, and_false, true_implies, false_implies, implies_true, not_true_eq_false, not_false_eq_true, eq_self, true_or, or_true, false_or, or_false, and_self, reduceCtorEq, forall_const]
  · have n6 : n = 6000 := by omega
    subst n6
    have h1 := hi.1
    unfold f_Image_put_35
    simp (disch := omega) only [W_some, W_none, W_bind, W_ite, W_ocz, W_lt, hx, e, h1, o_le, o_leL, o_leR, o_lt, o_ltL, o_ltR, o_eq, o_eqL, o_eqR, o_cl, o_add, o_addL, o_addR, o_mul, o_mulL, o_mulR, o_sub, o_subR, o_0le, o_lt0, o_ixo, n1_eq, n1_eq', n1_lt, n1_le, n1_ge, n1_gt, n2_eq, n2_eq', n2_lt, n2_le, n2_ge, n2_gt, ↓reduceIte, ite_self, Nat.reduceEqDiff, Nat.reduceAdd, Nat.reduceMul, Nat.reduceSub, Nat.reduceLT, Nat.reduceLeDiff, Nat.not_lt_zero, Nat.zero_le, if_true, if_false, ite_true, ite_false, true_and, and_true, false_and, and_false, true_implies, false_implies, implies_true, not_true_eq_false, not_false_eq_true, eq_self, true_or, or_true, false_or, or_false, and_self, reduceCtorEq, forall_const]
    exact hQ _ _ ⟨rfl, T, same⟩
set_option maxRecDepth 20000 in
set_option maxHeartbeats 4000000 in
theorem at_of {C : Nat} {X : XS} {T : Nat → Nat} {G n b L : Nat} (h : IMG C G X T n b L) : ∀ i, i < n → X.1 C 0 = Int32.ofNat n ∧ X.2.1 C 2 = some b ∧ xL X 0 b = some L ∧ ¬ L ≤ i ∧ i < L ∧ L < 2147483648 := by
  intro i hi
  obtain ⟨h1, h2, h3, h4, ⟨k, hk, hL⟩, h5⟩ := h
  have : 2 ^ k ≤ 2 ^ 7 := Nat.pow_le_pow_right (by omega) hk
  exact ⟨h1, h2, xL_iff.mpr h3, by omega, by omega, by omega⟩
set_option maxRecDepth 20000 in
set_option maxHeartbeats 4000000 in
theorem at_30 {X : XS} {T : Nat → Nat} {n b L i : Nat} (h : IMG 30 1 X T n b L) (hi : i < n) (hn : n < 10000) : f_Image_at_30 (Int32.ofNat i) X = some (X.1 b i) := by
  obtain ⟨h1, h2, h3, h4, h5, h6⟩ := at_of h i hi
  have q : ¬ n ≤ i := by omega
  unfold f_Image_at_30 ocz
  simp (disch := omega) only [h1, h2, h3, h4, h5, q, o_le, o_leL, o_leR, o_lt, o_ltL, o_ltR, o_eq, o_eqL, o_eqR, o_cl, o_add, o_addL, o_addR, o_mul, o_mulL, o_mulR, o_sub, o_subR, o_0le, o_lt0, o_ixo, n1_eq, n1_eq', n1_lt, n1_le, n1_ge, n1_gt, n2_eq, n2_eq', n2_lt, n2_le, n2_ge, n2_gt, ↓reduceIte, ite_self, Nat.reduceEqDiff, Nat.reduceAdd, Nat.reduceMul, Nat.reduceSub, Nat.reduceLT, Nat.reduceLeDiff, Nat.not_lt_zero, Nat.zero_le, if_true, if_false, ite_true, ite_false, true_and, and_true, false_and, and_false, true_implies, false_implies, implies_true, not_true_eq_false, not_false_eq_true, eq_self, true_or, or_true, false_or, or_false, and_self, reduceCtorEq, forall_const]
set_option maxRecDepth 20000 in
set_option maxHeartbeats 4000000 in
theorem at_35 {X : XS} {T : Nat → Nat} {n b L i : Nat} (h : IMG 35 2 X T n b L) (hi : i < n) (hn : n < 10000) : f_Image_at_35 (Int32.ofNat i) X = some (X.1 b i) := by
  obtain ⟨h1, h2, h3, h4, h5, h6⟩ := at_of h i hi
  have q : ¬ n ≤ i := by omega
  unfold f_Image_at_35 ocz
  simp (disch := omega) only [h1, h2, h3, h4, h5, q, o_le, o_leL, o_leR, o_lt, o_ltL, o_ltR, o_eq, o_eqL, o_eqR, o_cl, o_add, o_addL, o_addR, o_mul, o_mulL, o_mulR, o_sub, o_subR, o_0le, o_lt0, o_ixo, n1_eq, n1_eq', n1_lt, n1_le, n1_ge, n1_gt, n2_eq, n2_eq', n2_lt, n2_le, n2_ge, n2_gt, ↓reduceIte, ite_self, Nat.reduceEqDiff, Nat.reduceAdd, Nat.reduceMul, Nat.reduceSub, Nat.reduceLT, Nat.reduceLeDiff, Nat.not_lt_zero, Nat.zero_le, if_true, if_false, ite_true, ite_false, true_and, and_true, false_and, and_false, true_implies, false_implies, implies_true, not_true_eq_false, not_false_eq_true, eq_self, true_or, or_true, false_or, or_false, and_self, reduceCtorEq, forall_const]
set_option maxRecDepth 20000 in
set_option maxHeartbeats 4000000 in
theorem image_ok {X : XS} {M : MS} {T : Nat → Nat} (h : RIm X M T) (x : Int32) : ∃ r, f_P_image x X = some r ∧ f_M_image x M = some r := by
  obtain ⟨n, b, L, hn, hi, e, hj⟩ := h
  have h1 := hi.1
  have mx := le1_iff (kc := n) (by omega) x
  unfold f_P_image f_M_image
  by_cases h0 : x < 0
  · refine ⟨-1, by rw [if_pos h0], ?_⟩
    rw [if_neg (fun h => absurd h.1 (Int32.not_le.mpr h0))]
  · obtain ⟨i, hi', rfl⟩ := toN (Int32.not_lt.mp h0)
    by_cases hl : i < n
    · have q : ¬ n ≤ i := by omega
      have q2 : i ≤ n - 1 := by omega
      have q3 : i < 8000 := by omega
      refine ⟨M.1 91 i, ?_, ?_⟩
      · simp (disch := omega) only [h1, q, at_30 hi hl (by omega), Option.bind_some, o_le, o_leL, o_leR, o_lt, o_ltL, o_ltR, o_eq, o_eqL, o_eqR, o_cl, o_add, o_addL, o_addR, o_mul, o_mulL, o_mulR, o_sub, o_subR, o_0le, o_lt0, o_ixo, n1_eq, n1_eq', n1_lt, n1_le, n1_ge, n1_gt, n2_eq, n2_eq', n2_lt, n2_le, n2_ge, n2_gt, ↓reduceIte, ite_self, Nat.reduceEqDiff, Nat.reduceAdd, Nat.reduceMul, Nat.reduceSub, Nat.reduceLT, Nat.reduceLeDiff, Nat.not_lt_zero, Nat.zero_le, if_true, if_false, ite_true, ite_false, true_and, and_true, false_and, and_false, true_implies, false_implies, implies_true, not_true_eq_false, not_false_eq_true, eq_self, true_or, or_true, false_or, or_false, and_self, reduceCtorEq, forall_const]
        exact congrArg some (hj i hl).1
      · simp (disch := omega) only [e, q2, q3, o_le, o_leL, o_leR, o_lt, o_ltL, o_ltR, o_eq, o_eqL, o_eqR, o_cl, o_add, o_addL, o_addR, o_mul, o_mulL, o_mulR, o_sub, o_subR, o_0le, o_lt0, o_ixo, n1_eq, n1_eq', n1_lt, n1_le, n1_ge, n1_gt, n2_eq, n2_eq', n2_lt, n2_le, n2_ge, n2_gt, ↓reduceIte, ite_self, Nat.reduceEqDiff, Nat.reduceAdd, Nat.reduceMul, Nat.reduceSub, Nat.reduceLT, Nat.reduceLeDiff, Nat.not_lt_zero, Nat.zero_le, if_true, if_false, ite_true, ite_false, true_and, and_true, false_and, and_false, true_implies, false_implies, implies_true, not_true_eq_false, not_false_eq_true, eq_self, true_or, or_true, false_or, or_false, and_self, reduceCtorEq, forall_const]
    · have q : n ≤ i := by omega
      refine ⟨-1, ?_, ?_⟩
      · simp (disch := omega) only [h1, q, o_le, o_leL, o_leR, o_lt, o_ltL, o_ltR, o_eq, o_eqL, o_eqR, o_cl, o_add, o_addL, o_addR, o_mul, o_mulL, o_mulR, o_sub, o_subR, o_0le, o_lt0, o_ixo, n1_eq, n1_eq', n1_lt, n1_le, n1_ge, n1_gt, n2_eq, n2_eq', n2_lt, n2_le, n2_ge, n2_gt, ↓reduceIte, ite_self, Nat.reduceEqDiff, Nat.reduceAdd, Nat.reduceMul, Nat.reduceSub, Nat.reduceLT, Nat.reduceLeDiff, Nat.not_lt_zero, Nat.zero_le, if_true, if_false, ite_true, ite_false, true_and, and_true, false_and, and_false, true_implies, false_implies, implies_true, not_true_eq_false, not_false_eq_true, eq_self, true_or, or_true, false_or, or_false, and_self, reduceCtorEq, forall_const]
      · rw [e, if_neg]
        rw [mx]
        intro ⟨c, hc, he⟩
        rw [o_eq _ _ hi' (by omega)] at he
        omega
