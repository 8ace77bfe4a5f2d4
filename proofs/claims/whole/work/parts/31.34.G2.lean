/-! G2 -/
def clrW (S : FS) (i : Nat) : FS := (S.1, updB S.2.1 i false, S.2.2)
set_option maxRecDepth 20000 in
set_option maxHeartbeats 4000000 in
theorem loadX_ok {X : XS} {S : FS} {i : Nat} (hS : FX X S) (hi : i < 60) (hs : S.1 i = true) : ∃ X1, (∀ (r : XS → Option XS), (lt (xw X 24 (Int32.ofNat i).toNatClampNeg 0) fun X3 => (lt (xw X3 22 9 (X3.1 25 (Int32.ofNat i).toNatClampNeg)) fun X4 => (if cpo (Int32.ofNat i * 10) 0 10 600 10 then (lt (xc X4 (X4.1 26) 28 (Int32.ofNat i * 10).toNatClampNeg 0 10) fun X6 => (if cpo (Int32.ofNat i * 12) 0 12 720 12 then (lt (xc X6 (X6.1 27) 29 (Int32.ofNat i * 12).toNatClampNeg 0 12) fun X8 => r X8) else none)) else none))) = r X1) ∧ Only Fal X X1 ∧ X1.1 22 10 = X.1 22 10 ∧ FX X1 (clrW S i) ∧ AX X1 (S.2.2.2.1 i) (S.2.2.1 i) (S.2.2.2.2.1 i) := by
  obtain ⟨f1, f2, f3, f4⟩ := hS
  obtain ⟨b1, b2, b3, b4⟩ := f2 i hi hs
  have c1 : cpo (Int32.ofNat (i * 10)) 0 10 600 10 := by
    rw [show (0 : Int32) = Int32.ofNat 0 from rfl, show (10 : Int32) = Int32.ofNat 10 from rfl, o_cpo (i * 10) 0 10 600 10 (by omega) (by omega) (by omega)]
    omega
  have c2 : cpo (Int32.ofNat (i * 12)) 0 12 720 12 := by
    rw [show (0 : Int32) = Int32.ofNat 0 from rfl, show (12 : Int32) = Int32.ofNat 12 from rfl, o_cpo (i * 12) 0 12 720 12 (by omega) (by omega) (by omega)]
    omega
  generalize hX : xc (xc (xw (xw X 24 i 0) 22 9 (Int32.ofNat (S.2.2.1 i))) ((xw (xw X 24 i 0) 22 9 (Int32.ofNat (S.2.2.1 i))).1 26) 28 (i * 10) 0 10) ((xc (xw (xw X 24 i 0) 22 9 (Int32.ofNat (S.2.2.1 i))) ((xw (xw X 24 i 0) 22 9 (Int32.ofNat (S.2.2.1 i))).1 26) 28 (i * 10) 0 10).1 27) 29 (i * 12) 0 12 = X1
  have rd : ∀ b j, b ≠ 24 → b ≠ 22 → b ≠ 28 → b ≠ 29 → X1.1 b j = X.1 b j := by
    intro b j h1 h2 h3 h4
    rw [← hX]
    simp (disch := omega) only [xTw, xLw, xAw, xTp, xLp, xAp, xTc, xLc, xAc, xAn, xTn, xLn, xw1, xw2, xp1, xp2, xp3, mw1, mw2, xn1, xn2, xc1, xc2, h1, h2, h3, h4, o_le, o_leL, o_leR, o_lt, o_ltL, o_ltR, o_eq, o_eqL, o_eqR, o_cl, o_add, o_addL, o_addR, o_mul, o_mulL, o_mulR, o_sub, o_subR, o_0le, o_lt0, o_ixo, n1_eq, n1_eq', n1_lt, n1_le, n1_ge, n1_gt, n2_eq, n2_eq', n2_lt, n2_le, n2_ge, n2_gt, ↓reduceIte, ite_self, Nat.reduceEqDiff, Nat.reduceAdd, Nat.reduceMul, Nat.reduceSub, Nat.reduceLT, Nat.reduceLeDiff, Nat.not_lt_zero, Nat.zero_le, if_true, if_false, ite_true, ite_false, true_and, and_true, false_and, and_false, true_implies, false_implies, implies_true, not_true_eq_false, not_false_eq_true, eq_self, true_or, or_true, false_or, or_false, and_self, reduceCtorEq, forall_const]
  have r24 : ∀ j, X1.1 24 j = if j = i then 0 else X.1 24 j := by
    intro j
    rw [← hX]
    simp (disch := omega) only [xTw, xLw, xAw, xTp, xLp, xAp, xTc, xLc, xAc, xAn, xTn, xLn, xw1, xw2, xp1, xp2, xp3, mw1, mw2, xn1, xn2, xc1, xc2, o_le, o_leL, o_leR, o_lt, o_ltL, o_ltR, o_eq, o_eqL, o_eqR, o_cl, o_add, o_addL, o_addR, o_mul, o_mulL, o_mulR, o_sub, o_subR, o_0le, o_lt0, o_ixo, n1_eq, n1_eq', n1_lt, n1_le, n1_ge, n1_gt, n2_eq, n2_eq', n2_lt, n2_le, n2_ge, n2_gt, ↓reduceIte, ite_self, Nat.reduceEqDiff, Nat.reduceAdd, Nat.reduceMul, Nat.reduceSub, Nat.reduceLT, Nat.reduceLeDiff, Nat.not_lt_zero, Nat.zero_le, if_true, if_false, ite_true, ite_false, true_and, and_true, false_and, and_false, true_implies, false_implies, implies_true, not_true_eq_false, not_false_eq_true, eq_self, true_or, or_true, false_or, or_false, and_self, reduceCtorEq, forall_const]
  have r22 : ∀ f, X1.1 22 f = if f = 9 then Int32.ofNat (S.2.2.1 i) else X.1 22 f := by
    intro f
    rw [← hX]
    simp (disch := omega) only [xTw, xLw, xAw, xTp, xLp, xAp, xTc, xLc, xAc, xAn, xTn, xLn, xw1, xw2, xp1, xp2, xp3, mw1, mw2, xn1, xn2, xc1, xc2, o_le, o_leL, o_leR, o_lt, o_ltL, o_ltR, o_eq, o_eqL, o_eqR, o_cl, o_add, o_addL, o_addR, o_mul, o_mulL, o_mulR, o_sub, o_subR, o_0le, o_lt0, o_ixo, n1_eq, n1_eq', n1_lt, n1_le, n1_ge, n1_gt, n2_eq, n2_eq', n2_lt, n2_le, n2_ge, n2_gt, ↓reduceIte, ite_self, Nat.reduceEqDiff, Nat.reduceAdd, Nat.reduceMul, Nat.reduceSub, Nat.reduceLT, Nat.reduceLeDiff, Nat.not_lt_zero, Nat.zero_le, if_true, if_false, ite_true, ite_false, true_and, and_true, false_and, and_false, true_implies, false_implies, implies_true, not_true_eq_false, not_false_eq_true, eq_self, true_or, or_true, false_or, or_false, and_self, reduceCtorEq, forall_const]
  have r28 : ∀ k, k < 10 → X1.1 28 k = X.1 26 (i * 10 + k) := by
    intro k hk
    rw [← hX]
    simp (disch := omega) only [xTw, xLw, xAw, xTp, xLp, xAp, xTc, xLc, xAc, xAn, xTn, xLn, xw1, xw2, xp1, xp2, xp3, mw1, mw2, xn1, xn2, xc1, xc2, Nat.zero_add, hk, Nat.sub_zero, o_le, o_leL, o_leR, o_lt, o_ltL, o_ltR, o_eq, o_eqL, o_eqR, o_cl, o_add, o_addL, o_addR, o_mul, o_mulL, o_mulR, o_sub, o_subR, o_0le, o_lt0, o_ixo, n1_eq, n1_eq', n1_lt, n1_le, n1_ge, n1_gt, n2_eq, n2_eq', n2_lt, n2_le, n2_ge, n2_gt, ↓reduceIte, ite_self, Nat.reduceEqDiff, Nat.reduceAdd, Nat.reduceMul, Nat.reduceSub, Nat.reduceLT, Nat.reduceLeDiff, Nat.not_lt_zero, Nat.zero_le, if_true, if_false, ite_true, ite_false, true_and, and_true, false_and, and_false, true_implies, false_implies, implies_true, not_true_eq_false, not_false_eq_true, eq_self, true_or, or_true, false_or, or_false, and_self, reduceCtorEq, forall_const]
  have r29 : ∀ k, k < 12 → X1.1 29 k = X.1 27 (i * 12 + k) := by
    intro k hk
    rw [← hX]
    simp (disch := omega) only [xTw, xLw, xAw, xTp, xLp, xAp, xTc, xLc, xAc, xAn, xTn, xLn, xw1, xw2, xp1, xp2, xp3, mw1, mw2, xn1, xn2, xc1, xc2, Nat.zero_add, hk, Nat.sub_zero, o_le, o_leL, o_leR, o_lt, o_ltL, o_ltR, o_eq, o_eqL, o_eqR, o_cl, o_add, o_addL, o_addR, o_mul, o_mulL, o_mulR, o_sub, o_subR, o_0le, o_lt0, o_ixo, n1_eq, n1_eq', n1_lt, n1_le, n1_ge, n1_gt, n2_eq, n2_eq', n2_lt, n2_le, n2_ge, n2_gt, ↓reduceIte, ite_self, Nat.reduceEqDiff, Nat.reduceAdd, Nat.reduceMul, Nat.reduceSub, Nat.reduceLT, Nat.reduceLeDiff, Nat.not_lt_zero, Nat.zero_le, if_true, if_false, ite_true, ite_false, true_and, and_true, false_and, and_false, true_implies, false_implies, implies_true, not_true_eq_false, not_false_eq_true, eq_self, true_or, or_true, false_or, or_false, and_self, reduceCtorEq, forall_const]
  refine ⟨X1, ?_, ⟨by rw [← hX]; rfl, ?_⟩, ?_, ⟨?_, ?_, ?_, f4⟩, ⟨?_, b1, ?_, ?_⟩⟩
  · intro r
    unfold lt
    simp (disch := omega) only [xTw, xLw, xAw, xTp, xLp, xAp, xTc, xLc, xAc, xAn, xTn, xLn, xw1, xw2, xp1, xp2, xp3, mw1, mw2, xn1, xn2, xc1, xc2, b2, o_le, o_leL, o_leR, o_lt, o_ltL, o_ltR, o_eq, o_eqL, o_eqR, o_cl, o_add, o_addL, o_addR, o_mul, o_mulL, o_mulR, o_sub, o_subR, o_0le, o_lt0, o_ixo, n1_eq, n1_eq', n1_lt, n1_le, n1_ge, n1_gt, n2_eq, n2_eq', n2_lt, n2_le, n2_ge, n2_gt, ↓reduceIte, ite_self, Nat.reduceEqDiff, Nat.reduceAdd, Nat.reduceMul, Nat.reduceSub, Nat.reduceLT, Nat.reduceLeDiff, Nat.not_lt_zero, Nat.zero_le, if_true, if_false, ite_true, ite_false, true_and, and_true, false_and, and_false, true_implies, false_implies, implies_true, not_true_eq_false, not_false_eq_true, eq_self, true_or, or_true, false_or, or_false, and_self, reduceCtorEq, forall_const]
    rw [if_pos c1, if_pos c2, hX]
  · intro b hb
    funext j
    unfold Fal at hb
    exact rd b j (by omega) (by omega) (by omega) (by omega)
  · rw [r22, if_neg (by omega)]
  · intro j hj
    obtain ⟨z1, z2⟩ := f1 j hj
    refine ⟨?_, ?_⟩
    · unfold fl at *
      rw [rd 23 j (by omega) (by omega) (by omega) (by omega)]
      exact z1
    · show fl X1 24 j ↔ updB S.2.1 i false j = true
      unfold fl updB at *
      rw [r24]
      by_cases ej : j = i
      · rw [if_pos ej, if_pos ej]
        simp
      · rw [if_neg ej, if_neg ej]
        exact z2
  · intro j hj hsj
    obtain ⟨y1, y2, y3, y4⟩ := f2 j hj hsj
    refine ⟨y1, ?_, ?_, ?_⟩
    · rw [rd 25 j (by omega) (by omega) (by omega) (by omega)]; exact y2
    · intro k hk
      rw [rd 26 _ (by omega) (by omega) (by omega) (by omega)]; exact y3 k hk
    · intro k hk
      rw [rd 27 _ (by omega) (by omega) (by omega) (by omega)]; exact y4 k hk
  · rw [r22, if_neg (by omega)]; exact f3
  · rw [r22, if_pos rfl]
  · intro k hk
    rw [r28 k (by omega)]
    exact b3 k hk
  · intro k hk
    rw [r29 k hk]
    exact b4 k hk
def Fml (m a i : Nat) : Prop := Flm a i ∨ Fcm m a i
set_option maxRecDepth 20000 in
set_option maxHeartbeats 4000000 in
theorem Fml_src (m : Nat) : ∀ a i, Fml m a i → 74 < a ∨ (a = 60 ∧ i ≠ 3 ∧ i ≠ 15) := by
  intro a i h
  unfold Fml Flm Fcm at h
  omega
set_option maxRecDepth 20000 in
set_option maxHeartbeats 4000000 in
theorem loadM_ok {M : MS} {S : FS} {m i : Nat} (hS : FM M m S) (hi : i < 60) (hs : S.1 i = true) : ∃ M1, (∀ {α : Type} (r : Int32 × MS → Option α), (lt (mw M 82 (Int32.ofNat i).toNatClampNeg 0) fun M3 => (lt (mw M3 60 30 (M3.1 83 (Int32.ofNat i).toNatClampNeg)) fun M4 => ((lp (b45_M_lookAt (Int32.ofNat i)) 10000 ((0 : Int32), M4)).bind fun x15 => ((lp (b82_M_lookAt (Int32.ofNat i)) 10000 ((0 : Int32), x15.2)).bind fun x26 => r x26)))) = r (Int32.ofNat 12, M1)) ∧ MO (Fml m) M M1 ∧ FM M1 m (clrW S i) ∧ AM M1 (S.2.2.2.1 i) (S.2.2.1 i) (S.2.2.2.2.1 i) := by
  obtain ⟨f1, f2, f3, f4⟩ := hS
  obtain ⟨b1, b2, b3, b4⟩ := f2 i hi hs
  generalize hM4 : mw (mw M 82 i 0) 60 30 (Int32.ofNat (S.2.2.1 i)) = M4
  have n4 : ∀ a j, (a ≠ 82 ∨ j ≠ i) → (a ≠ 60 ∨ j ≠ 30) → M4.1 a j = M.1 a j := by
    intro a j h1 h2
    rw [← hM4, mw1, if_neg (by omega), mw1, if_neg (by omega)]
  have v30 : M4.1 60 30 = Int32.ofNat (S.2.2.1 i) := by rw [← hM4, mw1, if_pos ⟨rfl, rfl⟩]
  have v82 : M4.1 82 i = 0 := by rw [← hM4, mw1, if_neg (by omega), mw1, if_pos ⟨rfl, rfl⟩]
  have w1 : Wo (lp (b45_M_lookAt (Int32.ofNat i)) 10000 ((0 : Int32), M4)) (fun p => p.2.2 = M4.2 ∧ (∀ a j, a ≠ 86 → p.2.1 a j = M4.1 a j) ∧ ∀ k, k < S.2.2.1 i → p.2.1 86 k = S.2.2.2.1 i k) := by
    refine W_lp (fun p => ∃ k, k ≤ S.2.2.1 i ∧ p.1 = Int32.ofNat k ∧ p.2.2 = M4.2 ∧ (∀ a j, a ≠ 86 → p.2.1 a j = M4.1 a j) ∧ ∀ j, j < k → p.2.1 86 j = S.2.2.2.1 i j) (fun p => S.2.2.1 i - p.1.toNatClampNeg) ?_ 10000 _ ⟨0, Nat.zero_le _, rfl, rfl, fun _ _ _ => rfl, fun j hj => absurd hj (Nat.not_lt_zero j)⟩ (by show S.2.2.1 i - 0 < 10000; omega)
    intro p ⟨k, hk, ep, p2, po, pg⟩
    refine Wo.cps (fun Q hQ => ?_)
    have g30 : p.2.1 60 30 = Int32.ofNat (S.2.2.1 i) := by rw [po 60 30 (by omega)]; exact v30
    unfold b45_M_lookAt
    by_cases hl : k < S.2.2.1 i
    · have q1 : ¬ S.2.2.1 i ≤ k := by omega
      have q2 : 10 * i + k < 600 := by omega
      have q3 : k < 16 := by omega
      have eg : p.2.1 84 (10 * i + k) = S.2.2.2.1 i k := by rw [po 84 _ (by omega), n4 84 _ (by omega) (by omega)]; exact b3 k hl
      simp (disch := omega) only [W_some, W_none, W_bind, W_ite, W_ocz, W_lt, ep, g30, q1, q2, q3, eg, o_le, o_leL, o_leR, o_lt, o_ltL, o_ltR, o_eq, o_eqL, o_eqR, o_cl, o_add, o_addL, o_addR, o_mul, o_mulL, o_mulR, o_sub, o_subR, o_0le, o_lt0, o_ixo, n1_eq, n1_eq', n1_lt, n1_le, n1_ge, n1_gt, n2_eq, n2_eq', n2_lt, n2_le, n2_ge, n2_gt, ↓reduceIte, ite_self, Nat.reduceEqDiff, Nat.reduceAdd, Nat.reduceMul, Nat.reduceSub, Nat.reduceLT, Nat.reduceLeDiff, Nat.not_lt_zero, Nat.zero_le, if_true, if_false, ite_true, ite_false, true_and, and_true, false_and, and_false, true_implies, false_implies, implies_true, not_true_eq_false, not_false_eq_true, eq_self, true_or, or_true, false_or, or_false, and_self, reduceCtorEq, forall_const]
      refine hQ _ ⟨⟨k + 1, by omega, rfl, p2, ?_, ?_⟩, by simp (disch := omega) only [ep, o_le, o_leL, o_leR, o_lt, o_ltL, o_ltR, o_eq, o_eqL, o_eqR, o_cl, o_add, o_addL, o_addR, o_mul, o_mulL, o_mulR, o_sub, o_subR, o_0le, o_lt0, o_ixo, n1_eq, n1_eq', n1_lt, n1_le, n1_ge, n1_gt, n2_eq, n2_eq', n2_lt, n2_le, n2_ge, n2_gt, ↓reduceIte, ite_self, Nat.reduceEqDiff, Nat.reduceAdd, Nat.reduceMul, Nat.reduceSub, Nat.reduceLT, Nat.reduceLeDiff, Nat.not_lt_zero, Nat.zero_le, if_true, if_false, ite_true, ite_false, true_and, and_true, false_and, and_false, true_implies, false_implies, implies_true, not_true_eq_false, not_false_eq_true, eq_self, true_or, or_true, false_or, or_false, and_self, reduceCtorEq, forall_const]; omega⟩
      · intro a j ha
        rw [mw1, if_neg (fun q => ha q.1)]
        exact po a j ha
      · intro j hj
        rw [mw1]
        by_cases ej : j = k
        · subst ej
          rw [if_pos ⟨rfl, rfl⟩]
        · rw [if_neg (fun q => ej q.2)]
          exact pg j (by omega)
    · have ek : k = S.2.2.1 i := by omega
      rw [ek] at ep pg
      simp (disch := omega) only [W_some, W_none, W_bind, W_ite, W_ocz, W_lt, ep, g30, Nat.le_refl, o_le, o_leL, o_leR, o_lt, o_ltL, o_ltR, o_eq, o_eqL, o_eqR, o_cl, o_add, o_addL, o_addR, o_mul, o_mulL, o_mulR, o_sub, o_subR, o_0le, o_lt0, o_ixo, n1_eq, n1_eq', n1_lt, n1_le, n1_ge, n1_gt, n2_eq, n2_eq', n2_lt, n2_le, n2_ge, n2_gt, ↓reduceIte, ite_self, Nat.reduceEqDiff, Nat.reduceAdd, Nat.reduceMul, Nat.reduceSub, Nat.reduceLT, Nat.reduceLeDiff, Nat.not_lt_zero, Nat.zero_le, if_true, if_false, ite_true, ite_false, true_and, and_true, false_and, and_false, true_implies, false_implies, implies_true, not_true_eq_false, not_false_eq_true, eq_self, true_or, or_true, false_or, or_false, and_self, reduceCtorEq, forall_const]
      exact hQ _ ⟨p2, po, pg⟩
  obtain ⟨p, ep, p2, po, pg⟩ := w1
  have w2 : Wo (lp (b82_M_lookAt (Int32.ofNat i)) 10000 ((0 : Int32), p.2)) (fun q => q.1 = Int32.ofNat 12 ∧ q.2.2 = p.2.2 ∧ (∀ a j, a ≠ 87 → q.2.1 a j = p.2.1 a j) ∧ ∀ k, k < 12 → q.2.1 87 k = S.2.2.2.2.1 i k) := by
    refine W_lp (fun q => ∃ k, k ≤ 12 ∧ q.1 = Int32.ofNat k ∧ q.2.2 = p.2.2 ∧ (∀ a j, a ≠ 87 → q.2.1 a j = p.2.1 a j) ∧ ∀ j, j < k → q.2.1 87 j = S.2.2.2.2.1 i j) (fun q => 12 - q.1.toNatClampNeg) ?_ 10000 _ ⟨0, Nat.zero_le _, rfl, rfl, fun _ _ _ => rfl, fun j hj => absurd hj (Nat.not_lt_zero j)⟩ (by show 12 - 0 < 10000; omega)
    intro q ⟨k, hk, eq, q2, qo, qg⟩
    refine Wo.cps (fun Q hQ => ?_)
    unfold b82_M_lookAt
    by_cases hl : k < 12
    · have z1 : ¬ 12 ≤ k := by omega
      have z2 : 12 * i + k < 720 := by omega
      have eg : q.2.1 85 (12 * i + k) = S.2.2.2.2.1 i k := by rw [qo 85 _ (by omega), po 85 _ (by omega), n4 85 _ (by omega) (by omega)]; exact b4 k hl
      simp (disch := omega) only [W_some, W_none, W_bind, W_ite, W_ocz, W_lt, eq, z1, z2, hl, eg, o_le, o_leL, o_leR, o_lt, o_ltL, o_ltR, o_eq, o_eqL, o_eqR, o_cl, o_add, o_addL, o_addR, o_mul, o_mulL, o_mulR, o_sub, o_subR, o_0le, o_lt0, o_ixo, n1_eq, n1_eq', n1_lt, n1_le, n1_ge, n1_gt, n2_eq, n2_eq', n2_lt, n2_le, n2_ge, n2_gt, ↓reduceIte, ite_self, Nat.reduceEqDiff, Nat.reduceAdd, Nat.reduceMul, Nat.reduceSub, Nat.reduceLT, Nat.reduceLeDiff, Nat.not_lt_zero, Nat.zero_le, if_true, if_false, ite_true, ite_false, true_and, and_true, false_and, and_false, true_implies, false_implies, implies_true, not_true_eq_false, not_false_eq_true, eq_self, true_or, or_true, false_or, or_false, and_self, reduceCtorEq, forall_const]
      refine hQ _ ⟨⟨k + 1, by omega, rfl, q2, ?_, ?_⟩, by simp (disch := omega) only [eq, o_le, o_leL, o_leR, o_lt, o_ltL, o_ltR, o_eq, o_eqL, o_eqR, o_cl, o_add, o_addL, o_addR, o_mul, o_mulL, o_mulR, o_sub, o_subR, o_0le, o_lt0, o_ixo, n1_eq, n1_eq', n1_lt, n1_le, n1_ge, n1_gt, n2_eq, n2_eq', n2_lt, n2_le, n2_ge, n2_gt, ↓reduceIte, ite_self, Nat.reduceEqDiff, Nat.reduceAdd, Nat.reduceMul, Nat.reduceSub, Nat.reduceLT, Nat.reduceLeDiff, Nat.not_lt_zero, Nat.zero_le, if_true, if_false, ite_true, ite_false, true_and, and_true, false_and, and_false, true_implies, false_implies, implies_true, not_true_eq_false, not_false_eq_true, eq_self, true_or, or_true, false_or, or_false, and_self, reduceCtorEq, forall_const]; omega⟩
      · intro a j ha
        rw [mw1, if_neg (fun q => ha q.1)]
        exact qo a j ha
      · intro j hj
        rw [mw1]
        by_cases ej : j = k
        · subst ej
          rw [if_pos ⟨rfl, rfl⟩]
        · rw [if_neg (fun q => ej q.2)]
          exact qg j (by omega)
    · have ek : k = 12 := by omega
      subst ek
      simp (disch := omega) only [W_some, W_none, W_bind, W_ite, W_ocz, W_lt, eq, Nat.le_refl, o_le, o_leL, o_leR, o_lt, o_ltL, o_ltR, o_eq, o_eqL, o_eqR, o_cl, o_add, o_addL, o_addR, o_mul, o_mulL, o_mulR, o_sub, o_subR, o_0le, o_lt0, o_ixo, n1_eq, n1_eq', n1_lt, n1_le, n1_ge, n1_gt, n2_eq, n2_eq', n2_lt, n2_le, n2_ge, n2_gt, ↓reduceIte, ite_self, Nat.reduceEqDiff, Nat.reduceAdd, Nat.reduceMul, Nat.reduceSub, Nat.reduceLT, Nat.reduceLeDiff, Nat.not_lt_zero, Nat.zero_le, if_true, if_false, ite_true, ite_false, true_and, and_true, false_and, and_false, true_implies, false_implies, implies_true, not_true_eq_false, not_false_eq_true, eq_self, true_or, or_true, false_or, or_false, and_self, reduceCtorEq, forall_const]
      exact hQ _ ⟨rfl, q2, qo, qg⟩
  obtain ⟨q, eq, q1, q2, qo, qg⟩ := w2
  have rd : ∀ a j, a ≠ 87 → a ≠ 86 → (a ≠ 82 ∨ j ≠ i) → (a ≠ 60 ∨ j ≠ 30) → q.2.1 a j = M.1 a j := by
    intro a j h1 h2 h3 h4
    rw [qo a j h1, po a j h2, n4 a j h3 h4]
  refine ⟨q.2, ?_, ⟨?_, ?_⟩, ⟨?_, ?_, ?_, f4⟩, ⟨?_, b1, ?_, qg⟩⟩
  · intro α r
    unfold lt
    dsimp only
    rw [o_cl i (by omega)]
    have e83 : (mw M 82 i 0).1 83 i = Int32.ofNat (S.2.2.1 i) := by rw [mw1, if_neg (by omega)]; exact b2
    rw [e83, hM4, ep]
    simp only [Option.bind_some]
    rw [eq]
    simp only [Option.bind_some]
    rw [← q1]
  · rw [q2, p2, ← hM4]; rfl
  · intro a j ha
    unfold Fml Flm Fcm at ha
    exact rd a j (by omega) (by omega) (by omega) (by omega)
  · intro j hj
    obtain ⟨z1, z2, z3⟩ := f1 j hj
    refine ⟨?_, ?_, ?_⟩
    · unfold fm at *
      rw [rd 81 j (by omega) (by omega) (by omega) (by omega)]; exact z1
    · show fm q.2 82 j ↔ updB S.2.1 i false j = true
      unfold fm updB at *
      by_cases ej : j = i
      · subst ej
        rw [if_pos rfl, qo 82 j (by omega), po 82 j (by omega), v82]
        simp
      · rw [if_neg ej, rd 82 j (by omega) (by omega) (by omega) (by omega)]
        exact z2
    · unfold fm at *
      rw [rd 88 _ (by omega) (by omega) (by omega) (by omega)]; exact z3
  · intro j hj hsj
    obtain ⟨y1, y2, y3, y4⟩ := f2 j hj hsj
    refine ⟨y1, ?_, ?_, ?_⟩
    · rw [rd 83 j (by omega) (by omega) (by omega) (by omega)]; exact y2
    · intro k hk
      rw [rd 84 _ (by omega) (by omega) (by omega) (by omega)]; exact y3 k hk
    · intro k hk
      rw [rd 85 _ (by omega) (by omega) (by omega) (by omega)]; exact y4 k hk
  · rw [rd 89 m (by omega) (by omega) (by omega) (by omega)]; exact f3
  · rw [qo 60 30 (by omega), po 60 30 (by omega)]; exact v30
  · intro k hk
    rw [qo 86 k (by omega)]
    exact pg k hk
