/-! H3 -/
/-- what is kept of a method's flow, on both sides -/
def TyX (X : XS) (m : Nat) (S : FS) : Prop := (∀ i, i < 60 → (fl X 11 (60 * m + i) ↔ S.1 i = true)) ∧ X.1 12 m = Int32.ofNat S.2.2.2.2.2
def TyM (M0 : MS) (kc rc : Nat) (M : MS) (m : Nat) (S : FS) : Prop := (∃ s tc tk, s ≤ 60 ∧ M0.1 70 m = Int32.ofNat s ∧ tc ≤ 6 ∧ M0.1 73 m = Int32.ofNat tc ∧ (∃ n, n ≤ 4 ∧ M0.1 66 m = Int32.ofNat n ∧ tk = if M0.1 65 m = -2 then n else n + 1) ∧ FlowOk M0 kc rc m s tc tk S) ∧ (∀ i, i < 60 → (fm M 88 (60 * m + i) ↔ S.1 i = true)) ∧ M.1 89 m = Int32.ofNat S.2.2.2.2.2 ∧ S.2.2.2.2.2 ≤ 10
def Fkp (b : Nat) : Prop := b = 11 ∨ b = 12
def Flk (b : Nat) : Prop := b = 11 ∨ b = 12 ∨ Fal b
def Fmk (a i : Nat) : Prop := Flm a i ∨ (81 ≤ a ∧ a ≤ 85) ∨ a = 88 ∨ a = 89
set_option maxRecDepth 20000 in
set_option maxHeartbeats 4000000 in
theorem Fml_k {m a i : Nat} (h : Fml m a i) : Fmk a i := by
  unfold Fml Fcm at h
  unfold Fmk
  rcases h with h | h | h | h
  · exact Or.inl h
  · exact Or.inr (Or.inl h)
  · exact Or.inr (Or.inr (Or.inl h.1))
  · exact Or.inr (Or.inr (Or.inr h.1))
set_option maxRecDepth 20000 in
set_option maxHeartbeats 4000000 in
theorem keepFlow_ok {X : XS} {m : Nat} {S : FS} (hm : m < 24) (h : FX X S) : Wo (f_Linker_keepFlow (Int32.ofNat m) X) (fun X' => Only Fkp X X' ∧ TyX X' m S ∧ (∀ i, ¬ (60 * m ≤ i ∧ i < 60 * m + 60) → X'.1 11 i = X.1 11 i) ∧ ∀ j, j ≠ m → X'.1 12 j = X.1 12 j) := by
  obtain ⟨h1, h2, h3, h4⟩ := h
  unfold f_Linker_keepFlow
  have q0 : m ≤ 23 := by omega
  simp (disch := omega) only [W_some, W_none, W_bind, W_ite, W_ocz, W_lt, q0, o_le, o_leL, o_leR, o_lt, o_ltL, o_ltR, o_eq, o_eqL, o_eqR, o_cl, o_add, o_addL, o_addR, o_mul, o_mulL, o_mulR, o_sub, o_subR, o_0le, o_lt0, o_ixo, n1_eq, n1_eq', n1_lt, n1_le, n1_ge, n1_gt, n2_eq, n2_eq', n2_lt, n2_le, n2_ge, n2_gt, ↓reduceIte, ite_self, Nat.reduceEqDiff, Nat.reduceAdd, Nat.reduceMul, Nat.reduceSub, Nat.reduceLT, Nat.reduceLeDiff, Nat.not_lt_zero, Nat.zero_le, if_true, if_false, ite_true, ite_false, true_and, and_true, false_and, and_false, true_implies, false_implies, implies_true, not_true_eq_false, not_false_eq_true, eq_self, true_or, or_true, false_or, or_false, and_self, reduceCtorEq, forall_const]
  generalize hX1 : xw X 12 m (X.1 22 0) = X1
  have o1 : Only Fkp X X1 := by rw [← hX1]; exact (Only.refl X).xw (Or.inr rfl) _ _
  have a12 : X1.1 12 m = Int32.ofNat S.2.2.2.2.2 ∧ ∀ j, j ≠ m → X1.1 12 j = X.1 12 j := by
    rw [← hX1]
    refine ⟨by simp (disch := omega) only [xTw, xLw, xAw, xTp, xLp, xAp, xTc, xLc, xAc, xAn, xTn, xLn, xw1, xw2, xp1, xp2, xp3, mw1, mw2, xn1, xn2, xc1, xc2, h3, o_le, o_leL, o_leR, o_lt, o_ltL, o_ltR, o_eq, o_eqL, o_eqR, o_cl, o_add, o_addL, o_addR, o_mul, o_mulL, o_mulR, o_sub, o_subR, o_0le, o_lt0, o_ixo, n1_eq, n1_eq', n1_lt, n1_le, n1_ge, n1_gt, n2_eq, n2_eq', n2_lt, n2_le, n2_ge, n2_gt, ↓reduceIte, ite_self, Nat.reduceEqDiff, Nat.reduceAdd, Nat.reduceMul, Nat.reduceSub, Nat.reduceLT, Nat.reduceLeDiff, Nat.not_lt_zero, Nat.zero_le, if_true, if_false, ite_true, ite_false, true_and, and_true, false_and, and_false, true_implies, false_implies, implies_true, not_true_eq_false, not_false_eq_true, eq_self, true_or, or_true, false_or, or_false, and_self, reduceCtorEq, forall_const], fun j hj => by simp (disch := omega) only [xTw, xLw, xAw, xTp, xLp, xAp, xTc, xLc, xAc, xAn, xTn, xLn, xw1, xw2, xp1, xp2, xp3, mw1, mw2, xn1, xn2, xc1, xc2, hj, o_le, o_leL, o_leR, o_lt, o_ltL, o_ltR, o_eq, o_eqL, o_eqR, o_cl, o_add, o_addL, o_addR, o_mul, o_mulL, o_mulR, o_sub, o_subR, o_0le, o_lt0, o_ixo, n1_eq, n1_eq', n1_lt, n1_le, n1_ge, n1_gt, n2_eq, n2_eq', n2_lt, n2_le, n2_ge, n2_gt, ↓reduceIte, ite_self, Nat.reduceEqDiff, Nat.reduceAdd, Nat.reduceMul, Nat.reduceSub, Nat.reduceLT, Nat.reduceLeDiff, Nat.not_lt_zero, Nat.zero_le, if_true, if_false, ite_true, ite_false, true_and, and_true, false_and, and_false, true_implies, false_implies, implies_true, not_true_eq_false, not_false_eq_true, eq_self, true_or, or_true, false_or, or_false, and_self, reduceCtorEq, forall_const]⟩
  have a11 : X1.1 11 = X.1 11 := by rw [← hX1]; exact xw_ne _ _ _ _ (by omega)
  have a23 : X1.1 23 = X.1 23 := by rw [← hX1]; exact xw_ne _ _ _ _ (by omega)
  have key : Wo (lp (b26_Linker_keepFlow (Int32.ofNat m)) 10000 ((0 : Int32), X1)) (fun p => Only Fkp X p.2 ∧ p.2.1 12 = X1.1 12 ∧ (∀ i, ¬ (60 * m ≤ i ∧ i < 60 * m + 60) → p.2.1 11 i = X.1 11 i) ∧ ∀ i, i < 60 → (fl p.2 11 (60 * m + i) ↔ S.1 i = true)) := by
    refine W_lp (fun p => ∃ k, k ≤ 60 ∧ p.1 = Int32.ofNat k ∧ Only Fkp X p.2 ∧ p.2.1 12 = X1.1 12 ∧ (∀ i, ¬ (60 * m ≤ i ∧ i < 60 * m + 60) → p.2.1 11 i = X.1 11 i) ∧ ∀ i, i < k → (fl p.2 11 (60 * m + i) ↔ S.1 i = true)) (fun p => 60 - p.1.toNatClampNeg) ?_ 10000 _ ⟨0, by omega, rfl, o1, rfl, fun i _ => by rw [a11], fun c hc => absurd hc (Nat.not_lt_zero c)⟩ (by show 60 - 0 < 10000; omega)
    intro p ⟨k, hk, ep, ho, h12, hf1, hf⟩
    refine Wo.cps (fun Q hQ => ?_)
    unfold b26_Linker_keepFlow
    by_cases hl : k < 60
    · have q1 : ¬ 60 ≤ k := by omega
      have q2 : k ≤ 59 := by omega
      have q3 : 60 * m + k < 1440 := by omega
      have q4 : m * 60 + k = 60 * m + k := by omega
      have e23 : p.2.1 23 = X.1 23 := ho.2 23 (by unfold Fkp; omega)
      have sn : (f_Flow_wasSeen (Int32.ofNat k) p.2 = true) = (S.1 k = true) := by
        unfold f_Flow_wasSeen
        simp (disch := omega) only [q2, o_le, o_leL, o_leR, o_lt, o_ltL, o_ltR, o_eq, o_eqL, o_eqR, o_cl, o_add, o_addL, o_addR, o_mul, o_mulL, o_mulR, o_sub, o_subR, o_0le, o_lt0, o_ixo, n1_eq, n1_eq', n1_lt, n1_le, n1_ge, n1_gt, n2_eq, n2_eq', n2_lt, n2_le, n2_ge, n2_gt, ↓reduceIte, ite_self, Nat.reduceEqDiff, Nat.reduceAdd, Nat.reduceMul, Nat.reduceSub, Nat.reduceLT, Nat.reduceLeDiff, Nat.not_lt_zero, Nat.zero_le, if_true, if_false, ite_true, ite_false, true_and, and_true, false_and, and_false, true_implies, false_implies, implies_true, not_true_eq_false, not_false_eq_true, eq_self, true_or, or_true, false_or, or_false, and_self, reduceCtorEq, forall_const]
        rw [e23]
        apply propext
        rw [← (h1 k hl).1]
        unfold fl
        by_cases z : X.1 23 k = 0 <;> simp [z]
      have step : ∀ v : Int32, (¬ v = 0 ↔ S.1 k = true) → ∃ k', k' ≤ 60 ∧ Int32.ofNat (k + 1) = Int32.ofNat k' ∧ Only Fkp X (xw p.2 11 (60 * m + k) v) ∧ (xw p.2 11 (60 * m + k) v).1 12 = X1.1 12 ∧ (∀ i, ¬ (60 * m ≤ i ∧ i < 60 * m + 60) → (xw p.2 11 (60 * m + k) v).1 11 i = X.1 11 i) ∧ ∀ i, i < k' → (fl (xw p.2 11 (60 * m + k) v) 11 (60 * m + i) ↔ S.1 i = true) := by
        intro v hv
        refine ⟨k + 1, by omega, rfl, ho.xw (Or.inl rfl) _ _, by rw [xw_ne _ _ _ _ (by omega)]; exact h12, ?_, ?_⟩
        · intro i hi
          have : ¬ i = 60 * m + k := by omega
          simp (disch := omega) only [xTw, xLw, xAw, xTp, xLp, xAp, xTc, xLc, xAc, xAn, xTn, xLn, xw1, xw2, xp1, xp2, xp3, mw1, mw2, xn1, xn2, xc1, xc2, this, o_le, o_leL, o_leR, o_lt, o_ltL, o_ltR, o_eq, o_eqL, o_eqR, o_cl, o_add, o_addL, o_addR, o_mul, o_mulL, o_mulR, o_sub, o_subR, o_0le, o_lt0, o_ixo, n1_eq, n1_eq', n1_lt, n1_le, n1_ge, n1_gt, n2_eq, n2_eq', n2_lt, n2_le, n2_ge, n2_gt, ↓reduceIte, ite_self, Nat.reduceEqDiff, Nat.reduceAdd, Nat.reduceMul, Nat.reduceSub, Nat.reduceLT, Nat.reduceLeDiff, Nat.not_lt_zero, Nat.zero_le, if_true, if_false, ite_true, ite_false, true_and, and_true, false_and, and_false, true_implies, false_implies, implies_true, not_true_eq_false, not_false_eq_true, eq_self, true_or, or_true, false_or, or_false, and_self, reduceCtorEq, forall_const]
          exact hf1 i hi
        · intro i hi
          unfold fl
          by_cases e : i = k
          · subst e
            simp (disch := omega) only [xTw, xLw, xAw, xTp, xLp, xAp, xTc, xLc, xAc, xAn, xTn, xLn, xw1, xw2, xp1, xp2, xp3, mw1, mw2, xn1, xn2, xc1, xc2, o_le, o_leL, o_leR, o_lt, o_ltL, o_ltR, o_eq, o_eqL, o_eqR, o_cl, o_add, o_addL, o_addR, o_mul, o_mulL, o_mulR, o_sub, o_subR, o_0le, o_lt0, o_ixo, n1_eq, n1_eq', n1_lt, n1_le, n1_ge, n1_gt, n2_eq, n2_eq', n2_lt, n2_le, n2_ge, n2_gt, ↓reduceIte, ite_self, Nat.reduceEqDiff, Nat.reduceAdd, Nat.reduceMul, Nat.reduceSub, Nat.reduceLT, Nat.reduceLeDiff, Nat.not_lt_zero, Nat.zero_le, if_true, if_false, ite_true, ite_false, true_and, and_true, false_and, and_false, true_implies, false_implies, implies_true, not_true_eq_false, not_false_eq_true, eq_self, true_or, or_true, false_or, or_false, and_self, reduceCtorEq, forall_const]
            exact hv
          · have : ¬ 60 * m + i = 60 * m + k := by omega
            simp (disch := omega) only [xTw, xLw, xAw, xTp, xLp, xAp, xTc, xLc, xAc, xAn, xTn, xLn, xw1, xw2, xp1, xp2, xp3, mw1, mw2, xn1, xn2, xc1, xc2, this, o_le, o_leL, o_leR, o_lt, o_ltL, o_ltR, o_eq, o_eqL, o_eqR, o_cl, o_add, o_addL, o_addR, o_mul, o_mulL, o_mulR, o_sub, o_subR, o_0le, o_lt0, o_ixo, n1_eq, n1_eq', n1_lt, n1_le, n1_ge, n1_gt, n2_eq, n2_eq', n2_lt, n2_le, n2_ge, n2_gt, ↓reduceIte, ite_self, Nat.reduceEqDiff, Nat.reduceAdd, Nat.reduceMul, Nat.reduceSub, Nat.reduceLT, Nat.reduceLeDiff, Nat.not_lt_zero, Nat.zero_le, if_true, if_false, ite_true, ite_false, true_and, and_true, false_and, and_false, true_implies, false_implies, implies_true, not_true_eq_false, not_false_eq_true, eq_self, true_or, or_true, false_or, or_false, and_self, reduceCtorEq, forall_const]
            exact hf i (by omega)
      by_cases sk : S.1 k = true
      · have sn' : f_Flow_wasSeen (Int32.ofNat k) p.2 = true := by rw [sn]; exact sk
        simp (disch := omega) only [W_some, W_none, W_bind, W_ite, W_ocz, W_lt, ep, q1, sn', q4, q3, o_le, o_leL, o_leR, o_lt, o_ltL, o_ltR, o_eq, o_eqL, o_eqR, o_cl, o_add, o_addL, o_addR, o_mul, o_mulL, o_mulR, o_sub, o_subR, o_0le, o_lt0, o_ixo, n1_eq, n1_eq', n1_lt, n1_le, n1_ge, n1_gt, n2_eq, n2_eq', n2_lt, n2_le, n2_ge, n2_gt, ↓reduceIte, ite_self, Nat.reduceEqDiff, Nat.reduceAdd, Nat.reduceMul, Nat.reduceSub, Nat.reduceLT, Nat.reduceLeDiff, Nat.not_lt_zero, Nat.zero_le, if_true, if_false, ite_true, ite_false, true_and, and_true, false_and, and_false, true_implies, false_implies, implies_true, not_true_eq_false, not_false_eq_true, eq_self, true_or, or_true, false_or, or_false, and_self, reduceCtorEq, forall_const]
        exact hQ _ ⟨step 1 ⟨fun _ => sk, fun _ => by decide⟩, by simp (disch := omega) only [ep, o_le, o_leL, o_leR, o_lt, o_ltL, o_ltR, o_eq, o_eqL, o_eqR, o_cl, o_add, o_addL, o_addR, o_mul, o_mulL, o_mulR, o_sub, o_subR, o_0le, o_lt0, o_ixo, n1_eq, n1_eq', n1_lt, n1_le, n1_ge, n1_gt, n2_eq, n2_eq', n2_lt, n2_le, n2_ge, n2_gt, ↓reduceIte, ite_self, Nat.reduceEqDiff, Nat.reduceAdd, Nat.reduceMul, Nat.reduceSub, Nat.reduceLT, Nat.reduceLeDiff, Nat.not_lt_zero, Nat.zero_le, if_true, if_false, ite_true, ite_false, true_and, and_true, false_and, and_false, true_implies, false_implies, implies_true, not_true_eq_false, not_false_eq_true, eq_self, true_or, or_true, false_or, or_false, and_self, reduceCtorEq, forall_const]; omega⟩
      · have sn' : ¬ f_Flow_wasSeen (Int32.ofNat k) p.2 = true := by rw [sn]; exact sk
        simp (disch := omega) only [W_some, W_none, W_bind, W_ite, W_ocz, W_lt, ep, q1, sn', q4, q3, o_le, o_leL, o_leR, o_lt, o_ltL, o_ltR, o_eq, o_eqL, o_eqR, o_cl, o_add, o_addL, o_addR, o_mul, o_mulL, o_mulR, o_sub, o_subR, o_0le, o_lt0, o_ixo, n1_eq, n1_eq', n1_lt, n1_le, n1_ge, n1_gt, n2_eq, n2_eq', n2_lt, n2_le, n2_ge, n2_gt, ↓reduceIte, ite_self, Nat.reduceEqDiff, Nat.reduceAdd, Nat.reduceMul, Nat.reduceSub, Nat.reduceLT, Nat.reduceLeDiff, Nat.not_lt_zero, Nat.zero_le, if_true, if_false, ite_true, ite_false, true_and, and_true, false_and, and_false, true_implies, false_implies, implies_true, not_true_eq_false, not_false_eq_true, eq_self, true_or, or_true, false_or, or_false, and_self, reduceCtorEq, forall_const]
        exact hQ _ ⟨step 0 ⟨fun x => absurd rfl x, fun x => absurd x sk⟩, by simp (disch := omega) only [ep, o_le, o_leL, o_leR, o_lt, o_ltL, o_ltR, o_eq, o_eqL, o_eqR, o_cl, o_add, o_addL, o_addR, o_mul, o_mulL, o_mulR, o_sub, o_subR, o_0le, o_lt0, o_ixo, n1_eq, n1_eq', n1_lt, n1_le, n1_ge, n1_gt, n2_eq, n2_eq', n2_lt, n2_le, n2_ge, n2_gt, ↓reduceIte, ite_self, Nat.reduceEqDiff, Nat.reduceAdd, Nat.reduceMul, Nat.reduceSub, Nat.reduceLT, Nat.reduceLeDiff, Nat.not_lt_zero, Nat.zero_le, if_true, if_false, ite_true, ite_false, true_and, and_true, false_and, and_false, true_implies, false_implies, implies_true, not_true_eq_false, not_false_eq_true, eq_self, true_or, or_true, false_or, or_false, and_self, reduceCtorEq, forall_const]; omega⟩
    · have ek : k = 60 := by omega
      subst ek
      simp (disch := omega) only [W_some, W_none, W_bind, W_ite, W_ocz, W_lt, ep, Nat.le_refl, o_le, o_leL, o_leR, o_lt, o_ltL, o_ltR, o_eq, o_eqL, o_eqR, o_cl, o_add, o_addL, o_addR, o_mul, o_mulL, o_mulR, o_sub, o_subR, o_0le, o_lt0, o_ixo, n1_eq, n1_eq', n1_lt, n1_le, n1_ge, n1_gt, n2_eq, n2_eq', n2_lt, n2_le, n2_ge, n2_gt, ↓reduceIte, ite_self, Nat.reduceEqDiff, Nat.reduceAdd, Nat.reduceMul, Nat.reduceSub, Nat.reduceLT, Nat.reduceLeDiff, Nat.not_lt_zero, Nat.zero_le, if_true, if_false, ite_true, ite_false, true_and, and_true, false_and, and_false, true_implies, false_implies, implies_true, not_true_eq_false, not_false_eq_true, eq_self, true_or, or_true, false_or, or_false, and_self, reduceCtorEq, forall_const]
      exact hQ _ ⟨ho, h12, hf1, hf⟩
  refine Wo.mono key ?_
  intro p ⟨p1, p2, p3, p4⟩
  refine ⟨p1, ⟨p4, by rw [p2]; exact a12.1⟩, p3, fun j hj => by rw [p2]; exact a12.2 j hj⟩
