/-! L7 -/
/-- classes that a reached method names -/
def Dir (M : MS) (kc rc : Nat) (R : Nat → Prop) (c : Nat) : Prop := ∃ m, m < rc ∧ R m ∧ (aK M kc m c ∨ (¬ M.1 65 m = -2 ∧ M.1 64 m = Int32.ofNat c ∧ c < kc))
/-- with all above -/
def UpC (M : MS) (kc : Nat) (D S : Nat → Prop) : Prop := (∀ c, D c → S c) ∧ ∀ c d, c < kc → S c → M.1 61 c = Int32.ofNat d → d < kc → S d
set_option maxRecDepth 20000 in
set_option maxHeartbeats 4000000 in
theorem owners_ok {X : XS} {M : MS} {T : Nat → Nat} {kc rc main : Nat} (h : RSc X M T kc rc) (ht : TG T) (hp : ∀ m, m < 24 → fl X 17 m → m < rc) : Wo (f_Reach_addOwners X) (fun X' => Only Rch X X' ∧ (∀ b j, b ≠ 15 → (fl X' b j ↔ fl X b j)) ∧ ∀ j, fl X' 15 j ↔ fl X 15 j ∨ ∃ m, m < rc ∧ fl X 17 m ∧ ¬ M.1 65 m = -2 ∧ M.1 64 m = Int32.ofNat j ∧ j < kc) := by
  have hr := h.2.1
  unfold f_Reach_addOwners
  rw [W_bind]
  have w : Wo (lp b2_Reach_addOwners 10000 ((0 : Int32), X)) (fun p => Only Rch X p.2 ∧ (∀ b j, b ≠ 15 → (fl p.2 b j ↔ fl X b j)) ∧ ∀ j, fl p.2 15 j ↔ fl X 15 j ∨ ∃ m, m < 24 ∧ m < rc ∧ fl X 17 m ∧ ¬ M.1 65 m = -2 ∧ M.1 64 m = Int32.ofNat j ∧ j < kc) := by
    refine W_lp (fun p => ∃ k, k ≤ 24 ∧ p.1 = Int32.ofNat k ∧ Only Rch X p.2 ∧ (∀ b j, b ≠ 15 → (fl p.2 b j ↔ fl X b j)) ∧ ∀ j, fl p.2 15 j ↔ fl X 15 j ∨ ∃ m, m < k ∧ m < rc ∧ fl X 17 m ∧ ¬ M.1 65 m = -2 ∧ M.1 64 m = Int32.ofNat j ∧ j < kc) (fun p => 24 - p.1.toNatClampNeg) ?_ 10000 _ ⟨0, by omega, rfl, Only.refl X, fun _ _ _ => Iff.rfl, ?_⟩ (by show 24 - 0 < 10000; omega)
    · intro p ⟨k, hk, ep, ho, e1, e2⟩
      refine Wo.cps (fun Q hQ => ?_)
      unfold b2_Reach_addOwners
      by_cases hl : k < 24
      case neg =>
        have ek : k = 24 := by omega
        subst ek
        simp (disch := omega) only [W_some, W_none, W_bind, W_ite, W_ocz, W_lt, ep, Nat.le_refl, o_le, o_leL, o_leR, o_lt, o_ltL, o_ltR, o_eq, o_eqL, o_eqR, o_cl, o_add, o_addL, o_addR, o_mul, o_mulL, o_mulR, o_sub, o_subR, o_0le, o_lt0, o_ixo, n1_eq, n1_eq', n1_lt, n1_le, n1_ge, n1_gt, n2_eq, n2_eq', n2_lt, n2_le, n2_ge, n2_gt, ↓reduceIte, ite_self, Nat.reduceEqDiff, Nat.reduceAdd, Nat.reduceMul, Nat.reduceSub, Nat.reduceLT, Nat.reduceLeDiff, Nat.not_lt_zero, Nat.zero_le, if_true, if_false, ite_true, ite_false, true_and, and_true, false_and, and_false, true_implies, false_implies, implies_true, not_true_eq_false, not_false_eq_true, eq_self, true_or, or_true, false_or, or_false, and_self, reduceCtorEq, forall_const]
        exact hQ _ ⟨ho, e1, e2⟩
      have q1 : ¬ 24 ≤ k := by omega
      have hc := Only.rsc h ht ho (by unfold Rch; omega)
      have hi := hasR_iff hc hl
      have e17 := e1 17 k (by decide)
      by_cases c1 : k < rc ∧ fl X 17 k
      · have hi' : f_Reach_hasRoutine (Int32.ofNat k) p.2 = true := hi.mpr ⟨c1.1, e17.mpr c1.2⟩
        obtain ⟨a, f, ra, rv⟩ := hc.2.2.2.2.2 k c1.1
        have v1 := rv.1
        have v2 := rv.2.1
        unfold f_Routine_isStatic
        by_cases c2 : M.1 65 k = -2
        · simp (disch := omega) only [W_some, W_none, W_bind, W_ite, W_ocz, W_lt, ep, q1, hi', ra.1, ra.2.1, v2, c2, o_le, o_leL, o_leR, o_lt, o_ltL, o_ltR, o_eq, o_eqL, o_eqR, o_cl, o_add, o_addL, o_addR, o_mul, o_mulL, o_mulR, o_sub, o_subR, o_0le, o_lt0, o_ixo, n1_eq, n1_eq', n1_lt, n1_le, n1_ge, n1_gt, n2_eq, n2_eq', n2_lt, n2_le, n2_ge, n2_gt, ↓reduceIte, ite_self, Nat.reduceEqDiff, Nat.reduceAdd, Nat.reduceMul, Nat.reduceSub, Nat.reduceLT, Nat.reduceLeDiff, Nat.not_lt_zero, Nat.zero_le, if_true, if_false, ite_true, ite_false, true_and, and_true, false_and, and_false, true_implies, false_implies, implies_true, not_true_eq_false, not_false_eq_true, eq_self, true_or, or_true, false_or, or_false, and_self, reduceCtorEq, forall_const]
          refine hQ _ ⟨⟨k + 1, by omega, rfl, ho, e1, ?_⟩, by simp (disch := omega) only [ep, o_le, o_leL, o_leR, o_lt, o_ltL, o_ltR, o_eq, o_eqL, o_eqR, o_cl, o_add, o_addL, o_addR, o_mul, o_mulL, o_mulR, o_sub, o_subR, o_0le, o_lt0, o_ixo, n1_eq, n1_eq', n1_lt, n1_le, n1_ge, n1_gt, n2_eq, n2_eq', n2_lt, n2_le, n2_ge, n2_gt, ↓reduceIte, ite_self, Nat.reduceEqDiff, Nat.reduceAdd, Nat.reduceMul, Nat.reduceSub, Nat.reduceLT, Nat.reduceLeDiff, Nat.not_lt_zero, Nat.zero_le, if_true, if_false, ite_true, ite_false, true_and, and_true, false_and, and_false, true_implies, false_implies, implies_true, not_true_eq_false, not_false_eq_true, eq_self, true_or, or_true, false_or, or_false, and_self, reduceCtorEq, forall_const]; omega⟩
          intro j
          rw [e2, ex_succ]
          grind
        · obtain ⟨X', ex, o', f'⟩ := addKind_ok hc (M.1 64 k)
          simp (disch := omega) only [W_some, W_none, W_bind, W_ite, W_ocz, W_lt, ep, q1, hi', ra.1, ra.2.1, v2, c2, v1, ex, o_le, o_leL, o_leR, o_lt, o_ltL, o_ltR, o_eq, o_eqL, o_eqR, o_cl, o_add, o_addL, o_addR, o_mul, o_mulL, o_mulR, o_sub, o_subR, o_0le, o_lt0, o_ixo, n1_eq, n1_eq', n1_lt, n1_le, n1_ge, n1_gt, n2_eq, n2_eq', n2_lt, n2_le, n2_ge, n2_gt, ↓reduceIte, ite_self, Nat.reduceEqDiff, Nat.reduceAdd, Nat.reduceMul, Nat.reduceSub, Nat.reduceLT, Nat.reduceLeDiff, Nat.not_lt_zero, Nat.zero_le, if_true, if_false, ite_true, ite_false, true_and, and_true, false_and, and_false, true_implies, false_implies, implies_true, not_true_eq_false, not_false_eq_true, eq_self, true_or, or_true, false_or, or_false, and_self, reduceCtorEq, forall_const]
          refine hQ _ ⟨⟨k + 1, by omega, rfl, ho.trans o', ?_, ?_⟩, by simp (disch := omega) only [ep, o_le, o_leL, o_leR, o_lt, o_ltL, o_ltR, o_eq, o_eqL, o_eqR, o_cl, o_add, o_addL, o_addR, o_mul, o_mulL, o_mulR, o_sub, o_subR, o_0le, o_lt0, o_ixo, n1_eq, n1_eq', n1_lt, n1_le, n1_ge, n1_gt, n2_eq, n2_eq', n2_lt, n2_le, n2_ge, n2_gt, ↓reduceIte, ite_self, Nat.reduceEqDiff, Nat.reduceAdd, Nat.reduceMul, Nat.reduceSub, Nat.reduceLT, Nat.reduceLeDiff, Nat.not_lt_zero, Nat.zero_le, if_true, if_false, ite_true, ite_false, true_and, and_true, false_and, and_false, true_implies, false_implies, implies_true, not_true_eq_false, not_false_eq_true, eq_self, true_or, or_true, false_or, or_false, and_self, reduceCtorEq, forall_const]; omega⟩
          · intro b j hb
            rw [f', e1 b j hb]
            grind
          · intro j
            rw [f', e2, ex_succ]
            grind
      · have hi' : ¬ f_Reach_hasRoutine (Int32.ofNat k) p.2 = true := fun h => c1 ⟨(hi.mp h).1, e17.mp (hi.mp h).2⟩
        simp (disch := omega) only [W_some, W_none, W_bind, W_ite, W_ocz, W_lt, ep, q1, hi', o_le, o_leL, o_leR, o_lt, o_ltL, o_ltR, o_eq, o_eqL, o_eqR, o_cl, o_add, o_addL, o_addR, o_mul, o_mulL, o_mulR, o_sub, o_subR, o_0le, o_lt0, o_ixo, n1_eq, n1_eq', n1_lt, n1_le, n1_ge, n1_gt, n2_eq, n2_eq', n2_lt, n2_le, n2_ge, n2_gt, ↓reduceIte, ite_self, Nat.reduceEqDiff, Nat.reduceAdd, Nat.reduceMul, Nat.reduceSub, Nat.reduceLT, Nat.reduceLeDiff, Nat.not_lt_zero, Nat.zero_le, if_true, if_false, ite_true, ite_false, true_and, and_true, false_and, and_false, true_implies, false_implies, implies_true, not_true_eq_false, not_false_eq_true, eq_self, true_or, or_true, false_or, or_false, and_self, reduceCtorEq, forall_const]
        refine hQ _ ⟨⟨k + 1, by omega, rfl, ho, e1, ?_⟩, by simp (disch := omega) only [ep, o_le, o_leL, o_leR, o_lt, o_ltL, o_ltR, o_eq, o_eqL, o_eqR, o_cl, o_add, o_addL, o_addR, o_mul, o_mulL, o_mulR, o_sub, o_subR, o_0le, o_lt0, o_ixo, n1_eq, n1_eq', n1_lt, n1_le, n1_ge, n1_gt, n2_eq, n2_eq', n2_lt, n2_le, n2_ge, n2_gt, ↓reduceIte, ite_self, Nat.reduceEqDiff, Nat.reduceAdd, Nat.reduceMul, Nat.reduceSub, Nat.reduceLT, Nat.reduceLeDiff, Nat.not_lt_zero, Nat.zero_le, if_true, if_false, ite_true, ite_false, true_and, and_true, false_and, and_false, true_implies, false_implies, implies_true, not_true_eq_false, not_false_eq_true, eq_self, true_or, or_true, false_or, or_false, and_self, reduceCtorEq, forall_const]; omega⟩
        intro j
        rw [e2, ex_succ]
        grind
    · intro j
      constructor
      · exact Or.inl
      · rintro (h | ⟨m, hm, _⟩)
        · exact h
        · exact absurd hm (Nat.not_lt_zero m)
  refine Wo.mono w ?_
  intro p ⟨po, e1, e2⟩
  rw [W_some]
  refine ⟨po, e1, ?_⟩
  intro j
  rw [e2]
  constructor
  · rintro (h | ⟨m, _, h⟩)
    · exact Or.inl h
    · exact Or.inr ⟨m, h⟩
  · rintro (h | ⟨m, h⟩)
    · exact Or.inl h
    · exact Or.inr ⟨m, by omega, h⟩
set_option maxRecDepth 20000 in
set_option maxHeartbeats 4000000 in
theorem above_ok {X : XS} {M : MS} {T : Nat → Nat} {kc rc : Nat} (h : RSc X M T kc rc) (ht : TG T) (hv : ∀ c, c < 10 → fl X 15 c → c < kc) : Wo (f_Reach_addAbove X) (fun X' => Only Rch X X' ∧ (∀ b j, b ≠ 15 → (fl X' b j ↔ fl X b j)) ∧ (∀ c, c < 10 → fl X' 15 c → c < kc) ∧ UpC M kc (fun c => c < 10 ∧ fl X 15 c) (fun c => fl X' 15 c) ∧ ∀ S, UpC M kc (fun c => c < 10 ∧ fl X 15 c) S → ∀ c, c < 10 → fl X' 15 c → S c) := by
  have hr := h.2.1
  have k1 := h.1.1
  have k4 := h.1.2.2.2
  unfold f_Reach_addAbove
  rw [W_bind]
  have w : Wo (lp b3_Reach_addAbove 10000 ((9 : Int32), X)) (fun p => Only Rch X p.2 ∧ (∀ b j, b ≠ 15 → (fl p.2 b j ↔ fl X b j)) ∧ (∀ c, c < 10 → fl p.2 15 c → c < kc) ∧ (∀ c, fl X 15 c → fl p.2 15 c) ∧ (∀ c d, c < kc → fl p.2 15 c → M.1 61 c = Int32.ofNat d → d < kc → fl p.2 15 d) ∧ ∀ S, UpC M kc (fun c => c < 10 ∧ fl X 15 c) S → ∀ c, c < 10 → fl p.2 15 c → S c) := by
    refine W_lp (fun p => ∃ k, k ≤ 10 ∧ p.1 = Int32.ofNat k - 1 ∧ Only Rch X p.2 ∧ (∀ b j, b ≠ 15 → (fl p.2 b j ↔ fl X b j)) ∧ (∀ c, c < 10 → fl p.2 15 c → c < kc) ∧ (∀ c, fl X 15 c → fl p.2 15 c) ∧ (∀ c d, k ≤ c → c < kc → fl p.2 15 c → M.1 61 c = Int32.ofNat d → d < kc → fl p.2 15 d) ∧ ∀ S, UpC M kc (fun c => c < 10 ∧ fl X 15 c) S → ∀ c, c < 10 → fl p.2 15 c → S c) (fun p => (p.1 + 1).toNatClampNeg) ?_ 10000 _ ⟨10, by omega, rfl, Only.refl X, fun _ _ _ => Iff.rfl, hv, fun _ h => h, fun c d h1 h2 => absurd h2 (by omega), fun S hS c hc hf => hS.1 c ⟨hc, hf⟩⟩ (by show ((9 : Int32) + 1).toNatClampNeg < 10000; decide)
    intro p ⟨k, hk, ep, ho, e1, e2, e3, e4, e5⟩
    refine Wo.cps (fun Q hQ => ?_)
    unfold b3_Reach_addAbove
    cases k with
    | zero =>
      have : p.1 = -1 := ep
      have m1 : (-1 : Int32) < 0 := by decide
      simp (disch := omega) only [W_some, W_none, W_bind, W_ite, W_ocz, W_lt, this, m1, o_le, o_leL, o_leR, o_lt, o_ltL, o_ltR, o_eq, o_eqL, o_eqR, o_cl, o_add, o_addL, o_addR, o_mul, o_mulL, o_mulR, o_sub, o_subR, o_0le, o_lt0, o_ixo, n1_eq, n1_eq', n1_lt, n1_le, n1_ge, n1_gt, n2_eq, n2_eq', n2_lt, n2_le, n2_ge, n2_gt, ↓reduceIte, ite_self, Nat.reduceEqDiff, Nat.reduceAdd, Nat.reduceMul, Nat.reduceSub, Nat.reduceLT, Nat.reduceLeDiff, Nat.not_lt_zero, Nat.zero_le, if_true, if_false, ite_true, ite_false, true_and, and_true, false_and, and_false, true_implies, false_implies, implies_true, not_true_eq_false, not_false_eq_true, eq_self, true_or, or_true, false_or, or_false, and_self, reduceCtorEq, forall_const]
      exact hQ _ ⟨ho, e1, e2, e3, fun c d => e4 c d (Nat.zero_le _), e5⟩
    | succ k =>
      have ep' : p.1 = Int32.ofNat k := by rw [ep, Int32.ofNat_add k 1]; exact Int32.add_sub_cancel _ _
      have hl : k < 10 := by omega
      have en : ∀ a : Int32, a + (-1) = a - 1 := fun a => (Int32.sub_eq_add_neg a 1).symm
      have ms : (Int32.ofNat k - 1 + 1).toNatClampNeg < (Int32.ofNat k + 1).toNatClampNeg := by
        rw [Int32.sub_add_cancel]
        simp (disch := omega) only [o_le, o_leL, o_leR, o_lt, o_ltL, o_ltR, o_eq, o_eqL, o_eqR, o_cl, o_add, o_addL, o_addR, o_mul, o_mulL, o_mulR, o_sub, o_subR, o_0le, o_lt0, o_ixo, n1_eq, n1_eq', n1_lt, n1_le, n1_ge, n1_gt, n2_eq, n2_eq', n2_lt, n2_le, n2_ge, n2_gt, ↓reduceIte, ite_self, Nat.reduceEqDiff, Nat.reduceAdd, Nat.reduceMul, Nat.reduceSub, Nat.reduceLT, Nat.reduceLeDiff, Nat.not_lt_zero, Nat.zero_le, if_true, if_false, ite_true, ite_false, true_and, and_true, false_and, and_false, true_implies, false_implies, implies_true, not_true_eq_false, not_false_eq_true, eq_self, true_or, or_true, false_or, or_false, and_self, reduceCtorEq, forall_const]
        omega
      by_cases c15 : p.2.1 15 k = 0
      · simp (disch := omega) only [W_some, W_none, W_bind, W_ite, W_ocz, W_lt, ep', hl, c15, o_le, o_leL, o_leR, o_lt, o_ltL, o_ltR, o_eq, o_eqL, o_eqR, o_cl, o_add, o_addL, o_addR, o_mul, o_mulL, o_mulR, o_sub, o_subR, o_0le, o_lt0, o_ixo, n1_eq, n1_eq', n1_lt, n1_le, n1_ge, n1_gt, n2_eq, n2_eq', n2_lt, n2_le, n2_ge, n2_gt, ↓reduceIte, ite_self, Nat.reduceEqDiff, Nat.reduceAdd, Nat.reduceMul, Nat.reduceSub, Nat.reduceLT, Nat.reduceLeDiff, Nat.not_lt_zero, Nat.zero_le, if_true, if_false, ite_true, ite_false, true_and, and_true, false_and, and_false, true_implies, false_implies, implies_true, not_true_eq_false, not_false_eq_true, eq_self, true_or, or_true, false_or, or_false, and_self, reduceCtorEq, forall_const]
        rw [en]
        refine hQ _ ⟨⟨k, by omega, rfl, ho, e1, e2, e3, ?_, e5⟩, by rw [ep']; exact ms⟩
        intro c d h1 h2 h3
        by_cases ec : c = k
        · subst ec
          exact absurd c15 h3
        · exact e4 c d (by omega) h2 h3
      · have hkc : k < kc := e2 k hl c15
        have hc := Only.rsc h ht ho (by unfold Rch; omega)
        obtain ⟨w1, w2, w3, w4, _⟩ := (hc.1.2.2.2) k hkc
        have ik : f_Source_isKind (Int32.ofNat k) p.2 = true := (isKind_iff k1 hc.1.2.1 _).mpr ⟨k, hkc, rfl⟩
        have ab : f_Source_above (Int32.ofNat k) p.2 = M.1 61 k := by
          unfold f_Source_above
          simp (disch := omega) only [ik, o_le, o_leL, o_leR, o_lt, o_ltL, o_ltR, o_eq, o_eqL, o_eqR, o_cl, o_add, o_addL, o_addR, o_mul, o_mulL, o_mulR, o_sub, o_subR, o_0le, o_lt0, o_ixo, n1_eq, n1_eq', n1_lt, n1_le, n1_ge, n1_gt, n2_eq, n2_eq', n2_lt, n2_le, n2_ge, n2_gt, ↓reduceIte, ite_self, Nat.reduceEqDiff, Nat.reduceAdd, Nat.reduceMul, Nat.reduceSub, Nat.reduceLT, Nat.reduceLeDiff, Nat.not_lt_zero, Nat.zero_le, if_true, if_false, ite_true, ite_false, true_and, and_true, false_and, and_false, true_implies, false_implies, implies_true, not_true_eq_false, not_false_eq_true, eq_self, true_or, or_true, false_or, or_false, and_self, reduceCtorEq, forall_const]
          exact w1
        obtain ⟨X', ex, o', f'⟩ := addKind_ok hc (M.1 61 k)
        simp (disch := omega) only [W_some, W_none, W_bind, W_ite, W_ocz, W_lt, ep', hl, c15, ab, ex, o_le, o_leL, o_leR, o_lt, o_ltL, o_ltR, o_eq, o_eqL, o_eqR, o_cl, o_add, o_addL, o_addR, o_mul, o_mulL, o_mulR, o_sub, o_subR, o_0le, o_lt0, o_ixo, n1_eq, n1_eq', n1_lt, n1_le, n1_ge, n1_gt, n2_eq, n2_eq', n2_lt, n2_le, n2_ge, n2_gt, ↓reduceIte, ite_self, Nat.reduceEqDiff, Nat.reduceAdd, Nat.reduceMul, Nat.reduceSub, Nat.reduceLT, Nat.reduceLeDiff, Nat.not_lt_zero, Nat.zero_le, if_true, if_false, ite_true, ite_false, true_and, and_true, false_and, and_false, true_implies, false_implies, implies_true, not_true_eq_false, not_false_eq_true, eq_self, true_or, or_true, false_or, or_false, and_self, reduceCtorEq, forall_const]
        rw [en]
        refine hQ _ ⟨⟨k, by omega, rfl, ho.trans o', ?_, ?_, ?_, ?_, ?_⟩, by rw [ep']; exact ms⟩
        · intro b j hb
          rw [f', e1 b j hb]
          grind
        · intro c hc' hf
          rcases (f' _ _).mp hf with hf | ⟨_, hf, _⟩
          · exact e2 c hc' hf
          · exact hf
        · intro c hf
          exact (f' _ _).mpr (Or.inl (e3 c hf))
        · intro c d h1 h2 h3 h4 h5
          rw [f']
          by_cases ec : c = k
          · subst ec
            exact Or.inr ⟨rfl, h5, h4⟩
          · have hold : fl p.2 15 c := by
              rcases (f' _ _).mp h3 with h3 | ⟨_, _, h3⟩
              · exact h3
              · rcases w4 with w4 | ⟨e, he, w4⟩
                · rw [w4, n1_eq' c (by omega)] at h3
                  exact h3.elim
                · rw [w4, o_eq _ _ (by omega) (by omega)] at h3
                  omega
            exact Or.inl (e4 c d (by omega) h2 hold h4 h5)
        · intro S hS c hc' hf
          rcases (f' _ _).mp hf with hf | ⟨_, h1, h2⟩
          · exact e5 S hS c hc' hf
          · exact hS.2 k c hkc (e5 S hS k hl c15) h2 h1
  refine Wo.mono w ?_
  intro p ⟨po, e1, e2, e3, e4, e5⟩
  rw [W_some]
  exact ⟨po, e1, e2, ⟨fun c hc => e3 c hc.2, e4⟩, e5⟩
set_option maxRecDepth 20000 in
set_option maxHeartbeats 4000000 in
theorem number_ok (X : XS) : Wo (f_Reach_number X) (fun X' => Only Rch X X' ∧ (∀ b j, 15 ≤ b → b ≤ 19 → X'.1 b j = X.1 b j) ∧ X'.1 14 0 = Int32.ofNat (cnt (flB X 15) 10) ∧ X'.1 14 1 = Int32.ofNat (cnt (flB X 17) 24) ∧ (∀ c, c < 10 → fl X 15 c → X'.1 20 c = Int32.ofNat (cnt (flB X 15) c)) ∧ (∀ m, m < 24 → fl X 17 m → X'.1 21 m = Int32.ofNat (cnt (flB X 17) m))) := by
  unfold f_Reach_number
  rw [W_lt, W_bind]
  have w1 : Wo (lp b7_Reach_number 10000 ((0 : Int32), xw X 14 0 0)) (fun p => Only Rch X p.2 ∧ (∀ b j, 15 ≤ b → b ≤ 19 → p.2.1 b j = X.1 b j) ∧ p.2.1 14 0 = Int32.ofNat (cnt (flB X 15) 10) ∧ (∀ c, c < 10 → fl X 15 c → p.2.1 20 c = Int32.ofNat (cnt (flB X 15) c))) := by
    refine W_lp (fun p => ∃ k, k ≤ 10 ∧ p.1 = Int32.ofNat k ∧ Only Rch X p.2 ∧ (∀ b j, 15 ≤ b → b ≤ 19 → p.2.1 b j = X.1 b j) ∧ p.2.1 14 0 = Int32.ofNat (cnt (flB X 15) k) ∧ (∀ c, c < k → fl X 15 c → p.2.1 20 c = Int32.ofNat (cnt (flB X 15) c))) (fun p => 10 - p.1.toNatClampNeg) ?_ 10000 _ ⟨0, by omega, rfl, (Only.refl X).xw (by unfold Rch; omega) _ _, ?_, ?_, fun c hc => absurd hc (Nat.not_lt_zero c)⟩ (by show 10 - 0 < 10000; omega)
    · intro p ⟨k, hk, ep, ho, e1, e2, e3⟩
      refine Wo.cps (fun Q hQ => ?_)
      unfold b7_Reach_number
      by_cases hl : k < 10
      case neg =>
        have ek : k = 10 := by omega
        subst ek
        simp (disch := omega) only [W_some, W_none, W_bind, W_ite, W_ocz, W_lt, ep, Nat.le_refl, o_le, o_leL, o_leR, o_lt, o_ltL, o_ltR, o_eq, o_eqL, o_eqR, o_cl, o_add, o_addL, o_addR, o_mul, o_mulL, o_mulR, o_sub, o_subR, o_0le, o_lt0, o_ixo, n1_eq, n1_eq', n1_lt, n1_le, n1_ge, n1_gt, n2_eq, n2_eq', n2_lt, n2_le, n2_ge, n2_gt, ↓reduceIte, ite_self, Nat.reduceEqDiff, Nat.reduceAdd, Nat.reduceMul, Nat.reduceSub, Nat.reduceLT, Nat.reduceLeDiff, Nat.not_lt_zero, Nat.zero_le, if_true, if_false, ite_true, ite_false, true_and, and_true, false_and, and_false, true_implies, false_implies, implies_true, not_true_eq_false, not_false_eq_true, eq_self, true_or, or_true, false_or, or_false, and_self, reduceCtorEq, forall_const]
        exact hQ _ ⟨ho, e1, e2, e3⟩
      have q1 : ¬ 10 ≤ k := by omega
      have cs : cnt (flB X 15) (k + 1) = cnt (flB X 15) k + (if flB X 15 k = true then 1 else 0) := rfl
      have cm := cnt_max (flB X 15) k
      have e15 := e1 15 k (by omega) (by omega)
      by_cases c : X.1 15 k = 0
      · have nf : ¬ flB X 15 k = true := fun h => (flB_iff.mp h) c
        simp (disch := omega) only [W_some, W_none, W_bind, W_ite, W_ocz, W_lt, ep, q1, hl, e15, c, o_le, o_leL, o_leR, o_lt, o_ltL, o_ltR, o_eq, o_eqL, o_eqR, o_cl, o_add, o_addL, o_addR, o_mul, o_mulL, o_mulR, o_sub, o_subR, o_0le, o_lt0, o_ixo, n1_eq, n1_eq', n1_lt, n1_le, n1_ge, n1_gt, n2_eq, n2_eq', n2_lt, n2_le, n2_ge, n2_gt, ↓reduceIte, ite_self, Nat.reduceEqDiff, Nat.reduceAdd, Nat.reduceMul, Nat.reduceSub, Nat.reduceLT, Nat.reduceLeDiff, Nat.not_lt_zero, Nat.zero_le, if_true, if_false, ite_true, ite_false, true_and, and_true, false_and, and_false, true_implies, false_implies, implies_true, not_true_eq_false, not_false_eq_true, eq_self, true_or, or_true, false_or, or_false, and_self, reduceCtorEq, forall_const]
        refine hQ _ ⟨⟨k + 1, by omega, rfl, ho, e1, ?_, ?_⟩, by simp (disch := omega) only [ep, o_le, o_leL, o_leR, o_lt, o_ltL, o_ltR, o_eq, o_eqL, o_eqR, o_cl, o_add, o_addL, o_addR, o_mul, o_mulL, o_mulR, o_sub, o_subR, o_0le, o_lt0, o_ixo, n1_eq, n1_eq', n1_lt, n1_le, n1_ge, n1_gt, n2_eq, n2_eq', n2_lt, n2_le, n2_ge, n2_gt, ↓reduceIte, ite_self, Nat.reduceEqDiff, Nat.reduceAdd, Nat.reduceMul, Nat.reduceSub, Nat.reduceLT, Nat.reduceLeDiff, Nat.not_lt_zero, Nat.zero_le, if_true, if_false, ite_true, ite_false, true_and, and_true, false_and, and_false, true_implies, false_implies, implies_true, not_true_eq_false, not_false_eq_true, eq_self, true_or, or_true, false_or, or_false, and_self, reduceCtorEq, forall_const]; omega⟩
        · rw [cs, if_neg nf]; exact e2
        · intro d hd hf
          by_cases ed : d = k
          · subst ed
            exact absurd c hf
          · exact e3 d (by omega) hf
      · have pf : flB X 15 k = true := flB_iff.mpr c
        simp (disch := omega) only [W_some, W_none, W_bind, W_ite, W_ocz, W_lt, ep, q1, hl, e15, c, e2, xTw, xLw, xAw, xTp, xLp, xAp, xTc, xLc, xAc, xAn, xTn, xLn, xw1, xw2, xp1, xp2, xp3, mw1, mw2, xn1, xn2, xc1, xc2, o_le, o_leL, o_leR, o_lt, o_ltL, o_ltR, o_eq, o_eqL, o_eqR, o_cl, o_add, o_addL, o_addR, o_mul, o_mulL, o_mulR, o_sub, o_subR, o_0le, o_lt0, o_ixo, n1_eq, n1_eq', n1_lt, n1_le, n1_ge, n1_gt, n2_eq, n2_eq', n2_lt, n2_le, n2_ge, n2_gt, ↓reduceIte, ite_self, Nat.reduceEqDiff, Nat.reduceAdd, Nat.reduceMul, Nat.reduceSub, Nat.reduceLT, Nat.reduceLeDiff, Nat.not_lt_zero, Nat.zero_le, if_true, if_false, ite_true, ite_false, true_and, and_true, false_and, and_false, true_implies, false_implies, implies_true, not_true_eq_false, not_false_eq_true, eq_self, true_or, or_true, false_or, or_false, and_self, reduceCtorEq, forall_const]
        refine hQ _ ⟨⟨k + 1, by omega, rfl, (ho.xw (by unfold Rch; omega) _ _).xw (by unfold Rch; omega) _ _, ?_, ?_, ?_⟩, by simp (disch := omega) only [ep, o_le, o_leL, o_leR, o_lt, o_ltL, o_ltR, o_eq, o_eqL, o_eqR, o_cl, o_add, o_addL, o_addR, o_mul, o_mulL, o_mulR, o_sub, o_subR, o_0le, o_lt0, o_ixo, n1_eq, n1_eq', n1_lt, n1_le, n1_ge, n1_gt, n2_eq, n2_eq', n2_lt, n2_le, n2_ge, n2_gt, ↓reduceIte, ite_self, Nat.reduceEqDiff, Nat.reduceAdd, Nat.reduceMul, Nat.reduceSub, Nat.reduceLT, Nat.reduceLeDiff, Nat.not_lt_zero, Nat.zero_le, if_true, if_false, ite_true, ite_false, true_and, and_true, false_and, and_false, true_implies, false_implies, implies_true, not_true_eq_false, not_false_eq_true, eq_self, true_or, or_true, false_or, or_false, and_self, reduceCtorEq, forall_const]; omega⟩
        · intro b j h1 h2
          have b1 : ¬ b = 20 := by omega
          have b2 : ¬ b = 14 := by omega
          simp (disch := omega) only [xTw, xLw, xAw, xTp, xLp, xAp, xTc, xLc, xAc, xAn, xTn, xLn, xw1, xw2, xp1, xp2, xp3, mw1, mw2, xn1, xn2, xc1, xc2, b1, b2, o_le, o_leL, o_leR, o_lt, o_ltL, o_ltR, o_eq, o_eqL, o_eqR, o_cl, o_add, o_addL, o_addR, o_mul, o_mulL, o_mulR, o_sub, o_subR, o_0le, o_lt0, o_ixo, n1_eq, n1_eq', n1_lt, n1_le, n1_ge, n1_gt, n2_eq, n2_eq', n2_lt, n2_le, n2_ge, n2_gt, ↓reduceIte, ite_self, Nat.reduceEqDiff, Nat.reduceAdd, Nat.reduceMul, Nat.reduceSub, Nat.reduceLT, Nat.reduceLeDiff, Nat.not_lt_zero, Nat.zero_le, if_true, if_false, ite_true, ite_false, true_and, and_true, false_and, and_false, true_implies, false_implies, implies_true, not_true_eq_false, not_false_eq_true, eq_self, true_or, or_true, false_or, or_false, and_self, reduceCtorEq, forall_const]
          exact e1 b j h1 h2
        · rw [cs, if_pos pf]
          simp (disch := omega) only [xTw, xLw, xAw, xTp, xLp, xAp, xTc, xLc, xAc, xAn, xTn, xLn, xw1, xw2, xp1, xp2, xp3, mw1, mw2, xn1, xn2, xc1, xc2, o_le, o_leL, o_leR, o_lt, o_ltL, o_ltR, o_eq, o_eqL, o_eqR, o_cl, o_add, o_addL, o_addR, o_mul, o_mulL, o_mulR, o_sub, o_subR, o_0le, o_lt0, o_ixo, n1_eq, n1_eq', n1_lt, n1_le, n1_ge, n1_gt, n2_eq, n2_eq', n2_lt, n2_le, n2_ge, n2_gt, ↓reduceIte, ite_self, Nat.reduceEqDiff, Nat.reduceAdd, Nat.reduceMul, Nat.reduceSub, Nat.reduceLT, Nat.reduceLeDiff, Nat.not_lt_zero, Nat.zero_le, if_true, if_false, ite_true, ite_false, true_and, and_true, false_and, and_false, true_implies, false_implies, implies_true, not_true_eq_false, not_false_eq_true, eq_self, true_or, or_true, false_or, or_false, and_self, reduceCtorEq, forall_const]
        · intro d hd hf
          by_cases ed : d = k
          · subst ed
            simp (disch := omega) only [xTw, xLw, xAw, xTp, xLp, xAp, xTc, xLc, xAc, xAn, xTn, xLn, xw1, xw2, xp1, xp2, xp3, mw1, mw2, xn1, xn2, xc1, xc2, o_le, o_leL, o_leR, o_lt, o_ltL, o_ltR, o_eq, o_eqL, o_eqR, o_cl, o_add, o_addL, o_addR, o_mul, o_mulL, o_mulR, o_sub, o_subR, o_0le, o_lt0, o_ixo, n1_eq, n1_eq', n1_lt, n1_le, n1_ge, n1_gt, n2_eq, n2_eq', n2_lt, n2_le, n2_ge, n2_gt, ↓reduceIte, ite_self, Nat.reduceEqDiff, Nat.reduceAdd, Nat.reduceMul, Nat.reduceSub, Nat.reduceLT, Nat.reduceLeDiff, Nat.not_lt_zero, Nat.zero_le, if_true, if_false, ite_true, ite_false, true_and, and_true, false_and, and_false, true_implies, false_implies, implies_true, not_true_eq_false, not_false_eq_true, eq_self, true_or, or_true, false_or, or_false, and_self, reduceCtorEq, forall_const]
          · simp (disch := omega) only [xTw, xLw, xAw, xTp, xLp, xAp, xTc, xLc, xAc, xAn, xTn, xLn, xw1, xw2, xp1, xp2, xp3, mw1, mw2, xn1, xn2, xc1, xc2, ed, o_le, o_leL, o_leR, o_lt, o_ltL, o_ltR, o_eq, o_eqL, o_eqR, o_cl, o_add, o_addL, o_addR, o_mul, o_mulL, o_mulR, o_sub, o_subR, o_0le, o_lt0, o_ixo, n1_eq, n1_eq', n1_lt, n1_le, n1_ge, n1_gt, n2_eq, n2_eq', n2_lt, n2_le, n2_ge, n2_gt, ↓reduceIte, ite_self, Nat.reduceEqDiff, Nat.reduceAdd, Nat.reduceMul, Nat.reduceSub, Nat.reduceLT, Nat.reduceLeDiff, Nat.not_lt_zero, Nat.zero_le, if_true, if_false, ite_true, ite_false, true_and, and_true, false_and, and_false, true_implies, false_implies, implies_true, not_true_eq_false, not_false_eq_true, eq_self, true_or, or_true, false_or, or_false, and_self, reduceCtorEq, forall_const]
            exact e3 d (by omega) hf
    · intro b j h1 h2
      have b2 : ¬ b = 14 := by omega
      simp (disch := omega) only [xTw, xLw, xAw, xTp, xLp, xAp, xTc, xLc, xAc, xAn, xTn, xLn, xw1, xw2, xp1, xp2, xp3, mw1, mw2, xn1, xn2, xc1, xc2, b2, o_le, o_leL, o_leR, o_lt, o_ltL, o_ltR, o_eq, o_eqL, o_eqR, o_cl, o_add, o_addL, o_addR, o_mul, o_mulL, o_mulR, o_sub, o_subR, o_0le, o_lt0, o_ixo, n1_eq, n1_eq', n1_lt, n1_le, n1_ge, n1_gt, n2_eq, n2_eq', n2_lt, n2_le, n2_ge, n2_gt, ↓reduceIte, ite_self, Nat.reduceEqDiff, Nat.reduceAdd, Nat.reduceMul, Nat.reduceSub, Nat.reduceLT, Nat.reduceLeDiff, Nat.not_lt_zero, Nat.zero_le, if_true, if_false, ite_true, ite_false, true_and, and_true, false_and, and_false, true_implies, false_implies, implies_true, not_true_eq_false, not_false_eq_true, eq_self, true_or, or_true, false_or, or_false, and_self, reduceCtorEq, forall_const]
    · simp (disch := omega) only [xTw, xLw, xAw, xTp, xLp, xAp, xTc, xLc, xAc, xAn, xTn, xLn, xw1, xw2, xp1, xp2, xp3, mw1, mw2, xn1, xn2, xc1, xc2, o_le, o_leL, o_leR, o_lt, o_ltL, o_ltR, o_eq, o_eqL, o_eqR, o_cl, o_add, o_addL, o_addR, o_mul, o_mulL, o_mulR, o_sub, o_subR, o_0le, o_lt0, o_ixo, n1_eq, n1_eq', n1_lt, n1_le, n1_ge, n1_gt, n2_eq, n2_eq', n2_lt, n2_le, n2_ge, n2_gt, ↓reduceIte, ite_self, Nat.reduceEqDiff, Nat.reduceAdd, Nat.reduceMul, Nat.reduceSub, Nat.reduceLT, Nat.reduceLeDiff, Nat.not_lt_zero, Nat.zero_le, if_true, if_false, ite_true, ite_false, true_and, and_true, false_and, and_false, true_implies, false_implies, implies_true, not_true_eq_false, not_false_eq_true, eq_self, true_or, or_true, false_or, or_false, and_self, reduceCtorEq, forall_const]
      rfl
  refine Wo.mono w1 ?_
  intro p ⟨po, e1, e2, e3⟩
  rw [W_lt, W_bind]
  have w2 : Wo (lp b52_Reach_number 10000 ((0 : Int32), xw p.2 14 1 0)) (fun q => Only Rch X q.2 ∧ (∀ b j, 15 ≤ b → b ≤ 20 → q.2.1 b j = p.2.1 b j) ∧ q.2.1 14 0 = p.2.1 14 0 ∧ q.2.1 14 1 = Int32.ofNat (cnt (flB X 17) 24) ∧ (∀ c, c < 24 → fl X 17 c → q.2.1 21 c = Int32.ofNat (cnt (flB X 17) c))) := by
    refine W_lp (fun q => ∃ k, k ≤ 24 ∧ q.1 = Int32.ofNat k ∧ Only Rch X q.2 ∧ (∀ b j, 15 ≤ b → b ≤ 20 → q.2.1 b j = p.2.1 b j) ∧ q.2.1 14 0 = p.2.1 14 0 ∧ q.2.1 14 1 = Int32.ofNat (cnt (flB X 17) k) ∧ (∀ c, c < k → fl X 17 c → q.2.1 21 c = Int32.ofNat (cnt (flB X 17) c))) (fun q => 24 - q.1.toNatClampNeg) ?_ 10000 _ ⟨0, by omega, rfl, po.xw (by unfold Rch; omega) _ _, ?_, ?_, ?_, fun c hc => absurd hc (Nat.not_lt_zero c)⟩ (by show 24 - 0 < 10000; omega)
    · intro q ⟨k, hk, eq, ho, g1, g0, g2, g3⟩
      refine Wo.cps (fun Q hQ => ?_)
      unfold b52_Reach_number
      by_cases hl : k < 24
      case neg =>
        have ek : k = 24 := by omega
        subst ek
        simp (disch := omega) only [W_some, W_none, W_bind, W_ite, W_ocz, W_lt, eq, Nat.le_refl, o_le, o_leL, o_leR, o_lt, o_ltL, o_ltR, o_eq, o_eqL, o_eqR, o_cl, o_add, o_addL, o_addR, o_mul, o_mulL, o_mulR, o_sub, o_subR, o_0le, o_lt0, o_ixo, n1_eq, n1_eq', n1_lt, n1_le, n1_ge, n1_gt, n2_eq, n2_eq', n2_lt, n2_le, n2_ge, n2_gt, ↓reduceIte, ite_self, Nat.reduceEqDiff, Nat.reduceAdd, Nat.reduceMul, Nat.reduceSub, Nat.reduceLT, Nat.reduceLeDiff, Nat.not_lt_zero, Nat.zero_le, if_true, if_false, ite_true, ite_false, true_and, and_true, false_and, and_false, true_implies, false_implies, implies_true, not_true_eq_false, not_false_eq_true, eq_self, true_or, or_true, false_or, or_false, and_self, reduceCtorEq, forall_const]
        exact hQ _ ⟨ho, g1, g0, g2, g3⟩
      have q1 : ¬ 24 ≤ k := by omega
      have cs : cnt (flB X 17) (k + 1) = cnt (flB X 17) k + (if flB X 17 k = true then 1 else 0) := rfl
      have cm := cnt_max (flB X 17) k
      have e17 : q.2.1 17 k = X.1 17 k := (g1 17 k (by omega) (by omega)).trans (e1 17 k (by omega) (by omega))
      by_cases c : X.1 17 k = 0
      · have nf : ¬ flB X 17 k = true := fun h => (flB_iff.mp h) c
        simp (disch := omega) only [W_some, W_none, W_bind, W_ite, W_ocz, W_lt, eq, q1, hl, e17, c, o_le, o_leL, o_leR, o_lt, o_ltL, o_ltR, o_eq, o_eqL, o_eqR, o_cl, o_add, o_addL, o_addR, o_mul, o_mulL, o_mulR, o_sub, o_subR, o_0le, o_lt0, o_ixo, n1_eq, n1_eq', n1_lt, n1_le, n1_ge, n1_gt, n2_eq, n2_eq', n2_lt, n2_le, n2_ge, n2_gt, ↓reduceIte, ite_self, Nat.reduceEqDiff, Nat.reduceAdd, Nat.reduceMul, Nat.reduceSub, Nat.reduceLT, Nat.reduceLeDiff, Nat.not_lt_zero, Nat.zero_le, if_true, if_false, ite_true, ite_false, true_and, and_true, false_and, and_false, true_implies, false_implies, implies_true, not_true_eq_false, not_false_eq_true, eq_self, true_or, or_true, false_or, or_false, and_self, reduceCtorEq, forall_const]
        refine hQ _ ⟨⟨k + 1, by omega, rfl, ho, g1, g0, ?_, ?_⟩, by simp (disch := omega) only [eq, o_le, o_leL, o_leR, o_lt, o_ltL, o_ltR, o_eq, o_eqL, o_eqR, o_cl, o_add, o_addL, o_addR, o_mul, o_mulL, o_mulR, o_sub, o_subR, o_0le, o_lt0, o_ixo, n1_eq, n1_eq', n1_lt, n1_le, n1_ge, n1_gt, n2_eq, n2_eq', n2_lt, n2_le, n2_ge, n2_gt, ↓reduceIte, ite_self, Nat.reduceEqDiff, Nat.reduceAdd, Nat.reduceMul, Nat.reduceSub, Nat.reduceLT, Nat.reduceLeDiff, Nat.not_lt_zero, Nat.zero_le, if_true, if_false, ite_true, ite_false, true_and, and_true, false_and, and_false, true_implies, false_implies, implies_true, not_true_eq_false, not_false_eq_true, eq_self, true_or, or_true, false_or, or_false, and_self, reduceCtorEq, forall_const]; omega⟩
        · rw [cs, if_neg nf]; exact g2
        · intro d hd hf
          by_cases ed : d = k
          · subst ed
            exact absurd c hf
          · exact g3 d (by omega) hf
      · have pf : flB X 17 k = true := flB_iff.mpr c
        simp (disch := omega) only [W_some, W_none, W_bind, W_ite, W_ocz, W_lt, eq, q1, hl, e17, c, g2, xTw, xLw, xAw, xTp, xLp, xAp, xTc, xLc, xAc, xAn, xTn, xLn, xw1, xw2, xp1, xp2, xp3, mw1, mw2, xn1, xn2, xc1, xc2, o_le, o_leL, o_leR, o_lt, o_ltL, o_ltR, o_eq, o_eqL, o_eqR, o_cl, o_add, o_addL, o_addR, o_mul, o_mulL, o_mulR, o_sub, o_subR, o_0le, o_lt0, o_ixo, n1_eq, n1_eq', n1_lt, n1_le, n1_ge, n1_gt, n2_eq, n2_eq', n2_lt, n2_le, n2_ge, n2_gt, ↓reduceIte, ite_self, Nat.reduceEqDiff, Nat.reduceAdd, Nat.reduceMul, Nat.reduceSub, Nat.reduceLT, Nat.reduceLeDiff, Nat.not_lt_zero, Nat.zero_le, if_true, if_false, ite_true, ite_false, true_and, and_true, false_and, and_false, true_implies, false_implies, implies_true, not_true_eq_false, not_false_eq_true, eq_self, true_or, or_true, false_or, or_false, and_self, reduceCtorEq, forall_const]
        refine hQ _ ⟨⟨k + 1, by omega, rfl, (ho.xw (by unfold Rch; omega) _ _).xw (by unfold Rch; omega) _ _, ?_, ?_, ?_, ?_⟩, by simp (disch := omega) only [eq, o_le, o_leL, o_leR, o_lt, o_ltL, o_ltR, o_eq, o_eqL, o_eqR, o_cl, o_add, o_addL, o_addR, o_mul, o_mulL, o_mulR, o_sub, o_subR, o_0le, o_lt0, o_ixo, n1_eq, n1_eq', n1_lt, n1_le, n1_ge, n1_gt, n2_eq, n2_eq', n2_lt, n2_le, n2_ge, n2_gt, ↓reduceIte, ite_self, Nat.reduceEqDiff, Nat.reduceAdd, Nat.reduceMul, Nat.reduceSub, Nat.reduceLT, Nat.reduceLeDiff, Nat.not_lt_zero, Nat.zero_le, if_true, if_false, ite_true, ite_false, true_and, and_true, false_and, and_false, true_implies, false_implies, implies_true, not_true_eq_false, not_false_eq_true, eq_self, true_or, or_true, false_or, or_false, and_self, reduceCtorEq, forall_const]; omega⟩
        · intro b j h1 h2
          have b1 : ¬ b = 21 := by omega
          have b2 : ¬ b = 14 := by omega
          simp (disch := omega) only [xTw, xLw, xAw, xTp, xLp, xAp, xTc, xLc, xAc, xAn, xTn, xLn, xw1, xw2, xp1, xp2, xp3, mw1, mw2, xn1, xn2, xc1, xc2, b1, b2, o_le, o_leL, o_leR, o_lt, o_ltL, o_ltR, o_eq, o_eqL, o_eqR, o_cl, o_add, o_addL, o_addR, o_mul, o_mulL, o_mulR, o_sub, o_subR, o_0le, o_lt0, o_ixo, n1_eq, n1_eq', n1_lt, n1_le, n1_ge, n1_gt, n2_eq, n2_eq', n2_lt, n2_le, n2_ge, n2_gt, ↓reduceIte, ite_self, Nat.reduceEqDiff, Nat.reduceAdd, Nat.reduceMul, Nat.reduceSub, Nat.reduceLT, Nat.reduceLeDiff, Nat.not_lt_zero, Nat.zero_le, if_true, if_false, ite_true, ite_false, true_and, and_true, false_and, and_false, true_implies, false_implies, implies_true, not_true_eq_false, not_false_eq_true, eq_self, true_or, or_true, false_or, or_false, and_self, reduceCtorEq, forall_const]
          exact g1 b j h1 h2
        · simp (disch := omega) only [xTw, xLw, xAw, xTp, xLp, xAp, xTc, xLc, xAc, xAn, xTn, xLn, xw1, xw2, xp1, xp2, xp3, mw1, mw2, xn1, xn2, xc1, xc2, o_le, o_leL, o_leR, o_lt, o_ltL, o_ltR, o_eq, o_eqL, o_eqR, o_cl, o_add, o_addL, o_addR, o_mul, o_mulL, o_mulR, o_sub, o_subR, o_0le, o_lt0, o_ixo, n1_eq, n1_eq', n1_lt, n1_le, n1_ge, n1_gt, n2_eq, n2_eq', n2_lt, n2_le, n2_ge, n2_gt, ↓reduceIte, ite_self, Nat.reduceEqDiff, Nat.reduceAdd, Nat.reduceMul, Nat.reduceSub, Nat.reduceLT, Nat.reduceLeDiff, Nat.not_lt_zero, Nat.zero_le, if_true, if_false, ite_true, ite_false, true_and, and_true, false_and, and_false, true_implies, false_implies, implies_true, not_true_eq_false, not_false_eq_true, eq_self, true_or, or_true, false_or, or_false, and_self, reduceCtorEq, forall_const]
          exact g0
        · rw [cs, if_pos pf]
          simp (disch := omega) only [xTw, xLw, xAw, xTp, xLp, xAp, xTc, xLc, xAc, xAn, xTn, xLn, xw1, xw2, xp1, xp2, xp3, mw1, mw2, xn1, xn2, xc1, xc2, o_le, o_leL, o_leR, o_lt, o_ltL, o_ltR, o_eq, o_eqL, o_eqR, o_cl, o_add, o_addL, o_addR, o_mul, o_mulL, o_mulR, o_sub, o_subR, o_0le, o_lt0, o_ixo, n1_eq, n1_eq', n1_lt, n1_le, n1_ge, n1_gt, n2_eq, n2_eq', n2_lt, n2_le, n2_ge, n2_gt, ↓reduceIte, ite_self, Nat.reduceEqDiff, Nat.reduceAdd, Nat.reduceMul, Nat.reduceSub, Nat.reduceLT, Nat.reduceLeDiff, Nat.not_lt_zero, Nat.zero_le, if_true, if_false, ite_true, ite_false, true_and, and_true, false_and, and_false, true_implies, false_implies, implies_true, not_true_eq_false, not_false_eq_true, eq_self, true_or, or_true, false_or, or_false, and_self, reduceCtorEq, forall_const]
        · intro d hd hf
          by_cases ed : d = k
          · subst ed
            simp (disch := omega) only [xTw, xLw, xAw, xTp, xLp, xAp, xTc, xLc, xAc, xAn, xTn, xLn, xw1, xw2, xp1, xp2, xp3, mw1, mw2, xn1, xn2, xc1, xc2, o_le, o_leL, o_leR, o_lt, o_ltL, o_ltR, o_eq, o_eqL, o_eqR, o_cl, o_add, o_addL, o_addR, o_mul, o_mulL, o_mulR, o_sub, o_subR, o_0le, o_lt0, o_ixo, n1_eq, n1_eq', n1_lt, n1_le, n1_ge, n1_gt, n2_eq, n2_eq', n2_lt, n2_le, n2_ge, n2_gt, ↓reduceIte, ite_self, Nat.reduceEqDiff, Nat.reduceAdd, Nat.reduceMul, Nat.reduceSub, Nat.reduceLT, Nat.reduceLeDiff, Nat.not_lt_zero, Nat.zero_le, if_true, if_false, ite_true, ite_false, true_and, and_true, false_and, and_false, true_implies, false_implies, implies_true, not_true_eq_false, not_false_eq_true, eq_self, true_or, or_true, false_or, or_false, and_self, reduceCtorEq, forall_const]
          · simp (disch := omega) only [xTw, xLw, xAw, xTp, xLp, xAp, xTc, xLc, xAc, xAn, xTn, xLn, xw1, xw2, xp1, xp2, xp3, mw1, mw2, xn1, xn2, xc1, xc2, ed, o_le, o_leL, o_leR, o_lt, o_ltL, o_ltR, o_eq, o_eqL, o_eqR, o_cl, o_add, o_addL, o_addR, o_mul, o_mulL, o_mulR, o_sub, o_subR, o_0le, o_lt0, o_ixo, n1_eq, n1_eq', n1_lt, n1_le, n1_ge, n1_gt, n2_eq, n2_eq', n2_lt, n2_le, n2_ge, n2_gt, ↓reduceIte, ite_self, Nat.reduceEqDiff, Nat.reduceAdd, Nat.reduceMul, Nat.reduceSub, Nat.reduceLT, Nat.reduceLeDiff, Nat.not_lt_zero, Nat.zero_le, if_true, if_false, ite_true, ite_false, true_and, and_true, false_and, and_false, true_implies, false_implies, implies_true, not_true_eq_false, not_false_eq_true, eq_self, true_or, or_true, false_or, or_false, and_self, reduceCtorEq, forall_const]
            exact g3 d (by omega) hf
    · intro b j h1 h2
      have b2 : ¬ b = 14 := by omega
      simp (disch := omega) only [xTw, xLw, xAw, xTp, xLp, xAp, xTc, xLc, xAc, xAn, xTn, xLn, xw1, xw2, xp1, xp2, xp3, mw1, mw2, xn1, xn2, xc1, xc2, b2, o_le, o_leL, o_leR, o_lt, o_ltL, o_ltR, o_eq, o_eqL, o_eqR, o_cl, o_add, o_addL, o_addR, o_mul, o_mulL, o_mulR, o_sub, o_subR, o_0le, o_lt0, o_ixo, n1_eq, n1_eq', n1_lt, n1_le, n1_ge, n1_gt, n2_eq, n2_eq', n2_lt, n2_le, n2_ge, n2_gt, ↓reduceIte, ite_self, Nat.reduceEqDiff, Nat.reduceAdd, Nat.reduceMul, Nat.reduceSub, Nat.reduceLT, Nat.reduceLeDiff, Nat.not_lt_zero, Nat.zero_le, if_true, if_false, ite_true, ite_false, true_and, and_true, false_and, and_false, true_implies, false_implies, implies_true, not_true_eq_false, not_false_eq_true, eq_self, true_or, or_true, false_or, or_false, and_self, reduceCtorEq, forall_const]
    · simp (disch := omega) only [xTw, xLw, xAw, xTp, xLp, xAp, xTc, xLc, xAc, xAn, xTn, xLn, xw1, xw2, xp1, xp2, xp3, mw1, mw2, xn1, xn2, xc1, xc2, o_le, o_leL, o_leR, o_lt, o_ltL, o_ltR, o_eq, o_eqL, o_eqR, o_cl, o_add, o_addL, o_addR, o_mul, o_mulL, o_mulR, o_sub, o_subR, o_0le, o_lt0, o_ixo, n1_eq, n1_eq', n1_lt, n1_le, n1_ge, n1_gt, n2_eq, n2_eq', n2_lt, n2_le, n2_ge, n2_gt, ↓reduceIte, ite_self, Nat.reduceEqDiff, Nat.reduceAdd, Nat.reduceMul, Nat.reduceSub, Nat.reduceLT, Nat.reduceLeDiff, Nat.not_lt_zero, Nat.zero_le, if_true, if_false, ite_true, ite_false, true_and, and_true, false_and, and_false, true_implies, false_implies, implies_true, not_true_eq_false, not_false_eq_true, eq_self, true_or, or_true, false_or, or_false, and_self, reduceCtorEq, forall_const]
    · simp (disch := omega) only [xTw, xLw, xAw, xTp, xLp, xAp, xTc, xLc, xAc, xAn, xTn, xLn, xw1, xw2, xp1, xp2, xp3, mw1, mw2, xn1, xn2, xc1, xc2, o_le, o_leL, o_leR, o_lt, o_ltL, o_ltR, o_eq, o_eqL, o_eqR, o_cl, o_add, o_addL, o_addR, o_mul, o_mulL, o_mulR, o_sub, o_subR, o_0le, o_lt0, o_ixo, n1_eq, n1_eq', n1_lt, n1_le, n1_ge, n1_gt, n2_eq, n2_eq', n2_lt, n2_le, n2_ge, n2_gt, ↓reduceIte, ite_self, Nat.reduceEqDiff, Nat.reduceAdd, Nat.reduceMul, Nat.reduceSub, Nat.reduceLT, Nat.reduceLeDiff, Nat.not_lt_zero, Nat.zero_le, if_true, if_false, ite_true, ite_false, true_and, and_true, false_and, and_false, true_implies, false_implies, implies_true, not_true_eq_false, not_false_eq_true, eq_self, true_or, or_true, false_or, or_false, and_self, reduceCtorEq, forall_const]
      rfl
  refine Wo.mono w2 ?_
  intro q ⟨qo, g1, g0, g2, g3⟩
  rw [W_some]
  refine ⟨qo, fun b j h1 h2 => (g1 b j h1 (by omega)).trans (e1 b j h1 h2), g0.trans e2, g2, ?_, g3⟩
  intro c hc hf
  rw [g1 20 c (by omega) (by omega)]
  exact e3 c hc hf
