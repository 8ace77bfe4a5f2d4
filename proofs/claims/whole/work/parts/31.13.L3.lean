/-! L3 -/
/-- what a whole method adds -/
def aR (M : MS) (rc m r : Nat) : Prop := ∃ i, i < sz M m ∧ gR M rc (M.1 71 (60 * m + i)) (M.1 72 (60 * m + i)) r
def aM (M : MS) (kc m c : Nat) : Prop := ∃ i, i < sz M m ∧ gM kc (M.1 71 (60 * m + i)) (M.1 72 (60 * m + i)) c
def aC (M : MS) (m n : Nat) : Prop := ∃ i, i < sz M m ∧ gC (M.1 71 (60 * m + i)) (M.1 72 (60 * m + i)) n
def aK (M : MS) (kc m c : Nat) : Prop := (∃ i, i < sz M m ∧ gK kc (M.1 71 (60 * m + i)) (M.1 72 (60 * m + i)) c) ∨ (∃ i, i < (M.1 73 m).toNatClampNeg ∧ c < kc ∧ M.1 74 (24 * m + 4 * i + 3) = Int32.ofNat c)
set_option maxRecDepth 20000 in
set_option maxHeartbeats 4000000 in
theorem ex_succ {P : Nat → Prop} {k : Nat} : (∃ i, i < k + 1 ∧ P i) ↔ (∃ i, i < k ∧ P i) ∨ P k := by
  constructor
  · rintro ⟨i, h1, h2⟩
    by_cases e : i = k
    · subst e; exact Or.inr h2
    · exact Or.inl ⟨i, by omega, h2⟩
  · rintro (⟨i, h1, h2⟩ | h)
    · exact ⟨i, by omega, h2⟩
    · exact ⟨k, by omega, h⟩
set_option maxRecDepth 20000 in
set_option maxHeartbeats 4000000 in
theorem scan_ok {X : XS} {M : MS} {T : Nat → Nat} {kc rc m a : Nat} (h : RSc X M T kc rc) (ht : TG T) (hm : m < rc) (hp : X.2.1 2 m = some a) : Wo (f_Reach_scan a X) (fun X' => Only Rch X X' ∧ ∀ b j, fl X' b j ↔ fl X b j ∨ (b = 15 ∧ aK M kc m j) ∨ (b = 16 ∧ aM M kc m j) ∨ (b = 17 ∧ aR M rc m j) ∨ (b = 19 ∧ aC M m j)) := by
  have hr := h.2.1
  obtain ⟨a', f, ⟨a1, a2, a3, a4, a5⟩, v⟩ := h.2.2.2.2.2 m hm
  have : a' = a := by rw [a1] at hp; exact Option.some.inj hp
  subst this
  obtain ⟨v1, v2, v3, v4, v5, v6, v7, v8, v9, v11, v12, v13, v14, v15, ⟨s, v16, v17, v18⟩, ⟨s2, v19, v20, v21⟩⟩ := v
  have hsz : sz M m = s := by unfold sz; rw [v17, o_cl s (by omega)]
  have hrow : ∀ X', Only Rch X X' → xT X' a' = some (12, 0) ∧ X'.1 a' 6 = Int32.ofNat s ∧ X'.1 a' 9 = Int32.ofNat s2 ∧ X'.2.1 a' 7 = some (f 7) ∧ xL X' 0 (f 7) = some 60 ∧ X'.2.1 a' 8 = some (f 8) ∧ xL X' 0 (f 8) = some 60 ∧ X'.2.1 a' 13 = some (f 13) ∧ xL X' 0 (f 13) = some 6 ∧ X'.1 (f 7) = X.1 (f 7) ∧ X'.1 (f 8) = X.1 (f 8) ∧ X'.1 (f 13) = X.1 (f 13) := by
    intro X' ho
    have nr : ∀ b, SrcT (T b) → ¬ Rch b := by
      intro b hb hr'
      unfold Rch at hr'
      rw [ht b (by omega) (by omega) (by omega) (by omega) (by omega) (by omega) (by omega)] at hb
      unfold SrcT at hb
      omega
    have m6 := (ho.mo (T := T)).2.2
    obtain ⟨b1, b2, b3⟩ := a4 7 (Or.inl rfl)
    obtain ⟨d1, d2, d3⟩ := a4 8 (Or.inr rfl)
    obtain ⟨g1, g2, g3⟩ := a5 13 (by omega) (by omega)
    have qa : X'.1 a' = X.1 a' := ho.2 a' (nr a' (by unfold SrcT; omega))
    refine ⟨m6 _ _ a2, ?_, ?_, ?_, xL_iff.mpr (m6 _ _ b2), ?_, xL_iff.mpr (m6 _ _ d2), ?_, xL_iff.mpr (m6 _ _ g2), ho.2 _ (nr _ (by unfold SrcT; omega)), ho.2 _ (nr _ (by unfold SrcT; omega)), ho.2 _ (nr _ (by unfold SrcT; omega))⟩
    · rw [qa, v7, v17]
    · rw [qa, v8, v20]
    · rw [ho.1]; exact b1
    · rw [ho.1]; exact d1
    · rw [ho.1]; exact g1
  unfold f_Reach_scan
  rw [W_bind]
  have w1 : Wo (lp (b2_Reach_scan a') 10000 ((0 : Int32), X)) (fun p => Only Rch X p.2 ∧ ∀ b j, fl p.2 b j ↔ fl X b j ∨ (b = 15 ∧ ∃ i, i < s ∧ gK kc (M.1 71 (60 * m + i)) (M.1 72 (60 * m + i)) j) ∨ (b = 16 ∧ aM M kc m j) ∨ (b = 17 ∧ aR M rc m j) ∨ (b = 19 ∧ aC M m j)) := by
    unfold aM aR aC
    rw [hsz]
    refine W_lp (fun p => ∃ k, k ≤ s ∧ p.1 = Int32.ofNat k ∧ Only Rch X p.2 ∧ ∀ b j, fl p.2 b j ↔ fl X b j ∨ (b = 15 ∧ ∃ i, i < k ∧ gK kc (M.1 71 (60 * m + i)) (M.1 72 (60 * m + i)) j) ∨ (b = 16 ∧ ∃ i, i < k ∧ gM kc (M.1 71 (60 * m + i)) (M.1 72 (60 * m + i)) j) ∨ (b = 17 ∧ ∃ i, i < k ∧ gR M rc (M.1 71 (60 * m + i)) (M.1 72 (60 * m + i)) j) ∨ (b = 19 ∧ ∃ i, i < k ∧ gC (M.1 71 (60 * m + i)) (M.1 72 (60 * m + i)) j)) (fun p => s - p.1.toNatClampNeg) ?_ 10000 _ ⟨0, Nat.zero_le _, rfl, Only.refl X, ?_⟩ (by show s - 0 < 10000; omega)
    · intro p ⟨k, hk, ep, ho, hf⟩
      obtain ⟨r1, r2, r3, r4, r5, r6, r7, r8, r9, r10, r11, r12⟩ := hrow p.2 ho
      refine Wo.cps (fun Q hQ => ?_)
      unfold b2_Reach_scan
      by_cases hl : k < s
      · have q1 : ¬ s ≤ k := by omega
        have q2 : ¬ 60 ≤ k := by omega
        have q3 : k < 60 := by omega
        obtain ⟨X', e, o', f'⟩ := scanI_ok (Only.rsc h ht ho (by unfold Rch; omega)) ht (M.1 71 (60 * m + k)) (M.1 72 (60 * m + k))
        have z := v18 k hl
        simp (disch := omega) only [W_some, W_none, W_bind, W_ite, W_ocz, W_lt, ep, r1, r2, q1, q2, r4, r5, q3, r6, r7, r10, r11, z.1, z.2.1, e, o_le, o_leL, o_leR, o_lt, o_ltL, o_ltR, o_eq, o_eqL, o_eqR, o_cl, o_add, o_addL, o_addR, o_mul, o_mulL, o_mulR, o_sub, o_subR, o_0le, o_lt0, o_ixo, n1_eq, n1_eq', n1_lt, n1_le, n1_ge, n1_gt, n2_eq, n2_eq', n2_lt, n2_le, n2_ge, n2_gt, ↓reduceIte, ite_self, Nat.reduceEqDiff, Nat.reduceAdd, Nat.reduceMul, Nat.reduceSub, Nat.reduceLT, Nat.reduceLeDiff, Nat.not_lt_zero, Nat.zero_le, if_true, if_false, ite_true, ite_false, true_and, and_true, false_and, and_false, true_implies, false_implies, implies_true, not_true_eq_false, not_false_eq_true, eq_self, true_or, or_true, false_or, or_false, and_self, reduceCtorEq, forall_const]
        refine hQ _ ⟨⟨k + 1, by omega, rfl, ho.trans o', ?_⟩, by simp (disch := omega) only [ep, o_le, o_leL, o_leR, o_lt, o_ltL, o_ltR, o_eq, o_eqL, o_eqR, o_cl, o_add, o_addL, o_addR, o_mul, o_mulL, o_mulR, o_sub, o_subR, o_0le, o_lt0, o_ixo, n1_eq, n1_eq', n1_lt, n1_le, n1_ge, n1_gt, n2_eq, n2_eq', n2_lt, n2_le, n2_ge, n2_gt, ↓reduceIte, ite_self, Nat.reduceEqDiff, Nat.reduceAdd, Nat.reduceMul, Nat.reduceSub, Nat.reduceLT, Nat.reduceLeDiff, Nat.not_lt_zero, Nat.zero_le, if_true, if_false, ite_true, ite_false, true_and, and_true, false_and, and_false, true_implies, false_implies, implies_true, not_true_eq_false, not_false_eq_true, eq_self, true_or, or_true, false_or, or_false, and_self, reduceCtorEq, forall_const]; omega⟩
        intro b j
        rw [f', hf]
        simp only [ex_succ]
        grind
      · have ek : k = s := by omega
        subst ek
        simp (disch := omega) only [W_some, W_none, W_bind, W_ite, W_ocz, W_lt, ep, r1, r2, Nat.le_refl, o_le, o_leL, o_leR, o_lt, o_ltL, o_ltR, o_eq, o_eqL, o_eqR, o_cl, o_add, o_addL, o_addR, o_mul, o_mulL, o_mulR, o_sub, o_subR, o_0le, o_lt0, o_ixo, n1_eq, n1_eq', n1_lt, n1_le, n1_ge, n1_gt, n2_eq, n2_eq', n2_lt, n2_le, n2_ge, n2_gt, ↓reduceIte, ite_self, Nat.reduceEqDiff, Nat.reduceAdd, Nat.reduceMul, Nat.reduceSub, Nat.reduceLT, Nat.reduceLeDiff, Nat.not_lt_zero, Nat.zero_le, if_true, if_false, ite_true, ite_false, true_and, and_true, false_and, and_false, true_implies, false_implies, implies_true, not_true_eq_false, not_false_eq_true, eq_self, true_or, or_true, false_or, or_false, and_self, reduceCtorEq, forall_const]
        exact hQ _ ⟨ho, hf⟩
    · intro b j
      constructor
      · exact Or.inl
      · rintro (h | ⟨_, i, hi, _⟩ | ⟨_, i, hi, _⟩ | ⟨_, i, hi, _⟩ | ⟨_, i, hi, _⟩)
        · exact h
        all_goals exact absurd hi (Nat.not_lt_zero i)
  refine Wo.mono w1 ?_
  intro p ⟨po, pf⟩
  rw [W_bind]
  have w2 : Wo (lp (b40_Reach_scan a') 10000 ((0 : Int32), p.2)) (fun q => Only Rch X q.2 ∧ ∀ b j, fl q.2 b j ↔ fl p.2 b j ∨ (b = 15 ∧ ∃ i, i < s2 ∧ j < kc ∧ M.1 74 (24 * m + 4 * i + 3) = Int32.ofNat j)) := by
    refine W_lp (fun q => ∃ k, k ≤ s2 ∧ q.1 = Int32.ofNat k ∧ Only Rch X q.2 ∧ ∀ b j, fl q.2 b j ↔ fl p.2 b j ∨ (b = 15 ∧ ∃ i, i < k ∧ j < kc ∧ M.1 74 (24 * m + 4 * i + 3) = Int32.ofNat j)) (fun q => s2 - q.1.toNatClampNeg) ?_ 10000 _ ⟨0, Nat.zero_le _, rfl, po, ?_⟩ (by show s2 - 0 < 10000; omega)
    · intro q ⟨k, hk, eq, ho, hf⟩
      obtain ⟨r1, r2, r3, r4, r5, r6, r7, r8, r9, r10, r11, r12⟩ := hrow q.2 ho
      refine Wo.cps (fun Q hQ => ?_)
      unfold b40_Reach_scan
      by_cases hl : k < s2
      · have q1 : ¬ s2 ≤ k := by omega
        have q2 : ¬ 6 ≤ k := by omega
        have q3 : k < 6 := by omega
        have z := (v21 k hl).2.2.2
        obtain ⟨X', e, o', f'⟩ := addKind_ok (Only.rsc h ht ho (by unfold Rch; omega)) (M.1 74 (24 * m + 4 * k + 3))
        simp (disch := omega) only [W_some, W_none, W_bind, W_ite, W_ocz, W_lt, eq, r1, r3, q1, q2, r8, r9, q3, r12, z, e, o_le, o_leL, o_leR, o_lt, o_ltL, o_ltR, o_eq, o_eqL, o_eqR, o_cl, o_add, o_addL, o_addR, o_mul, o_mulL, o_mulR, o_sub, o_subR, o_0le, o_lt0, o_ixo, n1_eq, n1_eq', n1_lt, n1_le, n1_ge, n1_gt, n2_eq, n2_eq', n2_lt, n2_le, n2_ge, n2_gt, ↓reduceIte, ite_self, Nat.reduceEqDiff, Nat.reduceAdd, Nat.reduceMul, Nat.reduceSub, Nat.reduceLT, Nat.reduceLeDiff, Nat.not_lt_zero, Nat.zero_le, if_true, if_false, ite_true, ite_false, true_and, and_true, false_and, and_false, true_implies, false_implies, implies_true, not_true_eq_false, not_false_eq_true, eq_self, true_or, or_true, false_or, or_false, and_self, reduceCtorEq, forall_const]
        refine hQ _ ⟨⟨k + 1, by omega, rfl, ho.trans o', ?_⟩, by simp (disch := omega) only [eq, o_le, o_leL, o_leR, o_lt, o_ltL, o_ltR, o_eq, o_eqL, o_eqR, o_cl, o_add, o_addL, o_addR, o_mul, o_mulL, o_mulR, o_sub, o_subR, o_0le, o_lt0, o_ixo, n1_eq, n1_eq', n1_lt, n1_le, n1_ge, n1_gt, n2_eq, n2_eq', n2_lt, n2_le, n2_ge, n2_gt, ↓reduceIte, ite_self, Nat.reduceEqDiff, Nat.reduceAdd, Nat.reduceMul, Nat.reduceSub, Nat.reduceLT, Nat.reduceLeDiff, Nat.not_lt_zero, Nat.zero_le, if_true, if_false, ite_true, ite_false, true_and, and_true, false_and, and_false, true_implies, false_implies, implies_true, not_true_eq_false, not_false_eq_true, eq_self, true_or, or_true, false_or, or_false, and_self, reduceCtorEq, forall_const]; omega⟩
        intro b j
        rw [f', hf]
        simp only [ex_succ]
        grind
      · have ek : k = s2 := by omega
        subst ek
        simp (disch := omega) only [W_some, W_none, W_bind, W_ite, W_ocz, W_lt, eq, r1, r3, Nat.le_refl, o_le, o_leL, o_leR, o_lt, o_ltL, o_ltR, o_eq, o_eqL, o_eqR, o_cl, o_add, o_addL, o_addR, o_mul, o_mulL, o_mulR, o_sub, o_subR, o_0le, o_lt0, o_ixo, n1_eq, n1_eq', n1_lt, n1_le, n1_ge, n1_gt, n2_eq, n2_eq', n2_lt, n2_le, n2_ge, n2_gt, ↓reduceIte, ite_self, Nat.reduceEqDiff, Nat.reduceAdd, Nat.reduceMul, Nat.reduceSub, Nat.reduceLT, Nat.reduceLeDiff, Nat.not_lt_zero, Nat.zero_le, if_true, if_false, ite_true, ite_false, true_and, and_true, false_and, and_false, true_implies, false_implies, implies_true, not_true_eq_false, not_false_eq_true, eq_self, true_or, or_true, false_or, or_false, and_self, reduceCtorEq, forall_const]
        exact hQ _ ⟨ho, hf⟩
    · intro b j
      constructor
      · exact Or.inl
      · rintro (h | ⟨_, i, hi, _⟩)
        · exact h
        · exact absurd hi (Nat.not_lt_zero i)
  refine Wo.mono w2 ?_
  intro q ⟨qo, qf⟩
  rw [W_some]
  refine ⟨qo, ?_⟩
  intro b j
  rw [qf, pf]
  unfold aK
  rw [hsz, v20, o_cl s2 (by omega)]
  grind
