/-! L2 -/
def sz (M : MS) (m : Nat) : Nat := (M.1 70 m).toNatClampNeg
/-- what one instruction adds: methods, classes made, names called, classes wanted -/
def gR (M : MS) (rc : Nat) (op od : Int32) (r : Nat) : Prop := op = 38 ∧ r < rc ∧ od = Int32.ofNat r ∧ M.1 65 r = -2
def gM (kc : Nat) (op od : Int32) (c : Nat) : Prop := op = 26 ∧ c < kc ∧ od = Int32.ofNat c
def gC (op od : Int32) (n : Nat) : Prop := (op = 39 ∧ n < 8 ∧ od = Int32.ofNat n) ∨ (op = 48 ∧ n = 0)
def gK (kc : Nat) (op od : Int32) (c : Nat) : Prop := c < kc ∧ (((op = 26 ∨ op = 44) ∧ od = Int32.ofNat c) ∨ ((27 ≤ op ∧ op ≤ 30) ∧ 0 ≤ od ∧ od / 8 = Int32.ofNat c))
/-- what the class's row says -/
def fl (X : XS) (b i : Nat) : Prop := ¬ X.1 b i = 0
def Rch (b : Nat) : Prop := 14 ≤ b ∧ b ≤ 21
set_option maxRecDepth 20000 in
set_option maxHeartbeats 4000000 in
theorem fl_set {X : XS} {b i : Nat} (a j : Nat) : fl (xw X b i 1) a j ↔ fl X a j ∨ (a = b ∧ j = i) := by
  unfold fl
  rw [xw1]
  by_cases h : a = b ∧ j = i
  · rw [if_pos h]
    simp [h]
  · rw [if_neg h]
    simp [h]
set_option maxRecDepth 20000 in
set_option maxHeartbeats 4000000 in
theorem addKind_ok {X : XS} {M : MS} {T : Nat → Nat} {kc rc : Nat} (h : RSc X M T kc rc) (y : Int32) : ∃ X', f_Reach_addKind y X = some X' ∧ Only Rch X X' ∧ ∀ a j, fl X' a j ↔ fl X a j ∨ (a = 15 ∧ j < kc ∧ y = Int32.ofNat j) := by
  have k1 := h.1.1
  have ik := isKind_iff k1 h.1.2.1 y
  unfold f_Reach_addKind
  by_cases c : ∃ c, c < kc ∧ y = Int32.ofNat c
  · rw [if_pos (by rw [ik]; exact c)]
    obtain ⟨c, hc, rfl⟩ := c
    refine ⟨_, rfl, (Only.refl X).xw (by unfold Rch; omega) _ _, ?_⟩
    intro a j
    rw [fl_set, o_cl c (by omega)]
    constructor
    · rintro (h | ⟨h1, h2⟩)
      · exact Or.inl h
      · exact Or.inr ⟨h1, by omega, by rw [h2]⟩
    · rintro (h | ⟨h1, h2, h3⟩)
      · exact Or.inl h
      · rw [o_eq _ _ (by omega) (by omega)] at h3
        exact Or.inr ⟨h1, h3.symm⟩
  · rw [if_neg (by rw [ik]; exact c)]
    refine ⟨X, rfl, Only.refl X, ?_⟩
    intro a j
    constructor
    · exact Or.inl
    · rintro (h | ⟨h1, h2, h3⟩)
      · exact h
      · exact absurd ⟨j, h2, h3⟩ c
set_option maxRecDepth 20000 in
set_option maxHeartbeats 4000000 in
theorem isStatic_ok {X : XS} {M : MS} {T : Nat → Nat} {kc rc : Nat} (h : RSc X M T kc rc) (y : Int32) : ∃ b, f_Source_isStaticRoutine y X = some b ∧ (b = true ↔ ∃ m, m < rc ∧ y = Int32.ofNat m ∧ M.1 65 m = -2) := by
  obtain ⟨hk, hr, e1, e2, hn, hm⟩ := h
  unfold f_Source_isStaticRoutine
  by_cases c : ∃ m, m < rc ∧ y = Int32.ofNat m
  · obtain ⟨m, hm', rfl⟩ := c
    obtain ⟨a, f, ra, rv⟩ := hm m hm'
    have ir := isRoutine_of hr e1 hm' ra.1
    have v1 := rv.2.1
    have hx : ∀ k, (k < rc ∧ Int32.ofNat m = Int32.ofNat k ∧ M.1 65 k = -2) → M.1 65 m = -2 := by
      rintro k ⟨q1, q2, q3⟩
      rw [o_eq _ _ (by omega) (by omega)] at q2
      rw [q2]; exact q3
    by_cases c2 : M.1 65 m = -2
    · refine ⟨true, ?_, by simp; exact ⟨m, hm', rfl, c2⟩⟩
      unfold f_Routine_isStatic ocz
      simp (disch := omega) only [ir, ra.1, ra.2.1, v1, c2, Option.bind_some, o_le, o_leL, o_leR, o_lt, o_ltL, o_ltR, o_eq, o_eqL, o_eqR, o_cl, o_add, o_addL, o_addR, o_mul, o_mulL, o_mulR, o_sub, o_subR, o_0le, o_lt0, o_ixo, n1_eq, n1_eq', n1_lt, n1_le, n1_ge, n1_gt, n2_eq, n2_eq', n2_lt, n2_le, n2_ge, n2_gt, ↓reduceIte, ite_self, Nat.reduceEqDiff, Nat.reduceAdd, Nat.reduceMul, Nat.reduceSub, Nat.reduceLT, Nat.reduceLeDiff, Nat.not_lt_zero, Nat.zero_le, if_true, if_false, ite_true, ite_false, true_and, and_true, false_and, and_false, true_implies, false_implies, implies_true, not_true_eq_false, not_false_eq_true, eq_self, true_or, or_true, false_or, or_false, and_self, reduceCtorEq, forall_const]
    · refine ⟨false, ?_, ?_⟩
      · unfold f_Routine_isStatic ocz
        simp (disch := omega) only [ir, ra.1, ra.2.1, v1, c2, Option.bind_some, o_le, o_leL, o_leR, o_lt, o_ltL, o_ltR, o_eq, o_eqL, o_eqR, o_cl, o_add, o_addL, o_addR, o_mul, o_mulL, o_mulR, o_sub, o_subR, o_0le, o_lt0, o_ixo, n1_eq, n1_eq', n1_lt, n1_le, n1_ge, n1_gt, n2_eq, n2_eq', n2_lt, n2_le, n2_ge, n2_gt, ↓reduceIte, ite_self, Nat.reduceEqDiff, Nat.reduceAdd, Nat.reduceMul, Nat.reduceSub, Nat.reduceLT, Nat.reduceLeDiff, Nat.not_lt_zero, Nat.zero_le, if_true, if_false, ite_true, ite_false, true_and, and_true, false_and, and_false, true_implies, false_implies, implies_true, not_true_eq_false, not_false_eq_true, eq_self, true_or, or_true, false_or, or_false, and_self, reduceCtorEq, forall_const]
      · constructor
        · intro h; cases h
        · rintro ⟨k, hk⟩
          exact absurd (hx k hk) c2
  · refine ⟨false, ?_, ?_⟩
    · rw [isRoutine_not hr e1 y c]
      rfl
    · constructor
      · intro h; cases h
      · rintro ⟨k, h1, h2, _⟩
        exact absurd ⟨k, h1, h2⟩ c
set_option maxRecDepth 20000 in
set_option maxHeartbeats 4000000 in
theorem addRoutine_ok {X : XS} {M : MS} {T : Nat → Nat} {kc rc : Nat} (h : RSc X M T kc rc) (y : Int32) : ∃ X', f_Reach_addRoutine y X = some X' ∧ Only Rch X X' ∧ ∀ a j, fl X' a j ↔ fl X a j ∨ (a = 17 ∧ j < rc ∧ y = Int32.ofNat j) := by
  obtain ⟨hk, hr, e1, e2, hn, hm⟩ := h
  unfold f_Reach_addRoutine
  by_cases c : ∃ m, m < rc ∧ y = Int32.ofNat m
  · obtain ⟨m, hm', rfl⟩ := c
    obtain ⟨a, f, ra, rv⟩ := hm m hm'
    rw [if_pos (isRoutine_of hr e1 hm' ra.1)]
    refine ⟨_, rfl, (Only.refl X).xw (by unfold Rch; omega) _ _, ?_⟩
    intro a j
    rw [fl_set, o_cl m (by omega)]
    constructor
    · rintro (h | ⟨h1, h2⟩)
      · exact Or.inl h
      · exact Or.inr ⟨h1, by omega, by rw [h2]⟩
    · rintro (h | ⟨h1, h2, h3⟩)
      · exact Or.inl h
      · rw [o_eq _ _ (by omega) (by omega)] at h3
        exact Or.inr ⟨h1, h3.symm⟩
  · rw [if_neg (by rw [isRoutine_not hr e1 y c]; simp)]
    refine ⟨X, rfl, Only.refl X, ?_⟩
    intro a j
    constructor
    · exact Or.inl
    · rintro (h | ⟨h1, h2, h3⟩)
      · exact h
      · exact absurd ⟨j, h2, h3⟩ c
set_option maxRecDepth 20000 in
set_option maxHeartbeats 4000000 in
theorem fieldKind_ok {X : XS} {kc : Nat} (hk : kc ≤ 10) (e1 : X.1 1 1 = Int32.ofNat kc) (y : Int32) : (∃ c, c < kc ∧ 0 ≤ y ∧ y / 8 = Int32.ofNat c ∧ f_Source_fieldKind y X = Int32.ofNat c) ∨ ((¬ ∃ c, c < kc ∧ 0 ≤ y ∧ y / 8 = Int32.ofNat c) ∧ f_Source_fieldKind y X = -1) := by
  unfold f_Source_fieldKind
  have ik := isKind_iff hk e1 (y / 8)
  by_cases h0 : y < 0
  · refine Or.inr ⟨?_, by rw [if_pos h0]⟩
    rintro ⟨c, _, h, _⟩
    exact absurd h (Int32.not_le.mpr h0)
  · have h0' := Int32.not_lt.mp h0
    rw [if_neg h0]
    by_cases c : ∃ c, c < kc ∧ y / 8 = Int32.ofNat c
    · rw [if_pos (by rw [ik]; exact c)]
      obtain ⟨c, hc, e⟩ := c
      exact Or.inl ⟨c, hc, h0', e, e⟩
    · rw [if_neg (by rw [ik]; exact c)]
      refine Or.inr ⟨?_, rfl⟩
      rintro ⟨d, h1, _, h2⟩
      exact c ⟨d, h1, h2⟩
set_option maxRecDepth 20000 in
set_option maxHeartbeats 4000000 in
theorem scanI_ok {X : XS} {M : MS} {T : Nat → Nat} {kc rc : Nat} (h : RSc X M T kc rc) (ht : TG T) (x y : Int32) : ∃ X', f_Reach_scanInstruction x y X = some X' ∧ Only Rch X X' ∧ ∀ a j, fl X' a j ↔ fl X a j ∨ (a = 15 ∧ gK kc x y j) ∨ (a = 16 ∧ gM kc x y j) ∨ (a = 17 ∧ gR M rc x y j) ∨ (a = 19 ∧ gC x y j) := by
  have k1 := h.1.1
  have ik := isKind_iff k1 h.1.2.1 y
  unfold f_Reach_scanInstruction
  have nl : ∀ a b : Int32, a ≠ b → x = a → ¬ x = b := fun a b h e q => h (e.symm.trans q)
  by_cases c26 : x = 26
  · subst c26
    have f1 : f_P_usesField 26 = false := by decide
    by_cases c : ∃ c, c < kc ∧ y = Int32.ofNat c
    · have hc := c
      obtain ⟨c, hck, rfl⟩ := c
      have ho : Only Rch X (xw X 16 c 1) := (Only.refl X).xw (by unfold Rch; omega) _ _
      obtain ⟨X', e, o', f'⟩ := addKind_ok (Only.rsc h ht ho (by unfold Rch; omega)) (Int32.ofNat c)
      refine ⟨X', ?_, ho.trans o', ?_⟩
      · simp (disch := omega) only [ik, hc, Option.bind_some, lt, e, o_le, o_leL, o_leR, o_lt, o_ltL, o_ltR, o_eq, o_eqL, o_eqR, o_cl, o_add, o_addL, o_addR, o_mul, o_mulL, o_mulR, o_sub, o_subR, o_0le, o_lt0, o_ixo, n1_eq, n1_eq', n1_lt, n1_le, n1_ge, n1_gt, n2_eq, n2_eq', n2_lt, n2_le, n2_ge, n2_gt, ↓reduceIte, ite_self, Nat.reduceEqDiff, Nat.reduceAdd, Nat.reduceMul, Nat.reduceSub, Nat.reduceLT, Nat.reduceLeDiff, Nat.not_lt_zero, Nat.zero_le, if_true, if_false, ite_true, ite_false, true_and, and_true, false_and, and_false, true_implies, false_implies, implies_true, not_true_eq_false, not_false_eq_true, eq_self, true_or, or_true, false_or, or_false, and_self, reduceCtorEq, forall_const]
      · intro a j
        rw [f', fl_set]
        unfold gK gM gR gC
        have ce : (Int32.ofNat c = Int32.ofNat j) = (c = j) ∨ ¬ j < kc := by
          by_cases hj : j < kc
          · exact Or.inl (o_eq c j (by omega) (by omega))
          · exact Or.inr hj
        have l1 : ¬ ((27 : Int32) ≤ 26 ∧ (26 : Int32) ≤ 30) := by decide
        have l2 : ¬ (26 : Int32) = 38 := by decide
        have l3 : ¬ (26 : Int32) = 39 := by decide
        have l4 : ¬ (26 : Int32) = 48 := by decide
        grind
    · refine ⟨X, ?_, Only.refl X, ?_⟩
      · unfold f_Reach_addKind
        simp (disch := omega) only [ik, c, Option.bind_some, o_le, o_leL, o_leR, o_lt, o_ltL, o_ltR, o_eq, o_eqL, o_eqR, o_cl, o_add, o_addL, o_addR, o_mul, o_mulL, o_mulR, o_sub, o_subR, o_0le, o_lt0, o_ixo, n1_eq, n1_eq', n1_lt, n1_le, n1_ge, n1_gt, n2_eq, n2_eq', n2_lt, n2_le, n2_ge, n2_gt, ↓reduceIte, ite_self, Nat.reduceEqDiff, Nat.reduceAdd, Nat.reduceMul, Nat.reduceSub, Nat.reduceLT, Nat.reduceLeDiff, Nat.not_lt_zero, Nat.zero_le, if_true, if_false, ite_true, ite_false, true_and, and_true, false_and, and_false, true_implies, false_implies, implies_true, not_true_eq_false, not_false_eq_true, eq_self, true_or, or_true, false_or, or_false, and_self, reduceCtorEq, forall_const]
      · intro a j
        unfold gK gM gR gC
        have l1 : ¬ ((27 : Int32) ≤ 26 ∧ (26 : Int32) ≤ 30) := by decide
        have l2 : ¬ (26 : Int32) = 38 := by decide
        have l3 : ¬ (26 : Int32) = 39 := by decide
        have l4 : ¬ (26 : Int32) = 48 := by decide
        grind
  have start : ∀ (g : XS → Option XS), ((if ¬ x = 26 then some X else (if f_Source_isKind y X = true then (lt (xw X 16 y.toNatClampNeg 1) fun X4 => some X4) else some X)) : Option XS).bind g = g X := by
    intro g
    rw [if_pos c26]
    rfl
  rw [start, if_neg c26]
  by_cases c44 : x = 44
  · subst c44
    obtain ⟨X', e, o', f'⟩ := addKind_ok h y
    refine ⟨X', ?_, o', ?_⟩
    · simp (disch := omega) only [Option.bind_some, e, o_le, o_leL, o_leR, o_lt, o_ltL, o_ltR, o_eq, o_eqL, o_eqR, o_cl, o_add, o_addL, o_addR, o_mul, o_mulL, o_mulR, o_sub, o_subR, o_0le, o_lt0, o_ixo, n1_eq, n1_eq', n1_lt, n1_le, n1_ge, n1_gt, n2_eq, n2_eq', n2_lt, n2_le, n2_ge, n2_gt, ↓reduceIte, ite_self, Nat.reduceEqDiff, Nat.reduceAdd, Nat.reduceMul, Nat.reduceSub, Nat.reduceLT, Nat.reduceLeDiff, Nat.not_lt_zero, Nat.zero_le, if_true, if_false, ite_true, ite_false, true_and, and_true, false_and, and_false, true_implies, false_implies, implies_true, not_true_eq_false, not_false_eq_true, eq_self, true_or, or_true, false_or, or_false, and_self, reduceCtorEq, forall_const]
    · intro a j
      rw [f']
      unfold gK gM gR gC
      have l1 : ¬ ((27 : Int32) ≤ 44 ∧ (44 : Int32) ≤ 30) := by decide
      have l2 : ¬ (44 : Int32) = 38 := by decide
      have l3 : ¬ (44 : Int32) = 39 := by decide
      have l4 : ¬ (44 : Int32) = 48 := by decide
      grind
  rw [if_pos c44]
  have uf : (f_P_usesField x = true) = (27 ≤ x ∧ x ≤ 30) := by
    unfold f_P_usesField
    by_cases q : 27 ≤ x ∧ x ≤ 30 <;> simp [q]
  by_cases cf : 27 ≤ x ∧ x ≤ 30
  · rw [if_pos (by rw [uf]; exact cf)]
    have l2 : ¬ x = 38 := by intro e; subst e; exact absurd cf (by decide)
    have l3 : ¬ x = 39 := by intro e; subst e; exact absurd cf (by decide)
    have l4 : ¬ x = 48 := by intro e; subst e; exact absurd cf (by decide)
    rcases fieldKind_ok k1 h.1.2.1 y with ⟨c, hc, h0, hd, hf⟩ | ⟨hno, hf⟩
    · rw [hf]
      obtain ⟨X', e, o', f'⟩ := addKind_ok h (Int32.ofNat c)
      refine ⟨X', by rw [e]; rfl, o', ?_⟩
      intro a j
      rw [f']
      unfold gK gM gR gC
      grind
    · rw [hf]
      obtain ⟨X', e, o', f'⟩ := addKind_ok h (-1)
      refine ⟨X', by rw [e]; rfl, o', ?_⟩
      intro a j
      rw [f']
      unfold gK gM gR gC
      have nn : j < kc → ¬ (-1 : Int32) = Int32.ofNat j := fun hj e => by rw [n1_eq' j (by omega)] at e; exact e
      grind
  rw [if_neg (by rw [uf]; exact cf)]
  by_cases c38 : x = 38
  · subst c38
    rw [if_neg (by simp)]
    obtain ⟨b, e, hb⟩ := isStatic_ok h y
    rw [e]
    cases b with
    | true =>
      obtain ⟨X', e', o', f'⟩ := addRoutine_ok h y
      refine ⟨X', by simp (disch := omega) only [Option.bind_some, e', o_le, o_leL, o_leR, o_lt, o_ltL, o_ltR, o_eq, o_eqL, o_eqR, o_cl, o_add, o_addL, o_addR, o_mul, o_mulL, o_mulR, o_sub, o_subR, o_0le, o_lt0, o_ixo, n1_eq, n1_eq', n1_lt, n1_le, n1_ge, n1_gt, n2_eq, n2_eq', n2_lt, n2_le, n2_ge, n2_gt, ↓reduceIte, ite_self, Nat.reduceEqDiff, Nat.reduceAdd, Nat.reduceMul, Nat.reduceSub, Nat.reduceLT, Nat.reduceLeDiff, Nat.not_lt_zero, Nat.zero_le, if_true, if_false, ite_true, ite_false, true_and, and_true, false_and, and_false, true_implies, false_implies, implies_true, not_true_eq_false, not_false_eq_true, eq_self, true_or, or_true, false_or, or_false, and_self, reduceCtorEq, forall_const], o', ?_⟩
      intro a j
      rw [f']
      unfold gK gM gR gC
      have l3 : ¬ (38 : Int32) = 39 := by decide
      have l4 : ¬ (38 : Int32) = 48 := by decide
      have st : ∀ k, k < rc → y = Int32.ofNat k → M.1 65 k = -2 := by
        intro k hk ek
        obtain ⟨m, hm, em, hm2⟩ := hb.mp rfl
        have hr := h.2.1
        rw [ek, o_eq _ _ (by omega) (by omega)] at em
        rw [em]; exact hm2
      grind
    | false =>
      have l3 : ¬ (38 : Int32) = 39 := by decide
      have l4 : ¬ (38 : Int32) = 48 := by decide
      refine ⟨X, by simp (disch := omega) only [Option.bind_some, l3, l4, o_le, o_leL, o_leR, o_lt, o_ltL, o_ltR, o_eq, o_eqL, o_eqR, o_cl, o_add, o_addL, o_addR, o_mul, o_mulL, o_mulR, o_sub, o_subR, o_0le, o_lt0, o_ixo, n1_eq, n1_eq', n1_lt, n1_le, n1_ge, n1_gt, n2_eq, n2_eq', n2_lt, n2_le, n2_ge, n2_gt, ↓reduceIte, ite_self, Nat.reduceEqDiff, Nat.reduceAdd, Nat.reduceMul, Nat.reduceSub, Nat.reduceLT, Nat.reduceLeDiff, Nat.not_lt_zero, Nat.zero_le, if_true, if_false, ite_true, ite_false, true_and, and_true, false_and, and_false, true_implies, false_implies, implies_true, not_true_eq_false, not_false_eq_true, eq_self, true_or, or_true, false_or, or_false, and_self, reduceCtorEq, forall_const], Only.refl X, ?_⟩
      intro a j
      unfold gK gM gR gC
      have st : ¬ ∃ m, m < rc ∧ y = Int32.ofNat m ∧ M.1 65 m = -2 := fun q => by have := hb.mpr q; cases this
      grind
  rw [if_pos c38]
  by_cases c39 : x = 39
  · subst c39
    rw [if_neg (by simp)]
    have l4 : ¬ (39 : Int32) = 48 := by decide
    by_cases hy : 0 ≤ y ∧ y ≤ 7
    · rw [if_pos hy]
      obtain ⟨n, hn, rfl⟩ := toNle (n := 7) (by omega) hy.1 hy.2
      refine ⟨_, rfl, (Only.refl X).xw (by unfold Rch; omega) _ _, ?_⟩
      intro a j
      rw [fl_set, o_cl n (by omega)]
      unfold gK gM gR gC
      have ce : j < 8 → (Int32.ofNat n = Int32.ofNat j) = (n = j) := fun hj => o_eq n j (by omega) (by omega)
      grind
    · rw [if_neg hy]
      refine ⟨X, by simp (disch := omega) only [l4, o_le, o_leL, o_leR, o_lt, o_ltL, o_ltR, o_eq, o_eqL, o_eqR, o_cl, o_add, o_addL, o_addR, o_mul, o_mulL, o_mulR, o_sub, o_subR, o_0le, o_lt0, o_ixo, n1_eq, n1_eq', n1_lt, n1_le, n1_ge, n1_gt, n2_eq, n2_eq', n2_lt, n2_le, n2_ge, n2_gt, ↓reduceIte, ite_self, Nat.reduceEqDiff, Nat.reduceAdd, Nat.reduceMul, Nat.reduceSub, Nat.reduceLT, Nat.reduceLeDiff, Nat.not_lt_zero, Nat.zero_le, if_true, if_false, ite_true, ite_false, true_and, and_true, false_and, and_false, true_implies, false_implies, implies_true, not_true_eq_false, not_false_eq_true, eq_self, true_or, or_true, false_or, or_false, and_self, reduceCtorEq, forall_const], Only.refl X, ?_⟩
      intro a j
      unfold gK gM gR gC
      have : ∀ j, j < 8 → ¬ y = Int32.ofNat j := by
        intro j hj e
        apply hy
        subst e
        have : j ≤ 7 := by omega
        simp (disch := omega) only [this, o_le, o_leL, o_leR, o_lt, o_ltL, o_ltR, o_eq, o_eqL, o_eqR, o_cl, o_add, o_addL, o_addR, o_mul, o_mulL, o_mulR, o_sub, o_subR, o_0le, o_lt0, o_ixo, n1_eq, n1_eq', n1_lt, n1_le, n1_ge, n1_gt, n2_eq, n2_eq', n2_lt, n2_le, n2_ge, n2_gt, ↓reduceIte, ite_self, Nat.reduceEqDiff, Nat.reduceAdd, Nat.reduceMul, Nat.reduceSub, Nat.reduceLT, Nat.reduceLeDiff, Nat.not_lt_zero, Nat.zero_le, if_true, if_false, ite_true, ite_false, true_and, and_true, false_and, and_false, true_implies, false_implies, implies_true, not_true_eq_false, not_false_eq_true, eq_self, true_or, or_true, false_or, or_false, and_self, reduceCtorEq, forall_const]
      grind
  rw [if_pos c39]
  by_cases c48 : x = 48
  · subst c48
    refine ⟨_, by rw [if_neg (by simp)], (Only.refl X).xw (a := 19) (by unfold Rch; omega) 0 1, ?_⟩
    intro a j
    rw [fl_set]
    unfold gK gM gR gC
    grind
  · rw [if_pos c48]
    refine ⟨X, rfl, Only.refl X, ?_⟩
    intro a j
    unfold gK gM gR gC
    grind
