/-! K2 -/
set_option maxRecDepth 20000 in
set_option maxHeartbeats 4000000 in
theorem KP_frame {Mr : MS} {kc rc main : Nat} {M M' : MS} {d : Nat} (h : KP Mr kc rc main M d) (hk : kc ≤ 10) (hr : rc ≤ 24) (hf : ∀ a i, (95 ≤ a ∧ a ≤ 97 ∧ 10 * d ≤ i ∧ i < 10 * d + 10) ∨ (a = 98 ∧ 80 * d ≤ i ∧ i < 80 * d + 80) ∨ (((99 ≤ a ∧ a ≤ 102) ∨ a = 105) ∧ 24 * d ≤ i ∧ i < 24 * d + 24) ∨ ((a = 103 ∨ a = 104 ∨ a = 108) ∧ 1440 * d ≤ i ∧ i < 1440 * d + 1440) ∨ (a = 106 ∧ 576 * d ≤ i ∧ i < 576 * d + 576) ∨ (a = 107 ∧ i = d) → M'.1 a i = M.1 a i) : KP Mr kc rc main M' d := by
  obtain ⟨h1, h2, h3, h4, h5⟩ := h
  refine ⟨?_, ?_, ?_, ?_, ?_⟩
  · intro c hc
    obtain ⟨a1, a2, a3, a4⟩ := h1 c hc
    refine ⟨by rw [hf _ _ (by omega)]; exact a1, by rw [hf _ _ (by omega)]; exact a2, by rw [hf _ _ (by omega)]; exact a3, fun n hn => by rw [hf _ _ (by omega)]; exact a4 n hn⟩
  · intro c hc
    obtain ⟨a1, a2, a3, a4, a5⟩ := h2 c hc
    refine ⟨by rw [hf _ _ (by omega)]; exact a1, by rw [hf _ _ (by omega)]; exact a2, by rw [hf _ _ (by omega)]; exact a3, by rw [hf _ _ (by omega)]; exact a4, by rw [hf _ _ (by omega)]; exact a5⟩
  · intro k hk; rw [hf _ _ (by omega)]; exact h3 k hk
  · intro c hc
    obtain ⟨a1, a2, a3⟩ := h4 c hc
    refine ⟨by rw [hf _ _ (by omega)]; exact a1, by rw [hf _ _ (by omega)]; exact a2, by rw [hf _ _ (by omega)]; exact a3⟩
  · rw [hf _ _ (by omega)]; exact h5
set_option maxRecDepth 20000 in
set_option maxHeartbeats 4000000 in
theorem keep_ok {X : XS} {Mr M : MS} {T : Nat → Nat} {kc rc : Nat} (hS : RSc X Mr T kc rc) (hs : MSrc Mr M) (main : Nat) : Wo (f_M_keep (Int32.ofNat main) M) (fun M' => MO Fkr M M' ∧ KP Mr kc rc main M' 0) := by
  have hk10 := hS.1.1
  have hr24 := hS.2.1
  unfold f_M_keep
  rw [W_bind]
  refine Wo.mono (keep1 hS hs) ?_
  rintro ⟨z1, M1⟩ ⟨o1, v1⟩
  dsimp only at o1 v1 ⊢
  have s1 : MSrc Mr M1 := hs.trans (o1.src (by unfold Fkc; omega))
  rw [W_bind]
  refine Wo.mono (keep2 hS s1) ?_
  rintro ⟨z2, M2⟩ ⟨o2, v2⟩
  dsimp only at o2 v2 ⊢
  have s2 : MSrc Mr M2 := s1.trans (o2.src (by unfold Fkm; omega))
  rw [W_bind]
  refine Wo.mono (keep3 s2) ?_
  rintro ⟨z3, M3⟩ ⟨o3, v3⟩
  dsimp only at o3 v3 ⊢
  have s3 : MSrc Mr M3 := s2.trans (o3.src (by omega))
  rw [W_bind]
  refine Wo.mono (keep4 hS s3) ?_
  rintro ⟨z4, M4⟩ ⟨o4, v4⟩
  dsimp only at o4 v4 ⊢
  rw [W_lt, W_some]
  have t1 : MO Fkr M M1 := o1.mono (fun a i h => Or.inl h)
  have t2 : MO Fkr M1 M2 := o2.mono (fun a i h => Or.inr (Or.inl h))
  have t3 : MO Fkr M2 M3 := o3.mono (fun a i h => Or.inr (Or.inr (Or.inl h)))
  have t4 : MO Fkr M3 M4 := o4.mono (fun a i h => Or.inr (Or.inr (Or.inr (Or.inl h))))
  refine ⟨(((t1.trans t2).trans t3).trans t4).mw (Or.inr (Or.inr (Or.inr (Or.inr ⟨rfl, rfl⟩)))) _, ?_, ?_, ?_, ?_, ?_⟩
  · intro c hc
    obtain ⟨a1, a2, a3, a4⟩ := v1 c hc
    have f : ∀ a i, 95 ≤ a → a ≤ 98 → (mw M4 107 0 (Int32.ofNat main)).1 a i = M1.1 a i := by
      intro a i h1 h2
      rw [mw1, if_neg (by omega), o4.2 a i (by unfold Fki; omega), o3.2 a i (by omega), o2.2 a i (by unfold Fkm; omega)]
    refine ⟨by rw [f _ _ (by omega) (by omega)]; exact a1, by rw [f _ _ (by omega) (by omega)]; exact a2, by rw [f _ _ (by omega) (by omega)]; exact a3, fun n hn => by rw [f _ _ (by omega) (by omega)]; exact a4 n hn⟩
  · intro m hm
    obtain ⟨a1, a2, a3, a4, a5⟩ := v2 m hm
    have f : ∀ a i, (99 ≤ a ∧ a ≤ 102) ∨ a = 105 → (mw M4 107 0 (Int32.ofNat main)).1 a i = M2.1 a i := by
      intro a i h1
      rw [mw1, if_neg (by omega), o4.2 a i (by unfold Fki; omega), o3.2 a i (by omega)]
    refine ⟨by rw [f _ _ (by omega)]; exact a1, by rw [f _ _ (by omega)]; exact a2, by rw [f _ _ (by omega)]; exact a3, by rw [f _ _ (by omega)]; exact a4, by rw [f _ _ (by omega)]; exact a5⟩
  · intro k hk
    rw [Nat.mul_zero, Nat.zero_add, mw1, if_neg (by omega), o4.2 106 k (by unfold Fki; omega)]
    exact v3 k hk
  · intro k hk
    obtain ⟨a1, a2, a3⟩ := v4 k hk
    have f : ∀ a i, a ≠ 107 → (mw M4 107 0 (Int32.ofNat main)).1 a i = M4.1 a i := by
      intro a i h1
      rw [mw1, if_neg (by omega)]
    refine ⟨by rw [f _ _ (by omega)]; exact a1, by rw [f _ _ (by omega)]; exact a2, by rw [f _ _ (by omega)]; exact a3⟩
  · rw [mw1]; simp
set_option maxRecDepth 20000 in
set_option maxHeartbeats 4000000 in
theorem copy91 {M : MS} {n : Nat} (e : M.1 60 39 = Int32.ofNat n) (hn : n ≤ 5663) : Wo (lp b82_M_link 10000 ((0 : Int32), M)) (fun p => MO (fun a i => a = 91) M p.2 ∧ ∀ j, j < n → p.2.1 91 j = M.1 92 j) := by
  refine W_lp (fun p => ∃ k, k ≤ n ∧ p.1 = Int32.ofNat k ∧ MO (fun a i => a = 91) M p.2 ∧ ∀ c, c < k → p.2.1 91 c = M.1 92 c) (fun p => n - p.1.toNatClampNeg) ?_ 10000 _ ⟨0, by omega, rfl, MO.refl M, fun c hc => absurd hc (Nat.not_lt_zero c)⟩ (by show n - 0 < 10000; omega)
  rintro ⟨p1, M1⟩ ⟨k, hk, e1, ho, hf⟩
  dsimp only at e1 ho hf
  subst e1
  have cn : (Int32.ofNat k).toNatClampNeg = k := o_cl k (by omega)
  have g : M1.1 60 39 = Int32.ofNat n := by rw [ho.2 60 39 (by omega)]; exact e
  unfold b82_M_link
  simp only [cn]
  by_cases hl : k < n
  · refine We (by rw [g]; simp (disch := omega) only [o_le, o_leL, o_leR, o_lt, o_ltL, o_ltR, o_eq, o_eqL, o_eqR, o_cl, o_add, o_addL, o_addR, o_mul, o_mulL, o_mulR, o_sub, o_subR, o_0le, o_lt0, o_ixo, n1_eq, n1_eq', n1_lt, n1_le, n1_ge, n1_gt, n2_eq, n2_eq', n2_lt, n2_le, n2_ge, n2_gt, ↓reduceIte, ite_self, Nat.reduceEqDiff, Nat.reduceAdd, Nat.reduceMul, Nat.reduceSub, Nat.reduceLT, Nat.reduceLeDiff, Nat.not_lt_zero, Nat.zero_le, if_true, if_false, ite_true, ite_false, true_and, and_true, false_and, and_false, true_implies, false_implies, implies_true, not_true_eq_false, not_false_eq_true, eq_self, true_or, or_true, false_or, or_false, and_self, reduceCtorEq, forall_const]; omega) (Wi (by rw [o_ixo _ _ (by omega)]; omega) ?_)
    rw [W_lt, W_some, ho.2 92 k (by omega)]
    refine ⟨⟨k + 1, by omega, o_addR k 1, ho.mw rfl _, ?_⟩, by show n - (Int32.ofNat k + 1).toNatClampNeg < _; simp (disch := omega) only [o_le, o_leL, o_leR, o_lt, o_ltL, o_ltR, o_eq, o_eqL, o_eqR, o_cl, o_add, o_addL, o_addR, o_mul, o_mulL, o_mulR, o_sub, o_subR, o_0le, o_lt0, o_ixo, n1_eq, n1_eq', n1_lt, n1_le, n1_ge, n1_gt, n2_eq, n2_eq', n2_lt, n2_le, n2_ge, n2_gt, ↓reduceIte, ite_self, Nat.reduceEqDiff, Nat.reduceAdd, Nat.reduceMul, Nat.reduceSub, Nat.reduceLT, Nat.reduceLeDiff, Nat.not_lt_zero, Nat.zero_le, if_true, if_false, ite_true, ite_false, true_and, and_true, false_and, and_false, true_implies, false_implies, implies_true, not_true_eq_false, not_false_eq_true, eq_self, true_or, or_true, false_or, or_false, and_self, reduceCtorEq, forall_const]; omega⟩
    intro c hc
    simp only [mw1]
    by_cases e : c = k
    · subst e; simp
    · simp [e]; exact hf c (by omega)
  · have en : k = n := by omega
    subst en
    refine Wi (by rw [g]; exact Int32.le_refl _) ?_
    rw [W_some]
    exact ⟨ho, hf⟩
/-- a program that was linked -/
def GP (Mr : MS) (kc rc main : Nat) : Prop := (∃ X T, RSc X Mr T kc rc) ∧ LkT Mr kc rc ∧ LkR Mr kc rc main ∧ Mr.1 65 main = -2 ∧ Mr.1 66 main = 0
/-- the program that lies in the image, if there is one -/
def Lnk (X : XS) (M : MS) (T : Nat → Nat) : Prop := M.1 60 37 = 0 ∨ ∃ Mr kc rc main, GP Mr kc rc main ∧ ImO Mr rc main X T ∧ M.1 60 37 = Int32.ofNat (imgL Mr rc main).length ∧ KP Mr kc rc main M 0
def LinkT (t : Nat) : Prop := t = 1 ∨ (1010 ≤ t ∧ t ≤ 1030) ∨ (1032 ≤ t ∧ t ≤ 1034)
def Flnk (a i : Nat) : Prop := (75 ≤ a ∧ a ≤ 89) ∨ (91 ≤ a ∧ a ≤ 93) ∨ Fkr a i ∨ (a = 60 ∧ (i = 22 ∨ i = 23 ∨ i = 30 ∨ i = 32 ∨ i = 37 ∨ i = 39))
set_option maxRecDepth 20000 in
set_option maxHeartbeats 4000000 in
theorem isMainX {X : XS} {M : MS} {T : Nat → Nat} {kc rc : Nat} (h : RSc X M T kc rc) (x : Int32) : ∃ b, f_Source_isMain x X = some b ∧ (b = true ↔ ∃ m, m < rc ∧ x = Int32.ofNat m ∧ M.1 65 m = -2 ∧ M.1 66 m = 0) := by
  have hr24 := h.2.1
  unfold f_Source_isMain f_Source_isStaticRoutine
  by_cases hx : ∃ m, m < rc ∧ x = Int32.ofNat m
  · obtain ⟨m, hm, rfl⟩ := hx
    obtain ⟨a, f, ra, rv⟩ := h.2.2.2.2.2 m hm
    have ir := isRoutine_of hr24 h.2.2.1 hm ra.1
    have m24 : m < 24 := by omega
    have ev : ∀ P : Nat → Prop, (∃ m', m' < rc ∧ Int32.ofNat m = Int32.ofNat m' ∧ P m') ↔ P m := by
      intro P
      constructor
      · rintro ⟨m', h1, h2, h3⟩
        rw [o_eq m m' (by omega) (by omega)] at h2
        subst h2
        exact h3
      · intro q; exact ⟨m, hm, rfl, q⟩
    have e66 := rv.2.2.1
    have e65 := rv.2.1
    by_cases c1 : M.1 65 m = -2
    · by_cases c2 : M.1 66 m = 0
      · refine ⟨true, ?_, by simp only [true_iff]; exact ⟨m, hm, rfl, c1, c2⟩⟩
        unfold f_Routine_isStatic
        simp (disch := omega) only [ir, ra.1, ra.2.1, ocz, m24, e66, e65, c1, c2, Option.bind_some, o_le, o_leL, o_leR, o_lt, o_ltL, o_ltR, o_eq, o_eqL, o_eqR, o_cl, o_add, o_addL, o_addR, o_mul, o_mulL, o_mulR, o_sub, o_subR, o_0le, o_lt0, o_ixo, n1_eq, n1_eq', n1_lt, n1_le, n1_ge, n1_gt, n2_eq, n2_eq', n2_lt, n2_le, n2_ge, n2_gt, ↓reduceIte, ite_self, Nat.reduceEqDiff, Nat.reduceAdd, Nat.reduceMul, Nat.reduceSub, Nat.reduceLT, Nat.reduceLeDiff, Nat.not_lt_zero, Nat.zero_le, if_true, if_false, ite_true, ite_false, true_and, and_true, false_and, and_false, true_implies, false_implies, implies_true, not_true_eq_false, not_false_eq_true, eq_self, true_or, or_true, false_or, or_false, and_self, reduceCtorEq, forall_const]
      · refine ⟨false, ?_, by simp only [Bool.false_eq_true, false_iff]; intro q; exact c2 (((ev (fun m => M.1 65 m = -2 ∧ M.1 66 m = 0)).mp q).2)⟩
        unfold f_Routine_isStatic
        simp (disch := omega) only [ir, ra.1, ra.2.1, ocz, m24, e66, e65, c1, c2, Option.bind_some, o_le, o_leL, o_leR, o_lt, o_ltL, o_ltR, o_eq, o_eqL, o_eqR, o_cl, o_add, o_addL, o_addR, o_mul, o_mulL, o_mulR, o_sub, o_subR, o_0le, o_lt0, o_ixo, n1_eq, n1_eq', n1_lt, n1_le, n1_ge, n1_gt, n2_eq, n2_eq', n2_lt, n2_le, n2_ge, n2_gt, ↓reduceIte, ite_self, Nat.reduceEqDiff, Nat.reduceAdd, Nat.reduceMul, Nat.reduceSub, Nat.reduceLT, Nat.reduceLeDiff, Nat.not_lt_zero, Nat.zero_le, if_true, if_false, ite_true, ite_false, true_and, and_true, false_and, and_false, true_implies, false_implies, implies_true, not_true_eq_false, not_false_eq_true, eq_self, true_or, or_true, false_or, or_false, and_self, reduceCtorEq, forall_const]
    · refine ⟨false, ?_, by simp only [Bool.false_eq_true, false_iff]; intro q; exact c1 (((ev (fun m => M.1 65 m = -2 ∧ M.1 66 m = 0)).mp q).1)⟩
      unfold f_Routine_isStatic
      simp (disch := omega) only [ir, ra.1, ra.2.1, ocz, m24, e66, e65, c1, Option.bind_some, Bool.false_eq_true, o_le, o_leL, o_leR, o_lt, o_ltL, o_ltR, o_eq, o_eqL, o_eqR, o_cl, o_add, o_addL, o_addR, o_mul, o_mulL, o_mulR, o_sub, o_subR, o_0le, o_lt0, o_ixo, n1_eq, n1_eq', n1_lt, n1_le, n1_ge, n1_gt, n2_eq, n2_eq', n2_lt, n2_le, n2_ge, n2_gt, ↓reduceIte, ite_self, Nat.reduceEqDiff, Nat.reduceAdd, Nat.reduceMul, Nat.reduceSub, Nat.reduceLT, Nat.reduceLeDiff, Nat.not_lt_zero, Nat.zero_le, if_true, if_false, ite_true, ite_false, true_and, and_true, false_and, and_false, true_implies, false_implies, implies_true, not_true_eq_false, not_false_eq_true, eq_self, true_or, or_true, false_or, or_false, and_self, reduceCtorEq, forall_const]
  · have ir := isRoutine_not hr24 h.2.2.1 x hx
    refine ⟨false, ?_, by simp only [Bool.false_eq_true, false_iff]; rintro ⟨m, h1, h2, _⟩; exact hx ⟨m, h1, h2⟩⟩
    simp (disch := omega) only [ir, Option.bind_some, Bool.false_eq_true, o_le, o_leL, o_leR, o_lt, o_ltL, o_ltR, o_eq, o_eqL, o_eqR, o_cl, o_add, o_addL, o_addR, o_mul, o_mulL, o_mulR, o_sub, o_subR, o_0le, o_lt0, o_ixo, n1_eq, n1_eq', n1_lt, n1_le, n1_ge, n1_gt, n2_eq, n2_eq', n2_lt, n2_le, n2_ge, n2_gt, ↓reduceIte, ite_self, Nat.reduceEqDiff, Nat.reduceAdd, Nat.reduceMul, Nat.reduceSub, Nat.reduceLT, Nat.reduceLeDiff, Nat.not_lt_zero, Nat.zero_le, if_true, if_false, ite_true, ite_false, true_and, and_true, false_and, and_false, true_implies, false_implies, implies_true, not_true_eq_false, not_false_eq_true, eq_self, true_or, or_true, false_or, or_false, and_self, reduceCtorEq, forall_const]
