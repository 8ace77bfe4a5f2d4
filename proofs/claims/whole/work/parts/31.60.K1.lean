/-! K1 -/
/-- the field that an instruction of a row means -/
def fldV (M : MS) (k : Nat) : Int32 := if 27 ≤ M.1 71 k ∧ M.1 71 k ≤ 30 then (if M.1 72 k < 0 then 0 else (if f_M_isClass (M.1 72 k / 8) M = true then (if 29 ≤ M.1 71 k then allN M 63 10 (M.1 72 k / 8).toNatClampNeg - M.1 63 (M.1 72 k / 8).toNatClampNeg + (M.1 72 k - M.1 72 k / 8 * 8) else allN M 62 10 (M.1 72 k / 8).toNatClampNeg - M.1 62 (M.1 72 k / 8).toNatClampNeg + (M.1 72 k - M.1 72 k / 8 * 8)) else 0)) else 0
/-- the rows that are kept of a program, in half d -/
def KPc (Mr : MS) (rc : Nat) (M : MS) (d c : Nat) : Prop := M.1 95 (10 * d + c) = Mr.1 61 c ∧ M.1 96 (10 * d + c) = allN Mr 62 10 c ∧ M.1 97 (10 * d + c) = allN Mr 63 10 c ∧ ∀ n, n < 8 → M.1 98 (80 * d + (8 * c + n)) = enc (-2) (fnd Mr rc n 10 c)
def KPm (Mr M : MS) (d m : Nat) : Prop := M.1 99 (24 * d + m) = Mr.1 66 m ∧ M.1 100 (24 * d + m) = Mr.1 65 m ∧ M.1 101 (24 * d + m) = Mr.1 67 m ∧ M.1 102 (24 * d + m) = Mr.1 68 m ∧ M.1 105 (24 * d + m) = Mr.1 73 m
def KPi (Mr M : MS) (d k : Nat) : Prop := M.1 103 (1440 * d + k) = Mr.1 71 k ∧ M.1 104 (1440 * d + k) = Mr.1 72 k ∧ M.1 108 (1440 * d + k) = fldV Mr k
def KP (Mr : MS) (kc rc main : Nat) (M : MS) (d : Nat) : Prop := (∀ c, c < kc → KPc Mr rc M d c) ∧ (∀ m, m < rc → KPm Mr M d m) ∧ (∀ k, k < 576 → M.1 106 (576 * d + k) = Mr.1 74 k) ∧ (∀ k, k < 1440 → KPi Mr M d k) ∧ M.1 107 d = Int32.ofNat main
def Fkc (a i : Nat) : Prop := (95 ≤ a ∧ a ≤ 97 ∧ i < 10) ∨ (a = 98 ∧ i < 80)
def Fkm (a i : Nat) : Prop := ((99 ≤ a ∧ a ≤ 102) ∨ a = 105) ∧ i < 24
def Fki (a i : Nat) : Prop := (a = 103 ∨ a = 104 ∨ a = 108) ∧ i < 1440
def Fkr (a i : Nat) : Prop := Fkc a i ∨ Fkm a i ∨ (a = 106 ∧ i < 576) ∨ Fki a i ∨ (a = 107 ∧ i = 0)
set_option maxRecDepth 20000 in
set_option maxHeartbeats 4000000 in
theorem keep1 {X : XS} {Mr M : MS} {T : Nat → Nat} {kc rc : Nat} (hS : RSc X Mr T kc rc) (hs : MSrc Mr M) : Wo (lp b2_M_keep 10000 ((0 : Int32), M)) (fun p => MO Fkc M p.2 ∧ ∀ c, c < kc → KPc Mr rc p.2 0 c) := by
  have hk10 := hS.1.1
  refine W_lp (fun p => ∃ n, n ≤ kc ∧ p.1 = Int32.ofNat n ∧ MO Fkc M p.2 ∧ ∀ c, c < n → KPc Mr rc p.2 0 c) (fun p => 10 - p.1.toNatClampNeg) ?_ 10000 _ ⟨0, by omega, rfl, MO.refl M, fun c hc => absurd hc (Nat.not_lt_zero c)⟩ (by show 10 - 0 < 10000; omega)
  rintro ⟨p1, M1⟩ ⟨n, hn, e1, ho, hf⟩
  dsimp only at e1 ho hf
  subst e1
  have src : ∀ {N : MS}, MO Fkc M N → MSrc Mr N := fun q => hs.trans (q.src (by unfold Fkc; omega))
  have cn : (Int32.ofNat n).toNatClampNeg = n := o_cl n (by omega)
  have g3 : M1.1 60 3 = Int32.ofNat kc := (src ho).2.1.trans hS.1.2.2.1
  unfold b2_M_keep
  simp only [cn]
  by_cases hl : n < kc
  · have n10 : n < 10 := by omega
    refine We (by rw [g3]; simp (disch := omega) only [o_le, o_leL, o_leR, o_lt, o_ltL, o_ltR, o_eq, o_eqL, o_eqR, o_cl, o_add, o_addL, o_addR, o_mul, o_mulL, o_mulR, o_sub, o_subR, o_0le, o_lt0, o_ixo, n1_eq, n1_eq', n1_lt, n1_le, n1_ge, n1_gt, n2_eq, n2_eq', n2_lt, n2_le, n2_ge, n2_gt, ↓reduceIte, ite_self, Nat.reduceEqDiff, Nat.reduceAdd, Nat.reduceMul, Nat.reduceSub, Nat.reduceLT, Nat.reduceLeDiff, Nat.not_lt_zero, Nat.zero_le, if_true, if_false, ite_true, ite_false, true_and, and_true, false_and, and_false, true_implies, false_implies, implies_true, not_true_eq_false, not_false_eq_true, eq_self, true_or, or_true, false_or, or_false, and_self, reduceCtorEq, forall_const]; omega) (Wi (by simp (disch := omega) only [o_le, o_leL, o_leR, o_lt, o_ltL, o_ltR, o_eq, o_eqL, o_eqR, o_cl, o_add, o_addL, o_addR, o_mul, o_mulL, o_mulR, o_sub, o_subR, o_0le, o_lt0, o_ixo, n1_eq, n1_eq', n1_lt, n1_le, n1_ge, n1_gt, n2_eq, n2_eq', n2_lt, n2_le, n2_ge, n2_gt, ↓reduceIte, ite_self, Nat.reduceEqDiff, Nat.reduceAdd, Nat.reduceMul, Nat.reduceSub, Nat.reduceLT, Nat.reduceLeDiff, Nat.not_lt_zero, Nat.zero_le, if_true, if_false, ite_true, ite_false, true_and, and_true, false_and, and_false, true_implies, false_implies, implies_true, not_true_eq_false, not_false_eq_true, eq_self, true_or, or_true, false_or, or_false, and_self, reduceCtorEq, forall_const]; exact n10) (Wi (by rw [o_ixo _ _ (by omega)]; omega) ?_))
    rw [W_lt, (src ho).1 61 (by omega) (by omega)]
    generalize hM2 : mw M1 95 n (Mr.1 61 n) = M2
    have o2 : MO Fkc M M2 := by rw [← hM2]; exact ho.mw (by unfold Fkc; omega) _
    rw [(allOf_ok hS.1 (src o2) hl).1]
    simp only [Option.bind_some]
    rw [W_lt]
    generalize hM3 : mw M2 96 n (allN Mr 62 10 n) = M3
    have o3 : MO Fkc M M3 := by rw [← hM3]; exact o2.mw (by unfold Fkc; omega) _
    rw [(allOf_ok hS.1 (src o3) hl).2]
    simp only [Option.bind_some]
    rw [W_lt]
    generalize hM4 : mw M3 97 n (allN Mr 63 10 n) = M4
    have o4 : MO Fkc M M4 := by rw [← hM4]; exact o3.mw (by unfold Fkc; omega) _
    have r4 : ∀ a i, ¬ (i = n) ∨ a = 98 → M4.1 a i = M1.1 a i := by
      intro a i hi
      rw [← hM4, ← hM3, ← hM2, mw1, mw1, mw1, if_neg (by omega), if_neg (by omega), if_neg (by omega)]
    have v4 : M4.1 95 n = Mr.1 61 n ∧ M4.1 96 n = allN Mr 62 10 n ∧ M4.1 97 n = allN Mr 63 10 n := by
      rw [← hM4, ← hM3, ← hM2]
      simp [mw1]
    rw [W_bind]
    refine W_lp (fun q => ∃ j, j ≤ 8 ∧ q.1 = Int32.ofNat j ∧ MO Fkc M q.2 ∧ (∀ a i, (a ≠ 98 ∨ i < 8 * n) → q.2.1 a i = M4.1 a i) ∧ ∀ i, i < j → q.2.1 98 (8 * n + i) = enc (-2) (fnd Mr rc i 10 n)) (fun q => 8 - q.1.toNatClampNeg) ?_ 10000 _ ⟨0, by omega, rfl, o4, fun _ _ _ => rfl, fun c hc => absurd hc (Nat.not_lt_zero c)⟩ (by show 8 - 0 < 10000; omega)
    rintro ⟨q1, M5⟩ ⟨j, hj, e1, o5, f5, h5⟩
    dsimp only at e1 o5 f5 h5
    subst e1
    unfold b54_M_keep
    dsimp only
    by_cases hj' : j < 8
    · refine We (by simp (disch := omega) only [o_le, o_leL, o_leR, o_lt, o_ltL, o_ltR, o_eq, o_eqL, o_eqR, o_cl, o_add, o_addL, o_addR, o_mul, o_mulL, o_mulR, o_sub, o_subR, o_0le, o_lt0, o_ixo, n1_eq, n1_eq', n1_lt, n1_le, n1_ge, n1_gt, n2_eq, n2_eq', n2_lt, n2_le, n2_ge, n2_gt, ↓reduceIte, ite_self, Nat.reduceEqDiff, Nat.reduceAdd, Nat.reduceMul, Nat.reduceSub, Nat.reduceLT, Nat.reduceLeDiff, Nat.not_lt_zero, Nat.zero_le, if_true, if_false, ite_true, ite_false, true_and, and_true, false_and, and_false, true_implies, false_implies, implies_true, not_true_eq_false, not_false_eq_true, eq_self, true_or, or_true, false_or, or_false, and_self, reduceCtorEq, forall_const]; omega) ?_
      rw [find_src hS (src o5) hl]
      simp only [Option.bind_some]
      have ix : 8 * Int32.ofNat n + Int32.ofNat j = Int32.ofNat (8 * n + j) := by simp (disch := omega) only [o_le, o_leL, o_leR, o_lt, o_ltL, o_ltR, o_eq, o_eqL, o_eqR, o_cl, o_add, o_addL, o_addR, o_mul, o_mulL, o_mulR, o_sub, o_subR, o_0le, o_lt0, o_ixo, n1_eq, n1_eq', n1_lt, n1_le, n1_ge, n1_gt, n2_eq, n2_eq', n2_lt, n2_le, n2_ge, n2_gt, ↓reduceIte, ite_self, Nat.reduceEqDiff, Nat.reduceAdd, Nat.reduceMul, Nat.reduceSub, Nat.reduceLT, Nat.reduceLeDiff, Nat.not_lt_zero, Nat.zero_le, if_true, if_false, ite_true, ite_false, true_and, and_true, false_and, and_false, true_implies, false_implies, implies_true, not_true_eq_false, not_false_eq_true, eq_self, true_or, or_true, false_or, or_false, and_self, reduceCtorEq, forall_const]
      have cx : (Int32.ofNat (8 * n + j)).toNatClampNeg = 8 * n + j := o_cl _ (by omega)
      simp only [ix, cx]
      refine Wi (by rw [o_ixo _ _ (by omega)]; omega) ?_
      rw [W_lt, W_some]
      refine ⟨⟨j + 1, by omega, o_addR j 1, o5.mw (by unfold Fkc; omega) _, ?_, ?_⟩, by show 8 - (Int32.ofNat j + 1).toNatClampNeg < 8 - (Int32.ofNat j).toNatClampNeg; simp (disch := omega) only [o_le, o_leL, o_leR, o_lt, o_ltL, o_ltR, o_eq, o_eqL, o_eqR, o_cl, o_add, o_addL, o_addR, o_mul, o_mulL, o_mulR, o_sub, o_subR, o_0le, o_lt0, o_ixo, n1_eq, n1_eq', n1_lt, n1_le, n1_ge, n1_gt, n2_eq, n2_eq', n2_lt, n2_le, n2_ge, n2_gt, ↓reduceIte, ite_self, Nat.reduceEqDiff, Nat.reduceAdd, Nat.reduceMul, Nat.reduceSub, Nat.reduceLT, Nat.reduceLeDiff, Nat.not_lt_zero, Nat.zero_le, if_true, if_false, ite_true, ite_false, true_and, and_true, false_and, and_false, true_implies, false_implies, implies_true, not_true_eq_false, not_false_eq_true, eq_self, true_or, or_true, false_or, or_false, and_self, reduceCtorEq, forall_const]; omega⟩
      · intro a i hi
        show (mw M5 98 (8 * n + j) _).1 a i = _
        rw [mw1, if_neg (by omega)]
        exact f5 a i hi
      · intro i hi
        show (mw M5 98 (8 * n + j) _).1 98 (8 * n + i) = _
        rw [mw1]
        by_cases e : i = j
        · subst e; rw [if_pos ⟨rfl, rfl⟩]
        · rw [if_neg (by omega)]; exact h5 i (by omega)
    · have ej : j = 8 := by omega
      subst ej
      refine Wi (by decide) ?_
      rw [W_some]
      show Wo (some _) _
      rw [W_some]
      refine ⟨⟨n + 1, by omega, o_addR n 1, o5, ?_⟩, by show 10 - (Int32.ofNat n + 1).toNatClampNeg < _; simp (disch := omega) only [o_le, o_leL, o_leR, o_lt, o_ltL, o_ltR, o_eq, o_eqL, o_eqR, o_cl, o_add, o_addL, o_addR, o_mul, o_mulL, o_mulR, o_sub, o_subR, o_0le, o_lt0, o_ixo, n1_eq, n1_eq', n1_lt, n1_le, n1_ge, n1_gt, n2_eq, n2_eq', n2_lt, n2_le, n2_ge, n2_gt, ↓reduceIte, ite_self, Nat.reduceEqDiff, Nat.reduceAdd, Nat.reduceMul, Nat.reduceSub, Nat.reduceLT, Nat.reduceLeDiff, Nat.not_lt_zero, Nat.zero_le, if_true, if_false, ite_true, ite_false, true_and, and_true, false_and, and_false, true_implies, false_implies, implies_true, not_true_eq_false, not_false_eq_true, eq_self, true_or, or_true, false_or, or_false, and_self, reduceCtorEq, forall_const]; omega⟩
      intro c hc
      show KPc Mr rc M5 0 c
      unfold KPc
      simp only [Nat.mul_zero, Nat.zero_add]
      rw [f5 95 c (by omega), f5 96 c (by omega), f5 97 c (by omega)]
      by_cases e : c = n
      · subst e
        exact ⟨v4.1, v4.2.1, v4.2.2, h5⟩
      · have := hf c (by omega)
        unfold KPc at this
        simp only [Nat.mul_zero, Nat.zero_add] at this
        rw [r4 95 c (by omega), r4 96 c (by omega), r4 97 c (by omega)]
        refine ⟨this.1, this.2.1, this.2.2.1, ?_⟩
        intro i hi
        rw [f5 98 _ (by omega), r4 98 _ (by omega)]
        exact this.2.2.2 i hi
  · have en : n = kc := by omega
    subst en
    refine Wi (by rw [g3]; exact Int32.le_refl _) ?_
    rw [W_some]
    exact ⟨ho, hf⟩
set_option maxRecDepth 20000 in
set_option maxHeartbeats 4000000 in
theorem keep2 {X : XS} {Mr M : MS} {T : Nat → Nat} {kc rc : Nat} (hS : RSc X Mr T kc rc) (hs : MSrc Mr M) : Wo (lp b91_M_keep 10000 ((0 : Int32), M)) (fun p => MO Fkm M p.2 ∧ ∀ m, m < rc → KPm Mr p.2 0 m) := by
  have hk10 := hS.2.1
  refine W_lp (fun p => ∃ n, n ≤ rc ∧ p.1 = Int32.ofNat n ∧ MO Fkm M p.2 ∧ ∀ c, c < n → KPm Mr p.2 0 c) (fun p => 24 - p.1.toNatClampNeg) ?_ 10000 _ ⟨0, by omega, rfl, MO.refl M, fun c hc => absurd hc (Nat.not_lt_zero c)⟩ (by show 24 - 0 < 10000; omega)
  rintro ⟨p1, M1⟩ ⟨n, hn, e1, ho, hf⟩
  dsimp only at e1 ho hf
  subst e1
  have src : MSrc Mr M1 := hs.trans (ho.src (by unfold Fkm; omega))
  have cn : (Int32.ofNat n).toNatClampNeg = n := o_cl n (by omega)
  have g3 : M1.1 60 15 = Int32.ofNat rc := src.2.2.trans hS.2.2.2.1
  unfold b91_M_keep
  simp only [cn]
  by_cases hl : n < rc
  · have n10 : n < 24 := by omega
    refine We (by rw [g3]; simp (disch := omega) only [o_le, o_leL, o_leR, o_lt, o_ltL, o_ltR, o_eq, o_eqL, o_eqR, o_cl, o_add, o_addL, o_addR, o_mul, o_mulL, o_mulR, o_sub, o_subR, o_0le, o_lt0, o_ixo, n1_eq, n1_eq', n1_lt, n1_le, n1_ge, n1_gt, n2_eq, n2_eq', n2_lt, n2_le, n2_ge, n2_gt, ↓reduceIte, ite_self, Nat.reduceEqDiff, Nat.reduceAdd, Nat.reduceMul, Nat.reduceSub, Nat.reduceLT, Nat.reduceLeDiff, Nat.not_lt_zero, Nat.zero_le, if_true, if_false, ite_true, ite_false, true_and, and_true, false_and, and_false, true_implies, false_implies, implies_true, not_true_eq_false, not_false_eq_true, eq_self, true_or, or_true, false_or, or_false, and_self, reduceCtorEq, forall_const]; omega) (Wi (by simp (disch := omega) only [o_le, o_leL, o_leR, o_lt, o_ltL, o_ltR, o_eq, o_eqL, o_eqR, o_cl, o_add, o_addL, o_addR, o_mul, o_mulL, o_mulR, o_sub, o_subR, o_0le, o_lt0, o_ixo, n1_eq, n1_eq', n1_lt, n1_le, n1_ge, n1_gt, n2_eq, n2_eq', n2_lt, n2_le, n2_ge, n2_gt, ↓reduceIte, ite_self, Nat.reduceEqDiff, Nat.reduceAdd, Nat.reduceMul, Nat.reduceSub, Nat.reduceLT, Nat.reduceLeDiff, Nat.not_lt_zero, Nat.zero_le, if_true, if_false, ite_true, ite_false, true_and, and_true, false_and, and_false, true_implies, false_implies, implies_true, not_true_eq_false, not_false_eq_true, eq_self, true_or, or_true, false_or, or_false, and_self, reduceCtorEq, forall_const]; exact n10) (Wi (by rw [o_ixo _ _ (by omega)]; omega) ?_))
    simp only [lt]
    rw [W_some]
    have r : ∀ a, 61 ≤ a → a ≤ 74 → M1.1 a = Mr.1 a := src.1
    refine ⟨⟨n + 1, by omega, o_addR n 1, ((((ho.mw (by unfold Fkm; omega) _).mw (by unfold Fkm; omega) _).mw (by unfold Fkm; omega) _).mw (by unfold Fkm; omega) _).mw (by unfold Fkm; omega) _, ?_⟩, by show 24 - (Int32.ofNat n + 1).toNatClampNeg < _; simp (disch := omega) only [o_le, o_leL, o_leR, o_lt, o_ltL, o_ltR, o_eq, o_eqL, o_eqR, o_cl, o_add, o_addL, o_addR, o_mul, o_mulL, o_mulR, o_sub, o_subR, o_0le, o_lt0, o_ixo, n1_eq, n1_eq', n1_lt, n1_le, n1_ge, n1_gt, n2_eq, n2_eq', n2_lt, n2_le, n2_ge, n2_gt, ↓reduceIte, ite_self, Nat.reduceEqDiff, Nat.reduceAdd, Nat.reduceMul, Nat.reduceSub, Nat.reduceLT, Nat.reduceLeDiff, Nat.not_lt_zero, Nat.zero_le, if_true, if_false, ite_true, ite_false, true_and, and_true, false_and, and_false, true_implies, false_implies, implies_true, not_true_eq_false, not_false_eq_true, eq_self, true_or, or_true, false_or, or_false, and_self, reduceCtorEq, forall_const]; omega⟩
    intro c hc
    unfold KPm
    simp only [Nat.mul_zero, Nat.zero_add, mw1]
    by_cases e : c = n
    · subst e
      simp [r]
    · have := hf c (by omega)
      unfold KPm at this
      simp only [Nat.mul_zero, Nat.zero_add] at this
      simp [e]
      exact this
  · have en : n = rc := by omega
    subst en
    refine Wi (by rw [g3]; exact Int32.le_refl _) ?_
    rw [W_some]
    exact ⟨ho, hf⟩
set_option maxRecDepth 20000 in
set_option maxHeartbeats 4000000 in
theorem keep3 {Mr M : MS} (hs : MSrc Mr M) : Wo (lp b167_M_keep 10000 ((0 : Int32), M)) (fun p => MO (fun a i => a = 106 ∧ i < 576) M p.2 ∧ ∀ k, k < 576 → p.2.1 106 k = Mr.1 74 k) := by
  refine W_lp (fun p => ∃ n, n ≤ 576 ∧ p.1 = Int32.ofNat n ∧ MO (fun a i => a = 106 ∧ i < 576) M p.2 ∧ ∀ c, c < n → p.2.1 106 c = Mr.1 74 c) (fun p => 576 - p.1.toNatClampNeg) ?_ 10000 _ ⟨0, by omega, rfl, MO.refl M, fun c hc => absurd hc (Nat.not_lt_zero c)⟩ (by show 576 - 0 < 10000; omega)
  rintro ⟨p1, M1⟩ ⟨n, hn, e1, ho, hf⟩
  dsimp only at e1 ho hf
  subst e1
  have cn : (Int32.ofNat n).toNatClampNeg = n := o_cl n (by omega)
  have e74 : M1.1 74 = Mr.1 74 := by
    rw [← hs.1 74 (by omega) (by omega)]
    funext i
    exact ho.2 74 i (by omega)
  unfold b167_M_keep
  simp only [cn]
  by_cases hl : n < 576
  · refine We (by simp (disch := omega) only [o_le, o_leL, o_leR, o_lt, o_ltL, o_ltR, o_eq, o_eqL, o_eqR, o_cl, o_add, o_addL, o_addR, o_mul, o_mulL, o_mulR, o_sub, o_subR, o_0le, o_lt0, o_ixo, n1_eq, n1_eq', n1_lt, n1_le, n1_ge, n1_gt, n2_eq, n2_eq', n2_lt, n2_le, n2_ge, n2_gt, ↓reduceIte, ite_self, Nat.reduceEqDiff, Nat.reduceAdd, Nat.reduceMul, Nat.reduceSub, Nat.reduceLT, Nat.reduceLeDiff, Nat.not_lt_zero, Nat.zero_le, if_true, if_false, ite_true, ite_false, true_and, and_true, false_and, and_false, true_implies, false_implies, implies_true, not_true_eq_false, not_false_eq_true, eq_self, true_or, or_true, false_or, or_false, and_self, reduceCtorEq, forall_const]; omega) (Wi (by simp (disch := omega) only [o_le, o_leL, o_leR, o_lt, o_ltL, o_ltR, o_eq, o_eqL, o_eqR, o_cl, o_add, o_addL, o_addR, o_mul, o_mulL, o_mulR, o_sub, o_subR, o_0le, o_lt0, o_ixo, n1_eq, n1_eq', n1_lt, n1_le, n1_ge, n1_gt, n2_eq, n2_eq', n2_lt, n2_le, n2_ge, n2_gt, ↓reduceIte, ite_self, Nat.reduceEqDiff, Nat.reduceAdd, Nat.reduceMul, Nat.reduceSub, Nat.reduceLT, Nat.reduceLeDiff, Nat.not_lt_zero, Nat.zero_le, if_true, if_false, ite_true, ite_false, true_and, and_true, false_and, and_false, true_implies, false_implies, implies_true, not_true_eq_false, not_false_eq_true, eq_self, true_or, or_true, false_or, or_false, and_self, reduceCtorEq, forall_const]; exact hl) (Wi (by rw [o_ixo _ _ (by omega)]; omega) ?_))
    rw [W_lt, W_some, e74]
    refine ⟨⟨n + 1, by omega, o_addR n 1, ho.mw (by omega) _, ?_⟩, by show 576 - (Int32.ofNat n + 1).toNatClampNeg < _; simp (disch := omega) only [o_le, o_leL, o_leR, o_lt, o_ltL, o_ltR, o_eq, o_eqL, o_eqR, o_cl, o_add, o_addL, o_addR, o_mul, o_mulL, o_mulR, o_sub, o_subR, o_0le, o_lt0, o_ixo, n1_eq, n1_eq', n1_lt, n1_le, n1_ge, n1_gt, n2_eq, n2_eq', n2_lt, n2_le, n2_ge, n2_gt, ↓reduceIte, ite_self, Nat.reduceEqDiff, Nat.reduceAdd, Nat.reduceMul, Nat.reduceSub, Nat.reduceLT, Nat.reduceLeDiff, Nat.not_lt_zero, Nat.zero_le, if_true, if_false, ite_true, ite_false, true_and, and_true, false_and, and_false, true_implies, false_implies, implies_true, not_true_eq_false, not_false_eq_true, eq_self, true_or, or_true, false_or, or_false, and_self, reduceCtorEq, forall_const]; omega⟩
    intro c hc
    simp only [mw1]
    by_cases e : c = n
    · subst e; simp
    · simp [e]; exact hf c (by omega)
  · have en : n = 576 := by omega
    subst en
    refine Wi (by decide) ?_
    rw [W_some]
    exact ⟨ho, hf⟩
set_option maxRecDepth 20000 in
set_option maxHeartbeats 4000000 in
theorem keep4 {X : XS} {Mr M : MS} {T : Nat → Nat} {kc rc : Nat} (hS : RSc X Mr T kc rc) (hs : MSrc Mr M) : Wo (lp b194_M_keep 10000 ((0 : Int32), M)) (fun p => MO Fki M p.2 ∧ ∀ k, k < 1440 → KPi Mr p.2 0 k) := by
  have hk10 := hS.1.1
  refine W_lp (fun p => ∃ n, n ≤ 1440 ∧ p.1 = Int32.ofNat n ∧ MO Fki M p.2 ∧ ∀ c, c < n → KPi Mr p.2 0 c) (fun p => 1440 - p.1.toNatClampNeg) ?_ 10000 _ ⟨0, by omega, rfl, MO.refl M, fun c hc => absurd hc (Nat.not_lt_zero c)⟩ (by show 1440 - 0 < 10000; omega)
  rintro ⟨p1, M1⟩ ⟨n, hn, e1, ho, hf⟩
  dsimp only at e1 ho hf
  subst e1
  have cn : (Int32.ofNat n).toNatClampNeg = n := o_cl n (by omega)
  unfold b194_M_keep
  simp only [cn]
  by_cases hl : n < 1440
  · refine We (by simp (disch := omega) only [o_le, o_leL, o_leR, o_lt, o_ltL, o_ltR, o_eq, o_eqL, o_eqR, o_cl, o_add, o_addL, o_addR, o_mul, o_mulL, o_mulR, o_sub, o_subR, o_0le, o_lt0, o_ixo, n1_eq, n1_eq', n1_lt, n1_le, n1_ge, n1_gt, n2_eq, n2_eq', n2_lt, n2_le, n2_ge, n2_gt, ↓reduceIte, ite_self, Nat.reduceEqDiff, Nat.reduceAdd, Nat.reduceMul, Nat.reduceSub, Nat.reduceLT, Nat.reduceLeDiff, Nat.not_lt_zero, Nat.zero_le, if_true, if_false, ite_true, ite_false, true_and, and_true, false_and, and_false, true_implies, false_implies, implies_true, not_true_eq_false, not_false_eq_true, eq_self, true_or, or_true, false_or, or_false, and_self, reduceCtorEq, forall_const]; omega) (Wi (by simp (disch := omega) only [o_le, o_leL, o_leR, o_lt, o_ltL, o_ltR, o_eq, o_eqL, o_eqR, o_cl, o_add, o_addL, o_addR, o_mul, o_mulL, o_mulR, o_sub, o_subR, o_0le, o_lt0, o_ixo, n1_eq, n1_eq', n1_lt, n1_le, n1_ge, n1_gt, n2_eq, n2_eq', n2_lt, n2_le, n2_ge, n2_gt, ↓reduceIte, ite_self, Nat.reduceEqDiff, Nat.reduceAdd, Nat.reduceMul, Nat.reduceSub, Nat.reduceLT, Nat.reduceLeDiff, Nat.not_lt_zero, Nat.zero_le, if_true, if_false, ite_true, ite_false, true_and, and_true, false_and, and_false, true_implies, false_implies, implies_true, not_true_eq_false, not_false_eq_true, eq_self, true_or, or_true, false_or, or_false, and_self, reduceCtorEq, forall_const]; exact hl) (Wi (by rw [o_ixo _ _ (by omega)]; omega) ?_))
    rw [W_lt]
    generalize hM2 : mw M1 103 n (M1.1 71 n) = M2
    rw [W_lt]
    generalize hM3 : mw M2 104 n (M2.1 72 n) = M3
    have o2 : MO Fki M M2 := by rw [← hM2]; exact ho.mw (by unfold Fki; omega) _
    have o3 : MO Fki M M3 := by rw [← hM3]; exact o2.mw (by unfold Fki; omega) _
    have src : MSrc Mr M3 := hs.trans (o3.src (by unfold Fki; omega))
    have s1 : MSrc Mr M1 := hs.trans (ho.src (by unfold Fki; omega))
    have s2 : MSrc Mr M2 := hs.trans (o2.src (by unfold Fki; omega))
    have nx : ∀ v, v = fldV Mr n → ∀ Q : (Int32 × MS) ⊕ (Int32 × MS) → Prop, (∀ M', MO Fki M M' → (∀ c, c < n + 1 → KPi Mr M' 0 c) → Q (.inl (Int32.ofNat n + 1, M'))) → Wo (lt (mw M3 108 n v) fun M4 => some (.inl (Int32.ofNat n + 1, M4))) Q := by
      intro v hv Q hQ
      rw [W_lt, W_some]
      refine hQ _ (o3.mw (by unfold Fki; omega) _) ?_
      intro c hc
      unfold KPi
      simp only [Nat.mul_zero, Nat.zero_add]
      rw [← hM3, ← hM2]
      simp only [mw1]
      by_cases e : c = n
      · subst e
        simp
        exact ⟨by rw [s1.1 71 (by omega) (by omega)], by rw [s1.1 72 (by omega) (by omega)], hv⟩
      · have := hf c (by omega)
        unfold KPi at this
        simp only [Nat.mul_zero, Nat.zero_add] at this
        simp [e]
        exact this
    have fin : ∀ M', MO Fki M M' → (∀ c, c < n + 1 → KPi Mr M' 0 c) → (∃ k, k ≤ 1440 ∧ (Int32.ofNat n + 1, M').1 = Int32.ofNat k ∧ MO Fki M (Int32.ofNat n + 1, M').2 ∧ ∀ c, c < k → KPi Mr (Int32.ofNat n + 1, M').2 0 c) ∧ 1440 - (Int32.ofNat n + 1).toNatClampNeg < 1440 - n := fun M' h1 h2 => ⟨⟨n + 1, by omega, o_addR n 1, h1, h2⟩, by simp (disch := omega) only [o_le, o_leL, o_leR, o_lt, o_ltL, o_ltR, o_eq, o_eqL, o_eqR, o_cl, o_add, o_addL, o_addR, o_mul, o_mulL, o_mulR, o_sub, o_subR, o_0le, o_lt0, o_ixo, n1_eq, n1_eq', n1_lt, n1_le, n1_ge, n1_gt, n2_eq, n2_eq', n2_lt, n2_le, n2_ge, n2_gt, ↓reduceIte, ite_self, Nat.reduceEqDiff, Nat.reduceAdd, Nat.reduceMul, Nat.reduceSub, Nat.reduceLT, Nat.reduceLeDiff, Nat.not_lt_zero, Nat.zero_le, if_true, if_false, ite_true, ite_false, true_and, and_true, false_and, and_false, true_implies, false_implies, implies_true, not_true_eq_false, not_false_eq_true, eq_self, true_or, or_true, false_or, or_false, and_self, reduceCtorEq, forall_const]; omega⟩
    have fv : ∀ r, fldV Mr n = r ↔ (if 27 ≤ Mr.1 71 n ∧ Mr.1 71 n ≤ 30 then (if Mr.1 72 n < 0 then 0 else (if f_M_isClass (Mr.1 72 n / 8) Mr = true then (if 29 ≤ Mr.1 71 n then allN Mr 63 10 (Mr.1 72 n / 8).toNatClampNeg - Mr.1 63 (Mr.1 72 n / 8).toNatClampNeg + (Mr.1 72 n - Mr.1 72 n / 8 * 8) else allN Mr 62 10 (Mr.1 72 n / 8).toNatClampNeg - Mr.1 62 (Mr.1 72 n / 8).toNatClampNeg + (Mr.1 72 n - Mr.1 72 n / 8 * 8)) else 0)) else 0) = r := fun r => Iff.rfl
    simp only [src.1 71 (by omega) (by omega), src.1 72 (by omega) (by omega), src.1 62 (by omega) (by omega), src.1 63 (by omega) (by omega)]
    by_cases c1 : 27 ≤ Mr.1 71 n ∧ Mr.1 71 n ≤ 30
    · refine Wi c1 ?_
      by_cases c2 : Mr.1 72 n < 0
      · refine Wi c2 ?_
        exact nx _ (((fv 0).mpr (by rw [if_pos c1, if_pos c2])).symm) _ fin
      refine We c2 ?_
      have ic : f_M_isClass (Mr.1 72 n / 8) M3 = f_M_isClass (Mr.1 72 n / 8) Mr := by
        unfold f_M_isClass
        rw [src.2.1]
      rw [ic]
      by_cases c3 : f_M_isClass (Mr.1 72 n / 8) Mr = true
      · refine Wi c3 ?_
        have c3' := c3
        rw [isClassM hk10 hS.1.2.2.1] at c3'
        obtain ⟨c, hc, ec⟩ := c3'
        have c10 : c < 10 := by omega
        have ix : ixo (Mr.1 72 n / 8) 10 := by rw [ec, o_ixo _ _ (by omega)]; exact c10
        have cc : (Mr.1 72 n / 8).toNatClampNeg = c := by rw [ec]; exact o_cl c (by omega)
        have a1 : f_M_allOf_63 (Mr.1 72 n / 8) M3 = some (allN Mr 63 10 (Mr.1 72 n / 8).toNatClampNeg) := by
          rw [cc, ec]; exact (allOf_ok hS.1 src hc).2
        have a2 : f_M_allOf_62 (Mr.1 72 n / 8) M3 = some (allN Mr 62 10 (Mr.1 72 n / 8).toNatClampNeg) := by
          rw [cc, ec]; exact (allOf_ok hS.1 src hc).1
        by_cases c4 : 29 ≤ Mr.1 71 n
        · refine Wi c4 ?_
          rw [a1]
          simp only [Option.bind_some]
          refine Wi ix ?_
          exact nx _ (((fv _).mpr (by rw [if_pos c1, if_neg c2, if_pos c3, if_pos c4])).symm) _ fin
        · refine We c4 ?_
          rw [a2]
          simp only [Option.bind_some]
          refine Wi ix ?_
          exact nx _ (((fv _).mpr (by rw [if_pos c1, if_neg c2, if_pos c3, if_neg c4])).symm) _ fin
      · refine We c3 ?_
        exact nx _ (((fv 0).mpr (by rw [if_pos c1, if_neg c2, if_neg c3])).symm) _ fin
    · refine We c1 ?_
      exact nx _ (((fv 0).mpr (by rw [if_neg c1])).symm) _ fin
  · have en : n = 1440 := by omega
    subst en
    refine Wi (by decide) ?_
    rw [W_some]
    exact ⟨ho, hf⟩
