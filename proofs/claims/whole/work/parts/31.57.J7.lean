/-! J7 -/
set_option maxRecDepth 20000 in
set_option maxHeartbeats 4000000 in
theorem sumM {X : XS} {Mr : MS} {T : Nat → Nat} {kc rc : Nat} (hS : RSc X Mr T kc rc) (hT : LkT Mr kc rc) (x : Int32 × MS) {l : List Int32} {o : Nat → Int32} (h : QM Mr x.2 l o) (a : Nat) {β : Type} {k : Int32 × Int32 → Option β} {R : β → Prop} (hk : ∀ z, Wo (k (Int32.ofNat (a + sumR Mr (hbF Mr) rc), z)) R) : Wo ((lp (b195_M_write x) 10000 (Int32.ofNat a, (0 : Int32))).bind k) R := by
  have hr24 := hS.2.1
  rw [W_bind]
  refine W_lp (fun p => ∃ n, n ≤ rc ∧ p.2 = Int32.ofNat n ∧ p.1 = Int32.ofNat (a + sumR Mr (hbF Mr) n)) (fun p => 24 - p.2.toNatClampNeg) ?_ 10000 _ ⟨0, by omega, rfl, rfl⟩ (by show 24 - 0 < 10000; omega)
  rintro ⟨p1, p2⟩ ⟨n, hn, e1, e2⟩
  dsimp only at e1 e2
  subst e1 e2
  have g15 : x.2.1 60 15 = Int32.ofNat rc := by rw [h.1.2 60 15 (by unfold Fw; omega)]; exact hS.2.2.2.1
  have cn : (Int32.ofNat n).toNatClampNeg = n := o_cl n (by omega)
  unfold b195_M_write
  simp only [cn]
  by_cases hl : n < rc
  · have n24 : n < 24 := by omega
    refine We (by rw [g15]; simp (disch := omega) only [o_le, o_leL, o_leR, o_lt, o_ltL, o_ltR, o_eq, o_eqL, o_eqR, o_cl, o_add, o_addL, o_addR, o_mul, o_mulL, o_mulR, o_sub, o_subR, o_0le, o_lt0, o_ixo, n1_eq, n1_eq', n1_lt, n1_le, n1_ge, n1_gt, n2_eq, n2_eq', n2_lt, n2_le, n2_ge, n2_gt, ↓reduceIte, ite_self, Nat.reduceEqDiff, Nat.reduceAdd, Nat.reduceMul, Nat.reduceSub, Nat.reduceLT, Nat.reduceLeDiff, Nat.not_lt_zero, Nat.zero_le, if_true, if_false, ite_true, ite_false, true_and, and_true, false_and, and_false, true_implies, false_implies, implies_true, not_true_eq_false, not_false_eq_true, eq_self, true_or, or_true, false_or, or_false, and_self, reduceCtorEq, forall_const]; omega) (Wi (by simp (disch := omega) only [o_le, o_leL, o_leR, o_lt, o_ltL, o_ltR, o_eq, o_eqL, o_eqR, o_cl, o_add, o_addL, o_addR, o_mul, o_mulL, o_mulR, o_sub, o_subR, o_0le, o_lt0, o_ixo, n1_eq, n1_eq', n1_lt, n1_le, n1_ge, n1_gt, n2_eq, n2_eq', n2_lt, n2_le, n2_ge, n2_gt, ↓reduceIte, ite_self, Nat.reduceEqDiff, Nat.reduceAdd, Nat.reduceMul, Nat.reduceSub, Nat.reduceLT, Nat.reduceLeDiff, Nat.not_lt_zero, Nat.zero_le, if_true, if_false, ite_true, ite_false, true_and, and_true, false_and, and_false, true_implies, false_implies, implies_true, not_true_eq_false, not_false_eq_true, eq_self, true_or, or_true, false_or, or_false, and_self, reduceCtorEq, forall_const]; exact n24) ?_)
    have nx : sumR Mr (hbF Mr) (n + 1) = sumR Mr (hbF Mr) n + (if Mr.1 75 n = 0 then 0 else hbF Mr n) := rfl
    by_cases z : Mr.1 75 n = 0
    · refine Wi (by rw [qm_row h 75 (by omega)]; exact z) ?_
      rw [W_some]
      refine ⟨⟨n + 1, by omega, o_addR n 1, ?_⟩, by show 24 - (Int32.ofNat n + 1).toNatClampNeg < _; simp (disch := omega) only [o_le, o_leL, o_leR, o_lt, o_ltL, o_ltR, o_eq, o_eqL, o_eqR, o_cl, o_add, o_addL, o_addR, o_mul, o_mulL, o_mulR, o_sub, o_subR, o_0le, o_lt0, o_ixo, n1_eq, n1_eq', n1_lt, n1_le, n1_ge, n1_gt, n2_eq, n2_eq', n2_lt, n2_le, n2_ge, n2_gt, ↓reduceIte, ite_self, Nat.reduceEqDiff, Nat.reduceAdd, Nat.reduceMul, Nat.reduceSub, Nat.reduceLT, Nat.reduceLeDiff, Nat.not_lt_zero, Nat.zero_le, if_true, if_false, ite_true, ite_false, true_and, and_true, false_and, and_false, true_implies, false_implies, implies_true, not_true_eq_false, not_false_eq_true, eq_self, true_or, or_true, false_or, or_false, and_self, reduceCtorEq, forall_const]; omega⟩
      rw [nx, if_pos z]
      show _ + (0 : Int32) = _
      rw [Int32.add_zero]
      rfl
    · refine We (by rw [qm_row h 75 (by omega)]; exact z) ?_
      obtain ⟨s, tc, mm, s1, s2, s3, s4, s5, _⟩ := ty_facts hT n24 z
      rw [qm_row h 73 (by omega), s5, W_some]
      have et : tcN Mr n = tc := by unfold tcN; rw [s5, o_cl tc (by omega)]
      refine ⟨⟨n + 1, by omega, o_addR n 1, ?_⟩, by show 24 - (Int32.ofNat n + 1).toNatClampNeg < _; simp (disch := omega) only [o_le, o_leL, o_leR, o_lt, o_ltL, o_ltR, o_eq, o_eqL, o_eqR, o_cl, o_add, o_addL, o_addR, o_mul, o_mulL, o_mulR, o_sub, o_subR, o_0le, o_lt0, o_ixo, n1_eq, n1_eq', n1_lt, n1_le, n1_ge, n1_gt, n2_eq, n2_eq', n2_lt, n2_le, n2_ge, n2_gt, ↓reduceIte, ite_self, Nat.reduceEqDiff, Nat.reduceAdd, Nat.reduceMul, Nat.reduceSub, Nat.reduceLT, Nat.reduceLeDiff, Nat.not_lt_zero, Nat.zero_le, if_true, if_false, ite_true, ite_false, true_and, and_true, false_and, and_false, true_implies, false_implies, implies_true, not_true_eq_false, not_false_eq_true, eq_self, true_or, or_true, false_or, or_false, and_self, reduceCtorEq, forall_const]; omega⟩
      show Int32.ofNat (a + sumR Mr (hbF Mr) n) + (9 + 7 * Int32.ofNat tc) = _
      rw [nx, if_neg z]
      unfold hbF
      rw [et, ← Nat.add_assoc]
      simp (disch := omega) only [o_le, o_leL, o_leR, o_lt, o_ltL, o_ltR, o_eq, o_eqL, o_eqR, o_cl, o_add, o_addL, o_addR, o_mul, o_mulL, o_mulR, o_sub, o_subR, o_0le, o_lt0, o_ixo, n1_eq, n1_eq', n1_lt, n1_le, n1_ge, n1_gt, n2_eq, n2_eq', n2_lt, n2_le, n2_ge, n2_gt, ↓reduceIte, ite_self, Nat.reduceEqDiff, Nat.reduceAdd, Nat.reduceMul, Nat.reduceSub, Nat.reduceLT, Nat.reduceLeDiff, Nat.not_lt_zero, Nat.zero_le, if_true, if_false, ite_true, ite_false, true_and, and_true, false_and, and_false, true_implies, false_implies, implies_true, not_true_eq_false, not_false_eq_true, eq_self, true_or, or_true, false_or, or_false, and_self, reduceCtorEq, forall_const]
  · have en : n = rc := by omega
    subst en
    refine Wi (by rw [g15]; exact Int32.le_refl _) ?_
    rw [W_some]
    exact hk _
set_option maxRecDepth 20000 in
set_option maxHeartbeats 4000000 in
theorem headsM {X : XS} {Mr M : MS} {T : Nat → Nat} {kc rc : Nat} {l : List Int32} {o : Nat → Int32} (hS : RSc X Mr T kc rc) (hT : LkT Mr kc rc) (h : QM Mr M l o) (hl : l.length ≤ 119) (base : Nat) {β : Type} {k : Int32 × Int32 × MS → Option β} {R : β → Prop} (hk : ∀ z z' M' o', QM Mr M' (l ++ headsL Mr base rc) o' → Wo (k (z, z', M')) R) : Wo ((lp b239_M_write 10000 (Int32.ofNat base, (0 : Int32), M)).bind k) R := by
  have hr24 := hS.2.1
  rw [W_bind]
  refine W_lp (fun p => ∃ n o', n ≤ rc ∧ p.2.1 = Int32.ofNat n ∧ p.1 = Int32.ofNat (base + sumR Mr (cdF Mr) n) ∧ QM Mr p.2.2 (l ++ headsL Mr base n) o') (fun p => 24 - p.2.1.toNatClampNeg) ?_ 10000 _ ⟨0, o, by omega, rfl, rfl, by show QM Mr M (l ++ []) o; rw [List.append_nil]; exact h⟩ (by show 24 - 0 < 10000; omega)
  rintro ⟨p1, p2, M1⟩ ⟨n, o1, hn, e1, e2, q1⟩
  dsimp only at e1 e2 q1
  subst e1 e2
  have g15 : M1.1 60 15 = Int32.ofNat rc := by rw [q1.1.2 60 15 (by unfold Fw; omega)]; exact hS.2.2.2.1
  have cn : (Int32.ofNat n).toNatClampNeg = n := o_cl n (by omega)
  unfold b239_M_write
  simp only [cn]
  by_cases hl' : n < rc
  · have n24 : n < 24 := by omega
    have i24 : ixo (Int32.ofNat n) 24 := by simp (disch := omega) only [o_le, o_leL, o_leR, o_lt, o_ltL, o_ltR, o_eq, o_eqL, o_eqR, o_cl, o_add, o_addL, o_addR, o_mul, o_mulL, o_mulR, o_sub, o_subR, o_0le, o_lt0, o_ixo, n1_eq, n1_eq', n1_lt, n1_le, n1_ge, n1_gt, n2_eq, n2_eq', n2_lt, n2_le, n2_ge, n2_gt, ↓reduceIte, ite_self, Nat.reduceEqDiff, Nat.reduceAdd, Nat.reduceMul, Nat.reduceSub, Nat.reduceLT, Nat.reduceLeDiff, Nat.not_lt_zero, Nat.zero_le, if_true, if_false, ite_true, ite_false, true_and, and_true, false_and, and_false, true_implies, false_implies, implies_true, not_true_eq_false, not_false_eq_true, eq_self, true_or, or_true, false_or, or_false, and_self, reduceCtorEq, forall_const]; exact n24
    refine We (by rw [g15]; simp (disch := omega) only [o_le, o_leL, o_leR, o_lt, o_ltL, o_ltR, o_eq, o_eqL, o_eqR, o_cl, o_add, o_addL, o_addR, o_mul, o_mulL, o_mulR, o_sub, o_subR, o_0le, o_lt0, o_ixo, n1_eq, n1_eq', n1_lt, n1_le, n1_ge, n1_gt, n2_eq, n2_eq', n2_lt, n2_le, n2_ge, n2_gt, ↓reduceIte, ite_self, Nat.reduceEqDiff, Nat.reduceAdd, Nat.reduceMul, Nat.reduceSub, Nat.reduceLT, Nat.reduceLeDiff, Nat.not_lt_zero, Nat.zero_le, if_true, if_false, ite_true, ite_false, true_and, and_true, false_and, and_false, true_implies, false_implies, implies_true, not_true_eq_false, not_false_eq_true, eq_self, true_or, or_true, false_or, or_false, and_self, reduceCtorEq, forall_const]; omega) (Wi i24 ?_)
    have nx : sumR Mr (cdF Mr) (n + 1) = sumR Mr (cdF Mr) n + (if Mr.1 75 n = 0 then 0 else cdF Mr n) := rfl
    have nh : headsL Mr base (n + 1) = headsL Mr base n ++ (if Mr.1 75 n = 0 then [] else headL Mr n (base + sumR Mr (cdF Mr) n)) := rfl
    by_cases hr : fm Mr 75 n
    · refine We (by rw [qm_row q1 75 (by omega)]; exact hr) ?_
      obtain ⟨s, tc, mm, s1, s2, s3, s4, s5, _⟩ := ty_facts hT n24 hr
      have s61 : s < 61 := by omega
      refine measure_m hS hT hl' hr q1 ?_
      intro M2 o2 q2 ho
      rw [W_bind]
      have hb := hb_le hT n (by omega)
      refine writeHead_m hS hT hl' hr q2 ho (by rw [List.length_append, headsL_len]; omega) _ _ ?_
      intro M3 q3
      have g70 : M3.1 70 n = Int32.ofNat s := by rw [qm_row q3 70 (by omega)]; exact s3
      have es : (Int32.ofNat s).toNatClampNeg = s := o_cl s (by omega)
      refine Wi i24 (Wi (by rw [g70]; simp (disch := omega) only [o_le, o_leL, o_leR, o_lt, o_ltL, o_ltR, o_eq, o_eqL, o_eqR, o_cl, o_add, o_addL, o_addR, o_mul, o_mulL, o_mulR, o_sub, o_subR, o_0le, o_lt0, o_ixo, n1_eq, n1_eq', n1_lt, n1_le, n1_ge, n1_gt, n2_eq, n2_eq', n2_lt, n2_le, n2_ge, n2_gt, ↓reduceIte, ite_self, Nat.reduceEqDiff, Nat.reduceAdd, Nat.reduceMul, Nat.reduceSub, Nat.reduceLT, Nat.reduceLeDiff, Nat.not_lt_zero, Nat.zero_le, if_true, if_false, ite_true, ite_false, true_and, and_true, false_and, and_false, true_implies, false_implies, implies_true, not_true_eq_false, not_false_eq_true, eq_self, true_or, or_true, false_or, or_false, and_self, reduceCtorEq, forall_const]; exact s61) ?_)
      rw [W_some, g70, es, q3.2.2.2, ho s (by rw [s3, es]; exact Nat.le_refl _)]
      refine ⟨⟨n + 1, o2, by omega, o_addR n 1, ?_, by rw [nh, if_neg hr, ← List.append_assoc]; exact q3⟩, by show 24 - (Int32.ofNat n + 1).toNatClampNeg < _; simp (disch := omega) only [o_le, o_leL, o_leR, o_lt, o_ltL, o_ltR, o_eq, o_eqL, o_eqR, o_cl, o_add, o_addL, o_addR, o_mul, o_mulL, o_mulR, o_sub, o_subR, o_0le, o_lt0, o_ixo, n1_eq, n1_eq', n1_lt, n1_le, n1_ge, n1_gt, n2_eq, n2_eq', n2_lt, n2_le, n2_ge, n2_gt, ↓reduceIte, ite_self, Nat.reduceEqDiff, Nat.reduceAdd, Nat.reduceMul, Nat.reduceSub, Nat.reduceLT, Nat.reduceLeDiff, Nat.not_lt_zero, Nat.zero_le, if_true, if_false, ite_true, ite_false, true_and, and_true, false_and, and_false, true_implies, false_implies, implies_true, not_true_eq_false, not_false_eq_true, eq_self, true_or, or_true, false_or, or_false, and_self, reduceCtorEq, forall_const]; omega⟩
      show Int32.ofNat (base + sumR Mr (cdF Mr) n) + Int32.ofNat (off Mr n s) = _
      rw [nx, if_neg hr, o_add, Nat.add_assoc]
      unfold cdF sz
      rw [s3, es]
    · have z := Classical.not_not.mp hr
      refine Wi (by rw [qm_row q1 75 (by omega)]; exact z) ?_
      rw [W_some]
      exact ⟨⟨n + 1, o1, by omega, o_addR n 1, by rw [nx, if_pos z]; rfl, by rw [nh, if_pos z, List.append_nil]; exact q1⟩, by show 24 - (Int32.ofNat n + 1).toNatClampNeg < _; simp (disch := omega) only [o_le, o_leL, o_leR, o_lt, o_ltL, o_ltR, o_eq, o_eqL, o_eqR, o_cl, o_add, o_addL, o_addR, o_mul, o_mulL, o_mulR, o_sub, o_subR, o_0le, o_lt0, o_ixo, n1_eq, n1_eq', n1_lt, n1_le, n1_ge, n1_gt, n2_eq, n2_eq', n2_lt, n2_le, n2_ge, n2_gt, ↓reduceIte, ite_self, Nat.reduceEqDiff, Nat.reduceAdd, Nat.reduceMul, Nat.reduceSub, Nat.reduceLT, Nat.reduceLeDiff, Nat.not_lt_zero, Nat.zero_le, if_true, if_false, ite_true, ite_false, true_and, and_true, false_and, and_false, true_implies, false_implies, implies_true, not_true_eq_false, not_false_eq_true, eq_self, true_or, or_true, false_or, or_false, and_self, reduceCtorEq, forall_const]; omega⟩
  · have en : n = rc := by omega
    subst en
    refine Wi (by rw [g15]; exact Int32.le_refl _) ?_
    rw [W_some]
    exact hk _ _ M1 o1 q1
set_option maxRecDepth 20000 in
set_option maxHeartbeats 4000000 in
theorem codesM {X : XS} {Mr M : MS} {T : Nat → Nat} {kc rc : Nat} {l : List Int32} {o : Nat → Int32} (hS : RSc X Mr T kc rc) (hT : LkT Mr kc rc) (h : QM Mr M l o) (hl : l.length ≤ 1343) {β : Type} {k : Int32 × MS → Option β} {R : β → Prop} (hk : ∀ z M' o', QM Mr M' (l ++ codesL Mr rc) o' → Wo (k (z, M')) R) : Wo ((lp b289_M_write 10000 ((0 : Int32), M)).bind k) R := by
  have hr24 := hS.2.1
  rw [W_bind]
  refine W_lp (fun p => ∃ n o', n ≤ rc ∧ p.1 = Int32.ofNat n ∧ QM Mr p.2 (l ++ codesL Mr n) o') (fun p => 24 - p.1.toNatClampNeg) ?_ 10000 _ ⟨0, o, by omega, rfl, by show QM Mr M (l ++ []) o; rw [List.append_nil]; exact h⟩ (by show 24 - 0 < 10000; omega)
  rintro ⟨p1, M1⟩ ⟨n, o1, hn, e1, q1⟩
  dsimp only at e1 q1
  subst e1
  have g15 : M1.1 60 15 = Int32.ofNat rc := by rw [q1.1.2 60 15 (by unfold Fw; omega)]; exact hS.2.2.2.1
  have cn : (Int32.ofNat n).toNatClampNeg = n := o_cl n (by omega)
  unfold b289_M_write
  simp only [cn]
  by_cases hl' : n < rc
  · have n24 : n < 24 := by omega
    have i24 : ixo (Int32.ofNat n) 24 := by simp (disch := omega) only [o_le, o_leL, o_leR, o_lt, o_ltL, o_ltR, o_eq, o_eqL, o_eqR, o_cl, o_add, o_addL, o_addR, o_mul, o_mulL, o_mulR, o_sub, o_subR, o_0le, o_lt0, o_ixo, n1_eq, n1_eq', n1_lt, n1_le, n1_ge, n1_gt, n2_eq, n2_eq', n2_lt, n2_le, n2_ge, n2_gt, ↓reduceIte, ite_self, Nat.reduceEqDiff, Nat.reduceAdd, Nat.reduceMul, Nat.reduceSub, Nat.reduceLT, Nat.reduceLeDiff, Nat.not_lt_zero, Nat.zero_le, if_true, if_false, ite_true, ite_false, true_and, and_true, false_and, and_false, true_implies, false_implies, implies_true, not_true_eq_false, not_false_eq_true, eq_self, true_or, or_true, false_or, or_false, and_self, reduceCtorEq, forall_const]; exact n24
    refine We (by rw [g15]; simp (disch := omega) only [o_le, o_leL, o_leR, o_lt, o_ltL, o_ltR, o_eq, o_eqL, o_eqR, o_cl, o_add, o_addL, o_addR, o_mul, o_mulL, o_mulR, o_sub, o_subR, o_0le, o_lt0, o_ixo, n1_eq, n1_eq', n1_lt, n1_le, n1_ge, n1_gt, n2_eq, n2_eq', n2_lt, n2_le, n2_ge, n2_gt, ↓reduceIte, ite_self, Nat.reduceEqDiff, Nat.reduceAdd, Nat.reduceMul, Nat.reduceSub, Nat.reduceLT, Nat.reduceLeDiff, Nat.not_lt_zero, Nat.zero_le, if_true, if_false, ite_true, ite_false, true_and, and_true, false_and, and_false, true_implies, false_implies, implies_true, not_true_eq_false, not_false_eq_true, eq_self, true_or, or_true, false_or, or_false, and_self, reduceCtorEq, forall_const]; omega) (Wi i24 ?_)
    have nh : codesL Mr (n + 1) = codesL Mr n ++ (if Mr.1 75 n = 0 then [] else cat (insL Mr n) (sz Mr n)) := rfl
    by_cases hr : fm Mr 75 n
    · refine We (by rw [qm_row q1 75 (by omega)]; exact hr) ?_
      obtain ⟨s, tc, mm, s1, s2, s3, s4, s5, _, _, s8, _⟩ := ty_facts hT n24 hr
      have es : (Int32.ofNat s).toNatClampNeg = s := o_cl s (by omega)
      have esz : sz Mr n = s := by unfold sz; rw [s3, es]
      rw [esz] at nh
      refine measure_m hS hT hl' hr q1 ?_
      intro M2 o2 q2 ho
      rw [s3, es] at ho
      have hb := cd_le hT n (by omega)
      rw [W_bind]
      refine W_lp (fun p => ∃ i, i ≤ s ∧ p.1 = Int32.ofNat i ∧ QM Mr p.2 (l ++ codesL Mr n ++ cat (insL Mr n) i) o2) (fun p => 60 - p.1.toNatClampNeg) ?_ 10000 _ ⟨0, by omega, rfl, by show QM Mr M2 (l ++ codesL Mr n ++ []) o2; rw [List.append_nil]; exact q2⟩ (by show 60 - 0 < 10000; omega)
      rintro ⟨p3, M3⟩ ⟨i, hi, e1, q3⟩
      dsimp only at e1 q3
      subst e1
      unfold b314_M_write
      simp only [cn]
      have g70 : M3.1 70 n = Int32.ofNat s := by rw [qm_row q3 70 (by omega)]; exact s3
      refine Wi i24 ?_
      by_cases hi' : i < s
      · have om := off_le Mr n i
        refine We (by rw [g70]; simp (disch := omega) only [o_le, o_leL, o_leR, o_lt, o_ltL, o_ltR, o_eq, o_eqL, o_eqR, o_cl, o_add, o_addL, o_addR, o_mul, o_mulL, o_mulR, o_sub, o_subR, o_0le, o_lt0, o_ixo, n1_eq, n1_eq', n1_lt, n1_le, n1_ge, n1_gt, n2_eq, n2_eq', n2_lt, n2_le, n2_ge, n2_gt, ↓reduceIte, ite_self, Nat.reduceEqDiff, Nat.reduceAdd, Nat.reduceMul, Nat.reduceSub, Nat.reduceLT, Nat.reduceLeDiff, Nat.not_lt_zero, Nat.zero_le, if_true, if_false, ite_true, ite_false, true_and, and_true, false_and, and_false, true_implies, false_implies, implies_true, not_true_eq_false, not_false_eq_true, eq_self, true_or, or_true, false_or, or_false, and_self, reduceCtorEq, forall_const]; omega) ?_
        refine writeIns_m hS hl' q3 s3 s1 hi' (fun z => (s8 i (by omega) z).2) ho (by simp only [List.length_append, codesL_len, cat_ins_len]; omega) ?_
        intro M4 q4
        rw [W_some]
        exact ⟨⟨i + 1, by omega, o_addR i 1, by rw [List.append_assoc] at q4; exact q4⟩, by show 60 - (Int32.ofNat i + 1).toNatClampNeg < 60 - (Int32.ofNat i).toNatClampNeg; simp (disch := omega) only [o_le, o_leL, o_leR, o_lt, o_ltL, o_ltR, o_eq, o_eqL, o_eqR, o_cl, o_add, o_addL, o_addR, o_mul, o_mulL, o_mulR, o_sub, o_subR, o_0le, o_lt0, o_ixo, n1_eq, n1_eq', n1_lt, n1_le, n1_ge, n1_gt, n2_eq, n2_eq', n2_lt, n2_le, n2_ge, n2_gt, ↓reduceIte, ite_self, Nat.reduceEqDiff, Nat.reduceAdd, Nat.reduceMul, Nat.reduceSub, Nat.reduceLT, Nat.reduceLeDiff, Nat.not_lt_zero, Nat.zero_le, if_true, if_false, ite_true, ite_false, true_and, and_true, false_and, and_false, true_implies, false_implies, implies_true, not_true_eq_false, not_false_eq_true, eq_self, true_or, or_true, false_or, or_false, and_self, reduceCtorEq, forall_const]; omega⟩
      · have ei : i = s := by omega
        subst ei
        refine Wi (by rw [g70]; exact Int32.le_refl _) ?_
        rw [W_some]
        show Wo (some _) _
        rw [W_some]
        exact ⟨⟨n + 1, o2, by omega, o_addR n 1, by rw [nh, if_neg hr, ← List.append_assoc]; exact q3⟩, by show 24 - (Int32.ofNat n + 1).toNatClampNeg < _; simp (disch := omega) only [o_le, o_leL, o_leR, o_lt, o_ltL, o_ltR, o_eq, o_eqL, o_eqR, o_cl, o_add, o_addL, o_addR, o_mul, o_mulL, o_mulR, o_sub, o_subR, o_0le, o_lt0, o_ixo, n1_eq, n1_eq', n1_lt, n1_le, n1_ge, n1_gt, n2_eq, n2_eq', n2_lt, n2_le, n2_ge, n2_gt, ↓reduceIte, ite_self, Nat.reduceEqDiff, Nat.reduceAdd, Nat.reduceMul, Nat.reduceSub, Nat.reduceLT, Nat.reduceLeDiff, Nat.not_lt_zero, Nat.zero_le, if_true, if_false, ite_true, ite_false, true_and, and_true, false_and, and_false, true_implies, false_implies, implies_true, not_true_eq_false, not_false_eq_true, eq_self, true_or, or_true, false_or, or_false, and_self, reduceCtorEq, forall_const]; omega⟩
    · have z := Classical.not_not.mp hr
      refine Wi (by rw [qm_row q1 75 (by omega)]; exact z) ?_
      rw [W_some]
      exact ⟨⟨n + 1, o1, by omega, o_addR n 1, by rw [nh, if_pos z, List.append_nil]; exact q1⟩, by show 24 - (Int32.ofNat n + 1).toNatClampNeg < _; simp (disch := omega) only [o_le, o_leL, o_leR, o_lt, o_ltL, o_ltR, o_eq, o_eqL, o_eqR, o_cl, o_add, o_addL, o_addR, o_mul, o_mulL, o_mulR, o_sub, o_subR, o_0le, o_lt0, o_ixo, n1_eq, n1_eq', n1_lt, n1_le, n1_ge, n1_gt, n2_eq, n2_eq', n2_lt, n2_le, n2_ge, n2_gt, ↓reduceIte, ite_self, Nat.reduceEqDiff, Nat.reduceAdd, Nat.reduceMul, Nat.reduceSub, Nat.reduceLT, Nat.reduceLeDiff, Nat.not_lt_zero, Nat.zero_le, if_true, if_false, ite_true, ite_false, true_and, and_true, false_and, and_false, true_implies, false_implies, implies_true, not_true_eq_false, not_false_eq_true, eq_self, true_or, or_true, false_or, or_false, and_self, reduceCtorEq, forall_const]; omega⟩
  · have en : n = rc := by omega
    subst en
    refine Wi (by rw [g15]; exact Int32.le_refl _) ?_
    rw [W_some]
    exact hk _ M1 o1 q1
