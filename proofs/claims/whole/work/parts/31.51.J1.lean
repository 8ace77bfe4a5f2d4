/-! J1 -/
theorem qm_src {Mr M : MS} {l : List Int32} {o : Nat → Int32} (q : QM Mr M l o) : MSrc Mr M := q.1.src (by unfold Fw; omega)
theorem qm_row {Mr M : MS} {l : List Int32} {o : Nat → Int32} (q : QM Mr M l o) (a : Nat) (h : a ≠ 60 ∧ a ≠ 92 ∧ a ≠ 93) : M.1 a = Mr.1 a := funext fun i => q.1.2 a i (by unfold Fw; omega)
set_option maxRecDepth 20000 in
set_option maxHeartbeats 4000000 in
theorem lengthOf_ok {Mr : MS} {m i op : Nat} (hm : m < 24) (hi : i < 60) (hop : fm Mr 88 (60 * m + i) → op < 56 ∧ Mr.1 71 (60 * m + i) = Int32.ofNat op) : f_M_lengthOf (Int32.ofNat m) (Int32.ofNat i) Mr = some (Int32.ofNat (lnF Mr m i)) := by
  have q3 : 60 * m + i < 1440 := by omega
  unfold f_M_lengthOf
  by_cases z : fm Mr 88 (60 * m + i)
  · obtain ⟨h1, h2⟩ := hop z
    have z' : ¬ Mr.1 88 (60 * m + i) = 0 := z
    have lF : lnF Mr m i = ln op (Mr.1 72 (60 * m + i)) := by
      unfold lnF opN
      rw [if_neg z', h2, o_cl op (by omega)]
      rfl
    rw [lF]
    unfold ln ln0
    simp (disch := omega) only [q3, z', h2, o_le, o_leL, o_leR, o_lt, o_ltL, o_ltR, o_eq, o_eqL, o_eqR, o_cl, o_add, o_addL, o_addR, o_mul, o_mulL, o_mulR, o_sub, o_subR, o_0le, o_lt0, o_ixo, n1_eq, n1_eq', n1_lt, n1_le, n1_ge, n1_gt, n2_eq, n2_eq', n2_lt, n2_le, n2_ge, n2_gt, ↓reduceIte, ite_self, Nat.reduceEqDiff, Nat.reduceAdd, Nat.reduceMul, Nat.reduceSub, Nat.reduceLT, Nat.reduceLeDiff, Nat.not_lt_zero, Nat.zero_le, if_true, if_false, ite_true, ite_false, true_and, and_true, false_and, and_false, true_implies, false_implies, implies_true, not_true_eq_false, not_false_eq_true, eq_self, true_or, or_true, false_or, or_false, and_self, reduceCtorEq, forall_const]
    by_cases e1 : op = 1
    · subst e1
      by_cases c : -128 ≤ Mr.1 72 (60 * m + i) ∧ Mr.1 72 (60 * m + i) ≤ 127
      · simp (disch := omega) only [c, o_le, o_leL, o_leR, o_lt, o_ltL, o_ltR, o_eq, o_eqL, o_eqR, o_cl, o_add, o_addL, o_addR, o_mul, o_mulL, o_mulR, o_sub, o_subR, o_0le, o_lt0, o_ixo, n1_eq, n1_eq', n1_lt, n1_le, n1_ge, n1_gt, n2_eq, n2_eq', n2_lt, n2_le, n2_ge, n2_gt, ↓reduceIte, ite_self, Nat.reduceEqDiff, Nat.reduceAdd, Nat.reduceMul, Nat.reduceSub, Nat.reduceLT, Nat.reduceLeDiff, Nat.not_lt_zero, Nat.zero_le, if_true, if_false, ite_true, ite_false, true_and, and_true, false_and, and_false, true_implies, false_implies, implies_true, not_true_eq_false, not_false_eq_true, eq_self, true_or, or_true, false_or, or_false, and_self, reduceCtorEq, forall_const]; rfl
      · simp (disch := omega) only [c, o_le, o_leL, o_leR, o_lt, o_ltL, o_ltR, o_eq, o_eqL, o_eqR, o_cl, o_add, o_addL, o_addR, o_mul, o_mulL, o_mulR, o_sub, o_subR, o_0le, o_lt0, o_ixo, n1_eq, n1_eq', n1_lt, n1_le, n1_ge, n1_gt, n2_eq, n2_eq', n2_lt, n2_le, n2_ge, n2_gt, ↓reduceIte, ite_self, Nat.reduceEqDiff, Nat.reduceAdd, Nat.reduceMul, Nat.reduceSub, Nat.reduceLT, Nat.reduceLeDiff, Nat.not_lt_zero, Nat.zero_le, if_true, if_false, ite_true, ite_false, true_and, and_true, false_and, and_false, true_implies, false_implies, implies_true, not_true_eq_false, not_false_eq_true, eq_self, true_or, or_true, false_or, or_false, and_self, reduceCtorEq, forall_const]; rfl
    · simp (disch := omega) only [e1, o_le, o_leL, o_leR, o_lt, o_ltL, o_ltR, o_eq, o_eqL, o_eqR, o_cl, o_add, o_addL, o_addR, o_mul, o_mulL, o_mulR, o_sub, o_subR, o_0le, o_lt0, o_ixo, n1_eq, n1_eq', n1_lt, n1_le, n1_ge, n1_gt, n2_eq, n2_eq', n2_lt, n2_le, n2_ge, n2_gt, ↓reduceIte, ite_self, Nat.reduceEqDiff, Nat.reduceAdd, Nat.reduceMul, Nat.reduceSub, Nat.reduceLT, Nat.reduceLeDiff, Nat.not_lt_zero, Nat.zero_le, if_true, if_false, ite_true, ite_false, true_and, and_true, false_and, and_false, true_implies, false_implies, implies_true, not_true_eq_false, not_false_eq_true, eq_self, true_or, or_true, false_or, or_false, and_self, reduceCtorEq, forall_const]
      by_cases c2 : op = 2 ∨ op = 3 ∨ op = 26 ∨ op = 38 ∨ op = 39 ∨ op = 44 ∨ (52 ≤ op ∧ op ≤ 55)
      · rw [if_pos (by omega), if_pos c2]; rfl
      · rw [if_neg (by omega), if_neg c2]
        by_cases c3 : (19 ≤ op ∧ op ≤ 25) ∨ (27 ≤ op ∧ op ≤ 30)
        · rw [if_pos (by omega), if_pos c3]; rfl
        · rw [if_neg (by omega), if_neg c3]; rfl
  · have z' : Mr.1 88 (60 * m + i) = 0 := Classical.not_not.mp z
    have lF : lnF Mr m i = 1 := by
      unfold lnF
      rw [if_pos z']
    rw [lF]
    simp (disch := omega) only [q3, z', o_le, o_leL, o_leR, o_lt, o_ltL, o_ltR, o_eq, o_eqL, o_eqR, o_cl, o_add, o_addL, o_addR, o_mul, o_mulL, o_mulR, o_sub, o_subR, o_0le, o_lt0, o_ixo, n1_eq, n1_eq', n1_lt, n1_le, n1_ge, n1_gt, n2_eq, n2_eq', n2_lt, n2_le, n2_ge, n2_gt, ↓reduceIte, ite_self, Nat.reduceEqDiff, Nat.reduceAdd, Nat.reduceMul, Nat.reduceSub, Nat.reduceLT, Nat.reduceLeDiff, Nat.not_lt_zero, Nat.zero_le, if_true, if_false, ite_true, ite_false, true_and, and_true, false_and, and_false, true_implies, false_implies, implies_true, not_true_eq_false, not_false_eq_true, eq_self, true_or, or_true, false_or, or_false, and_self, reduceCtorEq, forall_const]
    rfl
theorem lnF_c {M M' : MS} (h : M'.1 88 = M.1 88) (h1 : M'.1 71 = M.1 71) (h2 : M'.1 72 = M.1 72) (m i : Nat) : lnF M' m i = lnF M m i := by
  unfold lnF opN odI
  rw [h, h1, h2]
set_option maxRecDepth 20000 in
set_option maxHeartbeats 4000000 in
theorem opB {X : XS} {M : MS} {T : Nat → Nat} {kc rc m i s : Nat} (h : RSc X M T kc rc) (hm : m < rc) (h70 : M.1 70 m = Int32.ofNat s) (hs : s ≤ 60) (hi : i < s) : opN M m i < 56 ∧ M.1 71 (60 * m + i) = Int32.ofNat (opN M m i) := by
  obtain ⟨a', f, ra, rv⟩ := h.2.2.2.2.2 m hm
  obtain ⟨v1, v2, v3, v4, v5, v6, v7, v8, v9, v11, v12, v13, v14, v15, ⟨s', v16, v17, v18⟩, _⟩ := rv
  have es : s' = s := by
    have := v17.symm.trans h70
    rw [o_eq _ _ (by omega) (by omega)] at this
    exact this
  subst es
  obtain ⟨w1, w2, w3⟩ := v18 i hi
  obtain ⟨op, hop, eop⟩ := toNle (n := 55) (by omega) w3.1 w3.2
  unfold opN
  rw [eop, o_cl op (by omega)]
  exact ⟨by omega, rfl⟩
set_option maxRecDepth 20000 in
set_option maxHeartbeats 4000000 in
theorem measure_m {X : XS} {Mr M : MS} {T : Nat → Nat} {kc rc m : Nat} {l : List Int32} {o : Nat → Int32} (hS : RSc X Mr T kc rc) (hT : LkT Mr kc rc) (hm : m < rc) (hr : fm Mr 75 m) (h : QM Mr M l o) {β : Type} {k : MS → Option β} {R : β → Prop} (hk : ∀ M' o', QM Mr M' l o' → (∀ i, i ≤ (Mr.1 70 m).toNatClampNeg → o' i = Int32.ofNat (off Mr m i)) → Wo (k M') R) : Wo ((f_M_measure (Int32.ofNat m) M).bind k) R := by
  have hr24 := hS.2.1
  have m24 : m < 24 := by omega
  obtain ⟨s, tc, mm, s1, s2, s3, s4, s5, s6, s7, s8, s9⟩ := ty_facts hT m24 hr
  rw [s3, o_cl s (by omega)] at hk
  have set : ∀ {M' : MS} {o'} (i : Nat) (v : Int32), QM Mr M' l o' → QM Mr (mw M' 93 i v) l (upd o' i v) := by
    intro M' o' i v q
    obtain ⟨h1, h2, h3, h4⟩ := q
    refine ⟨h1.mw (Or.inr (Or.inl rfl)) _, ?_, ?_, ?_⟩
    · rw [mw_ne _ _ _ _ (by omega)]; exact h2
    · intro j hj; rw [mw_ne _ _ _ _ (by omega)]; exact h3 j hj
    · rw [← h4]
      funext j
      rw [mw1]
      unfold upd
      simp
  unfold f_M_measure
  rw [show (0 : Int32) = Int32.ofNat 0 from rfl]
  simp only [lt]
  rw [Option.bind_assoc, W_bind]
  refine W_lp (fun p => ∃ n o', n ≤ s ∧ p.1 = Int32.ofNat n ∧ QM Mr p.2 l o' ∧ ∀ i, i ≤ n → o' i = Int32.ofNat (off Mr m i)) (fun p => 60 - p.1.toNatClampNeg) ?_ 10000 _ ⟨0, _, by omega, rfl, set 0 (Int32.ofNat 0) h, fun i hi => by
    have : i = 0 := by omega
    subst this
    unfold upd
    rw [if_pos rfl]
    rfl⟩ (by show 60 - 0 < 10000; omega)
  rintro ⟨p1, p2⟩ ⟨n, o', hn, e1, hq, ho⟩
  dsimp only at e1 hq
  subst e1
  have g70 : p2.1 70 m = Int32.ofNat s := by rw [qm_row hq 70 (by omega)]; exact s3
  unfold b9_M_measure
  by_cases hl : n < s
  · have q1 : ¬ s ≤ n := by omega
    have q2 : n < 61 := by omega
    have q3 : n + 1 < 61 := by omega
    have hL : f_M_lengthOf (Int32.ofNat m) (Int32.ofNat n) p2 = some (Int32.ofNat (lnF Mr m n)) := by
      rw [lengthOf_ok (op := opN Mr m n) m24 (by omega) (fun _ => by rw [qm_row hq 71 (by omega)]; exact opB hS hm s3 s1 hl), lnF_c (qm_row hq 88 (by omega)) (qm_row hq 71 (by omega)) (qm_row hq 72 (by omega))]
    have e93 : p2.1 93 n = Int32.ofNat (off Mr m n) := by rw [hq.2.2.2]; exact ho n (Nat.le_refl n)
    simp (disch := omega) only [m24, g70, q1, q2, q3, hL, Option.bind_some, W_lt, W_some, e93, o_le, o_leL, o_leR, o_lt, o_ltL, o_ltR, o_eq, o_eqL, o_eqR, o_cl, o_add, o_addL, o_addR, o_mul, o_mulL, o_mulR, o_sub, o_subR, o_0le, o_lt0, o_ixo, n1_eq, n1_eq', n1_lt, n1_le, n1_ge, n1_gt, n2_eq, n2_eq', n2_lt, n2_le, n2_ge, n2_gt, ↓reduceIte, ite_self, Nat.reduceEqDiff, Nat.reduceAdd, Nat.reduceMul, Nat.reduceSub, Nat.reduceLT, Nat.reduceLeDiff, Nat.not_lt_zero, Nat.zero_le, if_true, if_false, ite_true, ite_false, true_and, and_true, false_and, and_false, true_implies, false_implies, implies_true, not_true_eq_false, not_false_eq_true, eq_self, true_or, or_true, false_or, or_false, and_self, reduceCtorEq, forall_const]
    refine ⟨⟨n + 1, _, by omega, rfl, set (n + 1) _ hq, ?_⟩, by (try simp (disch := omega) only [o_le, o_leL, o_leR, o_lt, o_ltL, o_ltR, o_eq, o_eqL, o_eqR, o_cl, o_add, o_addL, o_addR, o_mul, o_mulL, o_mulR, o_sub, o_subR, o_0le, o_lt0, o_ixo, n1_eq, n1_eq', n1_lt, n1_le, n1_ge, n1_gt, n2_eq, n2_eq', n2_lt, n2_le, n2_ge, n2_gt, ↓reduceIte, ite_self, Nat.reduceEqDiff, Nat.reduceAdd, Nat.reduceMul, Nat.reduceSub, Nat.reduceLT, Nat.reduceLeDiff, Nat.not_lt_zero, Nat.zero_le, if_true, if_false, ite_true, ite_false, true_and, and_true, false_and, and_false, true_implies, false_implies, implies_true, not_true_eq_false, not_false_eq_true, eq_self, true_or, or_true, false_or, or_false, and_self, reduceCtorEq, forall_const]); omega⟩
    intro i hi
    unfold upd
    by_cases e : i = n + 1
    · subst e; rw [if_pos rfl]; rfl
    · rw [if_neg e]; exact ho i (by omega)
  · have en : n = s := by omega
    subst en
    simp (disch := omega) only [m24, g70, Nat.le_refl, W_some, Option.bind_some, o_le, o_leL, o_leR, o_lt, o_ltL, o_ltR, o_eq, o_eqL, o_eqR, o_cl, o_add, o_addL, o_addR, o_mul, o_mulL, o_mulR, o_sub, o_subR, o_0le, o_lt0, o_ixo, n1_eq, n1_eq', n1_lt, n1_le, n1_ge, n1_gt, n2_eq, n2_eq', n2_lt, n2_le, n2_ge, n2_gt, ↓reduceIte, ite_self, Nat.reduceEqDiff, Nat.reduceAdd, Nat.reduceMul, Nat.reduceSub, Nat.reduceLT, Nat.reduceLeDiff, Nat.not_lt_zero, Nat.zero_le, if_true, if_false, ite_true, ite_false, true_and, and_true, false_and, and_false, true_implies, false_implies, implies_true, not_true_eq_false, not_false_eq_true, eq_self, true_or, or_true, false_or, or_false, and_self, reduceCtorEq, forall_const]
    exact hk p2 o' hq ho
