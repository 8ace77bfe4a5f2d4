/-! J3 -/
theorem xref2 {Mr : MS} {kc rc : Nat} {X0 X : XS} {T0 T : Nat → Nat} {l : List Int32} {o hd nm sk : Nat → Int32} (h : QX Mr kc rc X0 T0 X T l o hd nm sk) {m a : Nat} (hm : m < rc) (ha : X0.2.1 2 m = some a) : X.2.1 2 m = some a := by
  obtain ⟨f, ra, _⟩ := rout_q h hm ha
  exact ra.1
set_option maxRecDepth 20000 in
set_option maxHeartbeats 4000000 in
theorem writeHead_q {Mr : MS} {kc rc main : Nat} {X0 X : XS} {T0 T : Nat → Nat} {l : List Int32} {o hd nm sk : Nat → Int32} (hT : LkT Mr kc rc) (hR : LkR Mr kc rc main) (h : QX Mr kc rc X0 T0 X T l o hd nm sk) {m a : Nat} (hm : m < rc) (hr : fm Mr 75 m) (ha : X0.2.1 2 m = some a) (hl : l.length + 51 ≤ 5663) (at' : Nat) (Q : Int32 × XS → Prop) (hk : ∀ X' T' o', QX Mr kc rc X0 T0 X' T' (l ++ headL Mr m at') o' (upd hd (cnt (fmB Mr 75) m) (Int32.ofNat l.length)) nm sk → Q (Int32.ofNat (off Mr m (sz Mr m)), X')) : Wo (f_Linker_writeHead_30 (Int32.ofNat m) (Int32.ofNat at') X) Q := by
  have hr24 := h.1.1.2.1
  have m24 : m < 24 := by omega
  obtain ⟨s, tc, mm, s1, s2, s3, s4, s5, s6, s7, s8, s9⟩ := ty_facts hT m24 hr
  have cm : (Int32.ofNat m).toNatClampNeg = m := o_cl m (by omega)
  have n79 : Mr.1 79 m = Int32.ofNat (cnt (fmB Mr 75) m) := hR.2.2.2.2.2.2.2.2.2.2 m hm
  have ncl := cnt_max (fmB Mr 75) m
  have esz : sz Mr m = s := by unfold sz; rw [s3, o_cl s (by omega)]
  unfold f_Linker_writeHead_30
  refine Wi ((hasR_q h.1 m24).mpr hr) (Wz (by rw [cm]; exact xref2 h hm ha) ?_)
  refine findOffsets_q hT h hm hr (xref2 h hm ha) ?_
  intro X1 o1 q1 _ ho
  obtain ⟨f1, ra1, rv1⟩ := rout_q q1 hm ha
  have ol : f_Linker_offsetOf (X1.1 a 6) X1 = Int32.ofNat (off Mr m (sz Mr m)) := by
    have e6 : X1.1 a 6 = Int32.ofNat s := rv1.2.2.2.2.2.2.1.trans s3
    rw [e6, offsetOf_q q1.2.2.1 s1, ho s s1, esz]
  refine Wi ra1.2.1 ?_
  rw [nR_eq q1.1 m24 hr, n79, ol]
  generalize hN : cnt (fmB Mr 75) m = N at *
  have q2 := set32 q1 N (Int32.ofNat l.length)
  have e30 : X1.1 30 0 = Int32.ofNat l.length := by
    obtain ⟨_, ⟨b, L, hI, _⟩, _⟩ := q1
    exact hI.1
  have eN : f_Image_noteHead_30 (Int32.ofNat N) X1 = some (xw X1 32 N (Int32.ofNat l.length)) := by
    unfold f_Image_noteHead_30
    have : N ≤ 23 := by omega
    simp (disch := omega) only [this, lt, e30, o_le, o_leL, o_leR, o_lt, o_ltL, o_ltR, o_eq, o_eqL, o_eqR, o_cl, o_add, o_addL, o_addR, o_mul, o_mulL, o_mulR, o_sub, o_subR, o_0le, o_lt0, o_ixo, n1_eq, n1_eq', n1_lt, n1_le, n1_ge, n1_gt, n2_eq, n2_eq', n2_lt, n2_le, n2_ge, n2_gt, ↓reduceIte, ite_self, Nat.reduceEqDiff, Nat.reduceAdd, Nat.reduceMul, Nat.reduceSub, Nat.reduceLT, Nat.reduceLeDiff, Nat.not_lt_zero, Nat.zero_le, if_true, if_false, ite_true, ite_false, true_and, and_true, false_and, and_false, true_implies, false_implies, implies_true, not_true_eq_false, not_false_eq_true, eq_self, true_or, or_true, false_or, or_false, and_self, reduceCtorEq, forall_const]
  rw [eN]
  simp only [Option.bind_some]
  generalize xw X1 32 N (Int32.ofNat l.length) = X2 at q2
  refine two_q q2 (by omega) _ ?_
  intro X3 T3 q3
  refine two_q q3 (by simp only [List.length_append, List.length_cons, List.length_nil, w2]; omega) _ ?_
  intro X4 T4 q4
  obtain ⟨f4, ra4, rv4⟩ := rout_q q4 hm ha
  refine Wi ra4.2.1 ?_
  rw [taken_q ra4 rv4]
  simp only [Option.bind_some]
  refine put_q q4 (by simp only [List.length_append, List.length_cons, List.length_nil, w2]; omega) _ ?_
  intro X5 T5 q5
  obtain ⟨f5, ra5, rv5⟩ := rout_q q5 hm ha
  refine Wi ra5.2.1 ?_
  refine put_q q5 (by simp only [List.length_append, List.length_cons, List.length_nil, w2]; omega) _ ?_
  intro X6 T6 q6
  rw [rv5.2.2.2.2.2.1] at q6
  dsimp only
  refine put_q q6 (by simp only [List.length_append, List.length_cons, List.length_nil, w2]; omega) _ ?_
  intro X7 T7 q7
  rw [cm, (q6.1.2.2.2 m m24 hr).2] at q7
  obtain ⟨f7, ra7, rv7⟩ := rout_q q7 hm ha
  refine Wi ra7.2.1 ?_
  refine put_q q7 (by simp only [List.length_append, List.length_cons, List.length_nil, w2]; omega) _ ?_
  intro X8 T8 q8
  rw [rv7.2.2.2.2.1] at q8
  obtain ⟨f8, ra8, rv8⟩ := rout_q q8 hm ha
  refine Wi ra8.2.1 ?_
  refine put_q q8 (by simp only [List.length_append, List.length_cons, List.length_nil, w2]; omega) _ ?_
  intro X9 T9 q9
  rw [rv8.2.2.2.2.2.2.2.1] at q9
  dsimp only
  refine trapsX hT hR q9 hm hr ha ho (by simp only [List.length_append, List.length_cons, List.length_nil, w2]; omega) ?_
  intro z X10 T10 q10
  rw [W_some]
  refine hk X10 T10 o1 ?_
  unfold headL
  simp only [List.append_assoc, List.cons_append, List.nil_append] at q10 ⊢
  exact q10
set_option maxRecDepth 20000 in
set_option maxHeartbeats 4000000 in
theorem trapsM {X : XS} {Mr M : MS} {T : Nat → Nat} {kc rc m : Nat} {l : List Int32} {o : Nat → Int32} (hS : RSc X Mr T kc rc) (hT : LkT Mr kc rc) (hm : m < rc) (hr : fm Mr 75 m) (h : QM Mr M l o) (ho : ∀ i, i ≤ (Mr.1 70 m).toNatClampNeg → o i = Int32.ofNat (off Mr m i)) (hl : l.length + 42 ≤ 5663) {β : Type} {k : Int32 × MS → Option β} {R : β → Prop} (hk : ∀ z M', QM Mr M' (l ++ cat (trapL Mr m) (tcN Mr m)) o → Wo (k (z, M')) R) : Wo ((lp (b89_M_writeHead (Int32.ofNat m)) 10000 ((0 : Int32), M)).bind k) R := by
  have hk10 := hS.1.1
  have hr24 := hS.2.1
  have m24 : m < 24 := by omega
  obtain ⟨s, tc, mm, s1, s2, s3, s4, s5, s6, s7, s8, s9⟩ := ty_facts hT m24 hr
  have etc : tcN Mr m = tc := by unfold tcN; rw [s5, o_cl tc (by omega)]
  rw [etc] at hk
  rw [s3, o_cl s (by omega)] at ho
  have cm : (Int32.ofNat m).toNatClampNeg = m := o_cl m (by omega)
  have im : ixo (Int32.ofNat m) 24 := by rw [o_ixo m 24 (by omega)]; exact m24
  rw [W_bind]
  refine W_lp (fun p => ∃ n, n ≤ tc ∧ p.1 = Int32.ofNat n ∧ QM Mr p.2 (l ++ cat (trapL Mr m) n) o) (fun p => 6 - p.1.toNatClampNeg) ?_ 10000 _ ⟨0, by omega, rfl, by show QM Mr M (l ++ []) o; rw [List.append_nil]; exact h⟩ (by show 6 - 0 < 10000; omega)
  rintro ⟨p1, M1⟩ ⟨n, hn, e1, q1⟩
  dsimp only at e1 q1
  subst e1
  have x9 : M1.1 73 m = Int32.ofNat tc := by rw [qm_row q1 73 (by omega)]; exact s5
  unfold b89_M_writeHead
  simp only [cm]
  refine Wi im ?_
  by_cases hl' : n < tc
  · have g1 : ¬ tc ≤ n := by omega
    obtain ⟨⟨t1, t1'⟩, ⟨t2, t2'⟩, ⟨t3, t3'⟩, _, t5⟩ := trapV s1 (s9 n hl')
    have ll : ∀ L : List Int32, L.length ≤ 6 → (l ++ cat (trapL Mr m) n ++ L).length + 1 ≤ 5663 := by
      intro L hL
      simp only [List.length_append, cat_len (trapL Mr m) 7 n (fun i _ => rfl)]
      omega
    have ix0 : 24 * Int32.ofNat m + 4 * Int32.ofNat n = Int32.ofNat (24 * m + 4 * n) := by simp (disch := omega) only [o_le, o_leL, o_leR, o_lt, o_ltL, o_ltR, o_eq, o_eqL, o_eqR, o_cl, o_add, o_addL, o_addR, o_mul, o_mulL, o_mulR, o_sub, o_subR, o_0le, o_lt0, o_ixo, n1_eq, n1_eq', n1_lt, n1_le, n1_ge, n1_gt, n2_eq, n2_eq', n2_lt, n2_le, n2_ge, n2_gt, ↓reduceIte, ite_self, Nat.reduceEqDiff, Nat.reduceAdd, Nat.reduceMul, Nat.reduceSub, Nat.reduceLT, Nat.reduceLeDiff, Nat.not_lt_zero, Nat.zero_le, if_true, if_false, ite_true, ite_false, true_and, and_true, false_and, and_false, true_implies, false_implies, implies_true, not_true_eq_false, not_false_eq_true, eq_self, true_or, or_true, false_or, or_false, and_self, reduceCtorEq, forall_const]
    have ii : ∀ j, j ≤ 3 → ixo (Int32.ofNat (24 * m + 4 * n + j)) 576 ∧ (Int32.ofNat (24 * m + 4 * n + j)).toNatClampNeg = 24 * m + 4 * n + j := by
      intro j hj
      rw [o_ixo _ _ (by omega)]
      exact ⟨by omega, o_cl _ (by omega)⟩
    have i1 : Int32.ofNat (24 * m + 4 * n) + 1 = Int32.ofNat (24 * m + 4 * n + 1) := o_addR _ 1
    have i2 : Int32.ofNat (24 * m + 4 * n) + 2 = Int32.ofNat (24 * m + 4 * n + 2) := o_addR _ 2
    have i3 : Int32.ofNat (24 * m + 4 * n) + 3 = Int32.ofNat (24 * m + 4 * n + 3) := o_addR _ 3
    have z0 := ii 0 (by omega)
    rw [Nat.add_zero] at z0
    have z1 := ii 1 (by omega)
    have z2 := ii 2 (by omega)
    have z3 := ii 3 (by omega)
    have o61 : ∀ v : Nat, v ≤ s → ixo (Int32.ofNat v) 61 ∧ (Int32.ofNat v).toNatClampNeg = v := by
      intro v hv
      rw [o_ixo _ _ (by omega)]
      exact ⟨by omega, o_cl _ (by omega)⟩
    simp only [i1, i2, i3, ix0, z0.2, z1.2, z2.2, z3.2]
    refine We (by rw [x9]; simp (disch := omega) only [o_le, o_leL, o_leR, o_lt, o_ltL, o_ltR, o_eq, o_eqL, o_eqR, o_cl, o_add, o_addL, o_addR, o_mul, o_mulL, o_mulR, o_sub, o_subR, o_0le, o_lt0, o_ixo, n1_eq, n1_eq', n1_lt, n1_le, n1_ge, n1_gt, n2_eq, n2_eq', n2_lt, n2_le, n2_ge, n2_gt, ↓reduceIte, ite_self, Nat.reduceEqDiff, Nat.reduceAdd, Nat.reduceMul, Nat.reduceSub, Nat.reduceLT, Nat.reduceLeDiff, Nat.not_lt_zero, Nat.zero_le, if_true, if_false, ite_true, ite_false, true_and, and_true, false_and, and_false, true_implies, false_implies, implies_true, not_true_eq_false, not_false_eq_true, eq_self, true_or, or_true, false_or, or_false, and_self, reduceCtorEq, forall_const]; exact g1) (Wi z0.1 ?_)
    have v1 : M1.1 74 (24 * m + 4 * n) = Int32.ofNat (frM Mr m n) := by rw [qm_row q1 74 (by omega)]; exact t1
    refine Wi (by rw [v1]; exact (o61 _ (by omega)).1) ?_
    refine two_m q1 (by have := ll [0] (by decide); simp only [List.length_append, List.length_singleton] at this ⊢; omega) _ ?_
    intro M2 q2
    rw [v1, (o61 _ (by omega)).2, q1.2.2.2, ho _ (by omega)] at q2
    have v2 : M2.1 74 (24 * m + 4 * n + 1) = Int32.ofNat (ttM Mr m n) := by rw [qm_row q2 74 (by omega)]; exact t2
    refine Wi z1.1 (Wi (by rw [v2]; exact (o61 _ t2').1) ?_)
    refine two_m q2 (by have := ll ([0, 0, 0]) (by decide); simp only [List.length_append, List.length_cons, List.length_nil, w2] at this ⊢; omega) _ ?_
    intro M3 q3
    rw [v2, (o61 _ t2').2, q2.2.2.2, ho _ t2'] at q3
    have v3 : M3.1 74 (24 * m + 4 * n + 2) = Int32.ofNat (hdM Mr m n) := by rw [qm_row q3 74 (by omega)]; exact t3
    refine Wi z2.1 (Wi (by rw [v3]; exact (o61 _ (by omega)).1) ?_)
    refine two_m q3 (by have := ll ([0, 0, 0, 0, 0]) (by decide); simp only [List.length_append, List.length_cons, List.length_nil, w2] at this ⊢; omega) _ ?_
    intro M4 q4
    rw [v3, (o61 _ (by omega)).2, q3.2.2.2, ho _ (by omega)] at q4
    have v4 : M4.1 74 (24 * m + 4 * n + 3) = Mr.1 74 (24 * m + 4 * n + 3) := by rw [qm_row q4 74 (by omega)]
    have lb : (l ++ cat (trapL Mr m) n ++ w2 (Int32.ofNat (off Mr m (frM Mr m n))) ++ w2 (Int32.ofNat (off Mr m (ttM Mr m n))) ++ w2 (Int32.ofNat (off Mr m (hdM Mr m n)))).length < 8000 := by
      have := ll ([0, 0, 0, 0, 0, 0]) (by decide); simp only [List.length_append, List.length_cons, List.length_nil, w2] at this ⊢; omega
    have fin : ∀ M5, QM Mr M5 (l ++ cat (trapL Mr m) n ++ w2 (Int32.ofNat (off Mr m (frM Mr m n))) ++ w2 (Int32.ofNat (off Mr m (ttM Mr m n))) ++ w2 (Int32.ofNat (off Mr m (hdM Mr m n))) ++ [whL Mr (Mr.1 74 (24 * m + 4 * n + 3))]) o → ∃ k, k ≤ tc ∧ Int32.ofNat (n + 1) = Int32.ofNat k ∧ QM Mr M5 (l ++ cat (trapL Mr m) k) o := by
      intro M5 q5
      refine ⟨n + 1, by omega, rfl, ?_⟩
      show QM Mr M5 (l ++ (cat (trapL Mr m) n ++ trapL Mr m n)) o
      unfold trapL
      unfold trapL at q5
      simp only [List.append_assoc] at q5 ⊢
      exact q5
    refine Wi z3.1 ?_
    rcases t5 with ⟨c, hc, ec⟩ | ⟨c1, c2⟩
    · have ew : whL Mr (Mr.1 74 (24 * m + 4 * n + 3)) = Mr.1 80 c := by
        unfold whL
        rw [ec]
        simp (disch := omega) only [o_le, o_leL, o_leR, o_lt, o_ltL, o_ltR, o_eq, o_eqL, o_eqR, o_cl, o_add, o_addL, o_addR, o_mul, o_mulL, o_mulR, o_sub, o_subR, o_0le, o_lt0, o_ixo, n1_eq, n1_eq', n1_lt, n1_le, n1_ge, n1_gt, n2_eq, n2_eq', n2_lt, n2_le, n2_ge, n2_gt, ↓reduceIte, ite_self, Nat.reduceEqDiff, Nat.reduceAdd, Nat.reduceMul, Nat.reduceSub, Nat.reduceLT, Nat.reduceLeDiff, Nat.not_lt_zero, Nat.zero_le, if_true, if_false, ite_true, ite_false, true_and, and_true, false_and, and_false, true_implies, false_implies, implies_true, not_true_eq_false, not_false_eq_true, eq_self, true_or, or_true, false_or, or_false, and_self, reduceCtorEq, forall_const]
      rw [ew] at fin
      have c10 : c < 10 := by omega
      refine Wi (by rw [v4, ec]; simp (disch := omega) only [o_le, o_leL, o_leR, o_lt, o_ltL, o_ltR, o_eq, o_eqL, o_eqR, o_cl, o_add, o_addL, o_addR, o_mul, o_mulL, o_mulR, o_sub, o_subR, o_0le, o_lt0, o_ixo, n1_eq, n1_eq', n1_lt, n1_le, n1_ge, n1_gt, n2_eq, n2_eq', n2_lt, n2_le, n2_ge, n2_gt, ↓reduceIte, ite_self, Nat.reduceEqDiff, Nat.reduceAdd, Nat.reduceMul, Nat.reduceSub, Nat.reduceLT, Nat.reduceLeDiff, Nat.not_lt_zero, Nat.zero_le, if_true, if_false, ite_true, ite_false, true_and, and_true, false_and, and_false, true_implies, false_implies, implies_true, not_true_eq_false, not_false_eq_true, eq_self, true_or, or_true, false_or, or_false, and_self, reduceCtorEq, forall_const]) (Wi (by rw [v4, ec]; simp (disch := omega) only [o_le, o_leL, o_leR, o_lt, o_ltL, o_ltR, o_eq, o_eqL, o_eqR, o_cl, o_add, o_addL, o_addR, o_mul, o_mulL, o_mulR, o_sub, o_subR, o_0le, o_lt0, o_ixo, n1_eq, n1_eq', n1_lt, n1_le, n1_ge, n1_gt, n2_eq, n2_eq', n2_lt, n2_le, n2_ge, n2_gt, ↓reduceIte, ite_self, Nat.reduceEqDiff, Nat.reduceAdd, Nat.reduceMul, Nat.reduceSub, Nat.reduceLT, Nat.reduceLeDiff, Nat.not_lt_zero, Nat.zero_le, if_true, if_false, ite_true, ite_false, true_and, and_true, false_and, and_false, true_implies, false_implies, implies_true, not_true_eq_false, not_false_eq_true, eq_self, true_or, or_true, false_or, or_false, and_self, reduceCtorEq, forall_const]; exact c10) ?_)
      refine put_m q4 lb _ ?_
      intro M5 q5
      rw [v4, ec, o_cl c (by omega), qm_row q4 80 (by omega)] at q5
      rw [W_some]
      simp only [o_addR]
      exact ⟨fin M5 q5, by (try simp (disch := omega) only [o_le, o_leL, o_leR, o_lt, o_ltL, o_ltR, o_eq, o_eqL, o_eqR, o_cl, o_add, o_addL, o_addR, o_mul, o_mulL, o_mulR, o_sub, o_subR, o_0le, o_lt0, o_ixo, n1_eq, n1_eq', n1_lt, n1_le, n1_ge, n1_gt, n2_eq, n2_eq', n2_lt, n2_le, n2_ge, n2_gt, ↓reduceIte, ite_self, Nat.reduceEqDiff, Nat.reduceAdd, Nat.reduceMul, Nat.reduceSub, Nat.reduceLT, Nat.reduceLeDiff, Nat.not_lt_zero, Nat.zero_le, if_true, if_false, ite_true, ite_false, true_and, and_true, false_and, and_false, true_implies, false_implies, implies_true, not_true_eq_false, not_false_eq_true, eq_self, true_or, or_true, false_or, or_false, and_self, reduceCtorEq, forall_const]); omega⟩
    · have nn : ¬ 0 ≤ Mr.1 74 (24 * m + 4 * n + 3) := by
        intro q
        have := Int32.le_trans q c2
        exact absurd this (by decide)
      have ew : whL Mr (Mr.1 74 (24 * m + 4 * n + 3)) = 256 + Mr.1 74 (24 * m + 4 * n + 3) := by
        unfold whL
        rw [if_neg nn]
      rw [ew] at fin
      refine We (by rw [v4]; exact nn) ?_
      refine put_m q4 lb _ ?_
      intro M5 q5
      rw [v4] at q5
      rw [W_some]
      simp only [o_addR]
      exact ⟨fin M5 q5, by (try simp (disch := omega) only [o_le, o_leL, o_leR, o_lt, o_ltL, o_ltR, o_eq, o_eqL, o_eqR, o_cl, o_add, o_addL, o_addR, o_mul, o_mulL, o_mulR, o_sub, o_subR, o_0le, o_lt0, o_ixo, n1_eq, n1_eq', n1_lt, n1_le, n1_ge, n1_gt, n2_eq, n2_eq', n2_lt, n2_le, n2_ge, n2_gt, ↓reduceIte, ite_self, Nat.reduceEqDiff, Nat.reduceAdd, Nat.reduceMul, Nat.reduceSub, Nat.reduceLT, Nat.reduceLeDiff, Nat.not_lt_zero, Nat.zero_le, if_true, if_false, ite_true, ite_false, true_and, and_true, false_and, and_false, true_implies, false_implies, implies_true, not_true_eq_false, not_false_eq_true, eq_self, true_or, or_true, false_or, or_false, and_self, reduceCtorEq, forall_const]); omega⟩
  · have en : n = tc := by omega
    subst en
    refine Wi (by rw [x9]; exact Int32.le_refl _) ?_
    rw [W_some]
    exact hk _ M1 q1
set_option maxRecDepth 20000 in
set_option maxHeartbeats 4000000 in
theorem writeHead_m {X : XS} {Mr M : MS} {T : Nat → Nat} {kc rc m : Nat} {l : List Int32} {o : Nat → Int32} (hS : RSc X Mr T kc rc) (hT : LkT Mr kc rc) (hm : m < rc) (hr : fm Mr 75 m) (h : QM Mr M l o) (ho : ∀ i, i ≤ (Mr.1 70 m).toNatClampNeg → o i = Int32.ofNat (off Mr m i)) (hl : l.length + 51 ≤ 5663) (at' : Nat) (Q : MS → Prop) (hk : ∀ M', QM Mr M' (l ++ headL Mr m at') o → Q M') : Wo (f_M_writeHead (Int32.ofNat m) (Int32.ofNat at') M) Q := by
  have hr24 := hS.2.1
  have m24 : m < 24 := by omega
  obtain ⟨s, tc, mm, s1, s2, s3, s4, s5, s6, s7, s8, s9⟩ := ty_facts hT m24 hr
  have cm : (Int32.ofNat m).toNatClampNeg = m := o_cl m (by omega)
  have im : ixo (Int32.ofNat m) 24 := by rw [o_ixo m 24 (by omega)]; exact m24
  have esz : sz Mr m = s := by unfold sz; rw [s3, o_cl s (by omega)]
  have ho' := ho
  rw [s3, o_cl s (by omega)] at ho
  have is : ixo (Int32.ofNat s) 61 := by rw [o_ixo _ _ (by omega)]; omega
  unfold f_M_writeHead
  simp only [cm]
  refine two_m h (by omega) _ ?_
  intro M1 q1
  have v1 : M1.1 70 m = Int32.ofNat s := by rw [qm_row q1 70 (by omega)]; exact s3
  refine Wi im (Wi (by rw [v1]; exact is) ?_)
  refine two_m q1 (by simp only [List.length_append, List.length_cons, List.length_nil, w2]; omega) _ ?_
  intro M2 q2
  rw [v1, o_cl s (by omega), q1.2.2.2, ho s (Nat.le_refl s), ← esz] at q2
  refine Wi im ?_
  have v2 : M2.1 65 m = Mr.1 65 m := by rw [qm_row q2 65 (by omega)]
  have v3 : M2.1 66 m = Mr.1 66 m := by rw [qm_row q2 66 (by omega)]
  have rest : ∀ (M3 : MS), QM Mr M3 (l ++ w2 (Int32.ofNat at') ++ w2 (Int32.ofNat (off Mr m (sz Mr m))) ++ [tkn Mr m]) o → Wo (if ixo (Int32.ofNat m) 24 then ((f_M_put (M3.1 69 m) M3).bind fun x9 => (if ixo (Int32.ofNat m) 24 then ((f_M_put (x9.1 89 m) x9).bind fun x11 => (if ixo (Int32.ofNat m) 24 then ((f_M_put (x11.1 68 m) x11).bind fun x13 => (if ixo (Int32.ofNat m) 24 then ((f_M_put (x13.1 73 m) x13).bind fun x15 => ((lp (b89_M_writeHead (Int32.ofNat m)) 10000 ((0 : Int32), x15)).bind fun x50 => some x50.2)) else none)) else none)) else none)) else none) Q := by
    intro M3 q3
    refine Wi im ?_
    refine put_m q3 (by simp only [List.length_append, List.length_cons, List.length_nil, w2]; omega) _ ?_
    intro M4 q4
    rw [qm_row q3 69 (by omega)] at q4
    refine Wi im ?_
    refine put_m q4 (by simp only [List.length_append, List.length_cons, List.length_nil, w2]; omega) _ ?_
    intro M5 q5
    rw [qm_row q4 89 (by omega)] at q5
    refine Wi im ?_
    refine put_m q5 (by simp only [List.length_append, List.length_cons, List.length_nil, w2]; omega) _ ?_
    intro M6 q6
    rw [qm_row q5 68 (by omega)] at q6
    refine Wi im ?_
    refine put_m q6 (by simp only [List.length_append, List.length_cons, List.length_nil, w2]; omega) _ ?_
    intro M7 q7
    rw [qm_row q6 73 (by omega)] at q7
    refine trapsM hS hT hm hr q7 ho' (by simp only [List.length_append, List.length_cons, List.length_nil, w2]; omega) ?_
    intro z M8 q8
    rw [W_some]
    refine hk M8 ?_
    unfold headL
    simp only [List.append_assoc, List.cons_append, List.nil_append] at q8 ⊢
    exact q8
  by_cases cs : Mr.1 65 m = -2
  · refine We (by rw [v2]; exact fun q => q cs) ?_
    refine put_m q2 (by simp only [List.length_append, List.length_cons, List.length_nil, w2]; omega) _ ?_
    intro M3 q3
    have e : M2.1 66 m + 0 = tkn Mr m := by rw [v3]; unfold tkn; rw [if_pos cs, Int32.add_zero]
    rw [e] at q3
    exact rest M3 q3
  · refine Wi (by rw [v2]; exact cs) ?_
    refine put_m q2 (by simp only [List.length_append, List.length_cons, List.length_nil, w2]; omega) _ ?_
    intro M3 q3
    have e : M2.1 66 m + 1 = tkn Mr m := by rw [v3]; unfold tkn; rw [if_neg cs]
    rw [e] at q3
    exact rest M3 q3
