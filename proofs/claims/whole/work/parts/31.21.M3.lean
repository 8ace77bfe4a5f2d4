/-! M3 -/
set_option maxRecDepth 20000 in
set_option maxHeartbeats 4000000 in
theorem pass2in_ok {X : XS} {M0 M : MS} {T : Nat → Nat} {kc rc main k : Nat} (h : RSc X M0 T kc rc) (hkc : k < kc) (s : Int32 × Int32 × MS) (es : s.2.1 = Int32.ofNat k) (hs : PM M0 kc rc main s.2.2) (hmore : s.1 = 0 ∨ s.1 = 1) : Wo (lp (b143_M_reach s) 10000 (s.1, (0 : Int32), s.2.2)) (fun q => PM M0 kc rc main q.2.2 ∧ (∀ b j, fm s.2.2 b j → fm q.2.2 b j) ∧ ((q.1 = s.1 ∧ q.2.2 = s.2.2 ∧ ∀ n r, n < 8 → fm s.2.2 76 k → fm s.2.2 78 n → fnd M0 rc n 10 k = some r → fm s.2.2 75 r) ∨ (q.1 = 1 ∧ New s.2.2 q.2.2))) := by
  have hr := h.2.1
  have k1 := h.1.1
  refine W_lp (fun q => ∃ i, i ≤ 8 ∧ q.2.1 = Int32.ofNat i ∧ PM M0 kc rc main q.2.2 ∧ (∀ b j, fm s.2.2 b j → fm q.2.2 b j) ∧ ((q.1 = s.1 ∧ q.2.2 = s.2.2 ∧ ∀ n r, n < i → fm s.2.2 76 k → fm s.2.2 78 n → fnd M0 rc n 10 k = some r → fm s.2.2 75 r) ∨ (q.1 = 1 ∧ New s.2.2 q.2.2))) (fun q => 8 - q.2.1.toNatClampNeg) ?_ 10000 _ ⟨0, by omega, rfl, hs, fun _ _ h => h, Or.inl ⟨rfl, rfl, fun n r hn => absurd hn (Nat.not_lt_zero n)⟩⟩ (by show 8 - 0 < 10000; omega)
  intro q ⟨i, hi, eq, pm, mono, hq⟩
  have sr := pm.1.src Rcm_src
  refine Wo.cps (fun Q hQ => ?_)
  unfold b143_M_reach
  by_cases hl : i < 8
  case neg =>
    have ei : i = 8 := by omega
    subst ei
    simp (disch := omega) only [W_some, W_none, W_bind, W_ite, W_ocz, W_lt, eq, Nat.le_refl, o_le, o_leL, o_leR, o_lt, o_ltL, o_ltR, o_eq, o_eqL, o_eqR, o_cl, o_add, o_addL, o_addR, o_mul, o_mulL, o_mulR, o_sub, o_subR, o_0le, o_lt0, o_ixo, n1_eq, n1_eq', n1_lt, n1_le, n1_ge, n1_gt, n2_eq, n2_eq', n2_lt, n2_le, n2_ge, n2_gt, ↓reduceIte, ite_self, Nat.reduceEqDiff, Nat.reduceAdd, Nat.reduceMul, Nat.reduceSub, Nat.reduceLT, Nat.reduceLeDiff, Nat.not_lt_zero, Nat.zero_le, if_true, if_false, ite_true, ite_false, true_and, and_true, false_and, and_false, true_implies, false_implies, implies_true, not_true_eq_false, not_false_eq_true, eq_self, true_or, or_true, false_or, or_false, and_self, reduceCtorEq, forall_const]
    exact hQ _ ⟨pm, mono, hq⟩
  have q1 : ¬ 8 ≤ i := by omega
  have k10 : k < 10 := by omega
  have same : (∀ r, fm q.2.2 76 k → fm q.2.2 78 i → fnd M0 rc i 10 k = some r → fm q.2.2 75 r) → Q (.inl (q.1, Int32.ofNat (i + 1), q.2.2)) := by
    intro hh
    refine hQ _ ⟨⟨i + 1, by omega, rfl, pm, mono, ?_⟩, by simp (disch := omega) only [eq, o_le, o_leL, o_leR, o_lt, o_ltL, o_ltR, o_eq, o_eqL, o_eqR, o_cl, o_add, o_addL, o_addR, o_mul, o_mulL, o_mulR, o_sub, o_subR, o_0le, o_lt0, o_ixo, n1_eq, n1_eq', n1_lt, n1_le, n1_ge, n1_gt, n2_eq, n2_eq', n2_lt, n2_le, n2_ge, n2_gt, ↓reduceIte, ite_self, Nat.reduceEqDiff, Nat.reduceAdd, Nat.reduceMul, Nat.reduceSub, Nat.reduceLT, Nat.reduceLeDiff, Nat.not_lt_zero, Nat.zero_le, if_true, if_false, ite_true, ite_false, true_and, and_true, false_and, and_false, true_implies, false_implies, implies_true, not_true_eq_false, not_false_eq_true, eq_self, true_or, or_true, false_or, or_false, and_self, reduceCtorEq, forall_const]; omega⟩
    rcases hq with ⟨a1, a2, a3⟩ | hq
    · refine Or.inl ⟨a1, a2, ?_⟩
      intro n r hn f1 f2 hf
      by_cases en : n = i
      · subst en
        rw [a2] at hh
        exact hh r f1 f2 hf
      · exact a3 n r (by omega) f1 f2 hf
    · exact Or.inr hq
  have m2 : (-2 : Int32) < 0 := by decide
  by_cases c76 : q.2.2.1 76 k = 0
  · simp (disch := omega) only [W_some, W_none, W_bind, W_ite, W_ocz, W_lt, eq, es, q1, k10, c76, m2, o_le, o_leL, o_leR, o_lt, o_ltL, o_ltR, o_eq, o_eqL, o_eqR, o_cl, o_add, o_addL, o_addR, o_mul, o_mulL, o_mulR, o_sub, o_subR, o_0le, o_lt0, o_ixo, n1_eq, n1_eq', n1_lt, n1_le, n1_ge, n1_gt, n2_eq, n2_eq', n2_lt, n2_le, n2_ge, n2_gt, ↓reduceIte, ite_self, Nat.reduceEqDiff, Nat.reduceAdd, Nat.reduceMul, Nat.reduceSub, Nat.reduceLT, Nat.reduceLeDiff, Nat.not_lt_zero, Nat.zero_le, if_true, if_false, ite_true, ite_false, true_and, and_true, false_and, and_false, true_implies, false_implies, implies_true, not_true_eq_false, not_false_eq_true, eq_self, true_or, or_true, false_or, or_false, and_self, reduceCtorEq, forall_const]
    exact same (fun r h _ _ => absurd c76 h)
  by_cases c78 : q.2.2.1 78 i = 0
  · simp (disch := omega) only [W_some, W_none, W_bind, W_ite, W_ocz, W_lt, eq, es, q1, k10, c76, hl, c78, m2, o_le, o_leL, o_leR, o_lt, o_ltL, o_ltR, o_eq, o_eqL, o_eqR, o_cl, o_add, o_addL, o_addR, o_mul, o_mulL, o_mulR, o_sub, o_subR, o_0le, o_lt0, o_ixo, n1_eq, n1_eq', n1_lt, n1_le, n1_ge, n1_gt, n2_eq, n2_eq', n2_lt, n2_le, n2_ge, n2_gt, ↓reduceIte, ite_self, Nat.reduceEqDiff, Nat.reduceAdd, Nat.reduceMul, Nat.reduceSub, Nat.reduceLT, Nat.reduceLeDiff, Nat.not_lt_zero, Nat.zero_le, if_true, if_false, ite_true, ite_false, true_and, and_true, false_and, and_false, true_implies, false_implies, implies_true, not_true_eq_false, not_false_eq_true, eq_self, true_or, or_true, false_or, or_false, and_self, reduceCtorEq, forall_const]
    exact same (fun r _ h _ => absurd c78 h)
  have fe := find_src (n := i) (c := k) h sr hkc
  cases ef : fnd M0 rc i 10 k with
  | none =>
    rw [ef] at fe
    have fe' : f_M_find (Int32.ofNat k) (Int32.ofNat i) q.2.2 = some (-2) := fe
    simp (disch := omega) only [W_some, W_none, W_bind, W_ite, W_ocz, W_lt, eq, es, q1, k10, c76, hl, c78, fe', m2, o_le, o_leL, o_leR, o_lt, o_ltL, o_ltR, o_eq, o_eqL, o_eqR, o_cl, o_add, o_addL, o_addR, o_mul, o_mulL, o_mulR, o_sub, o_subR, o_0le, o_lt0, o_ixo, n1_eq, n1_eq', n1_lt, n1_le, n1_ge, n1_gt, n2_eq, n2_eq', n2_lt, n2_le, n2_ge, n2_gt, ↓reduceIte, ite_self, Nat.reduceEqDiff, Nat.reduceAdd, Nat.reduceMul, Nat.reduceSub, Nat.reduceLT, Nat.reduceLeDiff, Nat.not_lt_zero, Nat.zero_le, if_true, if_false, ite_true, ite_false, true_and, and_true, false_and, and_false, true_implies, false_implies, implies_true, not_true_eq_false, not_false_eq_true, eq_self, true_or, or_true, false_or, or_false, and_self, reduceCtorEq, forall_const]
    exact same (fun r _ _ h => by rw [ef] at h; cases h)
  | some r =>
    rw [ef] at fe
    have fe' : f_M_find (Int32.ofNat k) (Int32.ofNat i) q.2.2 = some (Int32.ofNat r) := fe
    have hrr := fnd_lt 10 k ef
    have r24 : r < 24 := by omega
    by_cases c75 : q.2.2.1 75 r = 0
    · simp (disch := omega) only [W_some, W_none, W_bind, W_ite, W_ocz, W_lt, eq, es, q1, k10, c76, hl, c78, fe', r24, c75, o_le, o_leL, o_leR, o_lt, o_ltL, o_ltR, o_eq, o_eqL, o_eqR, o_cl, o_add, o_addL, o_addR, o_mul, o_mulL, o_mulR, o_sub, o_subR, o_0le, o_lt0, o_ixo, n1_eq, n1_eq', n1_lt, n1_le, n1_ge, n1_gt, n2_eq, n2_eq', n2_lt, n2_le, n2_ge, n2_gt, ↓reduceIte, ite_self, Nat.reduceEqDiff, Nat.reduceAdd, Nat.reduceMul, Nat.reduceSub, Nat.reduceLT, Nat.reduceLeDiff, Nat.not_lt_zero, Nat.zero_le, if_true, if_false, ite_true, ite_false, true_and, and_true, false_and, and_false, true_implies, false_implies, implies_true, not_true_eq_false, not_false_eq_true, eq_self, true_or, or_true, false_or, or_false, and_self, reduceCtorEq, forall_const]
      have ff : ∀ b j, fm (mw q.2.2 75 r 1) b j ↔ fm q.2.2 b j ∨ (b = 75 ∧ j = r) := fun b j => fm_set b j
      refine hQ _ ⟨⟨i + 1, by omega, rfl, ?_, fun b j hf => (ff b j).mpr (Or.inl (mono b j hf)), Or.inr ⟨rfl, 75, r, Or.inl ⟨rfl, r24⟩, (ff _ _).mpr (Or.inr ⟨rfl, rfl⟩), fun hf => mono _ _ hf c75⟩⟩, by simp (disch := omega) only [eq, o_le, o_leL, o_leR, o_lt, o_ltL, o_ltR, o_eq, o_eqL, o_eqR, o_cl, o_add, o_addL, o_addR, o_mul, o_mulL, o_mulR, o_sub, o_subR, o_0le, o_lt0, o_ixo, n1_eq, n1_eq', n1_lt, n1_le, n1_ge, n1_gt, n2_eq, n2_eq', n2_lt, n2_le, n2_ge, n2_gt, ↓reduceIte, ite_self, Nat.reduceEqDiff, Nat.reduceAdd, Nat.reduceMul, Nat.reduceSub, Nat.reduceLT, Nat.reduceLeDiff, Nat.not_lt_zero, Nat.zero_le, if_true, if_false, ite_true, ite_false, true_and, and_true, false_and, and_false, true_implies, false_implies, implies_true, not_true_eq_false, not_false_eq_true, eq_self, true_or, or_true, false_or, or_false, and_self, reduceCtorEq, forall_const]; omega⟩
      obtain ⟨p1, p2, p3, p4, p5, p6⟩ := pm
      refine ⟨p1.mw (by unfold Rcm; omega) 1, ?_, ?_, (ff _ _).mpr (Or.inl p4), ?_, ?_⟩
      · intro m hm hf
        rcases (ff _ _).mp hf with hf | ⟨_, e⟩
        · exact p2 m hm hf
        · omega
      · intro m hm hf
        rcases (ff _ _).mp hf with hf | ⟨e, _⟩
        · exact p3 m hm hf
        · exact absurd e (by decide)
      · intro R Md C hcl
        obtain ⟨g1, g2, g3⟩ := p5 R Md C hcl
        refine ⟨?_, ?_, ?_⟩
        · intro m hm hf
          rcases (ff _ _).mp hf with hf | ⟨_, e⟩
          · exact g1 m hm hf
          · subst e
            exact hcl.2.2 k i m hkc hl (g2 k k10 c76) (g3 i hl c78) ef
        · intro m hm hf
          rcases (ff _ _).mp hf with hf | ⟨e, _⟩
          · exact g2 m hm hf
          · exact absurd e (by decide)
        · intro m hm hf
          rcases (ff _ _).mp hf with hf | ⟨e, _⟩
          · exact g3 m hm hf
          · exact absurd e (by decide)
      · intro c hc hf
        rcases (ff _ _).mp hf with hf | ⟨e, _⟩
        · exact p6 c hc hf
        · exact absurd e (by decide)
    · simp (disch := omega) only [W_some, W_none, W_bind, W_ite, W_ocz, W_lt, eq, es, q1, k10, c76, hl, c78, fe', r24, c75, o_le, o_leL, o_leR, o_lt, o_ltL, o_ltR, o_eq, o_eqL, o_eqR, o_cl, o_add, o_addL, o_addR, o_mul, o_mulL, o_mulR, o_sub, o_subR, o_0le, o_lt0, o_ixo, n1_eq, n1_eq', n1_lt, n1_le, n1_ge, n1_gt, n2_eq, n2_eq', n2_lt, n2_le, n2_ge, n2_gt, ↓reduceIte, ite_self, Nat.reduceEqDiff, Nat.reduceAdd, Nat.reduceMul, Nat.reduceSub, Nat.reduceLT, Nat.reduceLeDiff, Nat.not_lt_zero, Nat.zero_le, if_true, if_false, ite_true, ite_false, true_and, and_true, false_and, and_false, true_implies, false_implies, implies_true, not_true_eq_false, not_false_eq_true, eq_self, true_or, or_true, false_or, or_false, and_self, reduceCtorEq, forall_const]
      exact same (fun r' _ _ h => by rw [ef] at h; cases h; exact c75)
set_option maxRecDepth 20000 in
set_option maxHeartbeats 4000000 in
theorem pass2_ok {X : XS} {M0 M : MS} {T : Nat → Nat} {kc rc main : Nat} (h : RSc X M0 T kc rc) (hp : PM M0 kc rc main M) (more : Int32) (hmore : more = 0 ∨ more = 1) : Wo (lp b132_M_reach 10000 (more, (0 : Int32), M)) (fun p => PM M0 kc rc main p.2.2 ∧ (∀ b j, fm M b j → fm p.2.2 b j) ∧ ((p.1 = more ∧ p.2.2 = M ∧ ∀ c n r, c < kc → n < 8 → fm M 76 c → fm M 78 n → fnd M0 rc n 10 c = some r → fm M 75 r) ∨ (p.1 = 1 ∧ New M p.2.2))) := by
  have k1 := h.1.1
  refine W_lp (fun p => ∃ k, k ≤ kc ∧ p.2.1 = Int32.ofNat k ∧ PM M0 kc rc main p.2.2 ∧ (∀ b j, fm M b j → fm p.2.2 b j) ∧ ((p.1 = more ∧ p.2.2 = M ∧ ∀ c n r, c < k → n < 8 → fm M 76 c → fm M 78 n → fnd M0 rc n 10 c = some r → fm M 75 r) ∨ (p.1 = 1 ∧ New M p.2.2))) (fun p => kc - p.2.1.toNatClampNeg) ?_ 10000 _ ⟨0, by omega, rfl, hp, fun _ _ h => h, Or.inl ⟨rfl, rfl, fun c n r hn => absurd hn (Nat.not_lt_zero c)⟩⟩ (by show kc - 0 < 10000; omega)
  intro p ⟨k, hk, ep, pm, mono, hq⟩
  have sr := pm.1.src Rcm_src
  have g3 : p.2.2.1 60 3 = Int32.ofNat kc := sr.2.1.trans h.1.2.2.1
  refine Wo.cps (fun Q hQ => ?_)
  unfold b132_M_reach
  by_cases hl : k < kc
  case neg =>
    have ei : k = kc := by omega
    subst ei
    simp (disch := omega) only [W_some, W_none, W_bind, W_ite, W_ocz, W_lt, ep, g3, Nat.le_refl, o_le, o_leL, o_leR, o_lt, o_ltL, o_ltR, o_eq, o_eqL, o_eqR, o_cl, o_add, o_addL, o_addR, o_mul, o_mulL, o_mulR, o_sub, o_subR, o_0le, o_lt0, o_ixo, n1_eq, n1_eq', n1_lt, n1_le, n1_ge, n1_gt, n2_eq, n2_eq', n2_lt, n2_le, n2_ge, n2_gt, ↓reduceIte, ite_self, Nat.reduceEqDiff, Nat.reduceAdd, Nat.reduceMul, Nat.reduceSub, Nat.reduceLT, Nat.reduceLeDiff, Nat.not_lt_zero, Nat.zero_le, if_true, if_false, ite_true, ite_false, true_and, and_true, false_and, and_false, true_implies, false_implies, implies_true, not_true_eq_false, not_false_eq_true, eq_self, true_or, or_true, false_or, or_false, and_self, reduceCtorEq, forall_const]
    exact hQ _ ⟨pm, mono, hq⟩
  have q1 : ¬ kc ≤ k := by omega
  have hm1 : p.1 = 0 ∨ p.1 = 1 := by
    rcases hq with ⟨a, _⟩ | ⟨a, _⟩
    · rw [a]; exact hmore
    · exact Or.inr a
  obtain ⟨q, eq, qp, qm, qs⟩ := pass2in_ok (M := M) (main := main) h hl p ep pm hm1
  simp (disch := omega) only [W_some, W_none, W_bind, W_ite, W_ocz, W_lt, ep, g3, q1, eq, o_le, o_leL, o_leR, o_lt, o_ltL, o_ltR, o_eq, o_eqL, o_eqR, o_cl, o_add, o_addL, o_addR, o_mul, o_mulL, o_mulR, o_sub, o_subR, o_0le, o_lt0, o_ixo, n1_eq, n1_eq', n1_lt, n1_le, n1_ge, n1_gt, n2_eq, n2_eq', n2_lt, n2_le, n2_ge, n2_gt, ↓reduceIte, ite_self, Nat.reduceEqDiff, Nat.reduceAdd, Nat.reduceMul, Nat.reduceSub, Nat.reduceLT, Nat.reduceLeDiff, Nat.not_lt_zero, Nat.zero_le, if_true, if_false, ite_true, ite_false, true_and, and_true, false_and, and_false, true_implies, false_implies, implies_true, not_true_eq_false, not_false_eq_true, eq_self, true_or, or_true, false_or, or_false, and_self, reduceCtorEq, forall_const]
  refine hQ _ ⟨⟨k + 1, by omega, rfl, qp, fun b j hf => qm b j (mono b j hf), ?_⟩, by simp (disch := omega) only [ep, o_le, o_leL, o_leR, o_lt, o_ltL, o_ltR, o_eq, o_eqL, o_eqR, o_cl, o_add, o_addL, o_addR, o_mul, o_mulL, o_mulR, o_sub, o_subR, o_0le, o_lt0, o_ixo, n1_eq, n1_eq', n1_lt, n1_le, n1_ge, n1_gt, n2_eq, n2_eq', n2_lt, n2_le, n2_ge, n2_gt, ↓reduceIte, ite_self, Nat.reduceEqDiff, Nat.reduceAdd, Nat.reduceMul, Nat.reduceSub, Nat.reduceLT, Nat.reduceLeDiff, Nat.not_lt_zero, Nat.zero_le, if_true, if_false, ite_true, ite_false, true_and, and_true, false_and, and_false, true_implies, false_implies, implies_true, not_true_eq_false, not_false_eq_true, eq_self, true_or, or_true, false_or, or_false, and_self, reduceCtorEq, forall_const]; omega⟩
  rcases qs with ⟨a1, a2, a3⟩ | ⟨a1, b, j, a2, a3, a4⟩
  · rcases hq with ⟨b1, b2, b3⟩ | ⟨b1, b2⟩
    · refine Or.inl ⟨a1.trans b1, a2.trans b2, ?_⟩
      intro c n r hc hn f1 f2 hf
      by_cases ec : c = k
      · subst ec
        rw [b2] at a3
        exact a3 n r hn f1 f2 hf
      · exact b3 c n r (by omega) hn f1 f2 hf
    · exact Or.inr ⟨a1.trans b1, by show New M q.2.2; rw [a2]; exact b2⟩
  · exact Or.inr ⟨a1, b, j, a2, a3, fun hf => a4 (mono b j hf)⟩
set_option maxRecDepth 20000 in
set_option maxHeartbeats 4000000 in
theorem whileM_ok {X : XS} {M0 M : MS} {T : Nat → Nat} {kc rc main : Nat} (h : RSc X M0 T kc rc) (hp : PM M0 kc rc main M) : Wo (lp b81_M_reach 10000 ((1 : Int32), M)) (fun p => PM M0 kc rc main p.2 ∧ Clo M0 kc rc main (fm p.2 75) (fm p.2 76) (fm p.2 78)) := by
  have hr := h.2.1
  have k1 := h.1.1
  have e1 := h.1.2.2.1
  have e2 := h.2.2.2.1
  have hz : ∀ m, m < rc → ∃ s, s ≤ 60 ∧ M0.1 70 m = Int32.ofNat s := by
    intro m hm
    obtain ⟨a, f, ra, rv⟩ := h.2.2.2.2.2 m hm
    obtain ⟨s, s1, s2, _⟩ := rv.2.2.2.2.2.2.2.2.2.2.2.2.2.2.1
    exact ⟨s, s1, s2⟩
  have n10 : ¬ (1 : Int32) = 0 := by decide
  refine W_lp (fun p => PM M0 kc rc main p.2 ∧ ((p.1 = 1) ∨ (p.1 = 0 ∧ Clo M0 kc rc main (fm p.2 75) (fm p.2 76) (fm p.2 78)))) (fun p => (42 - tot p.2) + (if p.1 = 0 then 0 else 1)) ?_ 10000 _ ⟨hp, Or.inl rfl⟩ (by show (42 - tot M) + (if (1 : Int32) = 0 then 0 else 1) < 10000; split <;> omega)
  intro p ⟨pm, hs⟩
  refine Wo.cps (fun Q hQ => ?_)
  unfold b81_M_reach
  rcases hs with s1 | ⟨s1, s2⟩
  case inr =>
    simp (disch := omega) only [W_some, W_none, W_bind, W_ite, W_ocz, W_lt, s1, o_le, o_leL, o_leR, o_lt, o_ltL, o_ltR, o_eq, o_eqL, o_eqR, o_cl, o_add, o_addL, o_addR, o_mul, o_mulL, o_mulR, o_sub, o_subR, o_0le, o_lt0, o_ixo, n1_eq, n1_eq', n1_lt, n1_le, n1_ge, n1_gt, n2_eq, n2_eq', n2_lt, n2_le, n2_ge, n2_gt, ↓reduceIte, ite_self, Nat.reduceEqDiff, Nat.reduceAdd, Nat.reduceMul, Nat.reduceSub, Nat.reduceLT, Nat.reduceLeDiff, Nat.not_lt_zero, Nat.zero_le, if_true, if_false, ite_true, ite_false, true_and, and_true, false_and, and_false, true_implies, false_implies, implies_true, not_true_eq_false, not_false_eq_true, eq_self, true_or, or_true, false_or, or_false, and_self, reduceCtorEq, forall_const]
    exact hQ _ ⟨pm, s2⟩
  obtain ⟨q, eq, qp, qm, qs⟩ := pass1_ok (main := main) k1 hr e1 e2 hz pm
  have hm1 : q.1 = 0 ∨ q.1 = 1 := by
    rcases qs with ⟨a, _⟩ | ⟨a, _⟩
    · exact Or.inl a
    · exact Or.inr a
  obtain ⟨r, er, rp, rm, rs⟩ := pass2_ok (main := main) h qp q.1 hm1
  simp (disch := omega) only [W_some, W_none, W_bind, W_ite, W_ocz, W_lt, s1, n10, eq, er, o_le, o_leL, o_leR, o_lt, o_ltL, o_ltR, o_eq, o_eqL, o_eqR, o_cl, o_add, o_addL, o_addR, o_mul, o_mulL, o_mulR, o_sub, o_subR, o_0le, o_lt0, o_ixo, n1_eq, n1_eq', n1_lt, n1_le, n1_ge, n1_gt, n2_eq, n2_eq', n2_lt, n2_le, n2_ge, n2_gt, ↓reduceIte, ite_self, Nat.reduceEqDiff, Nat.reduceAdd, Nat.reduceMul, Nat.reduceSub, Nat.reduceLT, Nat.reduceLeDiff, Nat.not_lt_zero, Nat.zero_le, if_true, if_false, ite_true, ite_false, true_and, and_true, false_and, and_false, true_implies, false_implies, implies_true, not_true_eq_false, not_false_eq_true, eq_self, true_or, or_true, false_or, or_false, and_self, reduceCtorEq, forall_const]
  have t1 := tot_max p.2
  have t2 := tot_max r.2.2
  rcases qs with ⟨a1, a2, a3⟩ | ⟨a1, a2⟩
  · rcases rs with ⟨b1, b2, b3⟩ | ⟨b1, b2⟩
    · have ee : r.2.2 = p.2 := b2.trans a2
      refine hQ _ ⟨⟨rp, Or.inr ⟨b1.trans a1, ?_⟩⟩, ?_⟩
      · rw [a2] at b3
        rw [ee]
        exact ⟨pm.2.2.2.1, fun m hm hf => a3 m hm hf, b3⟩
      · show (42 - tot r.2.2) + (if r.1 = 0 then 0 else 1) < (42 - tot p.2) + (if p.1 = 0 then 0 else 1)
        rw [ee, b1.trans a1, s1, if_pos rfl, if_neg n10]
        omega
    · have hlt : tot p.2 < tot r.2.2 := by
        rw [a2] at b2
        rw [a2] at rm
        exact tot_lt rm b2
      refine hQ _ ⟨⟨rp, Or.inl b1⟩, ?_⟩
      show (42 - tot r.2.2) + (if r.1 = 0 then 0 else 1) < (42 - tot p.2) + (if p.1 = 0 then 0 else 1)
      rw [b1, s1, if_neg n10]
      omega
  · have hlt : tot p.2 < tot q.2.2 := tot_lt qm a2
    have hle : tot q.2.2 ≤ tot r.2.2 := by
      rcases rs with ⟨b1, b2, b3⟩ | ⟨b1, b2⟩
      · rw [b2]; exact Nat.le_refl _
      · exact Nat.le_of_lt (tot_lt rm b2)
    have hr1 : r.1 = 1 := by
      rcases rs with ⟨b1, _⟩ | ⟨b1, _⟩
      · exact b1.trans a1
      · exact b1
    refine hQ _ ⟨⟨rp, Or.inl hr1⟩, ?_⟩
    show (42 - tot r.2.2) + (if r.1 = 0 then 0 else 1) < (42 - tot p.2) + (if p.1 = 0 then 0 else 1)
    rw [hr1, s1, if_neg n10]
    omega
