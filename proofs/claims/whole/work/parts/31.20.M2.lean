/-! M2 -/
def SndM (M0 : MS) (kc rc main : Nat) (M : MS) : Prop := ∀ R Md C, Clo M0 kc rc main R Md C → (∀ m, m < 24 → fm M 75 m → R m) ∧ (∀ c, c < 10 → fm M 76 c → Md c) ∧ (∀ n, n < 8 → fm M 78 n → C n)
def PM (M0 : MS) (kc rc main : Nat) (M : MS) : Prop := MO Rcm M0 M ∧ (∀ m, m < 24 → fm M 75 m → m < rc) ∧ (∀ c, c < 10 → fm M 76 c → c < kc) ∧ fm M 75 main ∧ SndM M0 kc rc main M ∧ ∀ c, c < 10 → ¬ fm M 77 c
def tot (M : MS) : Nat := cnt (fmB M 75) 24 + cnt (fmB M 76) 10 + cnt (fmB M 78) 8
set_option maxRecDepth 20000 in
set_option maxHeartbeats 4000000 in
theorem tot_max (M : MS) : tot M ≤ 42 := by
  unfold tot
  have h1 := cnt_max (fmB M 75) 24
  have h2 := cnt_max (fmB M 76) 10
  have h3 := cnt_max (fmB M 78) 8
  omega
set_option maxRecDepth 20000 in
set_option maxHeartbeats 4000000 in
theorem tot_lt {M M' : MS} (hm : ∀ b j, fm M b j → fm M' b j) (hn : New M M') : tot M < tot M' := by
  have l : ∀ b n, cnt (fmB M b) n ≤ cnt (fmB M' b) n := fun b n => cnt_le n (fun i _ hi => fmB_iff.mpr (hm b i (fmB_iff.mp hi)))
  have s : ∀ b n j, j < n → fm M' b j → ¬ fm M b j → cnt (fmB M b) n < cnt (fmB M' b) n := fun b n j hj h1 h2 => cnt_lt n (fun i _ hi => fmB_iff.mpr (hm b i (fmB_iff.mp hi))) ⟨j, hj, fmB_iff.mpr h1, fun q => h2 (fmB_iff.mp q)⟩
  have a1 := l 75 24
  have a2 := l 76 10
  have a3 := l 78 8
  unfold tot
  obtain ⟨b, j, hb, h1, h2⟩ := hn
  rcases hb with ⟨rfl, hj⟩ | ⟨rfl, hj⟩ | ⟨rfl, hj⟩
  · have := s 75 24 j hj h1 h2; omega
  · have := s 76 10 j hj h1 h2; omega
  · have := s 78 8 j hj h1 h2; omega
/-- a part of a round: nothing new and all right so far, or something new -/
def Pass (M0 : MS) (kc rc main : Nat) (M : MS) (ok : Prop) (more : Int32) (M' : MS) : Prop := PM M0 kc rc main M' ∧ (∀ b j, fm M b j → fm M' b j) ∧ ((more = 0 ∧ M' = M ∧ ok) ∨ (more = 1 ∧ New M M'))
set_option maxRecDepth 20000 in
set_option maxHeartbeats 4000000 in
theorem pass1_ok {M0 M : MS} {kc rc main : Nat} (hk : kc ≤ 10) (hr : rc ≤ 24) (e1 : M0.1 60 3 = Int32.ofNat kc) (e2 : M0.1 60 15 = Int32.ofNat rc) (hz : ∀ m, m < rc → ∃ s, s ≤ 60 ∧ M0.1 70 m = Int32.ofNat s) (hp : PM M0 kc rc main M) : Wo (lp b89_M_reach 10000 ((0 : Int32), (0 : Int32), M)) (fun p => Pass M0 kc rc main M (∀ m, m < rc → fm M 75 m → (∀ r, aR M0 rc m r → fm M 75 r) ∧ (∀ c, aM M0 kc m c → fm M 76 c) ∧ (∀ n, aC M0 m n → fm M 78 n)) p.1 p.2.2) := by
  refine W_lp (fun p => ∃ k, k ≤ rc ∧ p.2.1 = Int32.ofNat k ∧ Pass M0 kc rc main M (∀ m, m < k → fm M 75 m → (∀ r, aR M0 rc m r → fm M 75 r) ∧ (∀ c, aM M0 kc m c → fm M 76 c) ∧ (∀ n, aC M0 m n → fm M 78 n)) p.1 p.2.2) (fun p => rc - p.2.1.toNatClampNeg) ?_ 10000 _ ⟨0, Nat.zero_le _, rfl, hp, fun _ _ h => h, Or.inl ⟨rfl, rfl, fun m hm => absurd hm (Nat.not_lt_zero m)⟩⟩ (by show rc - 0 < 10000; omega)
  intro p ⟨k, hk', ep, pm, mono, hs⟩
  have sr := pm.1.src Rcm_src
  have g15 : p.2.2.1 60 15 = Int32.ofNat rc := sr.2.2.trans e2
  have n10 : ¬ (1 : Int32) = 0 := by decide
  refine Wo.cps (fun Q hQ => ?_)
  unfold b89_M_reach
  by_cases hl : k < rc
  case neg =>
    have ek : k = rc := by omega
    subst ek
    simp (disch := omega) only [W_some, W_none, W_bind, W_ite, W_ocz, W_lt, ep, g15, Nat.le_refl, o_le, o_leL, o_leR, o_lt, o_ltL, o_ltR, o_eq, o_eqL, o_eqR, o_cl, o_add, o_addL, o_addR, o_mul, o_mulL, o_mulR, o_sub, o_subR, o_0le, o_lt0, o_ixo, n1_eq, n1_eq', n1_lt, n1_le, n1_ge, n1_gt, n2_eq, n2_eq', n2_lt, n2_le, n2_ge, n2_gt, ↓reduceIte, ite_self, Nat.reduceEqDiff, Nat.reduceAdd, Nat.reduceMul, Nat.reduceSub, Nat.reduceLT, Nat.reduceLeDiff, Nat.not_lt_zero, Nat.zero_le, if_true, if_false, ite_true, ite_false, true_and, and_true, false_and, and_false, true_implies, false_implies, implies_true, not_true_eq_false, not_false_eq_true, eq_self, true_or, or_true, false_or, or_false, and_self, reduceCtorEq, forall_const]
    exact hQ _ ⟨pm, mono, hs⟩
  have q1 : ¬ rc ≤ k := by omega
  have q2 : k < 24 := by omega
  by_cases c75 : p.2.2.1 75 k = 0
  · simp (disch := omega) only [W_some, W_none, W_bind, W_ite, W_ocz, W_lt, ep, g15, q1, q2, c75, o_le, o_leL, o_leR, o_lt, o_ltL, o_ltR, o_eq, o_eqL, o_eqR, o_cl, o_add, o_addL, o_addR, o_mul, o_mulL, o_mulR, o_sub, o_subR, o_0le, o_lt0, o_ixo, n1_eq, n1_eq', n1_lt, n1_le, n1_ge, n1_gt, n2_eq, n2_eq', n2_lt, n2_le, n2_ge, n2_gt, ↓reduceIte, ite_self, Nat.reduceEqDiff, Nat.reduceAdd, Nat.reduceMul, Nat.reduceSub, Nat.reduceLT, Nat.reduceLeDiff, Nat.not_lt_zero, Nat.zero_le, if_true, if_false, ite_true, ite_false, true_and, and_true, false_and, and_false, true_implies, false_implies, implies_true, not_true_eq_false, not_false_eq_true, eq_self, true_or, or_true, false_or, or_false, and_self, reduceCtorEq, forall_const]
    rcases hs with ⟨s1, s2, s3⟩ | ⟨s1, s2⟩
    · simp (disch := omega) only [s1, o_le, o_leL, o_leR, o_lt, o_ltL, o_ltR, o_eq, o_eqL, o_eqR, o_cl, o_add, o_addL, o_addR, o_mul, o_mulL, o_mulR, o_sub, o_subR, o_0le, o_lt0, o_ixo, n1_eq, n1_eq', n1_lt, n1_le, n1_ge, n1_gt, n2_eq, n2_eq', n2_lt, n2_le, n2_ge, n2_gt, ↓reduceIte, ite_self, Nat.reduceEqDiff, Nat.reduceAdd, Nat.reduceMul, Nat.reduceSub, Nat.reduceLT, Nat.reduceLeDiff, Nat.not_lt_zero, Nat.zero_le, if_true, if_false, ite_true, ite_false, true_and, and_true, false_and, and_false, true_implies, false_implies, implies_true, not_true_eq_false, not_false_eq_true, eq_self, true_or, or_true, false_or, or_false, and_self, reduceCtorEq, forall_const]
      refine hQ _ ⟨⟨k + 1, by omega, rfl, pm, mono, Or.inl ⟨rfl, s2, ?_⟩⟩, by simp (disch := omega) only [ep, o_le, o_leL, o_leR, o_lt, o_ltL, o_ltR, o_eq, o_eqL, o_eqR, o_cl, o_add, o_addL, o_addR, o_mul, o_mulL, o_mulR, o_sub, o_subR, o_0le, o_lt0, o_ixo, n1_eq, n1_eq', n1_lt, n1_le, n1_ge, n1_gt, n2_eq, n2_eq', n2_lt, n2_le, n2_ge, n2_gt, ↓reduceIte, ite_self, Nat.reduceEqDiff, Nat.reduceAdd, Nat.reduceMul, Nat.reduceSub, Nat.reduceLT, Nat.reduceLeDiff, Nat.not_lt_zero, Nat.zero_le, if_true, if_false, ite_true, ite_false, true_and, and_true, false_and, and_false, true_implies, false_implies, implies_true, not_true_eq_false, not_false_eq_true, eq_self, true_or, or_true, false_or, or_false, and_self, reduceCtorEq, forall_const]; omega⟩
      intro m hm hf
      by_cases em : m = k
      · subst em
        rw [s2] at c75
        exact absurd c75 hf
      · exact s3 m (by omega) hf
    · simp (disch := omega) only [s1, n10, o_le, o_leL, o_leR, o_lt, o_ltL, o_ltR, o_eq, o_eqL, o_eqR, o_cl, o_add, o_addL, o_addR, o_mul, o_mulL, o_mulR, o_sub, o_subR, o_0le, o_lt0, o_ixo, n1_eq, n1_eq', n1_lt, n1_le, n1_ge, n1_gt, n2_eq, n2_eq', n2_lt, n2_le, n2_ge, n2_gt, ↓reduceIte, ite_self, Nat.reduceEqDiff, Nat.reduceAdd, Nat.reduceMul, Nat.reduceSub, Nat.reduceLT, Nat.reduceLeDiff, Nat.not_lt_zero, Nat.zero_le, if_true, if_false, ite_true, ite_false, true_and, and_true, false_and, and_false, true_implies, false_implies, implies_true, not_true_eq_false, not_false_eq_true, eq_self, true_or, or_true, false_or, or_false, and_self, reduceCtorEq, forall_const]
      exact hQ _ ⟨⟨k + 1, by omega, rfl, pm, mono, Or.inr ⟨rfl, s2⟩⟩, by simp (disch := omega) only [ep, o_le, o_leL, o_leR, o_lt, o_ltL, o_ltR, o_eq, o_eqL, o_eqR, o_cl, o_add, o_addL, o_addR, o_mul, o_mulL, o_mulR, o_sub, o_subR, o_0le, o_lt0, o_ixo, n1_eq, n1_eq', n1_lt, n1_le, n1_ge, n1_gt, n2_eq, n2_eq', n2_lt, n2_le, n2_ge, n2_gt, ↓reduceIte, ite_self, Nat.reduceEqDiff, Nat.reduceAdd, Nat.reduceMul, Nat.reduceSub, Nat.reduceLT, Nat.reduceLeDiff, Nat.not_lt_zero, Nat.zero_le, if_true, if_false, ite_true, ite_false, true_and, and_true, false_and, and_false, true_implies, false_implies, implies_true, not_true_eq_false, not_false_eq_true, eq_self, true_or, or_true, false_or, or_false, and_self, reduceCtorEq, forall_const]; omega⟩
  · obtain ⟨q, eq, qo, qf, qn⟩ := followM_ok (M := p.2.2) hk hr e1 e2 pm.1 hl (hz k hl)
    simp (disch := omega) only [W_some, W_none, W_bind, W_ite, W_ocz, W_lt, ep, g15, q1, q2, c75, eq, o_le, o_leL, o_leR, o_lt, o_ltL, o_ltR, o_eq, o_eqL, o_eqR, o_cl, o_add, o_addL, o_addR, o_mul, o_mulL, o_mulR, o_sub, o_subR, o_0le, o_lt0, o_ixo, n1_eq, n1_eq', n1_lt, n1_le, n1_ge, n1_gt, n2_eq, n2_eq', n2_lt, n2_le, n2_ge, n2_gt, ↓reduceIte, ite_self, Nat.reduceEqDiff, Nat.reduceAdd, Nat.reduceMul, Nat.reduceSub, Nat.reduceLT, Nat.reduceLeDiff, Nat.not_lt_zero, Nat.zero_le, if_true, if_false, ite_true, ite_false, true_and, and_true, false_and, and_false, true_implies, false_implies, implies_true, not_true_eq_false, not_false_eq_true, eq_self, true_or, or_true, false_or, or_false, and_self, reduceCtorEq, forall_const]
    have pq : PM M0 kc rc main q.2 := by
      obtain ⟨p1, p2, p3, p4, p5, p6⟩ := pm
      refine ⟨qo, ?_, ?_, (qf _ _).mpr (Or.inl p4), ?_, ?_⟩
      · intro m hm hf
        rcases (qf _ _).mp hf with hf | ⟨_, i, _, hg⟩ | ⟨e, _⟩ | ⟨e, _⟩
        · exact p2 m hm hf
        · exact hg.2.1
        · exact absurd e (by decide)
        · exact absurd e (by decide)
      · intro c hc hf
        rcases (qf _ _).mp hf with hf | ⟨e, _⟩ | ⟨_, i, _, hg⟩ | ⟨e, _⟩
        · exact p3 c hc hf
        · exact absurd e (by decide)
        · exact hg.2.1
        · exact absurd e (by decide)
      · intro R Md C hcl
        obtain ⟨g1, g2, g3⟩ := p5 R Md C hcl
        obtain ⟨i1, i2, i3⟩ := hcl.2.1 k hl (g1 k q2 c75)
        refine ⟨?_, ?_, ?_⟩
        · intro m hm hf
          rcases (qf _ _).mp hf with hf | ⟨_, h⟩ | ⟨e, _⟩ | ⟨e, _⟩
          · exact g1 m hm hf
          · exact i1 m h
          · exact absurd e (by decide)
          · exact absurd e (by decide)
        · intro m hm hf
          rcases (qf _ _).mp hf with hf | ⟨e, _⟩ | ⟨_, h⟩ | ⟨e, _⟩
          · exact g2 m hm hf
          · exact absurd e (by decide)
          · exact i2 m h
          · exact absurd e (by decide)
        · intro m hm hf
          rcases (qf _ _).mp hf with hf | ⟨e, _⟩ | ⟨e, _⟩ | ⟨_, h⟩
          · exact g3 m hm hf
          · exact absurd e (by decide)
          · exact absurd e (by decide)
          · exact i3 m h
      · intro c hc hf
        rcases (qf _ _).mp hf with hf | ⟨e, _⟩ | ⟨e, _⟩ | ⟨e, _⟩
        · exact p6 c hc hf
        all_goals exact absurd e (by decide)
    have mq : ∀ b j, fm M b j → fm q.2 b j := fun b j h => (qf _ _).mpr (Or.inl (mono b j h))
    rcases qn with ⟨n1, n2⟩ | ⟨n1, n2⟩
    · simp (disch := omega) only [n1, o_le, o_leL, o_leR, o_lt, o_ltL, o_ltR, o_eq, o_eqL, o_eqR, o_cl, o_add, o_addL, o_addR, o_mul, o_mulL, o_mulR, o_sub, o_subR, o_0le, o_lt0, o_ixo, n1_eq, n1_eq', n1_lt, n1_le, n1_ge, n1_gt, n2_eq, n2_eq', n2_lt, n2_le, n2_ge, n2_gt, ↓reduceIte, ite_self, Nat.reduceEqDiff, Nat.reduceAdd, Nat.reduceMul, Nat.reduceSub, Nat.reduceLT, Nat.reduceLeDiff, Nat.not_lt_zero, Nat.zero_le, if_true, if_false, ite_true, ite_false, true_and, and_true, false_and, and_false, true_implies, false_implies, implies_true, not_true_eq_false, not_false_eq_true, eq_self, true_or, or_true, false_or, or_false, and_self, reduceCtorEq, forall_const]
      rcases hs with ⟨s1, s2, s3⟩ | ⟨s1, s2⟩
      · simp (disch := omega) only [s1, o_le, o_leL, o_leR, o_lt, o_ltL, o_ltR, o_eq, o_eqL, o_eqR, o_cl, o_add, o_addL, o_addR, o_mul, o_mulL, o_mulR, o_sub, o_subR, o_0le, o_lt0, o_ixo, n1_eq, n1_eq', n1_lt, n1_le, n1_ge, n1_gt, n2_eq, n2_eq', n2_lt, n2_le, n2_ge, n2_gt, ↓reduceIte, ite_self, Nat.reduceEqDiff, Nat.reduceAdd, Nat.reduceMul, Nat.reduceSub, Nat.reduceLT, Nat.reduceLeDiff, Nat.not_lt_zero, Nat.zero_le, if_true, if_false, ite_true, ite_false, true_and, and_true, false_and, and_false, true_implies, false_implies, implies_true, not_true_eq_false, not_false_eq_true, eq_self, true_or, or_true, false_or, or_false, and_self, reduceCtorEq, forall_const]
        refine hQ _ ⟨⟨k + 1, by omega, rfl, pq, mq, Or.inl ⟨rfl, n2.trans s2, ?_⟩⟩, by simp (disch := omega) only [ep, o_le, o_leL, o_leR, o_lt, o_ltL, o_ltR, o_eq, o_eqL, o_eqR, o_cl, o_add, o_addL, o_addR, o_mul, o_mulL, o_mulR, o_sub, o_subR, o_0le, o_lt0, o_ixo, n1_eq, n1_eq', n1_lt, n1_le, n1_ge, n1_gt, n2_eq, n2_eq', n2_lt, n2_le, n2_ge, n2_gt, ↓reduceIte, ite_self, Nat.reduceEqDiff, Nat.reduceAdd, Nat.reduceMul, Nat.reduceSub, Nat.reduceLT, Nat.reduceLeDiff, Nat.not_lt_zero, Nat.zero_le, if_true, if_false, ite_true, ite_false, true_and, and_true, false_and, and_false, true_implies, false_implies, implies_true, not_true_eq_false, not_false_eq_true, eq_self, true_or, or_true, false_or, or_false, and_self, reduceCtorEq, forall_const]; omega⟩
        intro m hm hf
        by_cases em : m = k
        · subst em
          rw [n2, s2] at qf
          exact ⟨fun r h => (qf _ _).mpr (Or.inr (Or.inl ⟨rfl, h⟩)), fun r h => (qf _ _).mpr (Or.inr (Or.inr (Or.inl ⟨rfl, h⟩))), fun r h => (qf _ _).mpr (Or.inr (Or.inr (Or.inr ⟨rfl, h⟩)))⟩
        · exact s3 m (by omega) hf
      · simp (disch := omega) only [s1, n10, o_le, o_leL, o_leR, o_lt, o_ltL, o_ltR, o_eq, o_eqL, o_eqR, o_cl, o_add, o_addL, o_addR, o_mul, o_mulL, o_mulR, o_sub, o_subR, o_0le, o_lt0, o_ixo, n1_eq, n1_eq', n1_lt, n1_le, n1_ge, n1_gt, n2_eq, n2_eq', n2_lt, n2_le, n2_ge, n2_gt, ↓reduceIte, ite_self, Nat.reduceEqDiff, Nat.reduceAdd, Nat.reduceMul, Nat.reduceSub, Nat.reduceLT, Nat.reduceLeDiff, Nat.not_lt_zero, Nat.zero_le, if_true, if_false, ite_true, ite_false, true_and, and_true, false_and, and_false, true_implies, false_implies, implies_true, not_true_eq_false, not_false_eq_true, eq_self, true_or, or_true, false_or, or_false, and_self, reduceCtorEq, forall_const]
        refine hQ _ ⟨⟨k + 1, by omega, rfl, pq, mq, Or.inr ⟨rfl, by rw [n2]; exact s2⟩⟩, by simp (disch := omega) only [ep, o_le, o_leL, o_leR, o_lt, o_ltL, o_ltR, o_eq, o_eqL, o_eqR, o_cl, o_add, o_addL, o_addR, o_mul, o_mulL, o_mulR, o_sub, o_subR, o_0le, o_lt0, o_ixo, n1_eq, n1_eq', n1_lt, n1_le, n1_ge, n1_gt, n2_eq, n2_eq', n2_lt, n2_le, n2_ge, n2_gt, ↓reduceIte, ite_self, Nat.reduceEqDiff, Nat.reduceAdd, Nat.reduceMul, Nat.reduceSub, Nat.reduceLT, Nat.reduceLeDiff, Nat.not_lt_zero, Nat.zero_le, if_true, if_false, ite_true, ite_false, true_and, and_true, false_and, and_false, true_implies, false_implies, implies_true, not_true_eq_false, not_false_eq_true, eq_self, true_or, or_true, false_or, or_false, and_self, reduceCtorEq, forall_const]; omega⟩
    · simp (disch := omega) only [n1, o_le, o_leL, o_leR, o_lt, o_ltL, o_ltR, o_eq, o_eqL, o_eqR, o_cl, o_add, o_addL, o_addR, o_mul, o_mulL, o_mulR, o_sub, o_subR, o_0le, o_lt0, o_ixo, n1_eq, n1_eq', n1_lt, n1_le, n1_ge, n1_gt, n2_eq, n2_eq', n2_lt, n2_le, n2_ge, n2_gt, ↓reduceIte, ite_self, Nat.reduceEqDiff, Nat.reduceAdd, Nat.reduceMul, Nat.reduceSub, Nat.reduceLT, Nat.reduceLeDiff, Nat.not_lt_zero, Nat.zero_le, if_true, if_false, ite_true, ite_false, true_and, and_true, false_and, and_false, true_implies, false_implies, implies_true, not_true_eq_false, not_false_eq_true, eq_self, true_or, or_true, false_or, or_false, and_self, reduceCtorEq, forall_const]
      refine hQ _ ⟨⟨k + 1, by omega, rfl, pq, mq, Or.inr ⟨rfl, ?_⟩⟩, by simp (disch := omega) only [ep, o_le, o_leL, o_leR, o_lt, o_ltL, o_ltR, o_eq, o_eqL, o_eqR, o_cl, o_add, o_addL, o_addR, o_mul, o_mulL, o_mulR, o_sub, o_subR, o_0le, o_lt0, o_ixo, n1_eq, n1_eq', n1_lt, n1_le, n1_ge, n1_gt, n2_eq, n2_eq', n2_lt, n2_le, n2_ge, n2_gt, ↓reduceIte, ite_self, Nat.reduceEqDiff, Nat.reduceAdd, Nat.reduceMul, Nat.reduceSub, Nat.reduceLT, Nat.reduceLeDiff, Nat.not_lt_zero, Nat.zero_le, if_true, if_false, ite_true, ite_false, true_and, and_true, false_and, and_false, true_implies, false_implies, implies_true, not_true_eq_false, not_false_eq_true, eq_self, true_or, or_true, false_or, or_false, and_self, reduceCtorEq, forall_const]; omega⟩
      obtain ⟨b, j, h1, h2, h3⟩ := n2
      exact ⟨b, j, h1, h2, fun h => h3 (mono b j h)⟩
set_option maxRecDepth 20000 in
set_option maxHeartbeats 4000000 in
theorem find_src {X : XS} {M0 M : MS} {T : Nat → Nat} {kc rc n c : Nat} (h : RSc X M0 T kc rc) (hs : MSrc M0 M) (hc : c < kc) : f_M_find (Int32.ofNat c) (Int32.ofNat n) M = some (enc (-2) (fnd M0 rc n 10 c)) := by
  have h' : RSc X M T kc rc := by
    obtain ⟨hk, hr, e1, e2, hn, hm⟩ := h
    obtain ⟨s1, s2, s3⟩ := hs
    refine ⟨RSk_frame hk rfl (fun _ _ _ => rfl) s2 (fun a h1 h2 => s1 a (by omega) (by omega)), hr, e1, s3.trans e2, RSn_frame hn rfl rfl (fun a h1 h2 => s1 a (by omega) (by omega)), ?_⟩
    intro m hm'
    refine RSr_frame (hm m hm') (Nat.le_refl _) (fun _ _ _ => ⟨rfl, rfl⟩) rfl ⟨Nat.le_refl _, fun _ _ => rfl, fun _ _ h => h⟩ ?_ ?_ ?_
    · intro a ha; rw [s1 a (by omega) (by omega)]
    · intro i _; rw [s1 71 (by omega) (by omega), s1 72 (by omega) (by omega)]; exact ⟨rfl, rfl⟩
    · intro i _; rw [s1 74 (by omega) (by omega)]
  have e : ∀ k d, fnd M rc n k d = fnd M0 rc n k d := by
    intro k
    induction k with
    | zero => intro d; rfl
    | succ k ih =>
      intro d
      have o : ownM M rc d n = ownM M0 rc d n := by
        unfold ownM
        rw [hs.1 64 (by omega) (by omega), hs.1 65 (by omega) (by omega)]
      unfold fnd
      rw [o, hs.1 61 (by omega) (by omega)]
      cases ownM M0 rc d n with
      | some m => rfl
      | none =>
        dsimp only
        split
        · rfl
        · exact ih _
  rw [← e]
  exact find_eq h' hc
