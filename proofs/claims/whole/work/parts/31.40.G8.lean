/-! G8 -/
set_option maxRecDepth 20000 in
set_option maxHeartbeats 4000000 in
theorem looksX {X0 : XS} {M : MS} {T : Nat → Nat} {kc rc m a s tc : Nat} {fr tt hd : Nat → Nat} {res : Nat ⊕ FS} (h : RSc X0 M T kc rc) (ht : TG T) (hm : m < rc) (hp : X0.2.1 2 m = some a) (es : M.1 70 m = Int32.ofNat s) (hs60 : s ≤ 60) (etc : M.1 73 m = Int32.ofNat tc) (htc : tc ≤ 6) (to : TrO M m s tc fr tt hd) : ∀ n t N X S, n + t < 840 → n + 1 < N → Only Fal X0 X → FX X S → X.1 22 10 = -1 → Typed M kc rc m s tc fr tt hd S → WtSn S → Looks M kc rc m s tc fr tt hd n S res → ∃ v X', lp (b27_Flow_firstWrong a) N (Int32.ofNat t, X) = some (v, X') ∧ Only Fal X0 X' ∧ (∀ w, res = .inl w → X'.1 22 10 = Int32.ofNat w ∧ w < 2147483648) ∧ (∀ S', res = .inr S' → X'.1 22 10 = -1 ∧ FX X' S') := by
  have endN : ∀ t N X S, t < 840 → 0 < N → Only Fal X0 X → FX X S → X.1 22 10 = -1 → low S = none → res = .inr S → ∃ v X', lp (b27_Flow_firstWrong a) N (Int32.ofNat t, X) = some (v, X') ∧ Only Fal X0 X' ∧ (∀ w, res = .inl w → X'.1 22 10 = Int32.ofNat w ∧ w < 2147483648) ∧ (∀ S', res = .inr S' → X'.1 22 10 = -1 ∧ FX X' S') := by
    intro t N X S ht' hN ho hS hw hl hr
    obtain ⟨N, rfl⟩ : ∃ K, N = K + 1 := ⟨N - 1, by omega⟩
    refine ⟨Int32.ofNat t, X, lp_inr ?_, ho, fun w q => (by rw [hr] at q; cases q), fun S' q => by rw [hr] at q; cases q; exact ⟨hw, hS⟩⟩
    have q1 : ¬ 840 ≤ t := by omega
    have lw := lowX hS
    rw [hl] at lw
    have lw' : f_Flow_lowestWaiting X = some (-1) := lw
    have m1 : ¬ (0 : Int32) ≤ -1 := by decide
    unfold b27_Flow_firstWrong
    simp (disch := omega) only [q1, hw, lw', m1, Option.bind_some, o_le, o_leL, o_leR, o_lt, o_ltL, o_ltR, o_eq, o_eqL, o_eqR, o_cl, o_add, o_addL, o_addR, o_mul, o_mulL, o_mulR, o_sub, o_subR, o_0le, o_lt0, o_ixo, n1_eq, n1_eq', n1_lt, n1_le, n1_ge, n1_gt, n2_eq, n2_eq', n2_lt, n2_le, n2_ge, n2_gt, ↓reduceIte, ite_self, Nat.reduceEqDiff, Nat.reduceAdd, Nat.reduceMul, Nat.reduceSub, Nat.reduceLT, Nat.reduceLeDiff, Nat.not_lt_zero, Nat.zero_le, if_true, if_false, ite_true, ite_false, true_and, and_true, false_and, and_false, true_implies, false_implies, implies_true, not_true_eq_false, not_false_eq_true, eq_self, true_or, or_true, false_or, or_false, and_self, reduceCtorEq, forall_const]
  intro n
  induction n with
  | zero =>
    intro t N X S h1 h2 ho hS hw hty hwt hl
    exact endN t N X S (by omega) (by omega) ho hS hw hl.1 hl.2
  | succ n ih =>
    intro t N X S h1 h2 ho hS hw hty hwt hl
    rcases hl with ⟨a1, a2⟩ | ⟨i, e, hl⟩
    · exact endN t N X S (by omega) (by omega) ho hS hw a1 a2
    obtain ⟨N, rfl⟩ : ∃ K, N = K + 1 := ⟨N - 1, by omega⟩
    obtain ⟨b1, b2, _⟩ := low_some e
    have hi := (hty i (hwt i b2)).1
    have hc := Only.rsc h ht ho (by unfold Fal; omega)
    have lw := lowX hS
    rw [e] at lw
    have lw' : f_Flow_lowestWaiting X = some (Int32.ofNat i) := lw
    have q1 : ¬ 840 ≤ t := by omega
    have hp' : X.2.1 2 m = some a := by rw [ho.1]; exact hp
    rcases hl with ⟨w, hr, rfl⟩ | ⟨S', hr, hl⟩
    · obtain ⟨X', e', o', c1, c2⟩ := lookX_ok hc ht hm hp' es hs60 etc htc to hi hS (hwt i b2) hw hr
      have wv := c1 w rfl
      obtain ⟨N, rfl⟩ : ∃ K, N = K + 1 := ⟨N - 1, by omega⟩
      have w60 : w < 2147483648 := by
        rcases hr with ⟨w', _, q, q'⟩ | ⟨S1, _, hr⟩
        · cases q'; omega
        rcases hr with ⟨_, q⟩ | ⟨_, _, q⟩ | ⟨pp, g, hh, l, _, hr⟩
        · cases q; omega
        · cases q; omega
        rcases hr with ⟨j, _, q⟩ | ⟨S2, _, hres⟩
        · have := (posJ j).mp pp
          rw [es] at this
          obtain ⟨k, hk, e⟩ := (le1_iff (kc := s) (by omega) (odI M m i)).mp this
          have : w = (odI M m i).toNatClampNeg := Sum.inl.inj q
          rw [this, e, o_cl k (by omega)]
          omega
        · rcases hres with ⟨_, q⟩ | ⟨_, _, q⟩ | ⟨_, e5, ⟨_, q⟩ | ⟨S3, _, q⟩⟩
          · cases q
          · cases q; omega
          · cases q; omega
          · cases q
      refine ⟨Int32.ofNat (t + 1), X', ?_, ho.trans o', fun w0 q => by cases q; exact ⟨wv, w60⟩, fun S' q => by cases q⟩
      have st : b27_Flow_firstWrong a (Int32.ofNat t, X) = some (.inl (Int32.ofNat (t + 1), X')) := by
        unfold b27_Flow_firstWrong
        simp (disch := omega) only [q1, hw, lw', e', Option.bind_some, o_le, o_leL, o_leR, o_lt, o_ltL, o_ltR, o_eq, o_eqL, o_eqR, o_cl, o_add, o_addL, o_addR, o_mul, o_mulL, o_mulR, o_sub, o_subR, o_0le, o_lt0, o_ixo, n1_eq, n1_eq', n1_lt, n1_le, n1_ge, n1_gt, n2_eq, n2_eq', n2_lt, n2_le, n2_ge, n2_gt, ↓reduceIte, ite_self, Nat.reduceEqDiff, Nat.reduceAdd, Nat.reduceMul, Nat.reduceSub, Nat.reduceLT, Nat.reduceLeDiff, Nat.not_lt_zero, Nat.zero_le, if_true, if_false, ite_true, ite_false, true_and, and_true, false_and, and_false, true_implies, false_implies, implies_true, not_true_eq_false, not_false_eq_true, eq_self, true_or, or_true, false_or, or_false, and_self, reduceCtorEq, forall_const]
      rw [lp_inl st]
      refine lp_inr ?_
      have nw : ¬ X'.1 22 10 = -1 := by rw [wv, n1_eq w w60]; exact not_false
      unfold b27_Flow_firstWrong
      by_cases q2 : 840 ≤ t + 1
      · simp (disch := omega) only [q2, o_le, o_leL, o_leR, o_lt, o_ltL, o_ltR, o_eq, o_eqL, o_eqR, o_cl, o_add, o_addL, o_addR, o_mul, o_mulL, o_mulR, o_sub, o_subR, o_0le, o_lt0, o_ixo, n1_eq, n1_eq', n1_lt, n1_le, n1_ge, n1_gt, n2_eq, n2_eq', n2_lt, n2_le, n2_ge, n2_gt, ↓reduceIte, ite_self, Nat.reduceEqDiff, Nat.reduceAdd, Nat.reduceMul, Nat.reduceSub, Nat.reduceLT, Nat.reduceLeDiff, Nat.not_lt_zero, Nat.zero_le, if_true, if_false, ite_true, ite_false, true_and, and_true, false_and, and_false, true_implies, false_implies, implies_true, not_true_eq_false, not_false_eq_true, eq_self, true_or, or_true, false_or, or_false, and_self, reduceCtorEq, forall_const]
      · simp (disch := omega) only [q2, nw, o_le, o_leL, o_leR, o_lt, o_ltL, o_ltR, o_eq, o_eqL, o_eqR, o_cl, o_add, o_addL, o_addR, o_mul, o_mulL, o_mulR, o_sub, o_subR, o_0le, o_lt0, o_ixo, n1_eq, n1_eq', n1_lt, n1_le, n1_ge, n1_gt, n2_eq, n2_eq', n2_lt, n2_le, n2_ge, n2_gt, ↓reduceIte, ite_self, Nat.reduceEqDiff, Nat.reduceAdd, Nat.reduceMul, Nat.reduceSub, Nat.reduceLT, Nat.reduceLeDiff, Nat.not_lt_zero, Nat.zero_le, if_true, if_false, ite_true, ite_false, true_and, and_true, false_and, and_false, true_implies, false_implies, implies_true, not_true_eq_false, not_false_eq_true, eq_self, true_or, or_true, false_or, or_false, and_self, reduceCtorEq, forall_const]
    · obtain ⟨X', e', o', c1, c2⟩ := lookX_ok hc ht hm hp' es hs60 etc htc to hi hS (hwt i b2) hw hr
      obtain ⟨d1, d2⟩ := c2 S' rfl
      obtain ⟨t1, _, _⟩ := look_typed hs60 es hi to hty (hwt i b2) b2 hr
      obtain ⟨v, X'', e'', o'', f1, f2⟩ := ih (t + 1) N X' S' (by omega) (by omega) (ho.trans o') d2 d1 t1 (look_wt hs60 es hi to hwt hr) hl
      refine ⟨v, X'', ?_, o'', f1, f2⟩
      rw [← e'']
      refine lp_inl ?_
      unfold b27_Flow_firstWrong
      simp (disch := omega) only [q1, hw, lw', e', Option.bind_some, o_le, o_leL, o_leR, o_lt, o_ltL, o_ltR, o_eq, o_eqL, o_eqR, o_cl, o_add, o_addL, o_addR, o_mul, o_mulL, o_mulR, o_sub, o_subR, o_0le, o_lt0, o_ixo, n1_eq, n1_eq', n1_lt, n1_le, n1_ge, n1_gt, n2_eq, n2_eq', n2_lt, n2_le, n2_ge, n2_gt, ↓reduceIte, ite_self, Nat.reduceEqDiff, Nat.reduceAdd, Nat.reduceMul, Nat.reduceSub, Nat.reduceLT, Nat.reduceLeDiff, Nat.not_lt_zero, Nat.zero_le, if_true, if_false, ite_true, ite_false, true_and, and_true, false_and, and_false, true_implies, false_implies, implies_true, not_true_eq_false, not_false_eq_true, eq_self, true_or, or_true, false_or, or_false, and_self, reduceCtorEq, forall_const]
set_option maxRecDepth 20000 in
set_option maxHeartbeats 4000000 in
theorem looksM {X : XS} {M0 : MS} {T : Nat → Nat} {kc rc m s tc : Nat} {fr tt hd : Nat → Nat} {res : Nat ⊕ FS} (h : RSc X M0 T kc rc) (hm : m < rc) (es : M0.1 70 m = Int32.ofNat s) (hs60 : s ≤ 60) (etc : M0.1 73 m = Int32.ofNat tc) (htc : tc ≤ 6) (to : TrO M0 m s tc fr tt hd) : ∀ n N M S, n < N → MSrc M0 M → M.1 90 0 = 2 → FM M m S → Typed M0 kc rc m s tc fr tt hd S → WtSn S → Looks M0 kc rc m s tc fr tt hd n S res → ∃ v M', lp (b312_M_firstWrong (Int32.ofNat m)) N (enc (-2) (low S), M) = some (v, M') ∧ MO (Fml m) M M' ∧ (∀ w, res = .inl w → v = Int32.ofNat w) ∧ (∀ S', res = .inr S' → v = -2 ∧ FM M' m S') := by
  have hr24 := h.2.1
  have m2 : (-2 : Int32) < 0 := by decide
  have endN : ∀ N M S, 0 < N → FM M m S → low S = none → res = .inr S → ∃ v M', lp (b312_M_firstWrong (Int32.ofNat m)) N (enc (-2) (low S), M) = some (v, M') ∧ MO (Fml m) M M' ∧ (∀ w, res = .inl w → v = Int32.ofNat w) ∧ (∀ S', res = .inr S' → v = -2 ∧ FM M' m S') := by
    intro N M S hN hS hl hr
    obtain ⟨N, rfl⟩ : ∃ K, N = K + 1 := ⟨N - 1, by omega⟩
    rw [hl]
    refine ⟨-2, M, lp_inr ?_, MO.refl M, fun w q => (by rw [hr] at q; cases q), fun S' q => by rw [hr] at q; cases q; exact ⟨rfl, hS⟩⟩
    unfold b312_M_firstWrong enc
    simp (disch := omega) only [m2, o_le, o_leL, o_leR, o_lt, o_ltL, o_ltR, o_eq, o_eqL, o_eqR, o_cl, o_add, o_addL, o_addR, o_mul, o_mulL, o_mulR, o_sub, o_subR, o_0le, o_lt0, o_ixo, n1_eq, n1_eq', n1_lt, n1_le, n1_ge, n1_gt, n2_eq, n2_eq', n2_lt, n2_le, n2_ge, n2_gt, ↓reduceIte, ite_self, Nat.reduceEqDiff, Nat.reduceAdd, Nat.reduceMul, Nat.reduceSub, Nat.reduceLT, Nat.reduceLeDiff, Nat.not_lt_zero, Nat.zero_le, if_true, if_false, ite_true, ite_false, true_and, and_true, false_and, and_false, true_implies, false_implies, implies_true, not_true_eq_false, not_false_eq_true, eq_self, true_or, or_true, false_or, or_false, and_self, reduceCtorEq, forall_const]
  intro n
  induction n with
  | zero =>
    intro N M S hN _ _ hS _ _ hl
    exact endN N M S (by omega) hS hl.1 hl.2
  | succ n ih =>
    intro N M S hN hsr h90 hS hty hwt hl
    rcases hl with ⟨a1, a2⟩ | ⟨i, e, hl⟩
    · exact endN N M S (by omega) hS a1 a2
    obtain ⟨N, rfl⟩ : ∃ K, N = K + 1 := ⟨N - 1, by omega⟩
    obtain ⟨b1, b2, _⟩ := low_some e
    have hi := (hty i (hwt i b2)).1
    rw [e]
    have ee : enc (-2) (some i) = Int32.ofNat i := rfl
    rw [ee]
    rcases hl with ⟨w, hr, rfl⟩ | ⟨S', hr, hl⟩
    · obtain ⟨r, M', e', o', c1, c2⟩ := lookM_ok h hsr hm es hs60 etc htc to hi h90 hS (hwt i b2) hr
      have wv := c1 w rfl
      have w60 : w < 2147483648 := by
        rcases hr with ⟨w', _, q, q'⟩ | ⟨S1, _, hr⟩
        · cases q'; omega
        rcases hr with ⟨_, q⟩ | ⟨_, _, q⟩ | ⟨pp, g, hh, l, _, hr⟩
        · cases q; omega
        · cases q; omega
        rcases hr with ⟨j, _, q⟩ | ⟨S2, _, hres⟩
        · have := (posJ j).mp pp
          rw [es] at this
          obtain ⟨k, hk, e⟩ := (le1_iff (kc := s) (by omega) (odI M0 m i)).mp this
          have : w = (odI M0 m i).toNatClampNeg := Sum.inl.inj q
          rw [this, e, o_cl k (by omega)]
          omega
        · rcases hres with ⟨_, q⟩ | ⟨_, _, q⟩ | ⟨_, e5, ⟨_, q⟩ | ⟨S3, _, q⟩⟩
          · cases q
          · cases q; omega
          · cases q; omega
          · cases q
      have nw : ¬ r < 0 := by rw [wv, o_lt0 w w60]; exact not_false
      refine ⟨r, M', lp_inr ?_, o', fun w0 q => by cases q; exact wv, fun S' q => by cases q⟩
      unfold b312_M_firstWrong
      simp (disch := omega) only [e', nw, Option.bind_some, o_le, o_leL, o_leR, o_lt, o_ltL, o_ltR, o_eq, o_eqL, o_eqR, o_cl, o_add, o_addL, o_addR, o_mul, o_mulL, o_mulR, o_sub, o_subR, o_0le, o_lt0, o_ixo, n1_eq, n1_eq', n1_lt, n1_le, n1_ge, n1_gt, n2_eq, n2_eq', n2_lt, n2_le, n2_ge, n2_gt, ↓reduceIte, ite_self, Nat.reduceEqDiff, Nat.reduceAdd, Nat.reduceMul, Nat.reduceSub, Nat.reduceLT, Nat.reduceLeDiff, Nat.not_lt_zero, Nat.zero_le, if_true, if_false, ite_true, ite_false, true_and, and_true, false_and, and_false, true_implies, false_implies, implies_true, not_true_eq_false, not_false_eq_true, eq_self, true_or, or_true, false_or, or_false, and_self, reduceCtorEq, forall_const]
    · obtain ⟨r, M', e', o', c1, c2⟩ := lookM_ok h hsr hm es hs60 etc htc to hi h90 hS (hwt i b2) hr
      obtain ⟨d1, d2⟩ := c2 S' rfl
      obtain ⟨t1, _, _⟩ := look_typed hs60 es hi to hty (hwt i b2) b2 hr
      have w' := look_wt hs60 es hi to hwt hr
      have sr' : MSrc M0 M' := by
        have q := o'.src (Fml_src m)
        exact ⟨fun a h1 h2 => (q.1 a h1 h2).trans (hsr.1 a h1 h2), q.2.1.trans hsr.2.1, q.2.2.trans hsr.2.2⟩
      have h90' : M'.1 90 0 = 2 := by rw [o'.2 90 0 (by unfold Fml Flm Fcm; omega)]; exact h90
      have nl := lowM (s := s) (show m < 24 by omega) (by rw [sr'.1 70 (by omega) (by omega)]; exact es) hs60 d2 (fun j hj => (t1 j (w' j hj)).1)
      obtain ⟨v, M'', e'', o'', f1, f2⟩ := ih N M' S' (by omega) sr' h90' d2 t1 w' hl
      refine ⟨v, M'', ?_, o'.trans o'', f1, f2⟩
      rw [← e'']
      refine lp_inl ?_
      have rn : r < 0 := by rw [d1]; exact m2
      unfold b312_M_firstWrong
      simp (disch := omega) only [e', rn, nl, Option.bind_some, o_le, o_leL, o_leR, o_lt, o_ltL, o_ltR, o_eq, o_eqL, o_eqR, o_cl, o_add, o_addL, o_addR, o_mul, o_mulL, o_mulR, o_sub, o_subR, o_0le, o_lt0, o_ixo, n1_eq, n1_eq', n1_lt, n1_le, n1_ge, n1_gt, n2_eq, n2_eq', n2_lt, n2_le, n2_ge, n2_gt, ↓reduceIte, ite_self, Nat.reduceEqDiff, Nat.reduceAdd, Nat.reduceMul, Nat.reduceSub, Nat.reduceLT, Nat.reduceLeDiff, Nat.not_lt_zero, Nat.zero_le, if_true, if_false, ite_true, ite_false, true_and, and_true, false_and, and_false, true_implies, false_implies, implies_true, not_true_eq_false, not_false_eq_true, eq_self, true_or, or_true, false_or, or_false, and_self, reduceCtorEq, forall_const]
