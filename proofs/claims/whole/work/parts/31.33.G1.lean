/-! G1 -/
/-- the handlers that cover an instruction, one after the other -/
def handF (fr tt hd : Nat → Nat) (i : Nat) (l : Nat → Int32) : Nat → Nat → FS → Nat ⊕ FS
  | 0, _, S => .inr S
  | n + 1, t, S => if fr t ≤ i ∧ i < tt t then (match come S (hd t) (fun _ => 2) 1 l with
      | none => .inl (hd t)
      | some S' => handF fr tt hd i l n (t + 1) S') else handF fr tt hd i l n (t + 1) S
/-- traps that fit -/
def TrO (M : MS) (m s tc : Nat) (fr tt hd : Nat → Nat) : Prop := ∀ t, t < tc → M.1 74 (24 * m + 4 * t) = Int32.ofNat (fr t) ∧ M.1 74 (24 * m + 4 * t + 1) = Int32.ofNat (tt t) ∧ M.1 74 (24 * m + 4 * t + 2) = Int32.ofNat (hd t) ∧ fr t < tt t ∧ tt t ≤ s ∧ hd t < s
def Fal (b : Nat) : Prop := 22 ≤ b ∧ b ≤ 29
set_option maxRecDepth 20000 in
set_option maxHeartbeats 4000000 in
theorem handX_skip {X : XS} {M : MS} {T : Nat → Nat} {kc rc m a i tc : Nat} (h : RSc X M T kc rc) (hm : m < rc) (hp : X.2.1 2 m = some a) (etc : M.1 73 m = Int32.ofNat tc) (htc : tc ≤ 6) (hw : ¬ X.1 22 10 = -1) : ∀ n t N, t + n = tc → n < N → lp (b2_Flow_comeToHandlers a (Int32.ofNat i)) N (Int32.ofNat t, X) = some (Int32.ofNat tc, X) := by
  obtain ⟨a', f, ra, rv⟩ := h.2.2.2.2.2 m hm
  have ea : a' = a := by have := ra.1; rw [hp] at this; exact (Option.some.inj this).symm
  subst ea
  have v8 : X.1 a' 9 = Int32.ofNat tc := rv.2.2.2.2.2.2.2.1.trans etc
  intro n
  induction n with
  | zero =>
    intro t N ht hN
    obtain ⟨N, rfl⟩ : ∃ K, N = K + 1 := ⟨N - 1, by omega⟩
    have : t = tc := by omega
    subst this
    refine lp_inr ?_
    unfold b2_Flow_comeToHandlers
    simp (disch := omega) only [ra.2.1, v8, Nat.le_refl, o_le, o_leL, o_leR, o_lt, o_ltL, o_ltR, o_eq, o_eqL, o_eqR, o_cl, o_add, o_addL, o_addR, o_mul, o_mulL, o_mulR, o_sub, o_subR, o_0le, o_lt0, o_ixo, n1_eq, n1_eq', n1_lt, n1_le, n1_ge, n1_gt, n2_eq, n2_eq', n2_lt, n2_le, n2_ge, n2_gt, ↓reduceIte, ite_self, Nat.reduceEqDiff, Nat.reduceAdd, Nat.reduceMul, Nat.reduceSub, Nat.reduceLT, Nat.reduceLeDiff, Nat.not_lt_zero, Nat.zero_le, if_true, if_false, ite_true, ite_false, true_and, and_true, false_and, and_false, true_implies, false_implies, implies_true, not_true_eq_false, not_false_eq_true, eq_self, true_or, or_true, false_or, or_false, and_self, reduceCtorEq, forall_const]
  | succ n ih =>
    intro t N ht hN
    obtain ⟨N, rfl⟩ : ∃ K, N = K + 1 := ⟨N - 1, by omega⟩
    rw [← ih (t + 1) N (by omega) (by omega)]
    refine lp_inl ?_
    have q1 : ¬ tc ≤ t := by omega
    have q2 : ¬ 6 ≤ t := by omega
    unfold b2_Flow_comeToHandlers
    simp (disch := omega) only [ra.2.1, v8, q1, q2, hw, o_le, o_leL, o_leR, o_lt, o_ltL, o_ltR, o_eq, o_eqL, o_eqR, o_cl, o_add, o_addL, o_addR, o_mul, o_mulL, o_mulR, o_sub, o_subR, o_0le, o_lt0, o_ixo, n1_eq, n1_eq', n1_lt, n1_le, n1_ge, n1_gt, n2_eq, n2_eq', n2_lt, n2_le, n2_ge, n2_gt, ↓reduceIte, ite_self, Nat.reduceEqDiff, Nat.reduceAdd, Nat.reduceMul, Nat.reduceSub, Nat.reduceLT, Nat.reduceLeDiff, Nat.not_lt_zero, Nat.zero_le, if_true, if_false, ite_true, ite_false, true_and, and_true, false_and, and_false, true_implies, false_implies, implies_true, not_true_eq_false, not_false_eq_true, eq_self, true_or, or_true, false_or, or_false, and_self, reduceCtorEq, forall_const]
set_option maxRecDepth 20000 in
set_option maxHeartbeats 4000000 in
theorem handX_ok {X0 : XS} {M : MS} {T : Nat → Nat} {kc rc m a i s tc : Nat} {fr tt hd : Nat → Nat} {l : Nat → Int32} (h : RSc X0 M T kc rc) (ht : TG T) (hm : m < rc) (hp : X0.2.1 2 m = some a) (etc : M.1 73 m = Int32.ofNat tc) (htc : tc ≤ 6) (hs : s ≤ 60) (hi : i < s) (to : TrO M m s tc fr tt hd) : ∀ n t N X S, t + n = tc → n < N → Only Fal X0 X → FX X S → X.1 22 10 = -1 → (∀ k, k < 12 → X.1 29 k = l k) → ∃ v X', lp (b2_Flow_comeToHandlers a (Int32.ofNat i)) N (Int32.ofNat t, X) = some (v, X') ∧ C9 X X' ∧ ((∃ w, handF fr tt hd i l n t S = .inl w ∧ w < s ∧ X'.1 22 10 = Int32.ofNat w) ∨ ∃ S', handF fr tt hd i l n t S = .inr S' ∧ X'.1 22 10 = -1 ∧ FX X' S') := by
  intro n
  induction n with
  | zero =>
    intro t N X S ht' hN ho hS hw hl
    obtain ⟨N, rfl⟩ : ∃ K, N = K + 1 := ⟨N - 1, by omega⟩
    have hc := Only.rsc h ht ho (by unfold Fal; omega)
    obtain ⟨a', f, ra, rv⟩ := hc.2.2.2.2.2 m hm
    have ea : a' = a := by have := ra.1; rw [ho.1, hp] at this; exact (Option.some.inj this).symm
    subst ea
    have v8 : X.1 a' 9 = Int32.ofNat tc := rv.2.2.2.2.2.2.2.1.trans etc
    have : t = tc := by omega
    subst this
    refine ⟨Int32.ofNat t, X, lp_inr ?_, C9.refl X, Or.inr ⟨S, rfl, hw, hS⟩⟩
    unfold b2_Flow_comeToHandlers
    simp (disch := omega) only [ra.2.1, v8, Nat.le_refl, o_le, o_leL, o_leR, o_lt, o_ltL, o_ltR, o_eq, o_eqL, o_eqR, o_cl, o_add, o_addL, o_addR, o_mul, o_mulL, o_mulR, o_sub, o_subR, o_0le, o_lt0, o_ixo, n1_eq, n1_eq', n1_lt, n1_le, n1_ge, n1_gt, n2_eq, n2_eq', n2_lt, n2_le, n2_ge, n2_gt, ↓reduceIte, ite_self, Nat.reduceEqDiff, Nat.reduceAdd, Nat.reduceMul, Nat.reduceSub, Nat.reduceLT, Nat.reduceLeDiff, Nat.not_lt_zero, Nat.zero_le, if_true, if_false, ite_true, ite_false, true_and, and_true, false_and, and_false, true_implies, false_implies, implies_true, not_true_eq_false, not_false_eq_true, eq_self, true_or, or_true, false_or, or_false, and_self, reduceCtorEq, forall_const]
  | succ n ih =>
    intro t N X S ht' hN ho hS hw hl
    obtain ⟨N, rfl⟩ : ∃ K, N = K + 1 := ⟨N - 1, by omega⟩
    have hc := Only.rsc h ht ho (by unfold Fal; omega)
    obtain ⟨a', f, ra, rv⟩ := hc.2.2.2.2.2 m hm
    have ea : a' = a := by have := ra.1; rw [ho.1, hp] at this; exact (Option.some.inj this).symm
    subst ea
    have v8 : X.1 a' 9 = Int32.ofNat tc := rv.2.2.2.2.2.2.2.1.trans etc
    obtain ⟨s2, v19, v20, v21⟩ := rv.2.2.2.2.2.2.2.2.2.2.2.2.2.2.2
    have es2 : s2 = tc := by rw [v20, o_eq _ _ (by omega) (by omega)] at etc; exact etc
    subst es2
    obtain ⟨u1, u2, u3, u4⟩ := v21 t (by omega)
    obtain ⟨w1, w2, w3, w4, w5, w6⟩ := to t (by omega)
    obtain ⟨g1, g2, g3⟩ := ra.2.2.2.2 10 (by omega) (by omega)
    obtain ⟨h1, h2, h3⟩ := ra.2.2.2.2 11 (by omega) (by omega)
    obtain ⟨i1, i2, i3⟩ := ra.2.2.2.2 12 (by omega) (by omega)
    have l1 := xL_iff.mpr g2
    have l2 := xL_iff.mpr h2
    have l3 := xL_iff.mpr i2
    have q1 : ¬ s2 ≤ t := by omega
    have q2 : ¬ 6 ≤ t := by omega
    have q3 : t < 6 := by omega
    have x1 : X.1 (f 10) t = Int32.ofNat (fr t) := u1.trans w1
    have x2 : X.1 (f 11) t = Int32.ofNat (tt t) := u2.trans w2
    have x3 : X.1 (f 12) t = Int32.ofNat (hd t) := u3.trans w3
    have nn : ¬ (-1 : Int32) = 0 := by decide
    unfold handF
    by_cases c : fr t ≤ i ∧ i < tt t
    case neg =>
      rw [if_neg c]
      obtain ⟨v, X', e, c9, b⟩ := ih (t + 1) N X S (by omega) (by omega) ho hS hw hl
      refine ⟨v, X', ?_, c9, b⟩
      rw [← e]
      refine lp_inl ?_
      unfold b2_Flow_comeToHandlers ocz
      by_cases c1 : i < fr t
      · simp (disch := omega) only [ra.2.1, v8, q1, q2, hw, g1, l1, q3, x1, c1, o_le, o_leL, o_leR, o_lt, o_ltL, o_ltR, o_eq, o_eqL, o_eqR, o_cl, o_add, o_addL, o_addR, o_mul, o_mulL, o_mulR, o_sub, o_subR, o_0le, o_lt0, o_ixo, n1_eq, n1_eq', n1_lt, n1_le, n1_ge, n1_gt, n2_eq, n2_eq', n2_lt, n2_le, n2_ge, n2_gt, ↓reduceIte, ite_self, Nat.reduceEqDiff, Nat.reduceAdd, Nat.reduceMul, Nat.reduceSub, Nat.reduceLT, Nat.reduceLeDiff, Nat.not_lt_zero, Nat.zero_le, if_true, if_false, ite_true, ite_false, true_and, and_true, false_and, and_false, true_implies, false_implies, implies_true, not_true_eq_false, not_false_eq_true, eq_self, true_or, or_true, false_or, or_false, and_self, reduceCtorEq, forall_const]
      · have c2 : tt t ≤ i := by omega
        simp (disch := omega) only [ra.2.1, v8, q1, q2, hw, g1, l1, q3, x1, c1, h1, l2, x2, c2, o_le, o_leL, o_leR, o_lt, o_ltL, o_ltR, o_eq, o_eqL, o_eqR, o_cl, o_add, o_addL, o_addR, o_mul, o_mulL, o_mulR, o_sub, o_subR, o_0le, o_lt0, o_ixo, n1_eq, n1_eq', n1_lt, n1_le, n1_ge, n1_gt, n2_eq, n2_eq', n2_lt, n2_le, n2_ge, n2_gt, ↓reduceIte, ite_self, Nat.reduceEqDiff, Nat.reduceAdd, Nat.reduceMul, Nat.reduceSub, Nat.reduceLT, Nat.reduceLeDiff, Nat.not_lt_zero, Nat.zero_le, if_true, if_false, ite_true, ite_false, true_and, and_true, false_and, and_false, true_implies, false_implies, implies_true, not_true_eq_false, not_false_eq_true, eq_self, true_or, or_true, false_or, or_false, and_self, reduceCtorEq, forall_const]
    rw [if_pos c]
    have c1 : ¬ i < fr t := by omega
    have c2 : ¬ tt t ≤ i := by omega
    obtain ⟨X1, e1, c9, b1⟩ := come_o4 (h := 1) (g := fun _ => 2) (l := l) hS (i := hd t) (by omega) (by omega) (fun k hk => by
      have : k = 0 := by omega
      subst this
      decide) hl
    have e1' : f_Flow_comeTo_o4 (Int32.ofNat (hd t)) 1 X = some X1 := e1
    have ho1 : Only Fal X0 X1 := ho.trans (c9.1.mono (by unfold Fcx Fal; omega))
    have st : b2_Flow_comeToHandlers a' (Int32.ofNat i) (Int32.ofNat t, X) = some (.inl (Int32.ofNat (t + 1), X1)) := by
      unfold b2_Flow_comeToHandlers ocz
      simp (disch := omega) only [ra.2.1, v8, q1, q2, hw, g1, l1, q3, x1, c1, h1, l2, x2, c2, i1, l3, x3, e1', Option.bind_some, o_le, o_leL, o_leR, o_lt, o_ltL, o_ltR, o_eq, o_eqL, o_eqR, o_cl, o_add, o_addL, o_addR, o_mul, o_mulL, o_mulR, o_sub, o_subR, o_0le, o_lt0, o_ixo, n1_eq, n1_eq', n1_lt, n1_le, n1_ge, n1_gt, n2_eq, n2_eq', n2_lt, n2_le, n2_ge, n2_gt, ↓reduceIte, ite_self, Nat.reduceEqDiff, Nat.reduceAdd, Nat.reduceMul, Nat.reduceSub, Nat.reduceLT, Nat.reduceLeDiff, Nat.not_lt_zero, Nat.zero_le, if_true, if_false, ite_true, ite_false, true_and, and_true, false_and, and_false, true_implies, false_implies, implies_true, not_true_eq_false, not_false_eq_true, eq_self, true_or, or_true, false_or, or_false, and_self, reduceCtorEq, forall_const]
    rcases b1 with ⟨n1, n2⟩ | ⟨S', n1, n2, n3⟩
    · rw [n1]
      have hc1 := Only.rsc h ht ho1 (by unfold Fal; omega)
      have sk := handX_skip (i := i) hc1 hm (by rw [ho1.1]; exact hp) etc htc (by rw [n2, n1_eq _ (by omega)]; exact not_false) n (t + 1) N (by omega) (by omega)
      refine ⟨Int32.ofNat s2, X1, ?_, c9, Or.inl ⟨hd t, rfl, w6, n2⟩⟩
      rw [← sk]
      exact lp_inl st
    · rw [n1]
      obtain ⟨v, X', e, c9', b⟩ := ih (t + 1) N X1 S' (by omega) (by omega) ho1 n3 (n2.trans hw) (fun k hk => by rw [c9.1.2 29 (by unfold Fcx; omega)]; exact hl k hk)
      refine ⟨v, X', ?_, c9.trans c9', b⟩
      rw [← e]
      exact lp_inl st
set_option maxRecDepth 20000 in
set_option maxHeartbeats 4000000 in
theorem handM_ok {M0 : MS} {m i s tc : Nat} {fr tt hd : Nat → Nat} {l : Nat → Int32} (hm : m < 24) (etc : M0.1 73 m = Int32.ofNat tc) (htc : tc ≤ 6) (hs : s ≤ 60) (hi : i < s) (to : TrO M0 m s tc fr tt hd) : ∀ n t N M S, t + n = tc → n < N → MSrc M0 M → M.1 90 0 = 2 → FM M m S → (∀ k, k < 12 → M.1 87 k = l k) → ∃ r M', lp (b117_M_lookAt (Int32.ofNat m) (Int32.ofNat i)) N (Int32.ofNat t, M) = some r ∧ MO (Fcm m) M M' ∧ ((∃ w, handF fr tt hd i l n t S = .inl w ∧ w < s ∧ r = .inr (Int32.ofNat w, M')) ∨ ∃ S' v, handF fr tt hd i l n t S = .inr S' ∧ r = .inl (v, M') ∧ FM M' m S') := by
  intro n
  induction n with
  | zero =>
    intro t N M S ht' hN hsr h90 hS hl
    obtain ⟨N, rfl⟩ : ∃ K, N = K + 1 := ⟨N - 1, by omega⟩
    have g73 : M.1 73 m = Int32.ofNat tc := by rw [hsr.1 73 (by omega) (by omega)]; exact etc
    have : t = tc := by omega
    subst this
    refine ⟨.inl (Int32.ofNat t, M), M, lp_inr ?_, MO.refl M, Or.inr ⟨S, _, rfl, rfl, hS⟩⟩
    unfold b117_M_lookAt
    simp (disch := omega) only [hm, g73, Nat.le_refl, o_le, o_leL, o_leR, o_lt, o_ltL, o_ltR, o_eq, o_eqL, o_eqR, o_cl, o_add, o_addL, o_addR, o_mul, o_mulL, o_mulR, o_sub, o_subR, o_0le, o_lt0, o_ixo, n1_eq, n1_eq', n1_lt, n1_le, n1_ge, n1_gt, n2_eq, n2_eq', n2_lt, n2_le, n2_ge, n2_gt, ↓reduceIte, ite_self, Nat.reduceEqDiff, Nat.reduceAdd, Nat.reduceMul, Nat.reduceSub, Nat.reduceLT, Nat.reduceLeDiff, Nat.not_lt_zero, Nat.zero_le, if_true, if_false, ite_true, ite_false, true_and, and_true, false_and, and_false, true_implies, false_implies, implies_true, not_true_eq_false, not_false_eq_true, eq_self, true_or, or_true, false_or, or_false, and_self, reduceCtorEq, forall_const]
  | succ n ih =>
    intro t N M S ht' hN hsr h90 hS hl
    obtain ⟨N, rfl⟩ : ∃ K, N = K + 1 := ⟨N - 1, by omega⟩
    have g73 : M.1 73 m = Int32.ofNat tc := by rw [hsr.1 73 (by omega) (by omega)]; exact etc
    have g74 : M.1 74 = M0.1 74 := hsr.1 74 (by omega) (by omega)
    obtain ⟨w1, w2, w3, w4, w5, w6⟩ := to t (by omega)
    rw [← g74] at w1 w2 w3
    have q1 : ¬ tc ≤ t := by omega
    have z0 : 24 * m + 4 * t < 576 := by omega
    have z1 : 24 * m + 4 * t + 1 < 576 := by omega
    have z2 : 24 * m + 4 * t + 2 < 576 := by omega
    unfold handF
    by_cases c : fr t ≤ i ∧ i < tt t
    case neg =>
      rw [if_neg c]
      obtain ⟨r, M', e, mo, b⟩ := ih (t + 1) N M S (by omega) (by omega) hsr h90 hS hl
      refine ⟨r, M', ?_, mo, b⟩
      rw [← e]
      refine lp_inl ?_
      unfold b117_M_lookAt
      by_cases c1 : i < fr t
      · simp (disch := omega) only [hm, g73, q1, z0, w1, c1, o_le, o_leL, o_leR, o_lt, o_ltL, o_ltR, o_eq, o_eqL, o_eqR, o_cl, o_add, o_addL, o_addR, o_mul, o_mulL, o_mulR, o_sub, o_subR, o_0le, o_lt0, o_ixo, n1_eq, n1_eq', n1_lt, n1_le, n1_ge, n1_gt, n2_eq, n2_eq', n2_lt, n2_le, n2_ge, n2_gt, ↓reduceIte, ite_self, Nat.reduceEqDiff, Nat.reduceAdd, Nat.reduceMul, Nat.reduceSub, Nat.reduceLT, Nat.reduceLeDiff, Nat.not_lt_zero, Nat.zero_le, if_true, if_false, ite_true, ite_false, true_and, and_true, false_and, and_false, true_implies, false_implies, implies_true, not_true_eq_false, not_false_eq_true, eq_self, true_or, or_true, false_or, or_false, and_self, reduceCtorEq, forall_const]
      · have c2 : tt t ≤ i := by omega
        simp (disch := omega) only [hm, g73, q1, z0, z1, w1, w2, c1, c2, o_le, o_leL, o_leR, o_lt, o_ltL, o_ltR, o_eq, o_eqL, o_eqR, o_cl, o_add, o_addL, o_addR, o_mul, o_mulL, o_mulR, o_sub, o_subR, o_0le, o_lt0, o_ixo, n1_eq, n1_eq', n1_lt, n1_le, n1_ge, n1_gt, n2_eq, n2_eq', n2_lt, n2_le, n2_ge, n2_gt, ↓reduceIte, ite_self, Nat.reduceEqDiff, Nat.reduceAdd, Nat.reduceMul, Nat.reduceSub, Nat.reduceLT, Nat.reduceLeDiff, Nat.not_lt_zero, Nat.zero_le, if_true, if_false, ite_true, ite_false, true_and, and_true, false_and, and_false, true_implies, false_implies, implies_true, not_true_eq_false, not_false_eq_true, eq_self, true_or, or_true, false_or, or_false, and_self, reduceCtorEq, forall_const]
    rw [if_pos c]
    have c1 : ¬ i < fr t := by omega
    have c2 : ¬ tt t ≤ i := by omega
    obtain ⟨b, M1, e1, mo1, b1⟩ := comeM_90 (h := 1) (g := fun _ => 2) (l := l) hm hS (i := hd t) (by omega) (by omega) (fun k hk => by
      have : k = 0 := by omega
      subst this
      exact h90) hl
    have e1' : f_M_comeTo_90 (Int32.ofNat m) (Int32.ofNat (hd t)) 1 M = some (b, M1) := e1
    have sr1 : MSrc M M1 := mo1.src (by intro a i h; unfold Fcm at h; omega)
    have w3' : M1.1 74 (24 * m + 4 * t + 2) = Int32.ofNat (hd t) := by rw [sr1.1 74 (by omega) (by omega)]; exact w3
    rcases b1 with ⟨n1, rfl⟩ | ⟨S', n1, rfl, n3⟩
    · rw [n1]
      refine ⟨.inr (Int32.ofNat (hd t), M1), M1, lp_inr ?_, mo1, Or.inl ⟨hd t, rfl, w6, rfl⟩⟩
      unfold b117_M_lookAt
      simp (disch := omega) only [hm, g73, q1, z0, z1, z2, w1, w2, w3, c1, c2, e1', Option.bind_some, w3', o_le, o_leL, o_leR, o_lt, o_ltL, o_ltR, o_eq, o_eqL, o_eqR, o_cl, o_add, o_addL, o_addR, o_mul, o_mulL, o_mulR, o_sub, o_subR, o_0le, o_lt0, o_ixo, n1_eq, n1_eq', n1_lt, n1_le, n1_ge, n1_gt, n2_eq, n2_eq', n2_lt, n2_le, n2_ge, n2_gt, ↓reduceIte, ite_self, Nat.reduceEqDiff, Nat.reduceAdd, Nat.reduceMul, Nat.reduceSub, Nat.reduceLT, Nat.reduceLeDiff, Nat.not_lt_zero, Nat.zero_le, if_true, if_false, ite_true, ite_false, true_and, and_true, false_and, and_false, true_implies, false_implies, implies_true, not_true_eq_false, not_false_eq_true, eq_self, true_or, or_true, false_or, or_false, and_self, reduceCtorEq, forall_const]
    · rw [n1]
      have hsr1 : MSrc M0 M1 := ⟨fun a h1 h2 => (sr1.1 a h1 h2).trans (hsr.1 a h1 h2), sr1.2.1.trans hsr.2.1, sr1.2.2.trans hsr.2.2⟩
      obtain ⟨r, M', e, mo, b⟩ := ih (t + 1) N M1 S' (by omega) (by omega) hsr1 (by rw [mo1.2 90 0 (by unfold Fcm; omega)]; exact h90) n3 (fun k hk => by rw [mo1.2 87 k (by unfold Fcm; omega)]; exact hl k hk)
      refine ⟨r, M', ?_, mo1.trans mo, b⟩
      rw [← e]
      refine lp_inl ?_
      unfold b117_M_lookAt
      simp (disch := omega) only [hm, g73, q1, z0, z1, z2, w1, w2, w3, c1, c2, e1', Option.bind_some, o_le, o_leL, o_leR, o_lt, o_ltL, o_ltR, o_eq, o_eqL, o_eqR, o_cl, o_add, o_addL, o_addR, o_mul, o_mulL, o_mulR, o_sub, o_subR, o_0le, o_lt0, o_ixo, n1_eq, n1_eq', n1_lt, n1_le, n1_ge, n1_gt, n2_eq, n2_eq', n2_lt, n2_le, n2_ge, n2_gt, ↓reduceIte, ite_self, Nat.reduceEqDiff, Nat.reduceAdd, Nat.reduceMul, Nat.reduceSub, Nat.reduceLT, Nat.reduceLeDiff, Nat.not_lt_zero, Nat.zero_le, if_true, if_false, ite_true, ite_false, true_and, and_true, false_and, and_false, true_implies, false_implies, implies_true, not_true_eq_false, not_false_eq_true, eq_self, true_or, or_true, false_or, or_false, and_self, reduceCtorEq, forall_const]
