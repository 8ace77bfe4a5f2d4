/-! F2 -/
def argK (M : MS) (r k : Nat) : Int32 := if ((M.1 67 r : Int32) >>> ((Int32.ofNat k : Int32) &&& 31)) &&& 1 = 1 then 2 else 1
def argsK (M : MS) (r : Nat) : Nat → List Int32
  | 0 => []
  | k + 1 => argK M r k :: argsK M r k
def callK (M : MS) (r : Nat) : List Int32 := if M.1 65 r = -2 then argsK M r (M.1 66 r).toNatClampNeg else argsK M r (M.1 66 r).toNatClampNeg ++ [2]
def anyM (M : MS) (rc n : Nat) : Option Nat := (List.range rc).find? (fun m => decide (M.1 65 m = Int32.ofNat n))
def tkT : List (List Int32) := [[], [], [], [], [1, 1], [1, 1], [1, 1], [1, 1], [1, 1], [1], [1, 1], [1, 1], [1, 1], [1, 1], [1, 1], [1, 1], [], [0], [], [], [1], [1], [1], [2], [2, 2], [1, 1], [], [2], [1, 2], [2], [2, 2], [1], [1, 2], [1, 1, 2], [2], [1], [1, 2], [2, 1, 2], [], [], [], [1], [2], [2], [2], [], [1], [], [2], [2], [2], [], [], [1], [], [2]]
def tkL (op : Nat) : List Int32 := tkT.getD op []
def ptL (op : Nat) : Int32 := oT 3 op
def putT (v : Int32) (g : Nat → Int32) (h : Nat) (l : Nat → Int32) : Option ((Nat → Int32) × Nat × (Nat → Int32)) := if v = 0 then some (g, h, l) else (pushK v g h).map (fun q => (q.1, q.2, l))
def callT (M : MS) (r : Nat) (g : Nat → Int32) (h : Nat) (l : Nat → Int32) : Option ((Nat → Int32) × Nat × (Nat → Int32)) := (popsK g (callK M r) h).bind (fun h' => putT (M.1 68 r) g h' l)
/-- what an instruction does to the kinds -/
def Tr (M : MS) (rc op : Nat) (od : Int32) (g : Nat → Int32) (h : Nat) (l : Nat → Int32) : Option ((Nat → Int32) × Nat × (Nat → Int32)) :=
  if op = 2 then (if l od.toNatClampNeg = 0 then none else (pushK (l od.toNatClampNeg) g h).map (fun q => (q.1, q.2, l)))
  else if op = 3 then (popK 0 g h).map (fun h' => (g, h', upd l od.toNatClampNeg (g h')))
  else if op = 16 then (if 0 < h then (pushK (g (h - 1)) g h).map (fun q => (q.1, q.2, l)) else none)
  else if op = 18 then (if 2 ≤ h then some (upd (upd g (h - 1) (g (h - 2))) (h - 2) (g (h - 1)), h, l) else none)
  else if op = 38 then callT M od.toNatClampNeg g h l
  else if op = 39 then (anyM M rc od.toNatClampNeg).bind (fun r => callT M r g h l)
  else (popsK g (tkL op) h).bind (fun h' => putT (ptL op) g h' l)
def D10 : Int32 → List Int32 → Prop
  | v, [] => v ≤ 0
  | v, d :: r => ¬ v ≤ 0 ∧ v - v / 10 * 10 = d ∧ D10 (v / 10) r
def D16 : Int32 → List Int32 → Prop
  | v, [] => v ≤ 0
  | v, d :: r => ¬ v ≤ 0 ∧ ((v &&& 15 = 3 ∧ d = 0) ∨ (¬ v &&& 15 = 3 ∧ ¬ d = 0 ∧ d = v &&& 15)) ∧ D16 ((v : Int32) >>> ((4 : Int32) &&& 31)) r
def d10b : Int32 → List Int32 → Bool
  | v, [] => decide (v ≤ 0)
  | v, d :: r => decide (¬ v ≤ 0 ∧ v - v / 10 * 10 = d) && d10b (v / 10) r
def d16b : Int32 → List Int32 → Bool
  | v, [] => decide (v ≤ 0)
  | v, d :: r => decide (¬ v ≤ 0 ∧ ((v &&& 15 = 3 ∧ d = 0) ∨ (¬ v &&& 15 = 3 ∧ ¬ d = 0 ∧ d = v &&& 15))) && d16b ((v : Int32) >>> ((4 : Int32) &&& 31)) r
set_option maxRecDepth 20000 in
set_option maxHeartbeats 4000000 in
theorem d10_of : ∀ (l : List Int32) (v : Int32), d10b v l = true → D10 v l
  | [], v, h => by
    have h' : decide (v ≤ 0) = true := h
    have h2 : v ≤ 0 := of_decide_eq_true h'
    exact h2
  | d :: r, v, h => by
    have h' : (decide (¬ v ≤ 0 ∧ v - v / 10 * 10 = d) && d10b (v / 10) r) = true := h
    rw [Bool.and_eq_true] at h'
    have q := of_decide_eq_true h'.1
    exact ⟨q.1, q.2, d10_of r _ h'.2⟩
set_option maxRecDepth 20000 in
set_option maxHeartbeats 4000000 in
theorem d16_of : ∀ (l : List Int32) (v : Int32), d16b v l = true → D16 v l
  | [], v, h => by
    have h' : decide (v ≤ 0) = true := h
    have h2 : v ≤ 0 := of_decide_eq_true h'
    exact h2
  | d :: r, v, h => by
    have h' : (decide (¬ v ≤ 0 ∧ ((v &&& 15 = 3 ∧ d = 0) ∨ (¬ v &&& 15 = 3 ∧ ¬ d = 0 ∧ d = v &&& 15))) && d16b ((v : Int32) >>> ((4 : Int32) &&& 31)) r) = true := h
    rw [Bool.and_eq_true] at h'
    have q := of_decide_eq_true h'.1
    exact ⟨q.1, q.2, d16_of r _ h'.2⟩
set_option maxRecDepth 20000 in
set_option maxHeartbeats 4000000 in
theorem tk10 : ∀ op, op < 56 → op ≠ 17 → D10 (oT 2 op) (tkL op) := by
  have : ∀ op, op < 56 → op ≠ 17 → d10b (oT 2 op) (tkL op) = true := by decide +kernel
  intro op h1 h2
  exact d10_of _ _ (this op h1 h2)
set_option maxRecDepth 20000 in
set_option maxHeartbeats 4000000 in
theorem tk16 : ∀ op, op < 56 → D16 (oT 5 op) (tkL op) := by
  have : ∀ op, op < 56 → d16b (oT 5 op) (tkL op) = true := by decide +kernel
  intro op h1
  exact d16_of _ _ (this op h1)
theorem pt6 : ∀ op, op < 56 → oT 6 op = ptL op := by decide +kernel
theorem pt012 : ∀ op, op < 56 → ptL op = 0 ∨ ptL op = 1 ∨ ptL op = 2 := by decide +kernel
set_option maxRecDepth 20000 in
set_option maxHeartbeats 4000000 in
theorem anyM_some {M : MS} {rc n m : Nat} (h : anyM M rc n = some m) : m < rc ∧ M.1 65 m = Int32.ofNat n ∧ ∀ j, j < m → ¬ M.1 65 j = Int32.ofNat n := by
  unfold anyM at h
  rw [List.find?_range_eq_some] at h
  obtain ⟨h1, h2, h3⟩ := h
  refine ⟨List.mem_range.mp h2, of_decide_eq_true h1, ?_⟩
  intro j hj hh
  have q := h3 j hj
  simp [hh] at q
set_option maxRecDepth 20000 in
set_option maxHeartbeats 4000000 in
theorem anyM_none {M : MS} {rc n : Nat} (h : anyM M rc n = none) : ∀ j, j < rc → ¬ M.1 65 j = Int32.ofNat n := by
  unfold anyM at h
  intro j hj hh
  have q := List.find?_eq_none.mp h j (List.mem_range.mpr hj)
  simp [hh] at q
set_option maxRecDepth 20000 in
set_option maxHeartbeats 4000000 in
theorem anyX {X : XS} {M : MS} {kc rc n : Nat} (hN : RSn X M kc rc) (hn : n < 8) : f_Source_routineOfName (Int32.ofNat n) X = enc (-1) (anyM M rc n) := by
  rw [ofName_named hn]
  rcases hN.2.1 n hn with ⟨h1, h2⟩ | ⟨k, h1, h2, h3, h4⟩
  · cases e : anyM M rc n with
    | none => exact h1
    | some m =>
      have q := anyM_some e
      exact absurd q.2.1 (h2 m q.1)
  · cases e : anyM M rc n with
    | none => exact absurd h3 (anyM_none e k h1)
    | some m =>
      have q := anyM_some e
      have : m = k := by
        rcases Nat.lt_trichotomy m k with h | h | h
        · exact absurd q.2.1 (h4 m h)
        · exact h
        · exact absurd h3 (q.2.2 k h)
      rw [this]
      exact h2
set_option maxRecDepth 20000 in
set_option maxHeartbeats 4000000 in
theorem anyOf_ok {M : MS} {rc n : Nat} (hr : rc ≤ 24) (e2 : M.1 60 15 = Int32.ofNat rc) : f_M_anyOf (Int32.ofNat n) M = some (enc (-2) (anyM M rc n)) := by
  have w : Wo (lp (b2_M_anyOf (Int32.ofNat n) M) 10000 (0 : Int32)) (fun r => r = enc (-2) (anyM M rc n)) := by
    refine W_lp (fun s => ∃ k, k ≤ rc ∧ s = Int32.ofNat k ∧ ∀ j, j < k → ¬ M.1 65 j = Int32.ofNat n) (fun s => rc - s.toNatClampNeg) ?_ 10000 _ ⟨0, Nat.zero_le _, rfl, fun j hj => absurd hj (Nat.not_lt_zero j)⟩ (by show rc - 0 < 10000; omega)
    intro s ⟨k, hk, es, hj⟩
    subst es
    unfold b2_M_anyOf
    by_cases hl : k < rc
    · have q : ¬ rc ≤ k := by omega
      have q2 : k < 24 := by omega
      by_cases c2 : M.1 65 k = Int32.ofNat n
      · simp (disch := omega) only [W_some, W_none, W_bind, W_ite, W_ocz, W_lt, e2, q, q2, c2, o_le, o_leL, o_leR, o_lt, o_ltL, o_ltR, o_eq, o_eqL, o_eqR, o_cl, o_add, o_addL, o_addR, o_mul, o_mulL, o_mulR, o_sub, o_subR, o_0le, o_lt0, o_ixo, n1_eq, n1_eq', n1_lt, n1_le, n1_ge, n1_gt, n2_eq, n2_eq', n2_lt, n2_le, n2_ge, n2_gt, ↓reduceIte, ite_self, Nat.reduceEqDiff, Nat.reduceAdd, Nat.reduceMul, Nat.reduceSub, Nat.reduceLT, Nat.reduceLeDiff, Nat.not_lt_zero, Nat.zero_le, if_true, if_false, ite_true, ite_false, true_and, and_true, false_and, and_false, true_implies, false_implies, implies_true, not_true_eq_false, not_false_eq_true, eq_self, true_or, or_true, false_or, or_false, and_self, reduceCtorEq, forall_const]
        cases eo : anyM M rc n with
        | none => exact absurd c2 (anyM_none eo k hl)
        | some m =>
          have z := anyM_some eo
          have : m = k := by
            rcases Nat.lt_trichotomy m k with h | h | h
            · exact absurd z.2.1 (hj m h)
            · exact h
            · exact absurd c2 (z.2.2 k h)
          rw [this]
          rfl
      · simp (disch := omega) only [W_some, W_none, W_bind, W_ite, W_ocz, W_lt, e2, q, q2, c2, o_le, o_leL, o_leR, o_lt, o_ltL, o_ltR, o_eq, o_eqL, o_eqR, o_cl, o_add, o_addL, o_addR, o_mul, o_mulL, o_mulR, o_sub, o_subR, o_0le, o_lt0, o_ixo, n1_eq, n1_eq', n1_lt, n1_le, n1_ge, n1_gt, n2_eq, n2_eq', n2_lt, n2_le, n2_ge, n2_gt, ↓reduceIte, ite_self, Nat.reduceEqDiff, Nat.reduceAdd, Nat.reduceMul, Nat.reduceSub, Nat.reduceLT, Nat.reduceLeDiff, Nat.not_lt_zero, Nat.zero_le, if_true, if_false, ite_true, ite_false, true_and, and_true, false_and, and_false, true_implies, false_implies, implies_true, not_true_eq_false, not_false_eq_true, eq_self, true_or, or_true, false_or, or_false, and_self, reduceCtorEq, forall_const]
        refine ⟨⟨k + 1, by omega, rfl, ?_⟩, by omega⟩
        intro j hj' hh
        by_cases ej : j = k
        · subst ej; exact c2 hh
        · exact hj j (by omega) hh
    · have ek : k = rc := by omega
      subst ek
      simp (disch := omega) only [W_some, W_none, W_bind, W_ite, W_ocz, W_lt, e2, Nat.le_refl, o_le, o_leL, o_leR, o_lt, o_ltL, o_ltR, o_eq, o_eqL, o_eqR, o_cl, o_add, o_addL, o_addR, o_mul, o_mulL, o_mulR, o_sub, o_subR, o_0le, o_lt0, o_ixo, n1_eq, n1_eq', n1_lt, n1_le, n1_ge, n1_gt, n2_eq, n2_eq', n2_lt, n2_le, n2_ge, n2_gt, ↓reduceIte, ite_self, Nat.reduceEqDiff, Nat.reduceAdd, Nat.reduceMul, Nat.reduceSub, Nat.reduceLT, Nat.reduceLeDiff, Nat.not_lt_zero, Nat.zero_le, if_true, if_false, ite_true, ite_false, true_and, and_true, false_and, and_false, true_implies, false_implies, implies_true, not_true_eq_false, not_false_eq_true, eq_self, true_or, or_true, false_or, or_false, and_self, reduceCtorEq, forall_const]
      cases eo : anyM M k n with
      | none => rfl
      | some m =>
        have z := anyM_some eo
        exact absurd z.2.1 (hj m z.1)
  obtain ⟨r, e, hr'⟩ := w
  unfold f_M_anyOf
  rw [e, hr']
set_option maxRecDepth 20000 in
set_option maxHeartbeats 4000000 in
/-- pops of the reference, by digits -/
theorem popsM_bad : ∀ (l : List Int32) (v : Int32) (M : MS) (N : Nat), D10 v l → Bad M → l.length < N → ∃ v' M', lp b242_M_act N (v, M) = some (v', M') ∧ MO Flm M M' ∧ Bad M'
  | [], v, M, N, hd, hb, hN => by
    obtain ⟨N, rfl⟩ : ∃ K, N = K + 1 := ⟨N - 1, by omega⟩
    refine ⟨v, M, lp_inr ?_, MO.refl M, hb⟩
    unfold b242_M_act
    have hd' : v ≤ 0 := hd
    simp (disch := omega) only [hd', o_le, o_leL, o_leR, o_lt, o_ltL, o_ltR, o_eq, o_eqL, o_eqR, o_cl, o_add, o_addL, o_addR, o_mul, o_mulL, o_mulR, o_sub, o_subR, o_0le, o_lt0, o_ixo, n1_eq, n1_eq', n1_lt, n1_le, n1_ge, n1_gt, n2_eq, n2_eq', n2_lt, n2_le, n2_ge, n2_gt, ↓reduceIte, ite_self, Nat.reduceEqDiff, Nat.reduceAdd, Nat.reduceMul, Nat.reduceSub, Nat.reduceLT, Nat.reduceLeDiff, Nat.not_lt_zero, Nat.zero_le, if_true, if_false, ite_true, ite_false, true_and, and_true, false_and, and_false, true_implies, false_implies, implies_true, not_true_eq_false, not_false_eq_true, eq_self, true_or, or_true, false_or, or_false, and_self, reduceCtorEq, forall_const]
  | d :: r, v, M, N, hd, hb, hN => by
    obtain ⟨N, rfl⟩ : ∃ K, N = K + 1 := ⟨N - 1, by omega⟩
    obtain ⟨d1, d2, d3⟩ := hd
    obtain ⟨q, M1, e1, o1, b1⟩ := pop_bad hb d
    have hl : r.length < N := by
      have : (d :: r).length = r.length + 1 := rfl
      omega
    obtain ⟨v', M', e2, o2, b2⟩ := popsM_bad r (v / 10) M1 N d3 b1 hl
    refine ⟨v', M', ?_, o1.trans o2, b2⟩
    rw [← e2]
    refine lp_inl ?_
    unfold b242_M_act
    simp (disch := omega) only [d1, d2, e1, Option.bind_some, o_le, o_leL, o_leR, o_lt, o_ltL, o_ltR, o_eq, o_eqL, o_eqR, o_cl, o_add, o_addL, o_addR, o_mul, o_mulL, o_mulR, o_sub, o_subR, o_0le, o_lt0, o_ixo, n1_eq, n1_eq', n1_lt, n1_le, n1_ge, n1_gt, n2_eq, n2_eq', n2_lt, n2_le, n2_ge, n2_gt, ↓reduceIte, ite_self, Nat.reduceEqDiff, Nat.reduceAdd, Nat.reduceMul, Nat.reduceSub, Nat.reduceLT, Nat.reduceLeDiff, Nat.not_lt_zero, Nat.zero_le, if_true, if_false, ite_true, ite_false, true_and, and_true, false_and, and_false, true_implies, false_implies, implies_true, not_true_eq_false, not_false_eq_true, eq_self, true_or, or_true, false_or, or_false, and_self, reduceCtorEq, forall_const]
set_option maxRecDepth 20000 in
set_option maxHeartbeats 4000000 in
theorem popsM_ok {g lo : Nat → Int32} : ∀ (l : List Int32) (v : Int32) (M : MS) (h N : Nat), D10 v l → AM M g h lo → M.1 60 32 = 0 → l.length < N → ∃ v' M', lp b242_M_act N (v, M) = some (v', M') ∧ MO Flm M M' ∧ ((popsK g l h = none ∧ Bad M') ∨ (∃ h', popsK g l h = some h' ∧ AM M' g h' lo ∧ M'.1 60 32 = 0))
  | [], v, M, h, N, hd, ha, hw, hN => by
    obtain ⟨N, rfl⟩ : ∃ K, N = K + 1 := ⟨N - 1, by omega⟩
    refine ⟨v, M, lp_inr ?_, MO.refl M, Or.inr ⟨h, rfl, ha, hw⟩⟩
    unfold b242_M_act
    have hd' : v ≤ 0 := hd
    simp (disch := omega) only [hd', o_le, o_leL, o_leR, o_lt, o_ltL, o_ltR, o_eq, o_eqL, o_eqR, o_cl, o_add, o_addL, o_addR, o_mul, o_mulL, o_mulR, o_sub, o_subR, o_0le, o_lt0, o_ixo, n1_eq, n1_eq', n1_lt, n1_le, n1_ge, n1_gt, n2_eq, n2_eq', n2_lt, n2_le, n2_ge, n2_gt, ↓reduceIte, ite_self, Nat.reduceEqDiff, Nat.reduceAdd, Nat.reduceMul, Nat.reduceSub, Nat.reduceLT, Nat.reduceLeDiff, Nat.not_lt_zero, Nat.zero_le, if_true, if_false, ite_true, ite_false, true_and, and_true, false_and, and_false, true_implies, false_implies, implies_true, not_true_eq_false, not_false_eq_true, eq_self, true_or, or_true, false_or, or_false, and_self, reduceCtorEq, forall_const]
  | d :: r, v, M, h, N, hd, ha, hw, hN => by
    obtain ⟨N, rfl⟩ : ∃ K, N = K + 1 := ⟨N - 1, by omega⟩
    obtain ⟨d1, d2, d3⟩ := hd
    obtain ⟨q, M1, e1, o1, b1⟩ := pop_ok ha hw d
    have hl : r.length < N := by
      have : (d :: r).length = r.length + 1 := rfl
      omega
    have st : ∀ x, lp b242_M_act N (v / 10, M1) = some x → lp b242_M_act (N + 1) (v, M) = some x := by
      intro x hx
      rw [← hx]
      refine lp_inl ?_
      unfold b242_M_act
      simp (disch := omega) only [d1, d2, e1, Option.bind_some, o_le, o_leL, o_leR, o_lt, o_ltL, o_ltR, o_eq, o_eqL, o_eqR, o_cl, o_add, o_addL, o_addR, o_mul, o_mulL, o_mulR, o_sub, o_subR, o_0le, o_lt0, o_ixo, n1_eq, n1_eq', n1_lt, n1_le, n1_ge, n1_gt, n2_eq, n2_eq', n2_lt, n2_le, n2_ge, n2_gt, ↓reduceIte, ite_self, Nat.reduceEqDiff, Nat.reduceAdd, Nat.reduceMul, Nat.reduceSub, Nat.reduceLT, Nat.reduceLeDiff, Nat.not_lt_zero, Nat.zero_le, if_true, if_false, ite_true, ite_false, true_and, and_true, false_and, and_false, true_implies, false_implies, implies_true, not_true_eq_false, not_false_eq_true, eq_self, true_or, or_true, false_or, or_false, and_self, reduceCtorEq, forall_const]
    unfold popsK
    rcases b1 with ⟨n1, n2⟩ | ⟨n1, n2, n3, n4, n5⟩
    · obtain ⟨v', M', e2, o2, b2⟩ := popsM_bad r (v / 10) M1 N d3 n2 hl
      exact ⟨v', M', st _ e2, o1.trans o2, Or.inl ⟨by rw [n1], b2⟩⟩
    · obtain ⟨v', M', e2, o2, b2⟩ := popsM_ok r (v / 10) M1 (h - 1) N d3 n4 n5 hl
      refine ⟨v', M', st _ e2, o1.trans o2, ?_⟩
      rw [n1]
      exact b2
set_option maxRecDepth 20000 in
set_option maxHeartbeats 4000000 in
theorem popsX_ok {g lo : Nat → Int32} : ∀ (l : List Int32) (v : Int32) (X : XS) (h N : Nat), D16 v l → AX X g h lo → l.length < N → ∃ s X', lp b18_Flow_applyFixed N (v, X) = some s ∧ H9 X X' ∧ ((popsK g l h = none ∧ s = .inr (false, X')) ∨ (∃ h' v', popsK g l h = some h' ∧ s = .inl (v', X') ∧ AX X' g h' lo))
  | [], v, X, h, N, hd, ha, hN => by
    obtain ⟨N, rfl⟩ : ∃ K, N = K + 1 := ⟨N - 1, by omega⟩
    refine ⟨.inl (v, X), X, lp_inr ?_, H9.refl X, Or.inr ⟨h, v, rfl, rfl, ha⟩⟩
    unfold b18_Flow_applyFixed
    have hd' : v ≤ 0 := hd
    simp (disch := omega) only [hd', o_le, o_leL, o_leR, o_lt, o_ltL, o_ltR, o_eq, o_eqL, o_eqR, o_cl, o_add, o_addL, o_addR, o_mul, o_mulL, o_mulR, o_sub, o_subR, o_0le, o_lt0, o_ixo, n1_eq, n1_eq', n1_lt, n1_le, n1_ge, n1_gt, n2_eq, n2_eq', n2_lt, n2_le, n2_ge, n2_gt, ↓reduceIte, ite_self, Nat.reduceEqDiff, Nat.reduceAdd, Nat.reduceMul, Nat.reduceSub, Nat.reduceLT, Nat.reduceLeDiff, Nat.not_lt_zero, Nat.zero_le, if_true, if_false, ite_true, ite_false, true_and, and_true, false_and, and_false, true_implies, false_implies, implies_true, not_true_eq_false, not_false_eq_true, eq_self, true_or, or_true, false_or, or_false, and_self, reduceCtorEq, forall_const]
  | d :: r, v, X, h, N, hd, ha, hN => by
    obtain ⟨N, rfl⟩ : ∃ K, N = K + 1 := ⟨N - 1, by omega⟩
    obtain ⟨d1, d2, d3⟩ := hd
    obtain ⟨b, X1, e1, o1, b1⟩ := take_ok ha d (v &&& 15) d2
    have hl : r.length < N := by
      have : (d :: r).length = r.length + 1 := rfl
      omega
    unfold popsK
    rcases b1 with ⟨rfl, n2⟩ | ⟨rfl, n2, n3, n4⟩
    · refine ⟨.inr (false, X1), X1, lp_inr ?_, o1, Or.inl ⟨by rw [n2], rfl⟩⟩
      unfold b18_Flow_applyFixed
      simp (disch := omega) only [d1, e1, Option.bind_some, o_le, o_leL, o_leR, o_lt, o_ltL, o_ltR, o_eq, o_eqL, o_eqR, o_cl, o_add, o_addL, o_addR, o_mul, o_mulL, o_mulR, o_sub, o_subR, o_0le, o_lt0, o_ixo, n1_eq, n1_eq', n1_lt, n1_le, n1_ge, n1_gt, n2_eq, n2_eq', n2_lt, n2_le, n2_ge, n2_gt, ↓reduceIte, ite_self, Nat.reduceEqDiff, Nat.reduceAdd, Nat.reduceMul, Nat.reduceSub, Nat.reduceLT, Nat.reduceLeDiff, Nat.not_lt_zero, Nat.zero_le, if_true, if_false, ite_true, ite_false, true_and, and_true, false_and, and_false, true_implies, false_implies, implies_true, not_true_eq_false, not_false_eq_true, eq_self, true_or, or_true, false_or, or_false, and_self, reduceCtorEq, forall_const]
    · obtain ⟨s, X', e2, o2, b2⟩ := popsX_ok r _ X1 (h - 1) N d3 n4 hl
      refine ⟨s, X', ?_, o1.trans o2, ?_⟩
      · rw [← e2]
        refine lp_inl ?_
        unfold b18_Flow_applyFixed
        simp (disch := omega) only [d1, e1, Option.bind_some, o_le, o_leL, o_leR, o_lt, o_ltL, o_ltR, o_eq, o_eqL, o_eqR, o_cl, o_add, o_addL, o_addR, o_mul, o_mulL, o_mulR, o_sub, o_subR, o_0le, o_lt0, o_ixo, n1_eq, n1_eq', n1_lt, n1_le, n1_ge, n1_gt, n2_eq, n2_eq', n2_lt, n2_le, n2_ge, n2_gt, ↓reduceIte, ite_self, Nat.reduceEqDiff, Nat.reduceAdd, Nat.reduceMul, Nat.reduceSub, Nat.reduceLT, Nat.reduceLeDiff, Nat.not_lt_zero, Nat.zero_le, if_true, if_false, ite_true, ite_false, true_and, and_true, false_and, and_false, true_implies, false_implies, implies_true, not_true_eq_false, not_false_eq_true, eq_self, true_or, or_true, false_or, or_false, and_self, reduceCtorEq, forall_const]
      · rw [n2]
        exact b2
