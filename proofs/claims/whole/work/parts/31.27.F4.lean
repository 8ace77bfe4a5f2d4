/-! F4 -/
/-- an operand that the instruction can have -/
def Pos (M : MS) (kc rc m op : Nat) (od : Int32) : Prop :=
  (op = 1 → -32768 ≤ od ∧ od ≤ 32767) ∧ (op = 2 ∨ op = 3 → 0 ≤ od ∧ od ≤ M.1 69 m - 1) ∧ (19 ≤ op ∧ op ≤ 25 → 0 ≤ od ∧ od ≤ M.1 70 m - 1) ∧ (op = 26 ∨ op = 44 → ∃ c, c < kc ∧ od = Int32.ofNat c) ∧
  (op = 27 ∨ op = 28 → ∃ c, c < kc ∧ 0 ≤ od ∧ od / 8 = Int32.ofNat c ∧ od - od / 8 * 8 < M.1 62 c) ∧ (op = 29 ∨ op = 30 → ∃ c, c < kc ∧ 0 ≤ od ∧ od / 8 = Int32.ofNat c ∧ od - od / 8 * 8 < M.1 63 c) ∧
  (op = 38 → ∃ r, r < rc ∧ od = Int32.ofNat r ∧ M.1 65 r = -2) ∧ (op = 39 → ∃ n, n < 8 ∧ od = Int32.ofNat n ∧ ∃ r, anyM M rc n = some r) ∧ (40 ≤ op ∧ op ≤ 42 → M.1 68 m = Int32.ofNat (op - 40)) ∧
  (op = 48 → ∃ r, anyM M rc 0 = some r ∧ M.1 66 r = 0) ∧ (52 ≤ op ∧ op ≤ 55 → 0 ≤ od ∧ od ≤ 7)
set_option maxRecDepth 20000 in
set_option maxHeartbeats 4000000 in
theorem apply_ok {X : XS} {M : MS} {T : Nat → Nat} {kc rc m op : Nat} {od : Int32} {g lo : Nat → Int32} {hh : Nat} (h : RSc X M T kc rc) (ht : TG T) (hm : m < rc) (hop : op < 56) (hpos : Pos M kc rc m op od) (ha : AX X g hh lo) : ∃ b X', f_Flow_apply (Int32.ofNat op) od X = some (b, X') ∧ H9 X X' ∧ ((b = false ∧ Tr M rc op od g hh lo = none) ∨ (b = true ∧ ∃ g' h' l', Tr M rc op od g hh lo = some (g', h', l') ∧ AX X' g' h' l')) := by
  have hr24 := h.2.1
  obtain ⟨am, fm', ram, rvm⟩ := h.2.2.2.2.2 m hm
  have l12 : M.1 69 m ≤ 12 := rvm.2.2.2.2.2.2.2.2.2.2.2.2.2.1
  obtain ⟨a1, a2, a3, a4⟩ := ha
  have ha : AX X g hh lo := ⟨a1, a2, a3, a4⟩
  have odl : op = 2 ∨ op = 3 → ∃ k, k < 12 ∧ od = Int32.ofNat k := by
    intro q
    obtain ⟨p1, p2⟩ := hpos.2.1 q
    have p3 : od ≤ 11 := by
      have := Int32.le_iff_toInt_le.mp l12
      have p2' := Int32.le_iff_toInt_le.mp p2
      have h0 : (0 : Int) ≤ od.toInt := Int32.le_iff_toInt_le.mp p1
      rw [Int32.le_iff_toInt_le]
      by_cases z : (M.1 69 m) ≤ 0
      · exfalso
        have := rvm.2.2.2.2.2.2.2.2.2.2.2.2.1
        have l0 : M.1 69 m = 0 := by
          have lb : (0 : Int32) ≤ M.1 69 m := by
            refine Int32.le_trans ?_ this
            have q4 := rvm.2.2.2.2.2.2.2.2.2.1
            obtain ⟨n, hn, en⟩ := toNle (n := 4) (by omega) q4.1 q4.2
            rw [en]
            split
            · simp (disch := omega) only [o_le, o_leL, o_leR, o_lt, o_ltL, o_ltR, o_eq, o_eqL, o_eqR, o_cl, o_add, o_addL, o_addR, o_mul, o_mulL, o_mulR, o_sub, o_subR, o_0le, o_lt0, o_ixo, n1_eq, n1_eq', n1_lt, n1_le, n1_ge, n1_gt, n2_eq, n2_eq', n2_lt, n2_le, n2_ge, n2_gt, ↓reduceIte, ite_self, Nat.reduceEqDiff, Nat.reduceAdd, Nat.reduceMul, Nat.reduceSub, Nat.reduceLT, Nat.reduceLeDiff, Nat.not_lt_zero, Nat.zero_le, if_true, if_false, ite_true, ite_false, true_and, and_true, false_and, and_false, true_implies, false_implies, implies_true, not_true_eq_false, not_false_eq_true, eq_self, true_or, or_true, false_or, or_false, and_self, reduceCtorEq, forall_const]
            · simp (disch := omega) only [o_le, o_leL, o_leR, o_lt, o_ltL, o_ltR, o_eq, o_eqL, o_eqR, o_cl, o_add, o_addL, o_addR, o_mul, o_mulL, o_mulR, o_sub, o_subR, o_0le, o_lt0, o_ixo, n1_eq, n1_eq', n1_lt, n1_le, n1_ge, n1_gt, n2_eq, n2_eq', n2_lt, n2_le, n2_ge, n2_gt, ↓reduceIte, ite_self, Nat.reduceEqDiff, Nat.reduceAdd, Nat.reduceMul, Nat.reduceSub, Nat.reduceLT, Nat.reduceLeDiff, Nat.not_lt_zero, Nat.zero_le, if_true, if_false, ite_true, ite_false, true_and, and_true, false_and, and_false, true_implies, false_implies, implies_true, not_true_eq_false, not_false_eq_true, eq_self, true_or, or_true, false_or, or_false, and_self, reduceCtorEq, forall_const]
          exact Int32.le_antisymm z lb
        rw [l0] at p2
        exact absurd (Int32.le_trans p1 p2) (by decide)
      · obtain ⟨n, hn, en⟩ := toNle (n := 12) (by omega) (Int32.le_of_lt (Int32.not_le.mp z)) l12
        rw [en] at p2
        have nz : 0 < n := by
          apply Nat.pos_of_ne_zero
          intro e
          subst e
          rw [en] at z
          exact z (by decide)
        obtain ⟨k, hk, rfl⟩ := toN p1
        simp (disch := omega) only [o_le, o_leL, o_leR, o_lt, o_ltL, o_ltR, o_eq, o_eqL, o_eqR, o_cl, o_add, o_addL, o_addR, o_mul, o_mulL, o_mulR, o_sub, o_subR, o_0le, o_lt0, o_ixo, n1_eq, n1_eq', n1_lt, n1_le, n1_ge, n1_gt, n2_eq, n2_eq', n2_lt, n2_le, n2_ge, n2_gt, ↓reduceIte, ite_self, Nat.reduceEqDiff, Nat.reduceAdd, Nat.reduceMul, Nat.reduceSub, Nat.reduceLT, Nat.reduceLeDiff, Nat.not_lt_zero, Nat.zero_le, if_true, if_false, ite_true, ite_false, true_and, and_true, false_and, and_false, true_implies, false_implies, implies_true, not_true_eq_false, not_false_eq_true, eq_self, true_or, or_true, false_or, or_false, and_self, reduceCtorEq, forall_const] at p2
        rw [oi k hk]
        show (k : Int) ≤ 11
        omega
    obtain ⟨k, hk, e⟩ := toNle (n := 11) (by omega) p1 p3
    exact ⟨k, by omega, e⟩
  have fin : ∀ (b : Bool) (X' : XS), ((some (b, X')).bind fun x5 => (if x5.1 = true then some (true, x5.2) else some (false, x5.2))) = (some (b, X') : Option (Bool × XS)) := by
    intro b X'
    cases b <;> rfl
  unfold f_Flow_apply Tr
  by_cases c2 : op = 2
  · obtain ⟨k, hk, rfl⟩ := odl (Or.inl c2)
    subst c2
    have k11 : k ≤ 11 := by omega
    have ek := a4 k hk
    by_cases z : lo k = 0
    · refine ⟨false, X, ?_, H9.refl X, Or.inl ⟨rfl, ?_⟩⟩
      · simp (disch := omega) only [k11, ek, z, o_le, o_leL, o_leR, o_lt, o_ltL, o_ltR, o_eq, o_eqL, o_eqR, o_cl, o_add, o_addL, o_addR, o_mul, o_mulL, o_mulR, o_sub, o_subR, o_0le, o_lt0, o_ixo, n1_eq, n1_eq', n1_lt, n1_le, n1_ge, n1_gt, n2_eq, n2_eq', n2_lt, n2_le, n2_ge, n2_gt, ↓reduceIte, ite_self, Nat.reduceEqDiff, Nat.reduceAdd, Nat.reduceMul, Nat.reduceSub, Nat.reduceLT, Nat.reduceLeDiff, Nat.not_lt_zero, Nat.zero_le, if_true, if_false, ite_true, ite_false, true_and, and_true, false_and, and_false, true_implies, false_implies, implies_true, not_true_eq_false, not_false_eq_true, eq_self, true_or, or_true, false_or, or_false, and_self, reduceCtorEq, forall_const]
      · simp (disch := omega) only [z, o_le, o_leL, o_leR, o_lt, o_ltL, o_ltR, o_eq, o_eqL, o_eqR, o_cl, o_add, o_addL, o_addR, o_mul, o_mulL, o_mulR, o_sub, o_subR, o_0le, o_lt0, o_ixo, n1_eq, n1_eq', n1_lt, n1_le, n1_ge, n1_gt, n2_eq, n2_eq', n2_lt, n2_le, n2_ge, n2_gt, ↓reduceIte, ite_self, Nat.reduceEqDiff, Nat.reduceAdd, Nat.reduceMul, Nat.reduceSub, Nat.reduceLT, Nat.reduceLeDiff, Nat.not_lt_zero, Nat.zero_le, if_true, if_false, ite_true, ite_false, true_and, and_true, false_and, and_false, true_implies, false_implies, implies_true, not_true_eq_false, not_false_eq_true, eq_self, true_or, or_true, false_or, or_false, and_self, reduceCtorEq, forall_const]
    · obtain ⟨b, X', e, o', b'⟩ := put_ok ha (lo k)
      refine ⟨b, X', ?_, o', ?_⟩
      · simp (disch := omega) only [k11, ek, z, e, o_le, o_leL, o_leR, o_lt, o_ltL, o_ltR, o_eq, o_eqL, o_eqR, o_cl, o_add, o_addL, o_addR, o_mul, o_mulL, o_mulR, o_sub, o_subR, o_0le, o_lt0, o_ixo, n1_eq, n1_eq', n1_lt, n1_le, n1_ge, n1_gt, n2_eq, n2_eq', n2_lt, n2_le, n2_ge, n2_gt, ↓reduceIte, ite_self, Nat.reduceEqDiff, Nat.reduceAdd, Nat.reduceMul, Nat.reduceSub, Nat.reduceLT, Nat.reduceLeDiff, Nat.not_lt_zero, Nat.zero_le, if_true, if_false, ite_true, ite_false, true_and, and_true, false_and, and_false, true_implies, false_implies, implies_true, not_true_eq_false, not_false_eq_true, eq_self, true_or, or_true, false_or, or_false, and_self, reduceCtorEq, forall_const]
        exact fin b X'
      · simp (disch := omega) only [z, o_le, o_leL, o_leR, o_lt, o_ltL, o_ltR, o_eq, o_eqL, o_eqR, o_cl, o_add, o_addL, o_addR, o_mul, o_mulL, o_mulR, o_sub, o_subR, o_0le, o_lt0, o_ixo, n1_eq, n1_eq', n1_lt, n1_le, n1_ge, n1_gt, n2_eq, n2_eq', n2_lt, n2_le, n2_ge, n2_gt, ↓reduceIte, ite_self, Nat.reduceEqDiff, Nat.reduceAdd, Nat.reduceMul, Nat.reduceSub, Nat.reduceLT, Nat.reduceLeDiff, Nat.not_lt_zero, Nat.zero_le, if_true, if_false, ite_true, ite_false, true_and, and_true, false_and, and_false, true_implies, false_implies, implies_true, not_true_eq_false, not_false_eq_true, eq_self, true_or, or_true, false_or, or_false, and_self, reduceCtorEq, forall_const]
        rcases b' with ⟨rfl, n⟩ | ⟨rfl, n, n'⟩
        · exact Or.inl ⟨rfl, by rw [n]; rfl⟩
        · exact Or.inr ⟨rfl, _, _, _, by rw [n]; rfl, n'⟩
  by_cases c3 : op = 3
  · obtain ⟨k, hk, rfl⟩ := odl (Or.inr c3)
    subst c3
    have k11 : k ≤ 11 := by omega
    obtain ⟨b, X', e, o', b'⟩ := take_ok ha 0 3 (Or.inl ⟨rfl, rfl⟩)
    unfold f_Flow_takeTo
    rcases b' with ⟨rfl, n⟩ | ⟨rfl, n, n0, n'⟩
    · refine ⟨false, X', ?_, o', Or.inl ⟨rfl, ?_⟩⟩
      · simp (disch := omega) only [k11, e, Option.bind_some, o_le, o_leL, o_leR, o_lt, o_ltL, o_ltR, o_eq, o_eqL, o_eqR, o_cl, o_add, o_addL, o_addR, o_mul, o_mulL, o_mulR, o_sub, o_subR, o_0le, o_lt0, o_ixo, n1_eq, n1_eq', n1_lt, n1_le, n1_ge, n1_gt, n2_eq, n2_eq', n2_lt, n2_le, n2_ge, n2_gt, ↓reduceIte, ite_self, Nat.reduceEqDiff, Nat.reduceAdd, Nat.reduceMul, Nat.reduceSub, Nat.reduceLT, Nat.reduceLeDiff, Nat.not_lt_zero, Nat.zero_le, if_true, if_false, ite_true, ite_false, true_and, and_true, false_and, and_false, true_implies, false_implies, implies_true, not_true_eq_false, not_false_eq_true, eq_self, true_or, or_true, false_or, or_false, and_self, reduceCtorEq, forall_const]
      · simp (disch := omega) only [n, o_le, o_leL, o_leR, o_lt, o_ltL, o_ltR, o_eq, o_eqL, o_eqR, o_cl, o_add, o_addL, o_addR, o_mul, o_mulL, o_mulR, o_sub, o_subR, o_0le, o_lt0, o_ixo, n1_eq, n1_eq', n1_lt, n1_le, n1_ge, n1_gt, n2_eq, n2_eq', n2_lt, n2_le, n2_ge, n2_gt, ↓reduceIte, ite_self, Nat.reduceEqDiff, Nat.reduceAdd, Nat.reduceMul, Nat.reduceSub, Nat.reduceLT, Nat.reduceLeDiff, Nat.not_lt_zero, Nat.zero_le, if_true, if_false, ite_true, ite_false, true_and, and_true, false_and, and_false, true_implies, false_implies, implies_true, not_true_eq_false, not_false_eq_true, eq_self, true_or, or_true, false_or, or_false, and_self, reduceCtorEq, forall_const]
        rfl
    · have h10 : hh - 1 < 10 := by omega
      have top : X'.1 28 (hh - 1) = g (hh - 1) := by
        rw [← a3 (hh - 1) (by omega)]
        obtain ⟨q1, q2⟩ := o'
        have : X' = xw X 22 9 (Int32.ofNat (hh - 1)) := by
          unfold f_Flow_take at e
          have c1 : 1 ≤ hh := by omega
          simp (disch := omega) only [a1, c1, a2, lt, o_le, o_leL, o_leR, o_lt, o_ltL, o_ltR, o_eq, o_eqL, o_eqR, o_cl, o_add, o_addL, o_addR, o_mul, o_mulL, o_mulR, o_sub, o_subR, o_0le, o_lt0, o_ixo, n1_eq, n1_eq', n1_lt, n1_le, n1_ge, n1_gt, n2_eq, n2_eq', n2_lt, n2_le, n2_ge, n2_gt, ↓reduceIte, ite_self, Nat.reduceEqDiff, Nat.reduceAdd, Nat.reduceMul, Nat.reduceSub, Nat.reduceLT, Nat.reduceLeDiff, Nat.not_lt_zero, Nat.zero_le, if_true, if_false, ite_true, ite_false, true_and, and_true, false_and, and_false, true_implies, false_implies, implies_true, not_true_eq_false, not_false_eq_true, eq_self, true_or, or_true, false_or, or_false, and_self, reduceCtorEq, forall_const] at e
          have e' := Option.some.inj e
          exact (Prod.mk.inj e').2.symm
        rw [this, xw_ne _ _ _ _ (by omega)]
      refine ⟨true, xw X' 29 k (g (hh - 1)), ?_, ⟨o'.1.xw (by unfold Flx; omega) _ _, fun f hf => by rw [xw_ne _ _ _ _ (by omega)]; exact o'.2 f hf⟩, Or.inr ⟨rfl, g, hh - 1, upd lo k (g (hh - 1)), ?_, ?_, n'.2.1, ?_, ?_⟩⟩
      · simp (disch := omega) only [k11, e, Option.bind_some, n'.1, h10, top, lt, o_le, o_leL, o_leR, o_lt, o_ltL, o_ltR, o_eq, o_eqL, o_eqR, o_cl, o_add, o_addL, o_addR, o_mul, o_mulL, o_mulR, o_sub, o_subR, o_0le, o_lt0, o_ixo, n1_eq, n1_eq', n1_lt, n1_le, n1_ge, n1_gt, n2_eq, n2_eq', n2_lt, n2_le, n2_ge, n2_gt, ↓reduceIte, ite_self, Nat.reduceEqDiff, Nat.reduceAdd, Nat.reduceMul, Nat.reduceSub, Nat.reduceLT, Nat.reduceLeDiff, Nat.not_lt_zero, Nat.zero_le, if_true, if_false, ite_true, ite_false, true_and, and_true, false_and, and_false, true_implies, false_implies, implies_true, not_true_eq_false, not_false_eq_true, eq_self, true_or, or_true, false_or, or_false, and_self, reduceCtorEq, forall_const]
      · simp (disch := omega) only [n, o_le, o_leL, o_leR, o_lt, o_ltL, o_ltR, o_eq, o_eqL, o_eqR, o_cl, o_add, o_addL, o_addR, o_mul, o_mulL, o_mulR, o_sub, o_subR, o_0le, o_lt0, o_ixo, n1_eq, n1_eq', n1_lt, n1_le, n1_ge, n1_gt, n2_eq, n2_eq', n2_lt, n2_le, n2_ge, n2_gt, ↓reduceIte, ite_self, Nat.reduceEqDiff, Nat.reduceAdd, Nat.reduceMul, Nat.reduceSub, Nat.reduceLT, Nat.reduceLeDiff, Nat.not_lt_zero, Nat.zero_le, if_true, if_false, ite_true, ite_false, true_and, and_true, false_and, and_false, true_implies, false_implies, implies_true, not_true_eq_false, not_false_eq_true, eq_self, true_or, or_true, false_or, or_false, and_self, reduceCtorEq, forall_const]
        rfl
      · rw [xw_ne _ _ _ _ (by omega)]; exact n'.1
      · intro j hj
        rw [xw_ne _ _ _ _ (by omega)]
        exact n'.2.2.1 j hj
      · intro j hj
        rw [xw1, updE]
        by_cases ej : j = k
        · subst ej
          rw [if_pos ⟨rfl, rfl⟩, if_pos rfl]
        · rw [if_neg (fun q => ej q.2), if_neg ej]
          exact n'.2.2.2 j hj
  by_cases c16 : op = 16
  · subst c16
    by_cases z : 0 < hh
    · have z1 : 1 ≤ hh := z
      have h10 : hh - 1 < 10 := by omega
      have top := a3 (hh - 1) (by omega)
      obtain ⟨b, X', e, o', b'⟩ := put_ok ha (g (hh - 1))
      refine ⟨b, X', ?_, o', ?_⟩
      · simp (disch := omega) only [a1, z1, a2, h10, top, e, o_le, o_leL, o_leR, o_lt, o_ltL, o_ltR, o_eq, o_eqL, o_eqR, o_cl, o_add, o_addL, o_addR, o_mul, o_mulL, o_mulR, o_sub, o_subR, o_0le, o_lt0, o_ixo, n1_eq, n1_eq', n1_lt, n1_le, n1_ge, n1_gt, n2_eq, n2_eq', n2_lt, n2_le, n2_ge, n2_gt, ↓reduceIte, ite_self, Nat.reduceEqDiff, Nat.reduceAdd, Nat.reduceMul, Nat.reduceSub, Nat.reduceLT, Nat.reduceLeDiff, Nat.not_lt_zero, Nat.zero_le, if_true, if_false, ite_true, ite_false, true_and, and_true, false_and, and_false, true_implies, false_implies, implies_true, not_true_eq_false, not_false_eq_true, eq_self, true_or, or_true, false_or, or_false, and_self, reduceCtorEq, forall_const]
        exact fin b X'
      · simp (disch := omega) only [z, o_le, o_leL, o_leR, o_lt, o_ltL, o_ltR, o_eq, o_eqL, o_eqR, o_cl, o_add, o_addL, o_addR, o_mul, o_mulL, o_mulR, o_sub, o_subR, o_0le, o_lt0, o_ixo, n1_eq, n1_eq', n1_lt, n1_le, n1_ge, n1_gt, n2_eq, n2_eq', n2_lt, n2_le, n2_ge, n2_gt, ↓reduceIte, ite_self, Nat.reduceEqDiff, Nat.reduceAdd, Nat.reduceMul, Nat.reduceSub, Nat.reduceLT, Nat.reduceLeDiff, Nat.not_lt_zero, Nat.zero_le, if_true, if_false, ite_true, ite_false, true_and, and_true, false_and, and_false, true_implies, false_implies, implies_true, not_true_eq_false, not_false_eq_true, eq_self, true_or, or_true, false_or, or_false, and_self, reduceCtorEq, forall_const]
        rcases b' with ⟨rfl, n⟩ | ⟨rfl, n, n'⟩
        · exact Or.inl ⟨rfl, by rw [n]; rfl⟩
        · exact Or.inr ⟨rfl, _, _, _, by rw [n]; rfl, n'⟩
    · have z0 : hh = 0 := by omega
      subst z0
      refine ⟨false, X, ?_, H9.refl X, Or.inl ⟨rfl, ?_⟩⟩
      · simp (disch := omega) only [a1, o_le, o_leL, o_leR, o_lt, o_ltL, o_ltR, o_eq, o_eqL, o_eqR, o_cl, o_add, o_addL, o_addR, o_mul, o_mulL, o_mulR, o_sub, o_subR, o_0le, o_lt0, o_ixo, n1_eq, n1_eq', n1_lt, n1_le, n1_ge, n1_gt, n2_eq, n2_eq', n2_lt, n2_le, n2_ge, n2_gt, ↓reduceIte, ite_self, Nat.reduceEqDiff, Nat.reduceAdd, Nat.reduceMul, Nat.reduceSub, Nat.reduceLT, Nat.reduceLeDiff, Nat.not_lt_zero, Nat.zero_le, if_true, if_false, ite_true, ite_false, true_and, and_true, false_and, and_false, true_implies, false_implies, implies_true, not_true_eq_false, not_false_eq_true, eq_self, true_or, or_true, false_or, or_false, and_self, reduceCtorEq, forall_const]
      · simp (disch := omega) only [o_le, o_leL, o_leR, o_lt, o_ltL, o_ltR, o_eq, o_eqL, o_eqR, o_cl, o_add, o_addL, o_addR, o_mul, o_mulL, o_mulR, o_sub, o_subR, o_0le, o_lt0, o_ixo, n1_eq, n1_eq', n1_lt, n1_le, n1_ge, n1_gt, n2_eq, n2_eq', n2_lt, n2_le, n2_ge, n2_gt, ↓reduceIte, ite_self, Nat.reduceEqDiff, Nat.reduceAdd, Nat.reduceMul, Nat.reduceSub, Nat.reduceLT, Nat.reduceLeDiff, Nat.not_lt_zero, Nat.zero_le, if_true, if_false, ite_true, ite_false, true_and, and_true, false_and, and_false, true_implies, false_implies, implies_true, not_true_eq_false, not_false_eq_true, eq_self, true_or, or_true, false_or, or_false, and_self, reduceCtorEq, forall_const]
  by_cases c18 : op = 18
  · subst c18
    unfold f_Flow_swap
    by_cases z : 2 ≤ hh
    · have h10 : hh - 1 < 10 := by omega
      have h11 : hh - 2 < 10 := by omega
      have t1 := a3 (hh - 1) (by omega)
      have t2 := a3 (hh - 2) (by omega)
      refine ⟨true, xw (xw X 28 (hh - 1) (g (hh - 2))) 28 (hh - 2) (g (hh - 1)), ?_, ⟨((Only.refl X).xw (by unfold Flx; omega) _ _).xw (by unfold Flx; omega) _ _, ?_⟩, Or.inr ⟨rfl, _, _, _, by simp (disch := omega) only [z, o_le, o_leL, o_leR, o_lt, o_ltL, o_ltR, o_eq, o_eqL, o_eqR, o_cl, o_add, o_addL, o_addR, o_mul, o_mulL, o_mulR, o_sub, o_subR, o_0le, o_lt0, o_ixo, n1_eq, n1_eq', n1_lt, n1_le, n1_ge, n1_gt, n2_eq, n2_eq', n2_lt, n2_le, n2_ge, n2_gt, ↓reduceIte, ite_self, Nat.reduceEqDiff, Nat.reduceAdd, Nat.reduceMul, Nat.reduceSub, Nat.reduceLT, Nat.reduceLeDiff, Nat.not_lt_zero, Nat.zero_le, if_true, if_false, ite_true, ite_false, true_and, and_true, false_and, and_false, true_implies, false_implies, implies_true, not_true_eq_false, not_false_eq_true, eq_self, true_or, or_true, false_or, or_false, and_self, reduceCtorEq, forall_const]; rfl, ?_, a2, ?_, ?_⟩⟩
      · simp (disch := omega) only [a1, z, a2, h10, h11, t1, t2, lt, xTw, xLw, xAw, xTp, xLp, xAp, xTc, xLc, xAc, xAn, xTn, xLn, xw1, xw2, xp1, xp2, xp3, mw1, mw2, xn1, xn2, xc1, xc2, Option.bind_some, o_le, o_leL, o_leR, o_lt, o_ltL, o_ltR, o_eq, o_eqL, o_eqR, o_cl, o_add, o_addL, o_addR, o_mul, o_mulL, o_mulR, o_sub, o_subR, o_0le, o_lt0, o_ixo, n1_eq, n1_eq', n1_lt, n1_le, n1_ge, n1_gt, n2_eq, n2_eq', n2_lt, n2_le, n2_ge, n2_gt, ↓reduceIte, ite_self, Nat.reduceEqDiff, Nat.reduceAdd, Nat.reduceMul, Nat.reduceSub, Nat.reduceLT, Nat.reduceLeDiff, Nat.not_lt_zero, Nat.zero_le, if_true, if_false, ite_true, ite_false, true_and, and_true, false_and, and_false, true_implies, false_implies, implies_true, not_true_eq_false, not_false_eq_true, eq_self, true_or, or_true, false_or, or_false, and_self, reduceCtorEq, forall_const]
      · intro f hf
        simp (disch := omega) only [xTw, xLw, xAw, xTp, xLp, xAp, xTc, xLc, xAc, xAn, xTn, xLn, xw1, xw2, xp1, xp2, xp3, mw1, mw2, xn1, xn2, xc1, xc2, o_le, o_leL, o_leR, o_lt, o_ltL, o_ltR, o_eq, o_eqL, o_eqR, o_cl, o_add, o_addL, o_addR, o_mul, o_mulL, o_mulR, o_sub, o_subR, o_0le, o_lt0, o_ixo, n1_eq, n1_eq', n1_lt, n1_le, n1_ge, n1_gt, n2_eq, n2_eq', n2_lt, n2_le, n2_ge, n2_gt, ↓reduceIte, ite_self, Nat.reduceEqDiff, Nat.reduceAdd, Nat.reduceMul, Nat.reduceSub, Nat.reduceLT, Nat.reduceLeDiff, Nat.not_lt_zero, Nat.zero_le, if_true, if_false, ite_true, ite_false, true_and, and_true, false_and, and_false, true_implies, false_implies, implies_true, not_true_eq_false, not_false_eq_true, eq_self, true_or, or_true, false_or, or_false, and_self, reduceCtorEq, forall_const]
      · simp (disch := omega) only [xTw, xLw, xAw, xTp, xLp, xAp, xTc, xLc, xAc, xAn, xTn, xLn, xw1, xw2, xp1, xp2, xp3, mw1, mw2, xn1, xn2, xc1, xc2, o_le, o_leL, o_leR, o_lt, o_ltL, o_ltR, o_eq, o_eqL, o_eqR, o_cl, o_add, o_addL, o_addR, o_mul, o_mulL, o_mulR, o_sub, o_subR, o_0le, o_lt0, o_ixo, n1_eq, n1_eq', n1_lt, n1_le, n1_ge, n1_gt, n2_eq, n2_eq', n2_lt, n2_le, n2_ge, n2_gt, ↓reduceIte, ite_self, Nat.reduceEqDiff, Nat.reduceAdd, Nat.reduceMul, Nat.reduceSub, Nat.reduceLT, Nat.reduceLeDiff, Nat.not_lt_zero, Nat.zero_le, if_true, if_false, ite_true, ite_false, true_and, and_true, false_and, and_false, true_implies, false_implies, implies_true, not_true_eq_false, not_false_eq_true, eq_self, true_or, or_true, false_or, or_false, and_self, reduceCtorEq, forall_const]
        exact a1
      · intro j hj
        rw [xw1, xw1, updE, updE]
        by_cases j2 : j = hh - 2
        · rw [if_pos ⟨rfl, j2⟩, if_pos j2]
        · rw [if_neg (fun q => j2 q.2), if_neg j2]
          by_cases j1 : j = hh - 1
          · rw [if_pos ⟨rfl, j1⟩, if_pos j1]
          · rw [if_neg (fun q => j1 q.2), if_neg j1]
            exact a3 j hj
      · intro j hj
        simp (disch := omega) only [xTw, xLw, xAw, xTp, xLp, xAp, xTc, xLc, xAc, xAn, xTn, xLn, xw1, xw2, xp1, xp2, xp3, mw1, mw2, xn1, xn2, xc1, xc2, o_le, o_leL, o_leR, o_lt, o_ltL, o_ltR, o_eq, o_eqL, o_eqR, o_cl, o_add, o_addL, o_addR, o_mul, o_mulL, o_mulR, o_sub, o_subR, o_0le, o_lt0, o_ixo, n1_eq, n1_eq', n1_lt, n1_le, n1_ge, n1_gt, n2_eq, n2_eq', n2_lt, n2_le, n2_ge, n2_gt, ↓reduceIte, ite_self, Nat.reduceEqDiff, Nat.reduceAdd, Nat.reduceMul, Nat.reduceSub, Nat.reduceLT, Nat.reduceLeDiff, Nat.not_lt_zero, Nat.zero_le, if_true, if_false, ite_true, ite_false, true_and, and_true, false_and, and_false, true_implies, false_implies, implies_true, not_true_eq_false, not_false_eq_true, eq_self, true_or, or_true, false_or, or_false, and_self, reduceCtorEq, forall_const]
        exact a4 j hj
    · refine ⟨false, X, ?_, H9.refl X, Or.inl ⟨rfl, ?_⟩⟩
      · simp (disch := omega) only [a1, z, Option.bind_some, o_le, o_leL, o_leR, o_lt, o_ltL, o_ltR, o_eq, o_eqL, o_eqR, o_cl, o_add, o_addL, o_addR, o_mul, o_mulL, o_mulR, o_sub, o_subR, o_0le, o_lt0, o_ixo, n1_eq, n1_eq', n1_lt, n1_le, n1_ge, n1_gt, n2_eq, n2_eq', n2_lt, n2_le, n2_ge, n2_gt, ↓reduceIte, ite_self, Nat.reduceEqDiff, Nat.reduceAdd, Nat.reduceMul, Nat.reduceSub, Nat.reduceLT, Nat.reduceLeDiff, Nat.not_lt_zero, Nat.zero_le, if_true, if_false, ite_true, ite_false, true_and, and_true, false_and, and_false, true_implies, false_implies, implies_true, not_true_eq_false, not_false_eq_true, eq_self, true_or, or_true, false_or, or_false, and_self, reduceCtorEq, forall_const]
      · simp (disch := omega) only [z, o_le, o_leL, o_leR, o_lt, o_ltL, o_ltR, o_eq, o_eqL, o_eqR, o_cl, o_add, o_addL, o_addR, o_mul, o_mulL, o_mulR, o_sub, o_subR, o_0le, o_lt0, o_ixo, n1_eq, n1_eq', n1_lt, n1_le, n1_ge, n1_gt, n2_eq, n2_eq', n2_lt, n2_le, n2_ge, n2_gt, ↓reduceIte, ite_self, Nat.reduceEqDiff, Nat.reduceAdd, Nat.reduceMul, Nat.reduceSub, Nat.reduceLT, Nat.reduceLeDiff, Nat.not_lt_zero, Nat.zero_le, if_true, if_false, ite_true, ite_false, true_and, and_true, false_and, and_false, true_implies, false_implies, implies_true, not_true_eq_false, not_false_eq_true, eq_self, true_or, or_true, false_or, or_false, and_self, reduceCtorEq, forall_const]
  by_cases c38 : op = 38
  · subst c38
    obtain ⟨r, hr, rfl, _⟩ := hpos.2.2.2.2.2.2.1 rfl
    obtain ⟨b, X', e, o', b'⟩ := applyCall_ok h ht hr ha
    refine ⟨b, X', ?_, o', ?_⟩
    · simp (disch := omega) only [e, o_le, o_leL, o_leR, o_lt, o_ltL, o_ltR, o_eq, o_eqL, o_eqR, o_cl, o_add, o_addL, o_addR, o_mul, o_mulL, o_mulR, o_sub, o_subR, o_0le, o_lt0, o_ixo, n1_eq, n1_eq', n1_lt, n1_le, n1_ge, n1_gt, n2_eq, n2_eq', n2_lt, n2_le, n2_ge, n2_gt, ↓reduceIte, ite_self, Nat.reduceEqDiff, Nat.reduceAdd, Nat.reduceMul, Nat.reduceSub, Nat.reduceLT, Nat.reduceLeDiff, Nat.not_lt_zero, Nat.zero_le, if_true, if_false, ite_true, ite_false, true_and, and_true, false_and, and_false, true_implies, false_implies, implies_true, not_true_eq_false, not_false_eq_true, eq_self, true_or, or_true, false_or, or_false, and_self, reduceCtorEq, forall_const]
      exact fin b X'
    · simp (disch := omega) only [o_le, o_leL, o_leR, o_lt, o_ltL, o_ltR, o_eq, o_eqL, o_eqR, o_cl, o_add, o_addL, o_addR, o_mul, o_mulL, o_mulR, o_sub, o_subR, o_0le, o_lt0, o_ixo, n1_eq, n1_eq', n1_lt, n1_le, n1_ge, n1_gt, n2_eq, n2_eq', n2_lt, n2_le, n2_ge, n2_gt, ↓reduceIte, ite_self, Nat.reduceEqDiff, Nat.reduceAdd, Nat.reduceMul, Nat.reduceSub, Nat.reduceLT, Nat.reduceLeDiff, Nat.not_lt_zero, Nat.zero_le, if_true, if_false, ite_true, ite_false, true_and, and_true, false_and, and_false, true_implies, false_implies, implies_true, not_true_eq_false, not_false_eq_true, eq_self, true_or, or_true, false_or, or_false, and_self, reduceCtorEq, forall_const]
      rcases b' with ⟨rfl, n⟩ | ⟨rfl, g', h', n, n'⟩
      · exact Or.inl ⟨rfl, n⟩
      · exact Or.inr ⟨rfl, g', h', lo, n, n'⟩
  by_cases c39 : op = 39
  · subst c39
    obtain ⟨n0, hn0, rfl, r, er⟩ := hpos.2.2.2.2.2.2.2.1 rfl
    have hr := (anyM_some er).1
    have ax := anyX h.2.2.2.2.1 hn0
    rw [er] at ax
    have ax' : f_Source_routineOfName (Int32.ofNat n0) X = Int32.ofNat r := ax
    obtain ⟨b, X', e, o', b'⟩ := applyCall_ok h ht hr ha
    refine ⟨b, X', ?_, o', ?_⟩
    · simp (disch := omega) only [ax', e, o_le, o_leL, o_leR, o_lt, o_ltL, o_ltR, o_eq, o_eqL, o_eqR, o_cl, o_add, o_addL, o_addR, o_mul, o_mulL, o_mulR, o_sub, o_subR, o_0le, o_lt0, o_ixo, n1_eq, n1_eq', n1_lt, n1_le, n1_ge, n1_gt, n2_eq, n2_eq', n2_lt, n2_le, n2_ge, n2_gt, ↓reduceIte, ite_self, Nat.reduceEqDiff, Nat.reduceAdd, Nat.reduceMul, Nat.reduceSub, Nat.reduceLT, Nat.reduceLeDiff, Nat.not_lt_zero, Nat.zero_le, if_true, if_false, ite_true, ite_false, true_and, and_true, false_and, and_false, true_implies, false_implies, implies_true, not_true_eq_false, not_false_eq_true, eq_self, true_or, or_true, false_or, or_false, and_self, reduceCtorEq, forall_const]
      exact fin b X'
    · simp (disch := omega) only [er, Option.bind_some, o_le, o_leL, o_leR, o_lt, o_ltL, o_ltR, o_eq, o_eqL, o_eqR, o_cl, o_add, o_addL, o_addR, o_mul, o_mulL, o_mulR, o_sub, o_subR, o_0le, o_lt0, o_ixo, n1_eq, n1_eq', n1_lt, n1_le, n1_ge, n1_gt, n2_eq, n2_eq', n2_lt, n2_le, n2_ge, n2_gt, ↓reduceIte, ite_self, Nat.reduceEqDiff, Nat.reduceAdd, Nat.reduceMul, Nat.reduceSub, Nat.reduceLT, Nat.reduceLeDiff, Nat.not_lt_zero, Nat.zero_le, if_true, if_false, ite_true, ite_false, true_and, and_true, false_and, and_false, true_implies, false_implies, implies_true, not_true_eq_false, not_false_eq_true, eq_self, true_or, or_true, false_or, or_false, and_self, reduceCtorEq, forall_const]
      rcases b' with ⟨rfl, n⟩ | ⟨rfl, g', h', n, n'⟩
      · exact Or.inl ⟨rfl, n⟩
      · exact Or.inr ⟨rfl, g', h', lo, n, n'⟩
  have h55 : op ≤ 55 := by omega
  obtain ⟨s, X1, e1, o1, b1⟩ := popsX_ok (g := g) (lo := lo) (tkL op) (oT 5 op) X hh 10000 (tk16 op hop) ha (by
    have : ∀ op, op < 56 → (tkL op).length < 10000 := by decide +kernel
    exact this op hop)
  have p6 := pt6 op hop
  unfold f_Flow_applyFixed
  rcases b1 with ⟨n1, rfl⟩ | ⟨h', v', n1, rfl, n2⟩
  · refine ⟨false, X1, ?_, o1, Or.inl ⟨rfl, ?_⟩⟩
    · simp (disch := omega) only [c2, c3, c16, c18, c38, c39, h55, e1, sb, Option.bind_some, o_le, o_leL, o_leR, o_lt, o_ltL, o_ltR, o_eq, o_eqL, o_eqR, o_cl, o_add, o_addL, o_addR, o_mul, o_mulL, o_mulR, o_sub, o_subR, o_0le, o_lt0, o_ixo, n1_eq, n1_eq', n1_lt, n1_le, n1_ge, n1_gt, n2_eq, n2_eq', n2_lt, n2_le, n2_ge, n2_gt, ↓reduceIte, ite_self, Nat.reduceEqDiff, Nat.reduceAdd, Nat.reduceMul, Nat.reduceSub, Nat.reduceLT, Nat.reduceLeDiff, Nat.not_lt_zero, Nat.zero_le, if_true, if_false, ite_true, ite_false, true_and, and_true, false_and, and_false, true_implies, false_implies, implies_true, not_true_eq_false, not_false_eq_true, eq_self, true_or, or_true, false_or, or_false, and_self, reduceCtorEq, forall_const]
    · simp (disch := omega) only [c2, c3, c16, c18, c38, c39, n1, o_le, o_leL, o_leR, o_lt, o_ltL, o_ltR, o_eq, o_eqL, o_eqR, o_cl, o_add, o_addL, o_addR, o_mul, o_mulL, o_mulR, o_sub, o_subR, o_0le, o_lt0, o_ixo, n1_eq, n1_eq', n1_lt, n1_le, n1_ge, n1_gt, n2_eq, n2_eq', n2_lt, n2_le, n2_ge, n2_gt, ↓reduceIte, ite_self, Nat.reduceEqDiff, Nat.reduceAdd, Nat.reduceMul, Nat.reduceSub, Nat.reduceLT, Nat.reduceLeDiff, Nat.not_lt_zero, Nat.zero_le, if_true, if_false, ite_true, ite_false, true_and, and_true, false_and, and_false, true_implies, false_implies, implies_true, not_true_eq_false, not_false_eq_true, eq_self, true_or, or_true, false_or, or_false, and_self, reduceCtorEq, forall_const]
      rfl
  · by_cases z : ptL op = 0
    · refine ⟨true, X1, ?_, o1, Or.inr ⟨rfl, g, h', lo, ?_, n2⟩⟩
      · simp (disch := omega) only [c2, c3, c16, c18, c38, c39, h55, e1, sb, p6, z, Option.bind_some, o_le, o_leL, o_leR, o_lt, o_ltL, o_ltR, o_eq, o_eqL, o_eqR, o_cl, o_add, o_addL, o_addR, o_mul, o_mulL, o_mulR, o_sub, o_subR, o_0le, o_lt0, o_ixo, n1_eq, n1_eq', n1_lt, n1_le, n1_ge, n1_gt, n2_eq, n2_eq', n2_lt, n2_le, n2_ge, n2_gt, ↓reduceIte, ite_self, Nat.reduceEqDiff, Nat.reduceAdd, Nat.reduceMul, Nat.reduceSub, Nat.reduceLT, Nat.reduceLeDiff, Nat.not_lt_zero, Nat.zero_le, if_true, if_false, ite_true, ite_false, true_and, and_true, false_and, and_false, true_implies, false_implies, implies_true, not_true_eq_false, not_false_eq_true, eq_self, true_or, or_true, false_or, or_false, and_self, reduceCtorEq, forall_const]
      · simp (disch := omega) only [c2, c3, c16, c18, c38, c39, n1, Option.bind_some, putT, z, o_le, o_leL, o_leR, o_lt, o_ltL, o_ltR, o_eq, o_eqL, o_eqR, o_cl, o_add, o_addL, o_addR, o_mul, o_mulL, o_mulR, o_sub, o_subR, o_0le, o_lt0, o_ixo, n1_eq, n1_eq', n1_lt, n1_le, n1_ge, n1_gt, n2_eq, n2_eq', n2_lt, n2_le, n2_ge, n2_gt, ↓reduceIte, ite_self, Nat.reduceEqDiff, Nat.reduceAdd, Nat.reduceMul, Nat.reduceSub, Nat.reduceLT, Nat.reduceLeDiff, Nat.not_lt_zero, Nat.zero_le, if_true, if_false, ite_true, ite_false, true_and, and_true, false_and, and_false, true_implies, false_implies, implies_true, not_true_eq_false, not_false_eq_true, eq_self, true_or, or_true, false_or, or_false, and_self, reduceCtorEq, forall_const]
    · obtain ⟨b, X', e, o', b'⟩ := put_ok n2 (ptL op)
      refine ⟨b, X', ?_, o1.trans o', ?_⟩
      · simp (disch := omega) only [c2, c3, c16, c18, c38, c39, h55, e1, sb, p6, z, e, Option.bind_some, o_le, o_leL, o_leR, o_lt, o_ltL, o_ltR, o_eq, o_eqL, o_eqR, o_cl, o_add, o_addL, o_addR, o_mul, o_mulL, o_mulR, o_sub, o_subR, o_0le, o_lt0, o_ixo, n1_eq, n1_eq', n1_lt, n1_le, n1_ge, n1_gt, n2_eq, n2_eq', n2_lt, n2_le, n2_ge, n2_gt, ↓reduceIte, ite_self, Nat.reduceEqDiff, Nat.reduceAdd, Nat.reduceMul, Nat.reduceSub, Nat.reduceLT, Nat.reduceLeDiff, Nat.not_lt_zero, Nat.zero_le, if_true, if_false, ite_true, ite_false, true_and, and_true, false_and, and_false, true_implies, false_implies, implies_true, not_true_eq_false, not_false_eq_true, eq_self, true_or, or_true, false_or, or_false, and_self, reduceCtorEq, forall_const]
        cases b <;> rfl
      · simp (disch := omega) only [c2, c3, c16, c18, c38, c39, n1, Option.bind_some, putT, z, o_le, o_leL, o_leR, o_lt, o_ltL, o_ltR, o_eq, o_eqL, o_eqR, o_cl, o_add, o_addL, o_addR, o_mul, o_mulL, o_mulR, o_sub, o_subR, o_0le, o_lt0, o_ixo, n1_eq, n1_eq', n1_lt, n1_le, n1_ge, n1_gt, n2_eq, n2_eq', n2_lt, n2_le, n2_ge, n2_gt, ↓reduceIte, ite_self, Nat.reduceEqDiff, Nat.reduceAdd, Nat.reduceMul, Nat.reduceSub, Nat.reduceLT, Nat.reduceLeDiff, Nat.not_lt_zero, Nat.zero_le, if_true, if_false, ite_true, ite_false, true_and, and_true, false_and, and_false, true_implies, false_implies, implies_true, not_true_eq_false, not_false_eq_true, eq_self, true_or, or_true, false_or, or_false, and_self, reduceCtorEq, forall_const]
        rcases b' with ⟨rfl, n⟩ | ⟨rfl, n, n'⟩
        · exact Or.inl ⟨rfl, by rw [n]; rfl⟩
        · exact Or.inr ⟨rfl, _, _, _, by rw [n]; rfl, n'⟩
