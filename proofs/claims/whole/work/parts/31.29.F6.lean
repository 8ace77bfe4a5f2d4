/-! F6 -/
set_option maxRecDepth 20000 in
set_option maxHeartbeats 4000000 in
theorem dec_b {α : Prop} [Decidable α] {P : Prop} (h : α ↔ P) : ∃ b, (if α then some true else some false) = some b ∧ (b = true ↔ P) := by
  by_cases c : α
  · exact ⟨true, by rw [if_pos c], by simp [h.mp c]⟩
  · exact ⟨false, by rw [if_neg c], by simp; exact fun q => c (h.mpr q)⟩
set_option maxRecDepth 20000 in
set_option maxHeartbeats 4000000 in
theorem dec_n {α : Prop} [Decidable α] {P : Prop} (h : α ↔ ¬ P) : ∃ b, (if α then some false else some true) = some b ∧ (b = true ↔ P) := by
  by_cases c : α
  · exact ⟨false, by rw [if_pos c], by simp; exact h.mp c⟩
  · exact ⟨true, by rw [if_neg c], by simp; exact Classical.byContradiction (fun q => c (h.mpr q))⟩
set_option maxRecDepth 20000 in
set_option maxHeartbeats 4000000 in
theorem posJ {M : MS} {kc rc m op : Nat} {od : Int32} (c : 19 ≤ op ∧ op ≤ 25) : Pos M kc rc m op od ↔ (0 ≤ od ∧ od ≤ M.1 70 m - 1) := by
  unfold Pos
  constructor
  · intro h; exact h.2.2.1 c
  · intro h
    exact ⟨fun e => absurd e (by omega), fun e => absurd e (by omega), fun _ => h, fun e => absurd e (by omega), fun e => absurd e (by omega), fun e => absurd e (by omega), fun e => absurd e (by omega), fun e => absurd e (by omega), fun e => absurd e (by omega), fun e => absurd e (by omega), fun e => absurd e (by omega)⟩
set_option maxRecDepth 20000 in
set_option maxHeartbeats 4000000 in
theorem posFI {M : MS} {kc rc m op : Nat} {od : Int32} (c : op = 27 ∨ op = 28) : Pos M kc rc m op od ↔ ∃ c, c < kc ∧ 0 ≤ od ∧ od / 8 = Int32.ofNat c ∧ od - od / 8 * 8 < M.1 62 c := by
  unfold Pos
  constructor
  · intro h; exact h.2.2.2.2.1 c
  · intro h
    exact ⟨fun e => absurd e (by omega), fun e => absurd e (by omega), fun e => absurd e (by omega), fun e => absurd e (by omega), fun _ => h, fun e => absurd e (by omega), fun e => absurd e (by omega), fun e => absurd e (by omega), fun e => absurd e (by omega), fun e => absurd e (by omega), fun e => absurd e (by omega)⟩
set_option maxRecDepth 20000 in
set_option maxHeartbeats 4000000 in
theorem posFR {M : MS} {kc rc m op : Nat} {od : Int32} (c : op = 29 ∨ op = 30) : Pos M kc rc m op od ↔ ∃ c, c < kc ∧ 0 ≤ od ∧ od / 8 = Int32.ofNat c ∧ od - od / 8 * 8 < M.1 63 c := by
  unfold Pos
  constructor
  · intro h; exact h.2.2.2.2.2.1 c
  · intro h
    exact ⟨fun e => absurd e (by omega), fun e => absurd e (by omega), fun e => absurd e (by omega), fun e => absurd e (by omega), fun e => absurd e (by omega), fun _ => h, fun e => absurd e (by omega), fun e => absurd e (by omega), fun e => absurd e (by omega), fun e => absurd e (by omega), fun e => absurd e (by omega)⟩
set_option maxRecDepth 20000 in
set_option maxHeartbeats 4000000 in
theorem posS {M : MS} {kc rc m op : Nat} {od : Int32} (c : 52 ≤ op ∧ op ≤ 55) : Pos M kc rc m op od ↔ (0 ≤ od ∧ od ≤ 7) := by
  unfold Pos
  constructor
  · intro h; exact h.2.2.2.2.2.2.2.2.2.2 c
  · intro h
    exact ⟨fun e => absurd e (by omega), fun e => absurd e (by omega), fun e => absurd e (by omega), fun e => absurd e (by omega), fun e => absurd e (by omega), fun e => absurd e (by omega), fun e => absurd e (by omega), fun e => absurd e (by omega), fun e => absurd e (by omega), fun e => absurd e (by omega), fun _ => h⟩
set_option maxRecDepth 20000 in
set_option maxHeartbeats 4000000 in
theorem posR {M : MS} {kc rc m op : Nat} {od : Int32} (c : 40 ≤ op ∧ op ≤ 42) : Pos M kc rc m op od ↔ M.1 68 m = Int32.ofNat (op - 40) := by
  unfold Pos
  constructor
  · intro h; exact h.2.2.2.2.2.2.2.2.1 c
  · intro h
    exact ⟨fun e => absurd e (by omega), fun e => absurd e (by omega), fun e => absurd e (by omega), fun e => absurd e (by omega), fun e => absurd e (by omega), fun e => absurd e (by omega), fun e => absurd e (by omega), fun e => absurd e (by omega), fun _ => h, fun e => absurd e (by omega), fun e => absurd e (by omega)⟩
set_option maxRecDepth 20000 in
set_option maxHeartbeats 4000000 in
theorem pos1 {M : MS} {kc rc m : Nat} {od : Int32} : Pos M kc rc m 1 od ↔ (-32768 ≤ od ∧ od ≤ 32767) := by
  unfold Pos
  constructor
  · intro h; exact h.1 rfl
  · intro h
    exact ⟨fun _ => h, fun e => absurd e (by omega), fun e => absurd e (by omega), fun e => absurd e (by omega), fun e => absurd e (by omega), fun e => absurd e (by omega), fun e => absurd e (by omega), fun e => absurd e (by omega), fun e => absurd e (by omega), fun e => absurd e (by omega), fun e => absurd e (by omega)⟩
set_option maxRecDepth 20000 in
set_option maxHeartbeats 4000000 in
theorem posL {M : MS} {kc rc m op : Nat} {od : Int32} (c : op = 2 ∨ op = 3) : Pos M kc rc m op od ↔ (0 ≤ od ∧ od ≤ M.1 69 m - 1) := by
  unfold Pos
  constructor
  · intro h; exact h.2.1 c
  · intro h
    exact ⟨fun e => absurd e (by omega), fun _ => h, fun e => absurd e (by omega), fun e => absurd e (by omega), fun e => absurd e (by omega), fun e => absurd e (by omega), fun e => absurd e (by omega), fun e => absurd e (by omega), fun e => absurd e (by omega), fun e => absurd e (by omega), fun e => absurd e (by omega)⟩
set_option maxRecDepth 20000 in
set_option maxHeartbeats 4000000 in
theorem posC {M : MS} {kc rc m op : Nat} {od : Int32} (c : op = 26 ∨ op = 44) : Pos M kc rc m op od ↔ ∃ c, c < kc ∧ od = Int32.ofNat c := by
  unfold Pos
  constructor
  · intro h; exact h.2.2.2.1 c
  · intro h
    exact ⟨fun e => absurd e (by omega), fun e => absurd e (by omega), fun e => absurd e (by omega), fun _ => h, fun e => absurd e (by omega), fun e => absurd e (by omega), fun e => absurd e (by omega), fun e => absurd e (by omega), fun e => absurd e (by omega), fun e => absurd e (by omega), fun e => absurd e (by omega)⟩
set_option maxRecDepth 20000 in
set_option maxHeartbeats 4000000 in
theorem pos38 {M : MS} {kc rc m : Nat} {od : Int32} : Pos M kc rc m 38 od ↔ ∃ r, r < rc ∧ od = Int32.ofNat r ∧ M.1 65 r = -2 := by
  unfold Pos
  constructor
  · intro h; exact h.2.2.2.2.2.2.1 rfl
  · intro h
    exact ⟨fun e => absurd e (by omega), fun e => absurd e (by omega), fun e => absurd e (by omega), fun e => absurd e (by omega), fun e => absurd e (by omega), fun e => absurd e (by omega), fun _ => h, fun e => absurd e (by omega), fun e => absurd e (by omega), fun e => absurd e (by omega), fun e => absurd e (by omega)⟩
set_option maxRecDepth 20000 in
set_option maxHeartbeats 4000000 in
theorem pos39 {M : MS} {kc rc m : Nat} {od : Int32} : Pos M kc rc m 39 od ↔ ∃ n, n < 8 ∧ od = Int32.ofNat n ∧ ∃ r, anyM M rc n = some r := by
  unfold Pos
  constructor
  · intro h; exact h.2.2.2.2.2.2.2.1 rfl
  · intro h
    exact ⟨fun e => absurd e (by omega), fun e => absurd e (by omega), fun e => absurd e (by omega), fun e => absurd e (by omega), fun e => absurd e (by omega), fun e => absurd e (by omega), fun e => absurd e (by omega), fun _ => h, fun e => absurd e (by omega), fun e => absurd e (by omega), fun e => absurd e (by omega)⟩
set_option maxRecDepth 20000 in
set_option maxHeartbeats 4000000 in
theorem pos48 {M : MS} {kc rc m : Nat} {od : Int32} : Pos M kc rc m 48 od ↔ ∃ r, anyM M rc 0 = some r ∧ M.1 66 r = 0 := by
  unfold Pos
  constructor
  · intro h; exact h.2.2.2.2.2.2.2.2.2.1 rfl
  · intro h
    exact ⟨fun e => absurd e (by omega), fun e => absurd e (by omega), fun e => absurd e (by omega), fun e => absurd e (by omega), fun e => absurd e (by omega), fun e => absurd e (by omega), fun e => absurd e (by omega), fun e => absurd e (by omega), fun e => absurd e (by omega), fun _ => h, fun e => absurd e (by omega)⟩
theorem posN {M : MS} {kc rc m op : Nat} {od : Int32} (h1 : op ≠ 1) (h2 : op ≠ 2) (h3 : op ≠ 3) (h4 : ¬ (19 ≤ op ∧ op ≤ 25)) (h5 : op ≠ 26) (h6 : op ≠ 44) (h7 : ¬ (27 ≤ op ∧ op ≤ 30)) (h8 : op ≠ 38) (h9 : op ≠ 39) (h10 : ¬ (40 ≤ op ∧ op ≤ 42)) (h11 : op ≠ 48) (h12 : ¬ (52 ≤ op ∧ op ≤ 55)) : Pos M kc rc m op od := by
  unfold Pos
  exact ⟨fun e => absurd e (by omega), fun e => absurd e (by omega), fun e => absurd e (by omega), fun e => absurd e (by omega), fun e => absurd e (by omega), fun e => absurd e (by omega), fun e => absurd e (by omega), fun e => absurd e (by omega), fun e => absurd e (by omega), fun e => absurd e (by omega), fun e => absurd e (by omega)⟩
set_option maxRecDepth 20000 in
set_option maxHeartbeats 4000000 in
theorem possX {X : XS} {M : MS} {T : Nat → Nat} {kc rc m a op : Nat} {od : Int32} (h : RSc X M T kc rc) (hm : m < rc) (hp : X.2.1 2 m = some a) (hop : op < 56) : ∃ b, f_Flow_possible a (Int32.ofNat op) od X = some b ∧ (b = true ↔ Pos M kc rc m op od) := by
  have k1 := h.1.1
  have hr := h.2.1
  obtain ⟨a', f, ra, rv⟩ := h.2.2.2.2.2 m hm
  have ea : a' = a := by have := ra.1; rw [hp] at this; exact (Option.some.inj this).symm
  subst ea
  obtain ⟨v1, v2, v3, v4, v5, v6, v7, v8, v9, v11, v12, v13, _⟩ := rv
  have jm : (f_P_jumps (Int32.ofNat op) = true) = (19 ≤ op ∧ op ≤ 25) := by
    unfold f_P_jumps
    simp (disch := omega) only [o_le, o_leL, o_leR, o_lt, o_ltL, o_ltR, o_eq, o_eqL, o_eqR, o_cl, o_add, o_addL, o_addR, o_mul, o_mulL, o_mulR, o_sub, o_subR, o_0le, o_lt0, o_ixo, n1_eq, n1_eq', n1_lt, n1_le, n1_ge, n1_gt, n2_eq, n2_eq', n2_lt, n2_le, n2_ge, n2_gt, ↓reduceIte, ite_self, Nat.reduceEqDiff, Nat.reduceAdd, Nat.reduceMul, Nat.reduceSub, Nat.reduceLT, Nat.reduceLeDiff, Nat.not_lt_zero, Nat.zero_le, if_true, if_false, ite_true, ite_false, true_and, and_true, false_and, and_false, true_implies, false_implies, implies_true, not_true_eq_false, not_false_eq_true, eq_self, true_or, or_true, false_or, or_false, and_self, reduceCtorEq, forall_const]
    by_cases c : 19 ≤ op ∧ op ≤ 25 <;> simp [c]
  have uf : (f_P_usesField (Int32.ofNat op) = true) = (27 ≤ op ∧ op ≤ 30) := by
    unfold f_P_usesField
    simp (disch := omega) only [o_le, o_leL, o_leR, o_lt, o_ltL, o_ltR, o_eq, o_eqL, o_eqR, o_cl, o_add, o_addL, o_addR, o_mul, o_mulL, o_mulR, o_sub, o_subR, o_0le, o_lt0, o_ixo, n1_eq, n1_eq', n1_lt, n1_le, n1_ge, n1_gt, n2_eq, n2_eq', n2_lt, n2_le, n2_ge, n2_gt, ↓reduceIte, ite_self, Nat.reduceEqDiff, Nat.reduceAdd, Nat.reduceMul, Nat.reduceSub, Nat.reduceLT, Nat.reduceLeDiff, Nat.not_lt_zero, Nat.zero_le, if_true, if_false, ite_true, ite_false, true_and, and_true, false_and, and_false, true_implies, false_implies, implies_true, not_true_eq_false, not_false_eq_true, eq_self, true_or, or_true, false_or, or_false, and_self, reduceCtorEq, forall_const]
    by_cases c : 27 ≤ op ∧ op ≤ 30 <;> simp [c]
  unfold f_Flow_possible
  by_cases c1 : 19 ≤ op ∧ op ≤ 25
  · rw [if_pos (by rw [jm]; exact c1), if_pos ra.2.1, v7]
    exact dec_b (posJ c1).symm
  rw [if_neg (by rw [jm]; exact c1)]
  by_cases c2 : 27 ≤ op ∧ op ≤ 30
  · rw [if_pos (by rw [uf]; exact c2)]
    refine dec_b ?_
    unfold f_Source_isField
    have k4 := h.1.2.2.2
    by_cases c3 : op = 27 ∨ op = 28
    · rw [posFI c3]
      rcases fieldKind_ok k1 h.1.2.1 od with ⟨c, hc, h0, hd, hf⟩ | ⟨hno, hf⟩
      · have ik : f_Source_isKind (Int32.ofNat c) X = true := (isKind_iff k1 h.1.2.1 _).mpr ⟨c, hc, rfl⟩
        have e4 := (k4 c hc).2.1
        have same : (∃ c, c < kc ∧ 0 ≤ od ∧ od / 8 = Int32.ofNat c ∧ od - od / 8 * 8 < M.1 62 c) ↔ od - od / 8 * 8 < M.1 62 c := by
          constructor
          · rintro ⟨d, q1, q2, q3, q4⟩
            rw [hd, o_eq _ _ (by omega) (by omega)] at q3
            rw [q3]; exact q4
          · intro q; exact ⟨c, hc, h0, hd, q⟩
        rw [same, ← Int32.not_le, ← e4]
        rcases c3 with rfl | rfl
        · simp (disch := omega) only [hf, ik, o_le, o_leL, o_leR, o_lt, o_ltL, o_ltR, o_eq, o_eqL, o_eqR, o_cl, o_add, o_addL, o_addR, o_mul, o_mulL, o_mulR, o_sub, o_subR, o_0le, o_lt0, o_ixo, n1_eq, n1_eq', n1_lt, n1_le, n1_ge, n1_gt, n2_eq, n2_eq', n2_lt, n2_le, n2_ge, n2_gt, ↓reduceIte, ite_self, Nat.reduceEqDiff, Nat.reduceAdd, Nat.reduceMul, Nat.reduceSub, Nat.reduceLT, Nat.reduceLeDiff, Nat.not_lt_zero, Nat.zero_le, if_true, if_false, ite_true, ite_false, true_and, and_true, false_and, and_false, true_implies, false_implies, implies_true, not_true_eq_false, not_false_eq_true, eq_self, true_or, or_true, false_or, or_false, and_self, reduceCtorEq, forall_const]
          by_cases q : X.1 4 c ≤ od - od / 8 * 8 <;> simp [q]
        · simp (disch := omega) only [hf, ik, o_le, o_leL, o_leR, o_lt, o_ltL, o_ltR, o_eq, o_eqL, o_eqR, o_cl, o_add, o_addL, o_addR, o_mul, o_mulL, o_mulR, o_sub, o_subR, o_0le, o_lt0, o_ixo, n1_eq, n1_eq', n1_lt, n1_le, n1_ge, n1_gt, n2_eq, n2_eq', n2_lt, n2_le, n2_ge, n2_gt, ↓reduceIte, ite_self, Nat.reduceEqDiff, Nat.reduceAdd, Nat.reduceMul, Nat.reduceSub, Nat.reduceLT, Nat.reduceLeDiff, Nat.not_lt_zero, Nat.zero_le, if_true, if_false, ite_true, ite_false, true_and, and_true, false_and, and_false, true_implies, false_implies, implies_true, not_true_eq_false, not_false_eq_true, eq_self, true_or, or_true, false_or, or_false, and_self, reduceCtorEq, forall_const]
          by_cases q : X.1 4 c ≤ od - od / 8 * 8 <;> simp [q]
      · have ik : ¬ f_Source_isKind (-1) X = true := by
          rw [isKind_iff k1 h.1.2.1]
          rintro ⟨d, hd, e⟩
          rw [n1_eq' d (by omega)] at e
          exact e
        rw [hf, if_neg ik]
        constructor
        · intro q; cases q
        · rintro ⟨c, q1, q2, q3, _⟩
          exact absurd ⟨c, q1, q2, q3⟩ hno
    · have c4 : op = 29 ∨ op = 30 := by omega
      rw [posFR c4]
      rcases fieldKind_ok k1 h.1.2.1 od with ⟨c, hc, h0, hd, hf⟩ | ⟨hno, hf⟩
      · have ik : f_Source_isKind (Int32.ofNat c) X = true := (isKind_iff k1 h.1.2.1 _).mpr ⟨c, hc, rfl⟩
        have e5 := (k4 c hc).2.2.1
        have same : (∃ c, c < kc ∧ 0 ≤ od ∧ od / 8 = Int32.ofNat c ∧ od - od / 8 * 8 < M.1 63 c) ↔ od - od / 8 * 8 < M.1 63 c := by
          constructor
          · rintro ⟨d, q1, q2, q3, q4⟩
            rw [hd, o_eq _ _ (by omega) (by omega)] at q3
            rw [q3]; exact q4
          · intro q; exact ⟨c, hc, h0, hd, q⟩
        rw [same, ← Int32.not_le, ← e5]
        rcases c4 with rfl | rfl
        · simp (disch := omega) only [hf, ik, o_le, o_leL, o_leR, o_lt, o_ltL, o_ltR, o_eq, o_eqL, o_eqR, o_cl, o_add, o_addL, o_addR, o_mul, o_mulL, o_mulR, o_sub, o_subR, o_0le, o_lt0, o_ixo, n1_eq, n1_eq', n1_lt, n1_le, n1_ge, n1_gt, n2_eq, n2_eq', n2_lt, n2_le, n2_ge, n2_gt, ↓reduceIte, ite_self, Nat.reduceEqDiff, Nat.reduceAdd, Nat.reduceMul, Nat.reduceSub, Nat.reduceLT, Nat.reduceLeDiff, Nat.not_lt_zero, Nat.zero_le, if_true, if_false, ite_true, ite_false, true_and, and_true, false_and, and_false, true_implies, false_implies, implies_true, not_true_eq_false, not_false_eq_true, eq_self, true_or, or_true, false_or, or_false, and_self, reduceCtorEq, forall_const]
          by_cases q : X.1 5 c ≤ od - od / 8 * 8 <;> simp [q]
        · simp (disch := omega) only [hf, ik, o_le, o_leL, o_leR, o_lt, o_ltL, o_ltR, o_eq, o_eqL, o_eqR, o_cl, o_add, o_addL, o_addR, o_mul, o_mulL, o_mulR, o_sub, o_subR, o_0le, o_lt0, o_ixo, n1_eq, n1_eq', n1_lt, n1_le, n1_ge, n1_gt, n2_eq, n2_eq', n2_lt, n2_le, n2_ge, n2_gt, ↓reduceIte, ite_self, Nat.reduceEqDiff, Nat.reduceAdd, Nat.reduceMul, Nat.reduceSub, Nat.reduceLT, Nat.reduceLeDiff, Nat.not_lt_zero, Nat.zero_le, if_true, if_false, ite_true, ite_false, true_and, and_true, false_and, and_false, true_implies, false_implies, implies_true, not_true_eq_false, not_false_eq_true, eq_self, true_or, or_true, false_or, or_false, and_self, reduceCtorEq, forall_const]
          by_cases q : X.1 5 c ≤ od - od / 8 * 8 <;> simp [q]
      · have ik : ¬ f_Source_isKind (-1) X = true := by
          rw [isKind_iff k1 h.1.2.1]
          rintro ⟨d, hd, e⟩
          rw [n1_eq' d (by omega)] at e
          exact e
        rw [hf, if_neg ik]
        constructor
        · intro q; cases q
        · rintro ⟨c, q1, q2, q3, _⟩
          exact absurd ⟨c, q1, q2, q3⟩ hno
  rw [if_neg (by rw [uf]; exact c2)]
  by_cases c3 : 52 ≤ op ∧ op ≤ 55
  · rw [if_pos (by simp (disch := omega) only [o_le, o_leL, o_leR, o_lt, o_ltL, o_ltR, o_eq, o_eqL, o_eqR, o_cl, o_add, o_addL, o_addR, o_mul, o_mulL, o_mulR, o_sub, o_subR, o_0le, o_lt0, o_ixo, n1_eq, n1_eq', n1_lt, n1_le, n1_ge, n1_gt, n2_eq, n2_eq', n2_lt, n2_le, n2_ge, n2_gt, ↓reduceIte, ite_self, Nat.reduceEqDiff, Nat.reduceAdd, Nat.reduceMul, Nat.reduceSub, Nat.reduceLT, Nat.reduceLeDiff, Nat.not_lt_zero, Nat.zero_le, if_true, if_false, ite_true, ite_false, true_and, and_true, false_and, and_false, true_implies, false_implies, implies_true, not_true_eq_false, not_false_eq_true, eq_self, true_or, or_true, false_or, or_false, and_self, reduceCtorEq, forall_const]; exact c3)]
    exact dec_b (posS c3).symm
  rw [if_neg (by simp (disch := omega) only [o_le, o_leL, o_leR, o_lt, o_ltL, o_ltR, o_eq, o_eqL, o_eqR, o_cl, o_add, o_addL, o_addR, o_mul, o_mulL, o_mulR, o_sub, o_subR, o_0le, o_lt0, o_ixo, n1_eq, n1_eq', n1_lt, n1_le, n1_ge, n1_gt, n2_eq, n2_eq', n2_lt, n2_le, n2_ge, n2_gt, ↓reduceIte, ite_self, Nat.reduceEqDiff, Nat.reduceAdd, Nat.reduceMul, Nat.reduceSub, Nat.reduceLT, Nat.reduceLeDiff, Nat.not_lt_zero, Nat.zero_le, if_true, if_false, ite_true, ite_false, true_and, and_true, false_and, and_false, true_implies, false_implies, implies_true, not_true_eq_false, not_false_eq_true, eq_self, true_or, or_true, false_or, or_false, and_self, reduceCtorEq, forall_const]; exact c3)]
  by_cases c4 : 40 ≤ op ∧ op ≤ 42
  · rw [if_pos (by simp (disch := omega) only [o_le, o_leL, o_leR, o_lt, o_ltL, o_ltR, o_eq, o_eqL, o_eqR, o_cl, o_add, o_addL, o_addR, o_mul, o_mulL, o_mulR, o_sub, o_subR, o_0le, o_lt0, o_ixo, n1_eq, n1_eq', n1_lt, n1_le, n1_ge, n1_gt, n2_eq, n2_eq', n2_lt, n2_le, n2_ge, n2_gt, ↓reduceIte, ite_self, Nat.reduceEqDiff, Nat.reduceAdd, Nat.reduceMul, Nat.reduceSub, Nat.reduceLT, Nat.reduceLeDiff, Nat.not_lt_zero, Nat.zero_le, if_true, if_false, ite_true, ite_false, true_and, and_true, false_and, and_false, true_implies, false_implies, implies_true, not_true_eq_false, not_false_eq_true, eq_self, true_or, or_true, false_or, or_false, and_self, reduceCtorEq, forall_const]; exact c4), if_pos ra.2.1, v5]
    refine dec_n ?_
    rw [posR c4]
    have e40 : Int32.ofNat op - 40 = Int32.ofNat (op - 40) := by simp (disch := omega) only [o_le, o_leL, o_leR, o_lt, o_ltL, o_ltR, o_eq, o_eqL, o_eqR, o_cl, o_add, o_addL, o_addR, o_mul, o_mulL, o_mulR, o_sub, o_subR, o_0le, o_lt0, o_ixo, n1_eq, n1_eq', n1_lt, n1_le, n1_ge, n1_gt, n2_eq, n2_eq', n2_lt, n2_le, n2_ge, n2_gt, ↓reduceIte, ite_self, Nat.reduceEqDiff, Nat.reduceAdd, Nat.reduceMul, Nat.reduceSub, Nat.reduceLT, Nat.reduceLeDiff, Nat.not_lt_zero, Nat.zero_le, if_true, if_false, ite_true, ite_false, true_and, and_true, false_and, and_false, true_implies, false_implies, implies_true, not_true_eq_false, not_false_eq_true, eq_self, true_or, or_true, false_or, or_false, and_self, reduceCtorEq, forall_const]
    rw [e40]
    exact not_congr eq_comm
  rw [if_neg (by simp (disch := omega) only [o_le, o_leL, o_leR, o_lt, o_ltL, o_ltR, o_eq, o_eqL, o_eqR, o_cl, o_add, o_addL, o_addR, o_mul, o_mulL, o_mulR, o_sub, o_subR, o_0le, o_lt0, o_ixo, n1_eq, n1_eq', n1_lt, n1_le, n1_ge, n1_gt, n2_eq, n2_eq', n2_lt, n2_le, n2_ge, n2_gt, ↓reduceIte, ite_self, Nat.reduceEqDiff, Nat.reduceAdd, Nat.reduceMul, Nat.reduceSub, Nat.reduceLT, Nat.reduceLeDiff, Nat.not_lt_zero, Nat.zero_le, if_true, if_false, ite_true, ite_false, true_and, and_true, false_and, and_false, true_implies, false_implies, implies_true, not_true_eq_false, not_false_eq_true, eq_self, true_or, or_true, false_or, or_false, and_self, reduceCtorEq, forall_const]; exact c4)]
  by_cases c5 : op = 1
  · subst c5
    simp (disch := omega) only [o_le, o_leL, o_leR, o_lt, o_ltL, o_ltR, o_eq, o_eqL, o_eqR, o_cl, o_add, o_addL, o_addR, o_mul, o_mulL, o_mulR, o_sub, o_subR, o_0le, o_lt0, o_ixo, n1_eq, n1_eq', n1_lt, n1_le, n1_ge, n1_gt, n2_eq, n2_eq', n2_lt, n2_le, n2_ge, n2_gt, ↓reduceIte, ite_self, Nat.reduceEqDiff, Nat.reduceAdd, Nat.reduceMul, Nat.reduceSub, Nat.reduceLT, Nat.reduceLeDiff, Nat.not_lt_zero, Nat.zero_le, if_true, if_false, ite_true, ite_false, true_and, and_true, false_and, and_false, true_implies, false_implies, implies_true, not_true_eq_false, not_false_eq_true, eq_self, true_or, or_true, false_or, or_false, and_self, reduceCtorEq, forall_const]
    exact dec_b pos1.symm
  by_cases c6 : op = 2 ∨ op = 3
  · have e6 : Int32.ofNat op = 2 ∨ Int32.ofNat op = 3 := by simp (disch := omega) only [o_le, o_leL, o_leR, o_lt, o_ltL, o_ltR, o_eq, o_eqL, o_eqR, o_cl, o_add, o_addL, o_addR, o_mul, o_mulL, o_mulR, o_sub, o_subR, o_0le, o_lt0, o_ixo, n1_eq, n1_eq', n1_lt, n1_le, n1_ge, n1_gt, n2_eq, n2_eq', n2_lt, n2_le, n2_ge, n2_gt, ↓reduceIte, ite_self, Nat.reduceEqDiff, Nat.reduceAdd, Nat.reduceMul, Nat.reduceSub, Nat.reduceLT, Nat.reduceLeDiff, Nat.not_lt_zero, Nat.zero_le, if_true, if_false, ite_true, ite_false, true_and, and_true, false_and, and_false, true_implies, false_implies, implies_true, not_true_eq_false, not_false_eq_true, eq_self, true_or, or_true, false_or, or_false, and_self, reduceCtorEq, forall_const]; exact c6
    rw [if_neg (by simp (disch := omega) only [o_le, o_leL, o_leR, o_lt, o_ltL, o_ltR, o_eq, o_eqL, o_eqR, o_cl, o_add, o_addL, o_addR, o_mul, o_mulL, o_mulR, o_sub, o_subR, o_0le, o_lt0, o_ixo, n1_eq, n1_eq', n1_lt, n1_le, n1_ge, n1_gt, n2_eq, n2_eq', n2_lt, n2_le, n2_ge, n2_gt, ↓reduceIte, ite_self, Nat.reduceEqDiff, Nat.reduceAdd, Nat.reduceMul, Nat.reduceSub, Nat.reduceLT, Nat.reduceLeDiff, Nat.not_lt_zero, Nat.zero_le, if_true, if_false, ite_true, ite_false, true_and, and_true, false_and, and_false, true_implies, false_implies, implies_true, not_true_eq_false, not_false_eq_true, eq_self, true_or, or_true, false_or, or_false, and_self, reduceCtorEq, forall_const]; exact c5), if_pos e6, if_pos ra.2.1, v6]
    exact dec_b (posL c6).symm
  have n6 : ¬ (Int32.ofNat op = 2 ∨ Int32.ofNat op = 3) := by simp (disch := omega) only [o_le, o_leL, o_leR, o_lt, o_ltL, o_ltR, o_eq, o_eqL, o_eqR, o_cl, o_add, o_addL, o_addR, o_mul, o_mulL, o_mulR, o_sub, o_subR, o_0le, o_lt0, o_ixo, n1_eq, n1_eq', n1_lt, n1_le, n1_ge, n1_gt, n2_eq, n2_eq', n2_lt, n2_le, n2_ge, n2_gt, ↓reduceIte, ite_self, Nat.reduceEqDiff, Nat.reduceAdd, Nat.reduceMul, Nat.reduceSub, Nat.reduceLT, Nat.reduceLeDiff, Nat.not_lt_zero, Nat.zero_le, if_true, if_false, ite_true, ite_false, true_and, and_true, false_and, and_false, true_implies, false_implies, implies_true, not_true_eq_false, not_false_eq_true, eq_self, true_or, or_true, false_or, or_false, and_self, reduceCtorEq, forall_const]; exact c6
  rw [if_neg (by simp (disch := omega) only [o_le, o_leL, o_leR, o_lt, o_ltL, o_ltR, o_eq, o_eqL, o_eqR, o_cl, o_add, o_addL, o_addR, o_mul, o_mulL, o_mulR, o_sub, o_subR, o_0le, o_lt0, o_ixo, n1_eq, n1_eq', n1_lt, n1_le, n1_ge, n1_gt, n2_eq, n2_eq', n2_lt, n2_le, n2_ge, n2_gt, ↓reduceIte, ite_self, Nat.reduceEqDiff, Nat.reduceAdd, Nat.reduceMul, Nat.reduceSub, Nat.reduceLT, Nat.reduceLeDiff, Nat.not_lt_zero, Nat.zero_le, if_true, if_false, ite_true, ite_false, true_and, and_true, false_and, and_false, true_implies, false_implies, implies_true, not_true_eq_false, not_false_eq_true, eq_self, true_or, or_true, false_or, or_false, and_self, reduceCtorEq, forall_const]; exact c5), if_neg n6]
  by_cases c7 : op = 26 ∨ op = 44
  · rw [if_pos (by simp (disch := omega) only [o_le, o_leL, o_leR, o_lt, o_ltL, o_ltR, o_eq, o_eqL, o_eqR, o_cl, o_add, o_addL, o_addR, o_mul, o_mulL, o_mulR, o_sub, o_subR, o_0le, o_lt0, o_ixo, n1_eq, n1_eq', n1_lt, n1_le, n1_ge, n1_gt, n2_eq, n2_eq', n2_lt, n2_le, n2_ge, n2_gt, ↓reduceIte, ite_self, Nat.reduceEqDiff, Nat.reduceAdd, Nat.reduceMul, Nat.reduceSub, Nat.reduceLT, Nat.reduceLeDiff, Nat.not_lt_zero, Nat.zero_le, if_true, if_false, ite_true, ite_false, true_and, and_true, false_and, and_false, true_implies, false_implies, implies_true, not_true_eq_false, not_false_eq_true, eq_self, true_or, or_true, false_or, or_false, and_self, reduceCtorEq, forall_const]; exact c7)]
    refine dec_b ?_
    rw [isKind_iff k1 h.1.2.1, posC c7]
  rw [if_neg (by simp (disch := omega) only [o_le, o_leL, o_leR, o_lt, o_ltL, o_ltR, o_eq, o_eqL, o_eqR, o_cl, o_add, o_addL, o_addR, o_mul, o_mulL, o_mulR, o_sub, o_subR, o_0le, o_lt0, o_ixo, n1_eq, n1_eq', n1_lt, n1_le, n1_ge, n1_gt, n2_eq, n2_eq', n2_lt, n2_le, n2_ge, n2_gt, ↓reduceIte, ite_self, Nat.reduceEqDiff, Nat.reduceAdd, Nat.reduceMul, Nat.reduceSub, Nat.reduceLT, Nat.reduceLeDiff, Nat.not_lt_zero, Nat.zero_le, if_true, if_false, ite_true, ite_false, true_and, and_true, false_and, and_false, true_implies, false_implies, implies_true, not_true_eq_false, not_false_eq_true, eq_self, true_or, or_true, false_or, or_false, and_self, reduceCtorEq, forall_const]; exact c7)]
  by_cases c8 : op = 38
  · subst c8
    obtain ⟨b, e, hb⟩ := isStatic_ok h od
    rw [if_pos (show Int32.ofNat 38 = 38 from rfl), e]
    simp only [Option.bind_some]
    refine dec_b ?_
    rw [hb, pos38]
  rw [if_neg (by simp (disch := omega) only [o_le, o_leL, o_leR, o_lt, o_ltL, o_ltR, o_eq, o_eqL, o_eqR, o_cl, o_add, o_addL, o_addR, o_mul, o_mulL, o_mulR, o_sub, o_subR, o_0le, o_lt0, o_ixo, n1_eq, n1_eq', n1_lt, n1_le, n1_ge, n1_gt, n2_eq, n2_eq', n2_lt, n2_le, n2_ge, n2_gt, ↓reduceIte, ite_self, Nat.reduceEqDiff, Nat.reduceAdd, Nat.reduceMul, Nat.reduceSub, Nat.reduceLT, Nat.reduceLeDiff, Nat.not_lt_zero, Nat.zero_le, if_true, if_false, ite_true, ite_false, true_and, and_true, false_and, and_false, true_implies, false_implies, implies_true, not_true_eq_false, not_false_eq_true, eq_self, true_or, or_true, false_or, or_false, and_self, reduceCtorEq, forall_const]; exact c8)]
  by_cases c9 : op = 39
  · subst c9
    rw [if_pos (show Int32.ofNat 39 = 39 from rfl)]
    refine dec_n ?_
    rw [pos39]
    by_cases cn : ∃ n, n < 8 ∧ od = Int32.ofNat n
    · obtain ⟨n, hn, rfl⟩ := cn
      rw [anyX h.2.2.2.2.1 hn]
      cases ea : anyM M rc n with
      | none =>
        constructor
        · rintro _ ⟨n', q1, q2, r, q3⟩
          rw [o_eq _ _ (by omega) (by omega)] at q2
          subst q2
          rw [ea] at q3
          cases q3
        · intro _; rfl
      | some r =>
        have hrr := (anyM_some ea).1
        constructor
        · intro q
          have q' : Int32.ofNat r = -1 := q
          rw [n1_eq r (by omega)] at q'
          exact q'.elim
        · intro q
          exact absurd ⟨n, hn, rfl, r, ea⟩ q
    · have : f_Source_routineOfName od X = -1 := by
        unfold f_Source_routineOfName
        rw [if_neg]
        rintro ⟨q1, q2⟩
        obtain ⟨k, hk, e⟩ := toNle (n := 7) (by omega) q1 q2
        exact cn ⟨k, by omega, e⟩
      rw [this]
      constructor
      · rintro _ ⟨n', q1, q2, _⟩
        exact cn ⟨n', q1, q2⟩
      · intro _; rfl
  rw [if_neg (by simp (disch := omega) only [o_le, o_leL, o_leR, o_lt, o_ltL, o_ltR, o_eq, o_eqL, o_eqR, o_cl, o_add, o_addL, o_addR, o_mul, o_mulL, o_mulR, o_sub, o_subR, o_0le, o_lt0, o_ixo, n1_eq, n1_eq', n1_lt, n1_le, n1_ge, n1_gt, n2_eq, n2_eq', n2_lt, n2_le, n2_ge, n2_gt, ↓reduceIte, ite_self, Nat.reduceEqDiff, Nat.reduceAdd, Nat.reduceMul, Nat.reduceSub, Nat.reduceLT, Nat.reduceLeDiff, Nat.not_lt_zero, Nat.zero_le, if_true, if_false, ite_true, ite_false, true_and, and_true, false_and, and_false, true_implies, false_implies, implies_true, not_true_eq_false, not_false_eq_true, eq_self, true_or, or_true, false_or, or_false, and_self, reduceCtorEq, forall_const]; exact c9)]
  by_cases c10 : op = 48
  · subst c10
    rw [if_pos (show Int32.ofNat 48 = 48 from rfl)]
    have cb : ∃ b, f_Source_canBegin X = some b ∧ (b = true ↔ ∃ r, anyM M rc 0 = some r ∧ M.1 66 r = 0) := by
      unfold f_Source_canBegin
      have ax := anyX (n := 0) h.2.2.2.2.1 (by omega)
      have ax0 : f_Source_routineOfName 0 X = enc (-1) (anyM M rc 0) := ax
      rw [ax0]
      cases ea : anyM M rc 0 with
      | none =>
        have nr : f_Source_isRoutine (-1) X = false := isRoutine_not hr h.2.2.1 (-1) (by
          rintro ⟨m, q1, q2⟩
          rw [n1_eq' m (by omega)] at q2
          exact q2)
        refine ⟨false, ?_, ?_⟩
        · show (if f_Source_isRoutine (-1) X = true then _ else _) = _
          rw [nr]
          rfl
        · constructor
          · intro q; cases q
          · rintro ⟨r, q, _⟩; cases q
      | some r =>
        have hrr := (anyM_some ea).1
        obtain ⟨b, fb, rb, rvb⟩ := h.2.2.2.2.2 r hrr
        have ir := isRoutine_of hr h.2.2.1 hrr rb.1
        have vb := rvb.2.2.1
        unfold enc ocz
        by_cases q : M.1 66 r = 0
        · refine ⟨true, by simp (disch := omega) only [ir, rb.1, rb.2.1, vb, q, o_le, o_leL, o_leR, o_lt, o_ltL, o_ltR, o_eq, o_eqL, o_eqR, o_cl, o_add, o_addL, o_addR, o_mul, o_mulL, o_mulR, o_sub, o_subR, o_0le, o_lt0, o_ixo, n1_eq, n1_eq', n1_lt, n1_le, n1_ge, n1_gt, n2_eq, n2_eq', n2_lt, n2_le, n2_ge, n2_gt, ↓reduceIte, ite_self, Nat.reduceEqDiff, Nat.reduceAdd, Nat.reduceMul, Nat.reduceSub, Nat.reduceLT, Nat.reduceLeDiff, Nat.not_lt_zero, Nat.zero_le, if_true, if_false, ite_true, ite_false, true_and, and_true, false_and, and_false, true_implies, false_implies, implies_true, not_true_eq_false, not_false_eq_true, eq_self, true_or, or_true, false_or, or_false, and_self, reduceCtorEq, forall_const], by simp; exact q⟩
        · refine ⟨false, by simp (disch := omega) only [ir, rb.1, rb.2.1, vb, q, o_le, o_leL, o_leR, o_lt, o_ltL, o_ltR, o_eq, o_eqL, o_eqR, o_cl, o_add, o_addL, o_addR, o_mul, o_mulL, o_mulR, o_sub, o_subR, o_0le, o_lt0, o_ixo, n1_eq, n1_eq', n1_lt, n1_le, n1_ge, n1_gt, n2_eq, n2_eq', n2_lt, n2_le, n2_ge, n2_gt, ↓reduceIte, ite_self, Nat.reduceEqDiff, Nat.reduceAdd, Nat.reduceMul, Nat.reduceSub, Nat.reduceLT, Nat.reduceLeDiff, Nat.not_lt_zero, Nat.zero_le, if_true, if_false, ite_true, ite_false, true_and, and_true, false_and, and_false, true_implies, false_implies, implies_true, not_true_eq_false, not_false_eq_true, eq_self, true_or, or_true, false_or, or_false, and_self, reduceCtorEq, forall_const], by simp; exact q⟩
    obtain ⟨b, e, hb⟩ := cb
    rw [e]
    simp only [Option.bind_some]
    refine dec_b ?_
    rw [hb, pos48]
  · rw [if_neg (by simp (disch := omega) only [o_le, o_leL, o_leR, o_lt, o_ltL, o_ltR, o_eq, o_eqL, o_eqR, o_cl, o_add, o_addL, o_addR, o_mul, o_mulL, o_mulR, o_sub, o_subR, o_0le, o_lt0, o_ixo, n1_eq, n1_eq', n1_lt, n1_le, n1_ge, n1_gt, n2_eq, n2_eq', n2_lt, n2_le, n2_ge, n2_gt, ↓reduceIte, ite_self, Nat.reduceEqDiff, Nat.reduceAdd, Nat.reduceMul, Nat.reduceSub, Nat.reduceLT, Nat.reduceLeDiff, Nat.not_lt_zero, Nat.zero_le, if_true, if_false, ite_true, ite_false, true_and, and_true, false_and, and_false, true_implies, false_implies, implies_true, not_true_eq_false, not_false_eq_true, eq_self, true_or, or_true, false_or, or_false, and_self, reduceCtorEq, forall_const]; exact c10)]
    exact ⟨true, rfl, by simp; exact posN c5 (fun e => c6 (Or.inl e)) (fun e => c6 (Or.inr e)) c1 (fun e => c7 (Or.inl e)) (fun e => c7 (Or.inr e)) c2 c8 c9 c4 c10 c3⟩
set_option maxRecDepth 20000 in
set_option maxHeartbeats 4000000 in
theorem possM {X : XS} {M0 M : MS} {T : Nat → Nat} {kc rc m op : Nat} {od : Int32} (h : RSc X M0 T kc rc) (hs : MSrc M0 M) (hm : m < rc) (hop : op < 56) : ∃ b, f_M_hasOperand (Int32.ofNat m) (Int32.ofNat op) od M = some b ∧ (b = true ↔ Pos M0 kc rc m op od) := by
  have k1 := h.1.1
  have hr := h.2.1
  have m24 : ixo (Int32.ofNat m) 24 := by rw [o_ixo m 24 (by omega)]; omega
  have em : (Int32.ofNat m).toNatClampNeg = m := o_cl m (by omega)
  have g : ∀ a, 61 ≤ a → a ≤ 74 → M.1 a = M0.1 a := hs.1
  have e3 : M.1 60 3 = Int32.ofNat kc := hs.2.1.trans h.1.2.2.1
  have e15 : M.1 60 15 = Int32.ofNat rc := hs.2.2.trans h.2.2.2.1
  have an : ∀ n, f_M_anyOf (Int32.ofNat n) M = some (enc (-2) (anyM M0 rc n)) := by
    intro n
    have : anyM M rc n = anyM M0 rc n := by
      unfold anyM
      rw [g 65 (by omega) (by omega)]
    rw [anyOf_ok hr e15, this]
  unfold f_M_hasOperand
  by_cases c5 : op = 1
  · subst c5
    rw [if_pos (show Int32.ofNat 1 = 1 from rfl)]
    exact dec_b pos1.symm
  rw [if_neg (by simp (disch := omega) only [o_le, o_leL, o_leR, o_lt, o_ltL, o_ltR, o_eq, o_eqL, o_eqR, o_cl, o_add, o_addL, o_addR, o_mul, o_mulL, o_mulR, o_sub, o_subR, o_0le, o_lt0, o_ixo, n1_eq, n1_eq', n1_lt, n1_le, n1_ge, n1_gt, n2_eq, n2_eq', n2_lt, n2_le, n2_ge, n2_gt, ↓reduceIte, ite_self, Nat.reduceEqDiff, Nat.reduceAdd, Nat.reduceMul, Nat.reduceSub, Nat.reduceLT, Nat.reduceLeDiff, Nat.not_lt_zero, Nat.zero_le, if_true, if_false, ite_true, ite_false, true_and, and_true, false_and, and_false, true_implies, false_implies, implies_true, not_true_eq_false, not_false_eq_true, eq_self, true_or, or_true, false_or, or_false, and_self, reduceCtorEq, forall_const]; exact c5)]
  by_cases c6 : op = 2 ∨ op = 3
  · rw [if_pos (by simp (disch := omega) only [o_le, o_leL, o_leR, o_lt, o_ltL, o_ltR, o_eq, o_eqL, o_eqR, o_cl, o_add, o_addL, o_addR, o_mul, o_mulL, o_mulR, o_sub, o_subR, o_0le, o_lt0, o_ixo, n1_eq, n1_eq', n1_lt, n1_le, n1_ge, n1_gt, n2_eq, n2_eq', n2_lt, n2_le, n2_ge, n2_gt, ↓reduceIte, ite_self, Nat.reduceEqDiff, Nat.reduceAdd, Nat.reduceMul, Nat.reduceSub, Nat.reduceLT, Nat.reduceLeDiff, Nat.not_lt_zero, Nat.zero_le, if_true, if_false, ite_true, ite_false, true_and, and_true, false_and, and_false, true_implies, false_implies, implies_true, not_true_eq_false, not_false_eq_true, eq_self, true_or, or_true, false_or, or_false, and_self, reduceCtorEq, forall_const]; exact c6), if_pos m24, em, g 69 (by omega) (by omega)]
    exact dec_b (posL c6).symm
  rw [if_neg (by simp (disch := omega) only [o_le, o_leL, o_leR, o_lt, o_ltL, o_ltR, o_eq, o_eqL, o_eqR, o_cl, o_add, o_addL, o_addR, o_mul, o_mulL, o_mulR, o_sub, o_subR, o_0le, o_lt0, o_ixo, n1_eq, n1_eq', n1_lt, n1_le, n1_ge, n1_gt, n2_eq, n2_eq', n2_lt, n2_le, n2_ge, n2_gt, ↓reduceIte, ite_self, Nat.reduceEqDiff, Nat.reduceAdd, Nat.reduceMul, Nat.reduceSub, Nat.reduceLT, Nat.reduceLeDiff, Nat.not_lt_zero, Nat.zero_le, if_true, if_false, ite_true, ite_false, true_and, and_true, false_and, and_false, true_implies, false_implies, implies_true, not_true_eq_false, not_false_eq_true, eq_self, true_or, or_true, false_or, or_false, and_self, reduceCtorEq, forall_const]; exact c6)]
  by_cases c1 : 19 ≤ op ∧ op ≤ 25
  · rw [if_pos (by simp (disch := omega) only [o_le, o_leL, o_leR, o_lt, o_ltL, o_ltR, o_eq, o_eqL, o_eqR, o_cl, o_add, o_addL, o_addR, o_mul, o_mulL, o_mulR, o_sub, o_subR, o_0le, o_lt0, o_ixo, n1_eq, n1_eq', n1_lt, n1_le, n1_ge, n1_gt, n2_eq, n2_eq', n2_lt, n2_le, n2_ge, n2_gt, ↓reduceIte, ite_self, Nat.reduceEqDiff, Nat.reduceAdd, Nat.reduceMul, Nat.reduceSub, Nat.reduceLT, Nat.reduceLeDiff, Nat.not_lt_zero, Nat.zero_le, if_true, if_false, ite_true, ite_false, true_and, and_true, false_and, and_false, true_implies, false_implies, implies_true, not_true_eq_false, not_false_eq_true, eq_self, true_or, or_true, false_or, or_false, and_self, reduceCtorEq, forall_const]; omega), if_pos m24, em, g 70 (by omega) (by omega)]
    exact dec_b (posJ c1).symm
  rw [if_neg (by simp (disch := omega) only [o_le, o_leL, o_leR, o_lt, o_ltL, o_ltR, o_eq, o_eqL, o_eqR, o_cl, o_add, o_addL, o_addR, o_mul, o_mulL, o_mulR, o_sub, o_subR, o_0le, o_lt0, o_ixo, n1_eq, n1_eq', n1_lt, n1_le, n1_ge, n1_gt, n2_eq, n2_eq', n2_lt, n2_le, n2_ge, n2_gt, ↓reduceIte, ite_self, Nat.reduceEqDiff, Nat.reduceAdd, Nat.reduceMul, Nat.reduceSub, Nat.reduceLT, Nat.reduceLeDiff, Nat.not_lt_zero, Nat.zero_le, if_true, if_false, ite_true, ite_false, true_and, and_true, false_and, and_false, true_implies, false_implies, implies_true, not_true_eq_false, not_false_eq_true, eq_self, true_or, or_true, false_or, or_false, and_self, reduceCtorEq, forall_const]; omega)]
  by_cases c7 : op = 26 ∨ op = 44
  · rw [if_pos (by simp (disch := omega) only [o_le, o_leL, o_leR, o_lt, o_ltL, o_ltR, o_eq, o_eqL, o_eqR, o_cl, o_add, o_addL, o_addR, o_mul, o_mulL, o_mulR, o_sub, o_subR, o_0le, o_lt0, o_ixo, n1_eq, n1_eq', n1_lt, n1_le, n1_ge, n1_gt, n2_eq, n2_eq', n2_lt, n2_le, n2_ge, n2_gt, ↓reduceIte, ite_self, Nat.reduceEqDiff, Nat.reduceAdd, Nat.reduceMul, Nat.reduceSub, Nat.reduceLT, Nat.reduceLeDiff, Nat.not_lt_zero, Nat.zero_le, if_true, if_false, ite_true, ite_false, true_and, and_true, false_and, and_false, true_implies, false_implies, implies_true, not_true_eq_false, not_false_eq_true, eq_self, true_or, or_true, false_or, or_false, and_self, reduceCtorEq, forall_const]; exact c7)]
    refine dec_b ?_
    rw [isClassM k1 e3, posC c7]
  rw [if_neg (by simp (disch := omega) only [o_le, o_leL, o_leR, o_lt, o_ltL, o_ltR, o_eq, o_eqL, o_eqR, o_cl, o_add, o_addL, o_addR, o_mul, o_mulL, o_mulR, o_sub, o_subR, o_0le, o_lt0, o_ixo, n1_eq, n1_eq', n1_lt, n1_le, n1_ge, n1_gt, n2_eq, n2_eq', n2_lt, n2_le, n2_ge, n2_gt, ↓reduceIte, ite_self, Nat.reduceEqDiff, Nat.reduceAdd, Nat.reduceMul, Nat.reduceSub, Nat.reduceLT, Nat.reduceLeDiff, Nat.not_lt_zero, Nat.zero_le, if_true, if_false, ite_true, ite_false, true_and, and_true, false_and, and_false, true_implies, false_implies, implies_true, not_true_eq_false, not_false_eq_true, eq_self, true_or, or_true, false_or, or_false, and_self, reduceCtorEq, forall_const]; exact c7)]
  by_cases c3 : op = 27 ∨ op = 28
  · rw [if_pos (by simp (disch := omega) only [o_le, o_leL, o_leR, o_lt, o_ltL, o_ltR, o_eq, o_eqL, o_eqR, o_cl, o_add, o_addL, o_addR, o_mul, o_mulL, o_mulR, o_sub, o_subR, o_0le, o_lt0, o_ixo, n1_eq, n1_eq', n1_lt, n1_le, n1_ge, n1_gt, n2_eq, n2_eq', n2_lt, n2_le, n2_ge, n2_gt, ↓reduceIte, ite_self, Nat.reduceEqDiff, Nat.reduceAdd, Nat.reduceMul, Nat.reduceSub, Nat.reduceLT, Nat.reduceLeDiff, Nat.not_lt_zero, Nat.zero_le, if_true, if_false, ite_true, ite_false, true_and, and_true, false_and, and_false, true_implies, false_implies, implies_true, not_true_eq_false, not_false_eq_true, eq_self, true_or, or_true, false_or, or_false, and_self, reduceCtorEq, forall_const]; exact c3)]
    by_cases h0 : od < 0
    · rw [if_pos h0]
      refine ⟨false, rfl, ?_⟩
      rw [posFI c3]
      constructor
      · intro q; cases q
      · rintro ⟨c, _, q, _⟩; exact absurd q (Int32.not_le.mpr h0)
    rw [if_neg h0]
    by_cases cc : ∃ c, c < kc ∧ od / 8 = Int32.ofNat c
    · have ic : f_M_isClass (od / 8) M = true := by rw [isClassM k1 e3]; exact cc
      obtain ⟨c, hc, ed⟩ := cc
      have i10 : ixo (od / 8) 10 := by rw [ed, o_ixo c 10 (by omega)]; omega
      rw [if_pos ic, if_pos i10, ed, o_cl c (by omega), g 62 (by omega) (by omega)]
      refine dec_n ?_
      rw [posFI c3]
      constructor
      · rintro q ⟨d, q1, q2, q3, q4⟩
        rw [ed, o_eq _ _ (by omega) (by omega)] at q3
        subst q3
        rw [ed] at q4
        exact absurd q (Int32.not_le.mpr q4)
      · intro q
        apply Classical.byContradiction
        intro q2
        exact q ⟨c, hc, Int32.not_lt.mp h0, ed, by rw [ed]; exact Int32.not_le.mp q2⟩
    · have ic : ¬ f_M_isClass (od / 8) M = true := by rw [isClassM k1 e3]; exact cc
      rw [if_neg ic]
      refine ⟨false, rfl, ?_⟩
      rw [posFI c3]
      constructor
      · intro q; cases q
      · rintro ⟨c, q1, _, q3, _⟩; exact absurd ⟨c, q1, q3⟩ cc
  rw [if_neg (by simp (disch := omega) only [o_le, o_leL, o_leR, o_lt, o_ltL, o_ltR, o_eq, o_eqL, o_eqR, o_cl, o_add, o_addL, o_addR, o_mul, o_mulL, o_mulR, o_sub, o_subR, o_0le, o_lt0, o_ixo, n1_eq, n1_eq', n1_lt, n1_le, n1_ge, n1_gt, n2_eq, n2_eq', n2_lt, n2_le, n2_ge, n2_gt, ↓reduceIte, ite_self, Nat.reduceEqDiff, Nat.reduceAdd, Nat.reduceMul, Nat.reduceSub, Nat.reduceLT, Nat.reduceLeDiff, Nat.not_lt_zero, Nat.zero_le, if_true, if_false, ite_true, ite_false, true_and, and_true, false_and, and_false, true_implies, false_implies, implies_true, not_true_eq_false, not_false_eq_true, eq_self, true_or, or_true, false_or, or_false, and_self, reduceCtorEq, forall_const]; exact c3)]
  by_cases c4 : op = 29 ∨ op = 30
  · rw [if_pos (by simp (disch := omega) only [o_le, o_leL, o_leR, o_lt, o_ltL, o_ltR, o_eq, o_eqL, o_eqR, o_cl, o_add, o_addL, o_addR, o_mul, o_mulL, o_mulR, o_sub, o_subR, o_0le, o_lt0, o_ixo, n1_eq, n1_eq', n1_lt, n1_le, n1_ge, n1_gt, n2_eq, n2_eq', n2_lt, n2_le, n2_ge, n2_gt, ↓reduceIte, ite_self, Nat.reduceEqDiff, Nat.reduceAdd, Nat.reduceMul, Nat.reduceSub, Nat.reduceLT, Nat.reduceLeDiff, Nat.not_lt_zero, Nat.zero_le, if_true, if_false, ite_true, ite_false, true_and, and_true, false_and, and_false, true_implies, false_implies, implies_true, not_true_eq_false, not_false_eq_true, eq_self, true_or, or_true, false_or, or_false, and_self, reduceCtorEq, forall_const]; exact c4)]
    by_cases h0 : od < 0
    · rw [if_pos h0]
      refine ⟨false, rfl, ?_⟩
      rw [posFR c4]
      constructor
      · intro q; cases q
      · rintro ⟨c, _, q, _⟩; exact absurd q (Int32.not_le.mpr h0)
    rw [if_neg h0]
    by_cases cc : ∃ c, c < kc ∧ od / 8 = Int32.ofNat c
    · have ic : f_M_isClass (od / 8) M = true := by rw [isClassM k1 e3]; exact cc
      obtain ⟨c, hc, ed⟩ := cc
      have i10 : ixo (od / 8) 10 := by rw [ed, o_ixo c 10 (by omega)]; omega
      rw [if_pos ic, if_pos i10, ed, o_cl c (by omega), g 63 (by omega) (by omega)]
      refine dec_n ?_
      rw [posFR c4]
      constructor
      · rintro q ⟨d, q1, q2, q3, q4⟩
        rw [ed, o_eq _ _ (by omega) (by omega)] at q3
        subst q3
        rw [ed] at q4
        exact absurd q (Int32.not_le.mpr q4)
      · intro q
        apply Classical.byContradiction
        intro q2
        exact q ⟨c, hc, Int32.not_lt.mp h0, ed, by rw [ed]; exact Int32.not_le.mp q2⟩
    · have ic : ¬ f_M_isClass (od / 8) M = true := by rw [isClassM k1 e3]; exact cc
      rw [if_neg ic]
      refine ⟨false, rfl, ?_⟩
      rw [posFR c4]
      constructor
      · intro q; cases q
      · rintro ⟨c, q1, _, q3, _⟩; exact absurd ⟨c, q1, q3⟩ cc
  rw [if_neg (by simp (disch := omega) only [o_le, o_leL, o_leR, o_lt, o_ltL, o_ltR, o_eq, o_eqL, o_eqR, o_cl, o_add, o_addL, o_addR, o_mul, o_mulL, o_mulR, o_sub, o_subR, o_0le, o_lt0, o_ixo, n1_eq, n1_eq', n1_lt, n1_le, n1_ge, n1_gt, n2_eq, n2_eq', n2_lt, n2_le, n2_ge, n2_gt, ↓reduceIte, ite_self, Nat.reduceEqDiff, Nat.reduceAdd, Nat.reduceMul, Nat.reduceSub, Nat.reduceLT, Nat.reduceLeDiff, Nat.not_lt_zero, Nat.zero_le, if_true, if_false, ite_true, ite_false, true_and, and_true, false_and, and_false, true_implies, false_implies, implies_true, not_true_eq_false, not_false_eq_true, eq_self, true_or, or_true, false_or, or_false, and_self, reduceCtorEq, forall_const]; exact c4)]
  by_cases c8 : op = 38
  · subst c8
    obtain ⟨b, e, hb⟩ := isStaticM hr e15 od
    rw [if_pos (show Int32.ofNat 38 = 38 from rfl), e]
    simp only [Option.bind_some]
    refine dec_b ?_
    rw [hb, pos38, g 65 (by omega) (by omega)]
  rw [if_neg (by simp (disch := omega) only [o_le, o_leL, o_leR, o_lt, o_ltL, o_ltR, o_eq, o_eqL, o_eqR, o_cl, o_add, o_addL, o_addR, o_mul, o_mulL, o_mulR, o_sub, o_subR, o_0le, o_lt0, o_ixo, n1_eq, n1_eq', n1_lt, n1_le, n1_ge, n1_gt, n2_eq, n2_eq', n2_lt, n2_le, n2_ge, n2_gt, ↓reduceIte, ite_self, Nat.reduceEqDiff, Nat.reduceAdd, Nat.reduceMul, Nat.reduceSub, Nat.reduceLT, Nat.reduceLeDiff, Nat.not_lt_zero, Nat.zero_le, if_true, if_false, ite_true, ite_false, true_and, and_true, false_and, and_false, true_implies, false_implies, implies_true, not_true_eq_false, not_false_eq_true, eq_self, true_or, or_true, false_or, or_false, and_self, reduceCtorEq, forall_const]; exact c8)]
  by_cases c9 : op = 39
  · subst c9
    rw [if_pos (show Int32.ofNat 39 = 39 from rfl)]
    by_cases hy : 0 ≤ od ∧ od ≤ 7
    · rw [if_pos hy]
      obtain ⟨n, hn, rfl⟩ := toNle (n := 7) (by omega) hy.1 hy.2
      rw [an n]
      simp only [Option.bind_some]
      refine dec_n ?_
      rw [pos39]
      cases ea : anyM M0 rc n with
      | none =>
        constructor
        · rintro _ ⟨n', q1, q2, r, q3⟩
          rw [o_eq _ _ (by omega) (by omega)] at q2
          subst q2
          rw [ea] at q3
          cases q3
        · intro _
          show (-2 : Int32) < 0
          decide
      | some r =>
        have hrr := (anyM_some ea).1
        constructor
        · intro q
          have q' : Int32.ofNat r < 0 := q
          rw [o_lt0 r (by omega)] at q'
          exact q'.elim
        · intro q
          exact absurd ⟨n, by omega, rfl, r, ea⟩ q
    · rw [if_neg hy]
      refine ⟨false, rfl, ?_⟩
      rw [pos39]
      constructor
      · intro q; cases q
      · rintro ⟨n, q1, q2, _⟩
        exfalso
        apply hy
        rw [q2]
        have : n ≤ 7 := by omega
        simp (disch := omega) only [this, o_le, o_leL, o_leR, o_lt, o_ltL, o_ltR, o_eq, o_eqL, o_eqR, o_cl, o_add, o_addL, o_addR, o_mul, o_mulL, o_mulR, o_sub, o_subR, o_0le, o_lt0, o_ixo, n1_eq, n1_eq', n1_lt, n1_le, n1_ge, n1_gt, n2_eq, n2_eq', n2_lt, n2_le, n2_ge, n2_gt, ↓reduceIte, ite_self, Nat.reduceEqDiff, Nat.reduceAdd, Nat.reduceMul, Nat.reduceSub, Nat.reduceLT, Nat.reduceLeDiff, Nat.not_lt_zero, Nat.zero_le, if_true, if_false, ite_true, ite_false, true_and, and_true, false_and, and_false, true_implies, false_implies, implies_true, not_true_eq_false, not_false_eq_true, eq_self, true_or, or_true, false_or, or_false, and_self, reduceCtorEq, forall_const]
  rw [if_neg (by simp (disch := omega) only [o_le, o_leL, o_leR, o_lt, o_ltL, o_ltR, o_eq, o_eqL, o_eqR, o_cl, o_add, o_addL, o_addR, o_mul, o_mulL, o_mulR, o_sub, o_subR, o_0le, o_lt0, o_ixo, n1_eq, n1_eq', n1_lt, n1_le, n1_ge, n1_gt, n2_eq, n2_eq', n2_lt, n2_le, n2_ge, n2_gt, ↓reduceIte, ite_self, Nat.reduceEqDiff, Nat.reduceAdd, Nat.reduceMul, Nat.reduceSub, Nat.reduceLT, Nat.reduceLeDiff, Nat.not_lt_zero, Nat.zero_le, if_true, if_false, ite_true, ite_false, true_and, and_true, false_and, and_false, true_implies, false_implies, implies_true, not_true_eq_false, not_false_eq_true, eq_self, true_or, or_true, false_or, or_false, and_self, reduceCtorEq, forall_const]; exact c9)]
  by_cases c4' : 40 ≤ op ∧ op ≤ 42
  · rw [if_pos (by simp (disch := omega) only [o_le, o_leL, o_leR, o_lt, o_ltL, o_ltR, o_eq, o_eqL, o_eqR, o_cl, o_add, o_addL, o_addR, o_mul, o_mulL, o_mulR, o_sub, o_subR, o_0le, o_lt0, o_ixo, n1_eq, n1_eq', n1_lt, n1_le, n1_ge, n1_gt, n2_eq, n2_eq', n2_lt, n2_le, n2_ge, n2_gt, ↓reduceIte, ite_self, Nat.reduceEqDiff, Nat.reduceAdd, Nat.reduceMul, Nat.reduceSub, Nat.reduceLT, Nat.reduceLeDiff, Nat.not_lt_zero, Nat.zero_le, if_true, if_false, ite_true, ite_false, true_and, and_true, false_and, and_false, true_implies, false_implies, implies_true, not_true_eq_false, not_false_eq_true, eq_self, true_or, or_true, false_or, or_false, and_self, reduceCtorEq, forall_const]; omega), if_pos m24, em, g 68 (by omega) (by omega)]
    refine dec_n ?_
    rw [posR c4']
    have e40 : Int32.ofNat op - 40 = Int32.ofNat (op - 40) := by simp (disch := omega) only [o_le, o_leL, o_leR, o_lt, o_ltL, o_ltR, o_eq, o_eqL, o_eqR, o_cl, o_add, o_addL, o_addR, o_mul, o_mulL, o_mulR, o_sub, o_subR, o_0le, o_lt0, o_ixo, n1_eq, n1_eq', n1_lt, n1_le, n1_ge, n1_gt, n2_eq, n2_eq', n2_lt, n2_le, n2_ge, n2_gt, ↓reduceIte, ite_self, Nat.reduceEqDiff, Nat.reduceAdd, Nat.reduceMul, Nat.reduceSub, Nat.reduceLT, Nat.reduceLeDiff, Nat.not_lt_zero, Nat.zero_le, if_true, if_false, ite_true, ite_false, true_and, and_true, false_and, and_false, true_implies, false_implies, implies_true, not_true_eq_false, not_false_eq_true, eq_self, true_or, or_true, false_or, or_false, and_self, reduceCtorEq, forall_const]
    rw [e40]
  rw [if_neg (by simp (disch := omega) only [o_le, o_leL, o_leR, o_lt, o_ltL, o_ltR, o_eq, o_eqL, o_eqR, o_cl, o_add, o_addL, o_addR, o_mul, o_mulL, o_mulR, o_sub, o_subR, o_0le, o_lt0, o_ixo, n1_eq, n1_eq', n1_lt, n1_le, n1_ge, n1_gt, n2_eq, n2_eq', n2_lt, n2_le, n2_ge, n2_gt, ↓reduceIte, ite_self, Nat.reduceEqDiff, Nat.reduceAdd, Nat.reduceMul, Nat.reduceSub, Nat.reduceLT, Nat.reduceLeDiff, Nat.not_lt_zero, Nat.zero_le, if_true, if_false, ite_true, ite_false, true_and, and_true, false_and, and_false, true_implies, false_implies, implies_true, not_true_eq_false, not_false_eq_true, eq_self, true_or, or_true, false_or, or_false, and_self, reduceCtorEq, forall_const]; omega)]
  by_cases c10 : op = 48
  · subst c10
    rw [if_pos (show Int32.ofNat 48 = 48 from rfl)]
    have an0 : f_M_anyOf 0 M = some (enc (-2) (anyM M0 rc 0)) := an 0
    rw [an0]
    simp only [Option.bind_some]
    cases ea : anyM M0 rc 0 with
    | none =>
      refine ⟨false, ?_, ?_⟩
      · show (if (-2 : Int32) < 0 then some false else _) = some false
        rw [if_pos (by decide)]
      · rw [pos48, ea]
        constructor
        · intro q; cases q
        · rintro ⟨r, q, _⟩; cases q
    | some r =>
      have hrr := (anyM_some ea).1
      have r24 : r < 24 := by omega
      unfold enc
      by_cases q : M0.1 66 r = 0
      · refine ⟨true, ?_, by simp; exact pos48.mpr ⟨r, ea, q⟩⟩
        simp (disch := omega) only [r24, g 66 (by omega) (by omega), q, o_le, o_leL, o_leR, o_lt, o_ltL, o_ltR, o_eq, o_eqL, o_eqR, o_cl, o_add, o_addL, o_addR, o_mul, o_mulL, o_mulR, o_sub, o_subR, o_0le, o_lt0, o_ixo, n1_eq, n1_eq', n1_lt, n1_le, n1_ge, n1_gt, n2_eq, n2_eq', n2_lt, n2_le, n2_ge, n2_gt, ↓reduceIte, ite_self, Nat.reduceEqDiff, Nat.reduceAdd, Nat.reduceMul, Nat.reduceSub, Nat.reduceLT, Nat.reduceLeDiff, Nat.not_lt_zero, Nat.zero_le, if_true, if_false, ite_true, ite_false, true_and, and_true, false_and, and_false, true_implies, false_implies, implies_true, not_true_eq_false, not_false_eq_true, eq_self, true_or, or_true, false_or, or_false, and_self, reduceCtorEq, forall_const]
      · refine ⟨false, ?_, ?_⟩
        · simp (disch := omega) only [r24, g 66 (by omega) (by omega), q, o_le, o_leL, o_leR, o_lt, o_ltL, o_ltR, o_eq, o_eqL, o_eqR, o_cl, o_add, o_addL, o_addR, o_mul, o_mulL, o_mulR, o_sub, o_subR, o_0le, o_lt0, o_ixo, n1_eq, n1_eq', n1_lt, n1_le, n1_ge, n1_gt, n2_eq, n2_eq', n2_lt, n2_le, n2_ge, n2_gt, ↓reduceIte, ite_self, Nat.reduceEqDiff, Nat.reduceAdd, Nat.reduceMul, Nat.reduceSub, Nat.reduceLT, Nat.reduceLeDiff, Nat.not_lt_zero, Nat.zero_le, if_true, if_false, ite_true, ite_false, true_and, and_true, false_and, and_false, true_implies, false_implies, implies_true, not_true_eq_false, not_false_eq_true, eq_self, true_or, or_true, false_or, or_false, and_self, reduceCtorEq, forall_const]
        · rw [pos48]
          constructor
          · intro z; cases z
          · rintro ⟨r', z1, z2⟩
            rw [ea] at z1
            cases z1
            exact absurd z2 q
  rw [if_neg (by simp (disch := omega) only [o_le, o_leL, o_leR, o_lt, o_ltL, o_ltR, o_eq, o_eqL, o_eqR, o_cl, o_add, o_addL, o_addR, o_mul, o_mulL, o_mulR, o_sub, o_subR, o_0le, o_lt0, o_ixo, n1_eq, n1_eq', n1_lt, n1_le, n1_ge, n1_gt, n2_eq, n2_eq', n2_lt, n2_le, n2_ge, n2_gt, ↓reduceIte, ite_self, Nat.reduceEqDiff, Nat.reduceAdd, Nat.reduceMul, Nat.reduceSub, Nat.reduceLT, Nat.reduceLeDiff, Nat.not_lt_zero, Nat.zero_le, if_true, if_false, ite_true, ite_false, true_and, and_true, false_and, and_false, true_implies, false_implies, implies_true, not_true_eq_false, not_false_eq_true, eq_self, true_or, or_true, false_or, or_false, and_self, reduceCtorEq, forall_const]; exact c10)]
  by_cases c3' : 52 ≤ op ∧ op ≤ 55
  · rw [if_pos (by simp (disch := omega) only [o_le, o_leL, o_leR, o_lt, o_ltL, o_ltR, o_eq, o_eqL, o_eqR, o_cl, o_add, o_addL, o_addR, o_mul, o_mulL, o_mulR, o_sub, o_subR, o_0le, o_lt0, o_ixo, n1_eq, n1_eq', n1_lt, n1_le, n1_ge, n1_gt, n2_eq, n2_eq', n2_lt, n2_le, n2_ge, n2_gt, ↓reduceIte, ite_self, Nat.reduceEqDiff, Nat.reduceAdd, Nat.reduceMul, Nat.reduceSub, Nat.reduceLT, Nat.reduceLeDiff, Nat.not_lt_zero, Nat.zero_le, if_true, if_false, ite_true, ite_false, true_and, and_true, false_and, and_false, true_implies, false_implies, implies_true, not_true_eq_false, not_false_eq_true, eq_self, true_or, or_true, false_or, or_false, and_self, reduceCtorEq, forall_const]; omega)]
    exact dec_b (posS c3').symm
  · rw [if_neg (by simp (disch := omega) only [o_le, o_leL, o_leR, o_lt, o_ltL, o_ltR, o_eq, o_eqL, o_eqR, o_cl, o_add, o_addL, o_addR, o_mul, o_mulL, o_mulR, o_sub, o_subR, o_0le, o_lt0, o_ixo, n1_eq, n1_eq', n1_lt, n1_le, n1_ge, n1_gt, n2_eq, n2_eq', n2_lt, n2_le, n2_ge, n2_gt, ↓reduceIte, ite_self, Nat.reduceEqDiff, Nat.reduceAdd, Nat.reduceMul, Nat.reduceSub, Nat.reduceLT, Nat.reduceLeDiff, Nat.not_lt_zero, Nat.zero_le, if_true, if_false, ite_true, ite_false, true_and, and_true, false_and, and_false, true_implies, false_implies, implies_true, not_true_eq_false, not_false_eq_true, eq_self, true_or, or_true, false_or, or_false, and_self, reduceCtorEq, forall_const]; omega)]
    exact ⟨true, rfl, by simp; exact posN c5 (fun e => c6 (Or.inl e)) (fun e => c6 (Or.inr e)) c1 (fun e => c7 (Or.inl e)) (fun e => c7 (Or.inr e)) (by omega) c8 c9 c4' c10 c3'⟩
