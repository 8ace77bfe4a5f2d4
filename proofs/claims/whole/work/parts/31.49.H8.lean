/-! H8 -/
def kindsL (M : MS) (rc : Nat) : Nat → List Int32 := cat (fun c => if M.1 77 c = 0 then [] else kindL M rc c)
set_option maxRecDepth 20000 in
set_option maxHeartbeats 4000000 in
theorem kindsL_len (M : MS) (rc : Nat) : ∀ n, (kindsL M rc n).length = 11 * cnt (fmB M 77) n := by
  intro n
  induction n with
  | zero => rfl
  | succ n ih =>
    show (kindsL M rc n ++ (if M.1 77 n = 0 then [] else kindL M rc n)).length = 11 * (cnt (fmB M 77) n + if fmB M 77 n = true then 1 else 0)
    rw [List.length_append, ih]
    by_cases z : M.1 77 n = 0
    · rw [if_pos z, if_neg (by rw [fmB_iff]; exact fun q => q z)]
      rfl
    · rw [if_neg z, if_pos (by rw [fmB_iff]; exact z), kindL_len]
      omega
set_option maxRecDepth 20000 in
set_option maxHeartbeats 4000000 in
theorem cat_ext (f : Nat → List Int32) (n : Nat) : ∀ k, n ≤ k → (∀ i, n ≤ i → i < k → f i = []) → cat f k = cat f n := by
  intro k
  induction k with
  | zero => intro h _; have : n = 0 := by omega
            rw [this]
  | succ k ih =>
    intro h hf
    by_cases e : n = k + 1
    · rw [e]
    · show cat f k ++ f k = _
      rw [hf k (by omega) (by omega), List.append_nil]
      exact ih (by omega) (fun i h1 h2 => hf i h1 (by omega))
set_option maxRecDepth 20000 in
set_option maxHeartbeats 4000000 in
theorem kindsX {Mr : MS} {kc rc main : Nat} {X0 X : XS} {T0 T : Nat → Nat} {l : List Int32} {o hd nm sk : Nat → Int32} (hR : LkR Mr kc rc main) (h : QX Mr kc rc X0 T0 X T l o hd nm sk) (hl : l.length + 110 ≤ 5663) {β : Type} {k : Int32 × XS → Option β} {R : β → Prop} (hk : ∀ z X' T' sk', QX Mr kc rc X0 T0 X' T' (l ++ kindsL Mr rc 10) o hd nm sk' → (∀ c, c < 10 → fm Mr 77 c → sk' (cnt (fmB Mr 77) c) = Int32.ofNat c) → Wo (k (z, X')) R) : Wo ((lp b67_Linker_write_30 10000 ((0 : Int32), X)).bind k) R := by
  rw [W_bind]
  refine W_lp (fun p => ∃ n T' sk', n ≤ 10 ∧ p.1 = Int32.ofNat n ∧ QX Mr kc rc X0 T0 p.2 T' (l ++ kindsL Mr rc n) o hd nm sk' ∧ ∀ c, c < n → fm Mr 77 c → sk' (cnt (fmB Mr 77) c) = Int32.ofNat c) (fun p => 10 - p.1.toNatClampNeg) ?_ 10000 _ ⟨0, T, sk, by omega, rfl, by show QX Mr kc rc X0 T0 X T (l ++ []) o hd nm sk; rw [List.append_nil]; exact h, fun c hc => absurd hc (Nat.not_lt_zero c)⟩ (by show 10 - 0 < 10000; omega)
  intro p ⟨n, T', sk', hn, ep, hq, hs⟩
  unfold b67_Linker_write_30
  by_cases hl8 : n < 10
  · have q1 : ¬ 10 ≤ n := by omega
    rw [ep]
    by_cases hw : fm Mr 77 n
    · have nk := hR.2.2.2.1 n hl8 hw
      simp (disch := omega) only [q1, eq_true ((hasK_iff hq.1 hl8).mpr hw), o_le, o_leL, o_leR, o_lt, o_ltL, o_ltR, o_eq, o_eqL, o_eqR, o_cl, o_add, o_addL, o_addR, o_mul, o_mulL, o_mulR, o_sub, o_subR, o_0le, o_lt0, o_ixo, n1_eq, n1_eq', n1_lt, n1_le, n1_ge, n1_gt, n2_eq, n2_eq', n2_lt, n2_le, n2_ge, n2_gt, ↓reduceIte, ite_self, Nat.reduceEqDiff, Nat.reduceAdd, Nat.reduceMul, Nat.reduceSub, Nat.reduceLT, Nat.reduceLeDiff, Nat.not_lt_zero, Nat.zero_le, if_true, if_false, ite_true, ite_false, true_and, and_true, false_and, and_false, true_implies, false_implies, implies_true, not_true_eq_false, not_false_eq_true, eq_self, true_or, or_true, false_or, or_false, and_self, reduceCtorEq, forall_const]
      refine writeKind_q hR hq (by rw [List.length_append, kindsL_len]; have := cnt_max (fmB Mr 77) n; omega) nk hw ?_
      intro X4 T4 q4
      rw [W_some]
      have el : kindsL Mr rc (n + 1) = kindsL Mr rc n ++ kindL Mr rc n := by
        show kindsL Mr rc n ++ (if Mr.1 77 n = 0 then [] else kindL Mr rc n) = _
        rw [if_neg hw]
      refine ⟨⟨n + 1, T4, _, by omega, rfl, by rw [el, ← List.append_assoc]; exact q4, ?_⟩, by simp (disch := omega) only [o_le, o_leL, o_leR, o_lt, o_ltL, o_ltR, o_eq, o_eqL, o_eqR, o_cl, o_add, o_addL, o_addR, o_mul, o_mulL, o_mulR, o_sub, o_subR, o_0le, o_lt0, o_ixo, n1_eq, n1_eq', n1_lt, n1_le, n1_ge, n1_gt, n2_eq, n2_eq', n2_lt, n2_le, n2_ge, n2_gt, ↓reduceIte, ite_self, Nat.reduceEqDiff, Nat.reduceAdd, Nat.reduceMul, Nat.reduceSub, Nat.reduceLT, Nat.reduceLeDiff, Nat.not_lt_zero, Nat.zero_le, if_true, if_false, ite_true, ite_false, true_and, and_true, false_and, and_false, true_implies, false_implies, implies_true, not_true_eq_false, not_false_eq_true, eq_self, true_or, or_true, false_or, or_false, and_self, reduceCtorEq, forall_const]; omega⟩
      intro c hc hf
      unfold upd
      by_cases e : c = n
      · subst e; rw [if_pos rfl]
      · rw [if_neg (fun q => e (cnt_inj (fmB_iff.mpr hf) (fmB_iff.mpr hw) q))]
        exact hs c (by omega) hf
    · simp (disch := omega) only [q1, eq_false (fun x => hw ((hasK_iff hq.1 hl8).mp x)), W_some, o_le, o_leL, o_leR, o_lt, o_ltL, o_ltR, o_eq, o_eqL, o_eqR, o_cl, o_add, o_addL, o_addR, o_mul, o_mulL, o_mulR, o_sub, o_subR, o_0le, o_lt0, o_ixo, n1_eq, n1_eq', n1_lt, n1_le, n1_ge, n1_gt, n2_eq, n2_eq', n2_lt, n2_le, n2_ge, n2_gt, ↓reduceIte, ite_self, Nat.reduceEqDiff, Nat.reduceAdd, Nat.reduceMul, Nat.reduceSub, Nat.reduceLT, Nat.reduceLeDiff, Nat.not_lt_zero, Nat.zero_le, if_true, if_false, ite_true, ite_false, true_and, and_true, false_and, and_false, true_implies, false_implies, implies_true, not_true_eq_false, not_false_eq_true, eq_self, true_or, or_true, false_or, or_false, and_self, reduceCtorEq, forall_const]
      have z : Mr.1 77 n = 0 := Classical.not_not.mp hw
      have el : kindsL Mr rc (n + 1) = kindsL Mr rc n := by
        show kindsL Mr rc n ++ (if Mr.1 77 n = 0 then [] else kindL Mr rc n) = _
        rw [if_pos z, List.append_nil]
      refine ⟨⟨n + 1, T', sk', by omega, rfl, by rw [el]; exact hq, ?_⟩, by omega⟩
      intro c hc hf
      by_cases e : c = n
      · subst e; exact absurd hf hw
      · exact hs c (by omega) hf
  · have en : n = 10 := by omega
    subst en
    rw [ep]
    simp (disch := omega) only [Nat.le_refl, W_some, o_le, o_leL, o_leR, o_lt, o_ltL, o_ltR, o_eq, o_eqL, o_eqR, o_cl, o_add, o_addL, o_addR, o_mul, o_mulL, o_mulR, o_sub, o_subR, o_0le, o_lt0, o_ixo, n1_eq, n1_eq', n1_lt, n1_le, n1_ge, n1_gt, n2_eq, n2_eq', n2_lt, n2_le, n2_ge, n2_gt, ↓reduceIte, ite_self, Nat.reduceEqDiff, Nat.reduceAdd, Nat.reduceMul, Nat.reduceSub, Nat.reduceLT, Nat.reduceLeDiff, Nat.not_lt_zero, Nat.zero_le, if_true, if_false, ite_true, ite_false, true_and, and_true, false_and, and_false, true_implies, false_implies, implies_true, not_true_eq_false, not_false_eq_true, eq_self, true_or, or_true, false_or, or_false, and_self, reduceCtorEq, forall_const]
    exact hk _ p.2 T' sk' hq hs
set_option maxRecDepth 20000 in
set_option maxHeartbeats 4000000 in
theorem kindM {X : XS} {Mr M : MS} {T : Nat → Nat} {kc rc main : Nat} {l : List Int32} {o : Nat → Int32} (hS : RSc X Mr T kc rc) (hR : LkR Mr kc rc main) (h : QM Mr M l o) (hl : l.length + 11 ≤ 5663) {c : Nat} (hc : c < kc) (hw : fm Mr 77 c) (Q : (Int32 × MS) ⊕ (Int32 × MS) → Prop) (hk : ∀ M', QM Mr M' (l ++ kindL Mr rc c) o → Q (.inl (Int32.ofNat (c + 1), M'))) : Wo (b55_M_write (Int32.ofNat c, M)) Q := by
  have hk10 := hS.1.1
  have hr24 := hS.2.1
  have c10 : c < 10 := by omega
  have src : ∀ {M' : MS} {l' o'}, QM Mr M' l' o' → MSrc Mr M' := fun q => q.1.src (by unfold Fw; omega)
  have row : ∀ {M' : MS} {l' o'} (a : Nat), QM Mr M' l' o' → a ≠ 60 → a ≠ 92 → a ≠ 93 → M'.1 a = Mr.1 a := fun a q h1 h2 h3 => funext fun i => q.1.2 a i (by unfold Fw; omega)
  have g3 : M.1 60 3 = Int32.ofNat kc := by rw [h.1.2 60 3 (by unfold Fw; omega)]; exact hS.1.2.2.1
  have q0 : ¬ kc ≤ c := by omega
  have z77 : ¬ M.1 77 c = 0 := by rw [row 77 h (by omega) (by omega) (by omega)]; exact hw
  unfold b55_M_write
  simp (disch := omega) only [g3, q0, c10, z77, o_le, o_leL, o_leR, o_lt, o_ltL, o_ltR, o_eq, o_eqL, o_eqR, o_cl, o_add, o_addL, o_addR, o_mul, o_mulL, o_mulR, o_sub, o_subR, o_0le, o_lt0, o_ixo, n1_eq, n1_eq', n1_lt, n1_le, n1_ge, n1_gt, n2_eq, n2_eq', n2_lt, n2_le, n2_ge, n2_gt, ↓reduceIte, ite_self, Nat.reduceEqDiff, Nat.reduceAdd, Nat.reduceMul, Nat.reduceSub, Nat.reduceLT, Nat.reduceLeDiff, Nat.not_lt_zero, Nat.zero_le, if_true, if_false, ite_true, ite_false, true_and, and_true, false_and, and_false, true_implies, false_implies, implies_true, not_true_eq_false, not_false_eq_true, eq_self, true_or, or_true, false_or, or_false, and_self, reduceCtorEq, forall_const]
  have e1 : (if 0 ≤ M.1 61 c then (if ixo (M.1 61 c) 10 then some (M.1 80 (M.1 61 c).toNatClampNeg) else none) else some 255 : Option Int32) = some (if Mr.1 61 c = -1 then 255 else Mr.1 80 (Mr.1 61 c).toNatClampNeg) := by
    rw [row 61 h (by omega) (by omega) (by omega), row 80 h (by omega) (by omega) (by omega)]
    rcases (hS.1.2.2.2 c hc).2.2.2.1 with e | ⟨d, hd, e⟩
    · rw [e]; rfl
    · have d10 : d < 10 := by omega
      rw [e]
      simp (disch := omega) only [d10, o_le, o_leL, o_leR, o_lt, o_ltL, o_ltR, o_eq, o_eqL, o_eqR, o_cl, o_add, o_addL, o_addR, o_mul, o_mulL, o_mulR, o_sub, o_subR, o_0le, o_lt0, o_ixo, n1_eq, n1_eq', n1_lt, n1_le, n1_ge, n1_gt, n2_eq, n2_eq', n2_lt, n2_le, n2_ge, n2_gt, ↓reduceIte, ite_self, Nat.reduceEqDiff, Nat.reduceAdd, Nat.reduceMul, Nat.reduceSub, Nat.reduceLT, Nat.reduceLeDiff, Nat.not_lt_zero, Nat.zero_le, if_true, if_false, ite_true, ite_false, true_and, and_true, false_and, and_false, true_implies, false_implies, implies_true, not_true_eq_false, not_false_eq_true, eq_self, true_or, or_true, false_or, or_false, and_self, reduceCtorEq, forall_const]
  rw [e1]
  simp only [Option.bind_some]
  refine put_m h (by omega) _ ?_
  intro M1 q1
  rw [(allOf_ok hS.1 (src q1) hc).1]
  simp only [Option.bind_some]
  refine put_m q1 (by simp only [List.length_append, List.length_singleton]; omega) _ ?_
  intro M2 q2
  rw [(allOf_ok hS.1 (src q2) hc).2]
  simp only [Option.bind_some]
  refine put_m q2 (by simp only [List.length_append, List.length_singleton]; omega) _ ?_
  intro M3 q3
  rw [W_bind]
  simp only [List.append_assoc] at q3
  refine W_lp (fun p => ∃ n, n ≤ 8 ∧ p.1 = Int32.ofNat n ∧ QM Mr p.2 (l ++ ([if Mr.1 61 c = -1 then 255 else Mr.1 80 (Mr.1 61 c).toNatClampNeg, allN Mr 62 10 c, allN Mr 63 10 c] ++ cat (fun n => [mnum Mr (fnd Mr rc n 10 c)]) n)) o) (fun p => 8 - p.1.toNatClampNeg) ?_ 10000 _ ⟨0, by omega, rfl, by show QM Mr M3 (l ++ ([_, _, _] ++ [])) _; rw [List.append_nil]; exact q3⟩ (by show 8 - 0 < 10000; omega)
  intro p ⟨n, hn, ep, hq⟩
  unfold b130_M_write
  by_cases hl8 : n < 8
  · have q1 : ¬ 8 ≤ n := by omega
    rw [ep]
    have lb : (l ++ ([if Mr.1 61 c = -1 then 255 else Mr.1 80 (Mr.1 61 c).toNatClampNeg, allN Mr 62 10 c, allN Mr 63 10 c] ++ cat (fun n => [mnum Mr (fnd Mr rc n 10 c)]) n)).length < 8000 := by
      simp only [List.length_append, cat_len (fun n => [mnum Mr (fnd Mr rc n 10 c)]) 1 n (fun i _ => rfl), List.length_cons, List.length_nil]; omega
    have fin : ∀ M4, QM Mr M4 (l ++ ([if Mr.1 61 c = -1 then 255 else Mr.1 80 (Mr.1 61 c).toNatClampNeg, allN Mr 62 10 c, allN Mr 63 10 c] ++ cat (fun n => [mnum Mr (fnd Mr rc n 10 c)]) n) ++ [mnum Mr (fnd Mr rc n 10 c)]) o → (∃ k, k ≤ 8 ∧ Int32.ofNat (n + 1) = Int32.ofNat k ∧ QM Mr M4 (l ++ ([if Mr.1 61 c = -1 then 255 else Mr.1 80 (Mr.1 61 c).toNatClampNeg, allN Mr 62 10 c, allN Mr 63 10 c] ++ cat (fun n => [mnum Mr (fnd Mr rc n 10 c)]) k)) o) := by
      intro M4 q4
      simp only [List.append_assoc] at q4
      exact ⟨n + 1, by omega, rfl, q4⟩
    simp (disch := omega) only [q1, find_src hS (src hq) hc, Option.bind_some, o_le, o_leL, o_leR, o_lt, o_ltL, o_ltR, o_eq, o_eqL, o_eqR, o_cl, o_add, o_addL, o_addR, o_mul, o_mulL, o_mulR, o_sub, o_subR, o_0le, o_lt0, o_ixo, n1_eq, n1_eq', n1_lt, n1_le, n1_ge, n1_gt, n2_eq, n2_eq', n2_lt, n2_le, n2_ge, n2_gt, ↓reduceIte, ite_self, Nat.reduceEqDiff, Nat.reduceAdd, Nat.reduceMul, Nat.reduceSub, Nat.reduceLT, Nat.reduceLeDiff, Nat.not_lt_zero, Nat.zero_le, if_true, if_false, ite_true, ite_false, true_and, and_true, false_and, and_false, true_implies, false_implies, implies_true, not_true_eq_false, not_false_eq_true, eq_self, true_or, or_true, false_or, or_false, and_self, reduceCtorEq, forall_const]
    cases hf : fnd Mr rc n 10 c with
    | none =>
      show Wo (if (-2 : Int32) < 0 then _ else _) _
      rw [if_pos (by decide)]
      rw [hf] at fin
      refine put_m hq lb _ ?_
      intro M4 q4
      rw [W_some]
      exact ⟨fin M4 q4, by (try simp (disch := omega) only [o_le, o_leL, o_leR, o_lt, o_ltL, o_ltR, o_eq, o_eqL, o_eqR, o_cl, o_add, o_addL, o_addR, o_mul, o_mulL, o_mulR, o_sub, o_subR, o_0le, o_lt0, o_ixo, n1_eq, n1_eq', n1_lt, n1_le, n1_ge, n1_gt, n2_eq, n2_eq', n2_lt, n2_le, n2_ge, n2_gt, ↓reduceIte, ite_self, Nat.reduceEqDiff, Nat.reduceAdd, Nat.reduceMul, Nat.reduceSub, Nat.reduceLT, Nat.reduceLeDiff, Nat.not_lt_zero, Nat.zero_le, if_true, if_false, ite_true, ite_false, true_and, and_true, false_and, and_false, true_implies, false_implies, implies_true, not_true_eq_false, not_false_eq_true, eq_self, true_or, or_true, false_or, or_false, and_self, reduceCtorEq, forall_const]); omega⟩
    | some r =>
      have hr := fnd_lt _ _ hf
      have r24 : r < 24 := by omega
      rw [show enc (-2) (some r) = Int32.ofNat r from rfl]
      rw [hf] at fin
      have em : mnum Mr (some r) = if Mr.1 75 r = 0 then 255 else Mr.1 79 r := rfl
      by_cases z : p.2.1 75 r = 0
      · have z' : Mr.1 75 r = 0 := by rw [← row 75 hq (by omega) (by omega) (by omega)]; exact z
        rw [em, if_pos z'] at fin
        simp (disch := omega) only [r24, z, o_le, o_leL, o_leR, o_lt, o_ltL, o_ltR, o_eq, o_eqL, o_eqR, o_cl, o_add, o_addL, o_addR, o_mul, o_mulL, o_mulR, o_sub, o_subR, o_0le, o_lt0, o_ixo, n1_eq, n1_eq', n1_lt, n1_le, n1_ge, n1_gt, n2_eq, n2_eq', n2_lt, n2_le, n2_ge, n2_gt, ↓reduceIte, ite_self, Nat.reduceEqDiff, Nat.reduceAdd, Nat.reduceMul, Nat.reduceSub, Nat.reduceLT, Nat.reduceLeDiff, Nat.not_lt_zero, Nat.zero_le, if_true, if_false, ite_true, ite_false, true_and, and_true, false_and, and_false, true_implies, false_implies, implies_true, not_true_eq_false, not_false_eq_true, eq_self, true_or, or_true, false_or, or_false, and_self, reduceCtorEq, forall_const]
        refine put_m hq lb _ ?_
        intro M4 q4
        rw [W_some]
        exact ⟨fin M4 q4, by (try simp (disch := omega) only [o_le, o_leL, o_leR, o_lt, o_ltL, o_ltR, o_eq, o_eqL, o_eqR, o_cl, o_add, o_addL, o_addR, o_mul, o_mulL, o_mulR, o_sub, o_subR, o_0le, o_lt0, o_ixo, n1_eq, n1_eq', n1_lt, n1_le, n1_ge, n1_gt, n2_eq, n2_eq', n2_lt, n2_le, n2_ge, n2_gt, ↓reduceIte, ite_self, Nat.reduceEqDiff, Nat.reduceAdd, Nat.reduceMul, Nat.reduceSub, Nat.reduceLT, Nat.reduceLeDiff, Nat.not_lt_zero, Nat.zero_le, if_true, if_false, ite_true, ite_false, true_and, and_true, false_and, and_false, true_implies, false_implies, implies_true, not_true_eq_false, not_false_eq_true, eq_self, true_or, or_true, false_or, or_false, and_self, reduceCtorEq, forall_const]); omega⟩
      · have z' : ¬ Mr.1 75 r = 0 := by rw [← row 75 hq (by omega) (by omega) (by omega)]; exact z
        rw [em, if_neg z'] at fin
        simp (disch := omega) only [r24, z, o_le, o_leL, o_leR, o_lt, o_ltL, o_ltR, o_eq, o_eqL, o_eqR, o_cl, o_add, o_addL, o_addR, o_mul, o_mulL, o_mulR, o_sub, o_subR, o_0le, o_lt0, o_ixo, n1_eq, n1_eq', n1_lt, n1_le, n1_ge, n1_gt, n2_eq, n2_eq', n2_lt, n2_le, n2_ge, n2_gt, ↓reduceIte, ite_self, Nat.reduceEqDiff, Nat.reduceAdd, Nat.reduceMul, Nat.reduceSub, Nat.reduceLT, Nat.reduceLeDiff, Nat.not_lt_zero, Nat.zero_le, if_true, if_false, ite_true, ite_false, true_and, and_true, false_and, and_false, true_implies, false_implies, implies_true, not_true_eq_false, not_false_eq_true, eq_self, true_or, or_true, false_or, or_false, and_self, reduceCtorEq, forall_const]
        rw [row 79 hq (by omega) (by omega) (by omega)]
        refine put_m hq lb _ ?_
        intro M4 q4
        rw [W_some]
        exact ⟨fin M4 q4, by (try simp (disch := omega) only [o_le, o_leL, o_leR, o_lt, o_ltL, o_ltR, o_eq, o_eqL, o_eqR, o_cl, o_add, o_addL, o_addR, o_mul, o_mulL, o_mulR, o_sub, o_subR, o_0le, o_lt0, o_ixo, n1_eq, n1_eq', n1_lt, n1_le, n1_ge, n1_gt, n2_eq, n2_eq', n2_lt, n2_le, n2_ge, n2_gt, ↓reduceIte, ite_self, Nat.reduceEqDiff, Nat.reduceAdd, Nat.reduceMul, Nat.reduceSub, Nat.reduceLT, Nat.reduceLeDiff, Nat.not_lt_zero, Nat.zero_le, if_true, if_false, ite_true, ite_false, true_and, and_true, false_and, and_false, true_implies, false_implies, implies_true, not_true_eq_false, not_false_eq_true, eq_self, true_or, or_true, false_or, or_false, and_self, reduceCtorEq, forall_const]); omega⟩
  · have en : n = 8 := by omega
    subst en
    rw [ep]
    simp (disch := omega) only [Nat.le_refl, W_some, Option.bind_some, o_le, o_leL, o_leR, o_lt, o_ltL, o_ltR, o_eq, o_eqL, o_eqR, o_cl, o_add, o_addL, o_addR, o_mul, o_mulL, o_mulR, o_sub, o_subR, o_0le, o_lt0, o_ixo, n1_eq, n1_eq', n1_lt, n1_le, n1_ge, n1_gt, n2_eq, n2_eq', n2_lt, n2_le, n2_ge, n2_gt, ↓reduceIte, ite_self, Nat.reduceEqDiff, Nat.reduceAdd, Nat.reduceMul, Nat.reduceSub, Nat.reduceLT, Nat.reduceLeDiff, Nat.not_lt_zero, Nat.zero_le, if_true, if_false, ite_true, ite_false, true_and, and_true, false_and, and_false, true_implies, false_implies, implies_true, not_true_eq_false, not_false_eq_true, eq_self, true_or, or_true, false_or, or_false, and_self, reduceCtorEq, forall_const]
    exact hk p.2 hq
set_option maxRecDepth 20000 in
set_option maxHeartbeats 4000000 in
theorem kindsM {X : XS} {Mr M : MS} {T : Nat → Nat} {kc rc main : Nat} {l : List Int32} {o : Nat → Int32} (hS : RSc X Mr T kc rc) (hR : LkR Mr kc rc main) (h : QM Mr M l o) (hl : l.length + 110 ≤ 5663) {β : Type} {k : Int32 × MS → Option β} {R : β → Prop} (hk : ∀ z M', QM Mr M' (l ++ kindsL Mr rc kc) o → Wo (k (z, M')) R) : Wo ((lp b55_M_write 10000 ((0 : Int32), M)).bind k) R := by
  have hk10 := hS.1.1
  rw [W_bind]
  refine W_lp (fun p => ∃ n, n ≤ kc ∧ p.1 = Int32.ofNat n ∧ QM Mr p.2 (l ++ kindsL Mr rc n) o) (fun p => 10 - p.1.toNatClampNeg) ?_ 10000 _ ⟨0, by omega, rfl, by show QM Mr M (l ++ []) o; rw [List.append_nil]; exact h⟩ (by show 10 - 0 < 10000; omega)
  intro p ⟨n, hn, ep, hq⟩
  have g3 : p.2.1 60 3 = Int32.ofNat kc := by rw [hq.1.2 60 3 (by unfold Fw; omega)]; exact hS.1.2.2.1
  obtain ⟨p1, M2⟩ := p
  dsimp only at ep hq g3
  subst ep
  by_cases hl8 : n < kc
  · by_cases hw : fm Mr 77 n
    · refine kindM hS hR hq (by rw [List.length_append, kindsL_len]; have := cnt_max (fmB Mr 77) n; omega) hl8 hw _ ?_
      intro M4 q4
      have el : kindsL Mr rc (n + 1) = kindsL Mr rc n ++ kindL Mr rc n := by
        show kindsL Mr rc n ++ (if Mr.1 77 n = 0 then [] else kindL Mr rc n) = _
        rw [if_neg hw]
      refine ⟨⟨n + 1, by omega, rfl, by rw [el, ← List.append_assoc]; exact q4⟩, by simp (disch := omega) only [o_le, o_leL, o_leR, o_lt, o_ltL, o_ltR, o_eq, o_eqL, o_eqR, o_cl, o_add, o_addL, o_addR, o_mul, o_mulL, o_mulR, o_sub, o_subR, o_0le, o_lt0, o_ixo, n1_eq, n1_eq', n1_lt, n1_le, n1_ge, n1_gt, n2_eq, n2_eq', n2_lt, n2_le, n2_ge, n2_gt, ↓reduceIte, ite_self, Nat.reduceEqDiff, Nat.reduceAdd, Nat.reduceMul, Nat.reduceSub, Nat.reduceLT, Nat.reduceLeDiff, Nat.not_lt_zero, Nat.zero_le, if_true, if_false, ite_true, ite_false, true_and, and_true, false_and, and_false, true_implies, false_implies, implies_true, not_true_eq_false, not_false_eq_true, eq_self, true_or, or_true, false_or, or_false, and_self, reduceCtorEq, forall_const]; omega⟩
    · have z : Mr.1 77 n = 0 := Classical.not_not.mp hw
      have z' : M2.1 77 n = 0 := by rw [hq.1.2 77 n (by unfold Fw; omega)]; exact z
      have q1 : ¬ kc ≤ n := by omega
      have q2 : n < 10 := by omega
      unfold b55_M_write
      simp (disch := omega) only [g3, q1, q2, z', W_some, o_le, o_leL, o_leR, o_lt, o_ltL, o_ltR, o_eq, o_eqL, o_eqR, o_cl, o_add, o_addL, o_addR, o_mul, o_mulL, o_mulR, o_sub, o_subR, o_0le, o_lt0, o_ixo, n1_eq, n1_eq', n1_lt, n1_le, n1_ge, n1_gt, n2_eq, n2_eq', n2_lt, n2_le, n2_ge, n2_gt, ↓reduceIte, ite_self, Nat.reduceEqDiff, Nat.reduceAdd, Nat.reduceMul, Nat.reduceSub, Nat.reduceLT, Nat.reduceLeDiff, Nat.not_lt_zero, Nat.zero_le, if_true, if_false, ite_true, ite_false, true_and, and_true, false_and, and_false, true_implies, false_implies, implies_true, not_true_eq_false, not_false_eq_true, eq_self, true_or, or_true, false_or, or_false, and_self, reduceCtorEq, forall_const]
      have el : kindsL Mr rc (n + 1) = kindsL Mr rc n := by
        show kindsL Mr rc n ++ (if Mr.1 77 n = 0 then [] else kindL Mr rc n) = _
        rw [if_pos z, List.append_nil]
      refine ⟨⟨n + 1, by omega, rfl, by rw [el]; exact hq⟩, by omega⟩
  · have en : n = kc := by omega
    subst en
    unfold b55_M_write
    simp (disch := omega) only [g3, Nat.le_refl, W_some, o_le, o_leL, o_leR, o_lt, o_ltL, o_ltR, o_eq, o_eqL, o_eqR, o_cl, o_add, o_addL, o_addR, o_mul, o_mulL, o_mulR, o_sub, o_subR, o_0le, o_lt0, o_ixo, n1_eq, n1_eq', n1_lt, n1_le, n1_ge, n1_gt, n2_eq, n2_eq', n2_lt, n2_le, n2_ge, n2_gt, ↓reduceIte, ite_self, Nat.reduceEqDiff, Nat.reduceAdd, Nat.reduceMul, Nat.reduceSub, Nat.reduceLT, Nat.reduceLeDiff, Nat.not_lt_zero, Nat.zero_le, if_true, if_false, ite_true, ite_false, true_and, and_true, false_and, and_false, true_implies, false_implies, implies_true, not_true_eq_false, not_false_eq_true, eq_self, true_or, or_true, false_or, or_false, and_self, reduceCtorEq, forall_const]
    exact hk _ M2 hq
