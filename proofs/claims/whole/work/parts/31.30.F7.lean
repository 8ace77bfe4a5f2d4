/-! F7 -/
/-- what is known of a method's instructions: seen, waiting, heights, kinds on the stack, kinds of locals, the greatest height -/
abbrev FS : Type := (Nat → Bool) × (Nat → Bool) × (Nat → Nat) × (Nat → Nat → Int32) × (Nat → Nat → Int32) × Nat
def mrg (l l' : Nat → Int32) : Nat → Int32 := fun k => if k < 12 ∧ ¬ l k = 0 ∧ ¬ l k = l' k then 0 else l k
def chg (l l' : Nat → Int32) : Bool := (List.range 12).any (fun k => decide (¬ l k = 0 ∧ ¬ l k = l' k))
def sameK (n : Nat) (a b : Nat → Int32) : Bool := (List.range n).all (fun k => decide (a k = b k))
def updB (f : Nat → Bool) (i : Nat) (v : Bool) : Nat → Bool := fun j => if j = i then v else f j
def updN {α : Type} (f : Nat → α) (i : Nat) (v : α) : Nat → α := fun j => if j = i then v else f j
/-- one comes to an instruction with these kinds -/
def come (S : FS) (i : Nat) (g : Nat → Int32) (h : Nat) (l : Nat → Int32) : Option FS :=
  if S.1 i = false then some (updB S.1 i true, updB S.2.1 i true, updN S.2.2.1 i h, updN S.2.2.2.1 i g, updN S.2.2.2.2.1 i l, max S.2.2.2.2.2 h)
  else if S.2.2.1 i = h ∧ sameK h (S.2.2.2.1 i) g = true then some (S.1, updB S.2.1 i (S.2.1 i || chg (S.2.2.2.2.1 i) l), S.2.2.1, S.2.2.2.1, updN S.2.2.2.2.1 i (mrg (S.2.2.2.2.1 i) l), S.2.2.2.2.2)
  else none
set_option maxRecDepth 20000 in
set_option maxHeartbeats 4000000 in
theorem sameK_iff {n : Nat} {a b : Nat → Int32} : sameK n a b = true ↔ ∀ k, k < n → a k = b k := by
  unfold sameK
  rw [List.all_eq_true]
  constructor
  · intro h k hk
    exact of_decide_eq_true (h k (List.mem_range.mpr hk))
  · intro h k hk
    exact decide_eq_true (h k (List.mem_range.mp hk))
set_option maxRecDepth 20000 in
set_option maxHeartbeats 4000000 in
theorem chg_iff {l l' : Nat → Int32} : chg l l' = true ↔ ∃ k, k < 12 ∧ ¬ l k = 0 ∧ ¬ l k = l' k := by
  unfold chg
  rw [List.any_eq_true]
  constructor
  · rintro ⟨k, h1, h2⟩
    exact ⟨k, List.mem_range.mp h1, of_decide_eq_true h2⟩
  · rintro ⟨k, h1, h2⟩
    exact ⟨k, List.mem_range.mpr h1, decide_eq_true h2⟩
def FX (X : XS) (S : FS) : Prop := (∀ i, i < 60 → (fl X 23 i ↔ S.1 i = true) ∧ (fl X 24 i ↔ S.2.1 i = true)) ∧ (∀ i, i < 60 → S.1 i = true → S.2.2.1 i ≤ 10 ∧ X.1 25 i = Int32.ofNat (S.2.2.1 i) ∧ (∀ k, k < S.2.2.1 i → X.1 26 (i * 10 + k) = S.2.2.2.1 i k) ∧ ∀ k, k < 12 → X.1 27 (i * 12 + k) = S.2.2.2.2.1 i k) ∧ X.1 22 0 = Int32.ofNat S.2.2.2.2.2 ∧ S.2.2.2.2.2 ≤ 10
def FM (M : MS) (m : Nat) (S : FS) : Prop := (∀ i, i < 60 → (fm M 81 i ↔ S.1 i = true) ∧ (fm M 82 i ↔ S.2.1 i = true) ∧ (fm M 88 (60 * m + i) ↔ S.1 i = true)) ∧ (∀ i, i < 60 → S.1 i = true → S.2.2.1 i ≤ 10 ∧ M.1 83 i = Int32.ofNat (S.2.2.1 i) ∧ (∀ k, k < S.2.2.1 i → M.1 84 (10 * i + k) = S.2.2.2.1 i k) ∧ ∀ k, k < 12 → M.1 85 (12 * i + k) = S.2.2.2.2.1 i k) ∧ M.1 89 m = Int32.ofNat S.2.2.2.2.2 ∧ S.2.2.2.2.2 ≤ 10
def Fcx (b : Nat) : Prop := 22 ≤ b ∧ b ≤ 27
/-- coming leaves the height, the stack and the locals at hand alone -/
def C9 (X X' : XS) : Prop := Only Fcx X X' ∧ ∀ f, f ≠ 0 → f ≠ 10 → X'.1 22 f = X.1 22 f
theorem C9.refl (X : XS) : C9 X X := ⟨Only.refl X, fun _ _ _ => rfl⟩
theorem C9.trans {X Y Z : XS} (h : C9 X Y) (k : C9 Y Z) : C9 X Z := ⟨h.1.trans k.1, fun f h1 h2 => (k.2 f h1 h2).trans (h.2 f h1 h2)⟩
set_option maxRecDepth 20000 in
set_option maxHeartbeats 4000000 in
theorem merge_ok {X : XS} {S : FS} {i : Nat} {l : Nat → Int32} (hS : FX X S) (hi : i < 60) (hs : S.1 i = true) (hl : ∀ k, k < 12 → X.1 29 k = l k) : ∃ X', f_Flow_mergeLocals (Int32.ofNat i) X = some X' ∧ C9 X X' ∧ X'.1 22 10 = X.1 22 10 ∧ FX X' (S.1, updB S.2.1 i (S.2.1 i || chg (S.2.2.2.2.1 i) l), S.2.2.1, S.2.2.2.1, updN S.2.2.2.2.1 i (mrg (S.2.2.2.2.1 i) l), S.2.2.2.2.2) := by
  obtain ⟨f1, f2, f3, f4⟩ := hS
  obtain ⟨b1, b2, b3, b4⟩ := f2 i hi hs
  have w : Wo (lp (b2_Flow_mergeLocals (Int32.ofNat i)) 10000 ((0 : Int32), X)) (fun p => Only Fcx X p.2 ∧ p.2.1 22 = X.1 22 ∧ p.2.1 23 = X.1 23 ∧ p.2.1 25 = X.1 25 ∧ p.2.1 26 = X.1 26 ∧ (∀ k, k < 12 → p.2.1 27 (i * 12 + k) = mrg (S.2.2.2.2.1 i) l k) ∧ (∀ j, (j < i * 12 ∨ i * 12 + 12 ≤ j) → p.2.1 27 j = X.1 27 j) ∧ (∀ j, j ≠ i → p.2.1 24 j = X.1 24 j) ∧ (fl p.2 24 i ↔ fl X 24 i ∨ ∃ k, k < 12 ∧ ¬ S.2.2.2.2.1 i k = 0 ∧ ¬ S.2.2.2.2.1 i k = l k)) := by
    refine W_lp (fun p => ∃ k, k ≤ 12 ∧ p.1 = Int32.ofNat k ∧ Only Fcx X p.2 ∧ p.2.1 22 = X.1 22 ∧ p.2.1 23 = X.1 23 ∧ p.2.1 25 = X.1 25 ∧ p.2.1 26 = X.1 26 ∧ (∀ j, j < k → p.2.1 27 (i * 12 + j) = mrg (S.2.2.2.2.1 i) l j) ∧ (∀ j, (j < i * 12 ∨ i * 12 + k ≤ j) → p.2.1 27 j = X.1 27 j) ∧ (∀ j, j ≠ i → p.2.1 24 j = X.1 24 j) ∧ (fl p.2 24 i ↔ fl X 24 i ∨ ∃ j, j < k ∧ ¬ S.2.2.2.2.1 i j = 0 ∧ ¬ S.2.2.2.2.1 i j = l j)) (fun p => 12 - p.1.toNatClampNeg) ?_ 10000 _ ⟨0, by omega, rfl, Only.refl X, rfl, rfl, rfl, rfl, fun j hj => absurd hj (Nat.not_lt_zero j), fun _ _ => rfl, fun _ _ => rfl, ⟨Or.inl, fun h => h.elim id (fun ⟨j, hj, _⟩ => absurd hj (Nat.not_lt_zero j))⟩⟩ (by show 12 - 0 < 10000; omega)
    intro p ⟨k, hk, ep, ho, p22, p23, p25, p26, pm, pr, p24, pf⟩
    refine Wo.cps (fun Q hQ => ?_)
    unfold b2_Flow_mergeLocals
    by_cases hl12 : k < 12
    case neg =>
      have ek : k = 12 := by omega
      subst ek
      simp (disch := omega) only [W_some, W_none, W_bind, W_ite, W_ocz, W_lt, ep, Nat.le_refl, o_le, o_leL, o_leR, o_lt, o_ltL, o_ltR, o_eq, o_eqL, o_eqR, o_cl, o_add, o_addL, o_addR, o_mul, o_mulL, o_mulR, o_sub, o_subR, o_0le, o_lt0, o_ixo, n1_eq, n1_eq', n1_lt, n1_le, n1_ge, n1_gt, n2_eq, n2_eq', n2_lt, n2_le, n2_ge, n2_gt, ↓reduceIte, ite_self, Nat.reduceEqDiff, Nat.reduceAdd, Nat.reduceMul, Nat.reduceSub, Nat.reduceLT, Nat.reduceLeDiff, Nat.not_lt_zero, Nat.zero_le, if_true, if_false, ite_true, ite_false, true_and, and_true, false_and, and_false, true_implies, false_implies, implies_true, not_true_eq_false, not_false_eq_true, eq_self, true_or, or_true, false_or, or_false, and_self, reduceCtorEq, forall_const]
      exact hQ _ ⟨ho, p22, p23, p25, p26, pm, pr, p24, pf⟩
    have q1 : ¬ 12 ≤ k := by omega
    have q2 : i * 12 + k < 720 := by omega
    have cur : p.2.1 27 (i * 12 + k) = S.2.2.2.2.1 i k := by rw [pr _ (by omega)]; exact b4 k hl12
    have lc : p.2.1 29 k = l k := by rw [ho.2 29 (by unfold Fcx; omega)]; exact hl k hl12
    have stay : (¬ (¬ S.2.2.2.2.1 i k = 0 ∧ ¬ S.2.2.2.2.1 i k = l k)) → Q (.inl (Int32.ofNat (k + 1), p.2)) := by
      intro hn
      refine hQ _ ⟨⟨k + 1, by omega, rfl, ho, p22, p23, p25, p26, ?_, fun j hj => pr j (by omega), p24, ?_⟩, by simp (disch := omega) only [ep, o_le, o_leL, o_leR, o_lt, o_ltL, o_ltR, o_eq, o_eqL, o_eqR, o_cl, o_add, o_addL, o_addR, o_mul, o_mulL, o_mulR, o_sub, o_subR, o_0le, o_lt0, o_ixo, n1_eq, n1_eq', n1_lt, n1_le, n1_ge, n1_gt, n2_eq, n2_eq', n2_lt, n2_le, n2_ge, n2_gt, ↓reduceIte, ite_self, Nat.reduceEqDiff, Nat.reduceAdd, Nat.reduceMul, Nat.reduceSub, Nat.reduceLT, Nat.reduceLeDiff, Nat.not_lt_zero, Nat.zero_le, if_true, if_false, ite_true, ite_false, true_and, and_true, false_and, and_false, true_implies, false_implies, implies_true, not_true_eq_false, not_false_eq_true, eq_self, true_or, or_true, false_or, or_false, and_self, reduceCtorEq, forall_const]; omega⟩
      · intro j hj
        by_cases ej : j = k
        · subst ej
          rw [cur]
          unfold mrg
          rw [if_neg (fun q => hn q.2)]
        · exact pm j (by omega)
      · rw [pf, ex_succ]
        constructor
        · rintro (h | h)
          · exact Or.inl h
          · exact Or.inr (Or.inl h)
        · rintro (h | h | h)
          · exact Or.inl h
          · exact Or.inr h
          · exact absurd h hn
    by_cases c0 : S.2.2.2.2.1 i k = 0
    · simp (disch := omega) only [W_some, W_none, W_bind, W_ite, W_ocz, W_lt, ep, q1, q2, cur, c0, o_le, o_leL, o_leR, o_lt, o_ltL, o_ltR, o_eq, o_eqL, o_eqR, o_cl, o_add, o_addL, o_addR, o_mul, o_mulL, o_mulR, o_sub, o_subR, o_0le, o_lt0, o_ixo, n1_eq, n1_eq', n1_lt, n1_le, n1_ge, n1_gt, n2_eq, n2_eq', n2_lt, n2_le, n2_ge, n2_gt, ↓reduceIte, ite_self, Nat.reduceEqDiff, Nat.reduceAdd, Nat.reduceMul, Nat.reduceSub, Nat.reduceLT, Nat.reduceLeDiff, Nat.not_lt_zero, Nat.zero_le, if_true, if_false, ite_true, ite_false, true_and, and_true, false_and, and_false, true_implies, false_implies, implies_true, not_true_eq_false, not_false_eq_true, eq_self, true_or, or_true, false_or, or_false, and_self, reduceCtorEq, forall_const]
      exact stay (fun h => h.1 c0)
    by_cases c1 : S.2.2.2.2.1 i k = l k
    · simp (disch := omega) only [W_some, W_none, W_bind, W_ite, W_ocz, W_lt, ep, q1, q2, cur, c0, hl12, lc, o_le, o_leL, o_leR, o_lt, o_ltL, o_ltR, o_eq, o_eqL, o_eqR, o_cl, o_add, o_addL, o_addR, o_mul, o_mulL, o_mulR, o_sub, o_subR, o_0le, o_lt0, o_ixo, n1_eq, n1_eq', n1_lt, n1_le, n1_ge, n1_gt, n2_eq, n2_eq', n2_lt, n2_le, n2_ge, n2_gt, ↓reduceIte, ite_self, Nat.reduceEqDiff, Nat.reduceAdd, Nat.reduceMul, Nat.reduceSub, Nat.reduceLT, Nat.reduceLeDiff, Nat.not_lt_zero, Nat.zero_le, if_true, if_false, ite_true, ite_false, true_and, and_true, false_and, and_false, true_implies, false_implies, implies_true, not_true_eq_false, not_false_eq_true, eq_self, true_or, or_true, false_or, or_false, and_self, reduceCtorEq, forall_const]
      exact ⟨fun _ => stay (fun h => h.2 c1), fun h => absurd c1 h⟩
    · simp (disch := omega) only [W_some, W_none, W_bind, W_ite, W_ocz, W_lt, ep, q1, q2, cur, c0, hl12, lc, c1, hi, o_le, o_leL, o_leR, o_lt, o_ltL, o_ltR, o_eq, o_eqL, o_eqR, o_cl, o_add, o_addL, o_addR, o_mul, o_mulL, o_mulR, o_sub, o_subR, o_0le, o_lt0, o_ixo, n1_eq, n1_eq', n1_lt, n1_le, n1_ge, n1_gt, n2_eq, n2_eq', n2_lt, n2_le, n2_ge, n2_gt, ↓reduceIte, ite_self, Nat.reduceEqDiff, Nat.reduceAdd, Nat.reduceMul, Nat.reduceSub, Nat.reduceLT, Nat.reduceLeDiff, Nat.not_lt_zero, Nat.zero_le, if_true, if_false, ite_true, ite_false, true_and, and_true, false_and, and_false, true_implies, false_implies, implies_true, not_true_eq_false, not_false_eq_true, eq_self, true_or, or_true, false_or, or_false, and_self, reduceCtorEq, forall_const]
      refine hQ _ ⟨⟨k + 1, by omega, rfl, (ho.xw (by unfold Fcx; omega) _ _).xw (by unfold Fcx; omega) _ _, ?_, ?_, ?_, ?_, ?_, ?_, ?_, ?_⟩, by simp (disch := omega) only [ep, o_le, o_leL, o_leR, o_lt, o_ltL, o_ltR, o_eq, o_eqL, o_eqR, o_cl, o_add, o_addL, o_addR, o_mul, o_mulL, o_mulR, o_sub, o_subR, o_0le, o_lt0, o_ixo, n1_eq, n1_eq', n1_lt, n1_le, n1_ge, n1_gt, n2_eq, n2_eq', n2_lt, n2_le, n2_ge, n2_gt, ↓reduceIte, ite_self, Nat.reduceEqDiff, Nat.reduceAdd, Nat.reduceMul, Nat.reduceSub, Nat.reduceLT, Nat.reduceLeDiff, Nat.not_lt_zero, Nat.zero_le, if_true, if_false, ite_true, ite_false, true_and, and_true, false_and, and_false, true_implies, false_implies, implies_true, not_true_eq_false, not_false_eq_true, eq_self, true_or, or_true, false_or, or_false, and_self, reduceCtorEq, forall_const]; omega⟩
      · rw [xw_ne _ _ _ _ (by omega), xw_ne _ _ _ _ (by omega)]; exact p22
      · rw [xw_ne _ _ _ _ (by omega), xw_ne _ _ _ _ (by omega)]; exact p23
      · rw [xw_ne _ _ _ _ (by omega), xw_ne _ _ _ _ (by omega)]; exact p25
      · rw [xw_ne _ _ _ _ (by omega), xw_ne _ _ _ _ (by omega)]; exact p26
      · intro j hj
        rw [xw_ne _ _ _ _ (by omega), xw1]
        by_cases ej : j = k
        · subst ej
          rw [if_pos ⟨rfl, rfl⟩]
          unfold mrg
          rw [if_pos ⟨hl12, c0, c1⟩]
        · rw [if_neg (by omega)]
          exact pm j (by omega)
      · intro j hj
        rw [xw_ne _ _ _ _ (by omega), xw1, if_neg (by omega)]
        exact pr j (by omega)
      · intro j hj
        rw [xw1, if_neg (fun q => hj q.2), xw_ne _ _ _ _ (by omega)]
        exact p24 j hj
      · rw [fl_set, ex_succ]
        constructor
        · intro _; exact Or.inr (Or.inr ⟨c0, c1⟩)
        · intro _; exact Or.inr ⟨rfl, rfl⟩
  obtain ⟨p, ep, po, p22, p23, p25, p26, pm, pr, p24, pf⟩ := w
  refine ⟨p.2, ?_, ⟨po, fun f _ _ => by rw [p22]⟩, by rw [p22], ?_, ?_, ?_, f4⟩
  · unfold f_Flow_mergeLocals
    rw [ep]
    rfl
  · intro j hj
    obtain ⟨z1, z2⟩ := f1 j hj
    refine ⟨?_, ?_⟩
    · unfold fl at z1 ⊢
      rw [p23]; exact z1
    · show fl p.2 24 j ↔ updB S.2.1 i _ j = true
      unfold updB
      by_cases ej : j = i
      · subst ej
        rw [if_pos rfl, pf, Bool.or_eq_true, chg_iff, z2]
      · rw [if_neg ej]
        unfold fl at z2 ⊢
        rw [p24 j ej]; exact z2
  · intro j hj hsj
    obtain ⟨z1, z2, z3, z4⟩ := f2 j hj hsj
    refine ⟨z1, ?_, ?_, ?_⟩
    · rw [p25]; exact z2
    · rw [p26]; exact z3
    · intro k hk
      show p.2.1 27 (j * 12 + k) = updN S.2.2.2.2.1 i _ j k
      unfold updN
      by_cases ej : j = i
      · subst ej
        rw [if_pos rfl]
        exact pm k hk
      · rw [if_neg ej, pr _ (by omega)]
        exact z4 k hk
  · rw [p22]; exact f3
set_option maxRecDepth 20000 in
set_option maxHeartbeats 4000000 in
theorem same_28 {X : XS} {i h : Nat} {sk g : Nat → Int32} (hi : i < 60) (hh : h ≤ 10) (h25 : X.1 25 i = Int32.ofNat h) (h26 : ∀ k, k < h → X.1 26 (i * 10 + k) = sk k) (hg : ∀ k, k < h → X.1 28 k = g k) : f_Flow_sameStack_28 (Int32.ofNat i) (Int32.ofNat h) X = some (sameK h sk g) := by
  have w : Wo (lp (b15_Flow_sameStack_28 (Int32.ofNat i) (Int32.ofNat h) X) 10000 (0 : Int32)) (fun r => r = sameK h sk g) := by
    refine W_lp (fun s => ∃ k, k ≤ h ∧ s = Int32.ofNat k ∧ ∀ j, j < k → sk j = g j) (fun s => h - s.toNatClampNeg) ?_ 10000 _ ⟨0, Nat.zero_le _, rfl, fun j hj => absurd hj (Nat.not_lt_zero j)⟩ (by show h - 0 < 10000; omega)
    intro s ⟨k, hk, es, hj⟩
    subst es
    unfold b15_Flow_sameStack_28
    by_cases hl : k < h
    · have q1 : ¬ h ≤ k := by omega
      have q2 : i * 10 + k < 600 := by omega
      have q3 : k < 10 := by omega
      by_cases c : sk k = g k
      · have e26 := h26 k hl
        have eg := hg k hl
        simp (disch := omega) only [W_some, W_none, W_bind, W_ite, W_ocz, W_lt, q1, q2, q3, o_le, o_leL, o_leR, o_lt, o_ltL, o_ltR, o_eq, o_eqL, o_eqR, o_cl, o_add, o_addL, o_addR, o_mul, o_mulL, o_mulR, o_sub, o_subR, o_0le, o_lt0, o_ixo, n1_eq, n1_eq', n1_lt, n1_le, n1_ge, n1_gt, n2_eq, n2_eq', n2_lt, n2_le, n2_ge, n2_gt, ↓reduceIte, ite_self, Nat.reduceEqDiff, Nat.reduceAdd, Nat.reduceMul, Nat.reduceSub, Nat.reduceLT, Nat.reduceLeDiff, Nat.not_lt_zero, Nat.zero_le, if_true, if_false, ite_true, ite_false, true_and, and_true, false_and, and_false, true_implies, false_implies, implies_true, not_true_eq_false, not_false_eq_true, eq_self, true_or, or_true, false_or, or_false, and_self, reduceCtorEq, forall_const]
        rw [e26, eg]
        refine ⟨fun _ => ?_, fun h => absurd c h⟩
        refine ⟨⟨k + 1, by omega, rfl, ?_⟩, by omega⟩
        intro j hj'
        by_cases ej : j = k
        · subst ej; exact c
        · exact hj j (by omega)
      · have e26 := h26 k hl
        have eg := hg k hl
        simp (disch := omega) only [W_some, W_none, W_bind, W_ite, W_ocz, W_lt, q1, q2, q3, o_le, o_leL, o_leR, o_lt, o_ltL, o_ltR, o_eq, o_eqL, o_eqR, o_cl, o_add, o_addL, o_addR, o_mul, o_mulL, o_mulR, o_sub, o_subR, o_0le, o_lt0, o_ixo, n1_eq, n1_eq', n1_lt, n1_le, n1_ge, n1_gt, n2_eq, n2_eq', n2_lt, n2_le, n2_ge, n2_gt, ↓reduceIte, ite_self, Nat.reduceEqDiff, Nat.reduceAdd, Nat.reduceMul, Nat.reduceSub, Nat.reduceLT, Nat.reduceLeDiff, Nat.not_lt_zero, Nat.zero_le, if_true, if_false, ite_true, ite_false, true_and, and_true, false_and, and_false, true_implies, false_implies, implies_true, not_true_eq_false, not_false_eq_true, eq_self, true_or, or_true, false_or, or_false, and_self, reduceCtorEq, forall_const]
        rw [e26, eg]
        refine ⟨fun h => absurd h c, fun _ => ?_⟩
        symm
        rw [Bool.eq_false_iff]
        intro hc
        exact c (sameK_iff.mp hc k hl)
    · have ek : k = h := by omega
      subst ek
      simp (disch := omega) only [W_some, W_none, W_bind, W_ite, W_ocz, W_lt, Nat.le_refl, o_le, o_leL, o_leR, o_lt, o_ltL, o_ltR, o_eq, o_eqL, o_eqR, o_cl, o_add, o_addL, o_addR, o_mul, o_mulL, o_mulR, o_sub, o_subR, o_0le, o_lt0, o_ixo, n1_eq, n1_eq', n1_lt, n1_le, n1_ge, n1_gt, n2_eq, n2_eq', n2_lt, n2_le, n2_ge, n2_gt, ↓reduceIte, ite_self, Nat.reduceEqDiff, Nat.reduceAdd, Nat.reduceMul, Nat.reduceSub, Nat.reduceLT, Nat.reduceLeDiff, Nat.not_lt_zero, Nat.zero_le, if_true, if_false, ite_true, ite_false, true_and, and_true, false_and, and_false, true_implies, false_implies, implies_true, not_true_eq_false, not_false_eq_true, eq_self, true_or, or_true, false_or, or_false, and_self, reduceCtorEq, forall_const]
      exact (sameK_iff.mpr hj).symm
  obtain ⟨r, e, hr⟩ := w
  unfold f_Flow_sameStack_28
  simp (disch := omega) only [hi, h25, o_le, o_leL, o_leR, o_lt, o_ltL, o_ltR, o_eq, o_eqL, o_eqR, o_cl, o_add, o_addL, o_addR, o_mul, o_mulL, o_mulR, o_sub, o_subR, o_0le, o_lt0, o_ixo, n1_eq, n1_eq', n1_lt, n1_le, n1_ge, n1_gt, n2_eq, n2_eq', n2_lt, n2_le, n2_ge, n2_gt, ↓reduceIte, ite_self, Nat.reduceEqDiff, Nat.reduceAdd, Nat.reduceMul, Nat.reduceSub, Nat.reduceLT, Nat.reduceLeDiff, Nat.not_lt_zero, Nat.zero_le, if_true, if_false, ite_true, ite_false, true_and, and_true, false_and, and_false, true_implies, false_implies, implies_true, not_true_eq_false, not_false_eq_true, eq_self, true_or, or_true, false_or, or_false, and_self, reduceCtorEq, forall_const]
  rw [e, hr]
set_option maxRecDepth 20000 in
set_option maxHeartbeats 4000000 in
theorem come_28 {X : XS} {S : FS} {i h : Nat} {g l : Nat → Int32} (hS : FX X S) (hi : i < 60) (hh : h ≤ 10) (hg : ∀ k, k < h → X.1 28 k = g k) (hl : ∀ k, k < 12 → X.1 29 k = l k) : ∃ X', f_Flow_comeTo_28 (Int32.ofNat i) (Int32.ofNat h) X = some X' ∧ C9 X X' ∧ ((come S i g h l = none ∧ X'.1 22 10 = Int32.ofNat i) ∨ ∃ S', come S i g h l = some S' ∧ X'.1 22 10 = X.1 22 10 ∧ FX X' S') := by
  have hS0 := hS
  obtain ⟨f1, f2, f3, f4⟩ := hS
  have i59 : i ≤ 59 := by omega
  have hcap : (if (10 : Int32) < 10 then (10 : Int32) else 10) = 10 := by decide
  unfold f_Flow_comeTo_28 come
  obtain ⟨z1, z2⟩ := f1 i hi
  by_cases cs : S.1 i = false
  · -- for the first time
    have n23 : X.1 23 i = 0 := by
      apply Classical.byContradiction
      intro hc
      rw [z1.mp hc] at cs
      cases cs
    have c1 : cpo 0 (Int32.ofNat (i * 10)) (Int32.ofNat h) 10 600 := by
      rw [show (0 : Int32) = Int32.ofNat 0 from rfl, o_cpo 0 (i * 10) h 10 600 (by omega) (by omega) (by omega)]
      omega
    have c2 : cpo 0 (Int32.ofNat (i * 12)) 12 12 720 := by
      rw [show (0 : Int32) = Int32.ofNat 0 from rfl, show (12 : Int32) = Int32.ofNat 12 from rfl, o_cpo 0 (i * 12) 12 12 720 (by omega) (by omega) (by omega)]
      omega
    have mx : (if S.2.2.2.2.2 < h then Int32.ofNat h else Int32.ofNat S.2.2.2.2.2) = Int32.ofNat (max S.2.2.2.2.2 h) := by
      by_cases q : S.2.2.2.2.2 < h
      · rw [if_pos q]; congr 1; omega
      · rw [if_neg q]; congr 1; omega
    generalize hX : xc (xc (xw (xw (xw (xw X 23 i 1) 24 i 1) 25 i (Int32.ofNat h)) 22 0 (Int32.ofNat (max S.2.2.2.2.2 h))) ((xw (xw (xw (xw X 23 i 1) 24 i 1) 25 i (Int32.ofNat h)) 22 0 (Int32.ofNat (max S.2.2.2.2.2 h))).1 28) 26 0 (i * 10) h) ((xc (xw (xw (xw (xw X 23 i 1) 24 i 1) 25 i (Int32.ofNat h)) 22 0 (Int32.ofNat (max S.2.2.2.2.2 h))) ((xw (xw (xw (xw X 23 i 1) 24 i 1) 25 i (Int32.ofNat h)) 22 0 (Int32.ofNat (max S.2.2.2.2.2 h))).1 28) 26 0 (i * 10) h).1 29) 27 0 (i * 12) 12 = X'
    refine ⟨X', ?_, ?_, Or.inr ⟨_, by rw [if_pos cs], ?_, ?_⟩⟩
    · simp (disch := omega) only [i59, hh, hcap, n23, lt, xTw, xLw, xAw, xTp, xLp, xAp, xTc, xLc, xAc, xAn, xTn, xLn, xw1, xw2, xp1, xp2, xp3, mw1, mw2, xn1, xn2, xc1, xc2, f3, o_le, o_leL, o_leR, o_lt, o_ltL, o_ltR, o_eq, o_eqL, o_eqR, o_cl, o_add, o_addL, o_addR, o_mul, o_mulL, o_mulR, o_sub, o_subR, o_0le, o_lt0, o_ixo, n1_eq, n1_eq', n1_lt, n1_le, n1_ge, n1_gt, n2_eq, n2_eq', n2_lt, n2_le, n2_ge, n2_gt, ↓reduceIte, ite_self, Nat.reduceEqDiff, Nat.reduceAdd, Nat.reduceMul, Nat.reduceSub, Nat.reduceLT, Nat.reduceLeDiff, Nat.not_lt_zero, Nat.zero_le, if_true, if_false, ite_true, ite_false, true_and, and_true, false_and, and_false, true_implies, false_implies, implies_true, not_true_eq_false, not_false_eq_true, eq_self, true_or, or_true, false_or, or_false, and_self, reduceCtorEq, forall_const]
      rw [if_pos c1, if_pos c2, mx]
      exact congrArg some hX
    · refine ⟨⟨by rw [← hX]; rfl, ?_⟩, ?_⟩
      · intro b hb
        unfold Fcx at hb
        rw [← hX]
        funext j
        have n1 : ¬ b = 22 := by omega
        have n2 : ¬ b = 23 := by omega
        have n3 : ¬ b = 24 := by omega
        have n4 : ¬ b = 25 := by omega
        have n5 : ¬ b = 26 := by omega
        have n6 : ¬ b = 27 := by omega
        simp (disch := omega) only [xTw, xLw, xAw, xTp, xLp, xAp, xTc, xLc, xAc, xAn, xTn, xLn, xw1, xw2, xp1, xp2, xp3, mw1, mw2, xn1, xn2, xc1, xc2, n1, n2, n3, n4, n5, n6, o_le, o_leL, o_leR, o_lt, o_ltL, o_ltR, o_eq, o_eqL, o_eqR, o_cl, o_add, o_addL, o_addR, o_mul, o_mulL, o_mulR, o_sub, o_subR, o_0le, o_lt0, o_ixo, n1_eq, n1_eq', n1_lt, n1_le, n1_ge, n1_gt, n2_eq, n2_eq', n2_lt, n2_le, n2_ge, n2_gt, ↓reduceIte, ite_self, Nat.reduceEqDiff, Nat.reduceAdd, Nat.reduceMul, Nat.reduceSub, Nat.reduceLT, Nat.reduceLeDiff, Nat.not_lt_zero, Nat.zero_le, if_true, if_false, ite_true, ite_false, true_and, and_true, false_and, and_false, true_implies, false_implies, implies_true, not_true_eq_false, not_false_eq_true, eq_self, true_or, or_true, false_or, or_false, and_self, reduceCtorEq, forall_const]
      · intro f h1 h2
        rw [← hX]
        simp (disch := omega) only [xTw, xLw, xAw, xTp, xLp, xAp, xTc, xLc, xAc, xAn, xTn, xLn, xw1, xw2, xp1, xp2, xp3, mw1, mw2, xn1, xn2, xc1, xc2, h1, o_le, o_leL, o_leR, o_lt, o_ltL, o_ltR, o_eq, o_eqL, o_eqR, o_cl, o_add, o_addL, o_addR, o_mul, o_mulL, o_mulR, o_sub, o_subR, o_0le, o_lt0, o_ixo, n1_eq, n1_eq', n1_lt, n1_le, n1_ge, n1_gt, n2_eq, n2_eq', n2_lt, n2_le, n2_ge, n2_gt, ↓reduceIte, ite_self, Nat.reduceEqDiff, Nat.reduceAdd, Nat.reduceMul, Nat.reduceSub, Nat.reduceLT, Nat.reduceLeDiff, Nat.not_lt_zero, Nat.zero_le, if_true, if_false, ite_true, ite_false, true_and, and_true, false_and, and_false, true_implies, false_implies, implies_true, not_true_eq_false, not_false_eq_true, eq_self, true_or, or_true, false_or, or_false, and_self, reduceCtorEq, forall_const]
    · rw [← hX]
      simp (disch := omega) only [xTw, xLw, xAw, xTp, xLp, xAp, xTc, xLc, xAc, xAn, xTn, xLn, xw1, xw2, xp1, xp2, xp3, mw1, mw2, xn1, xn2, xc1, xc2, o_le, o_leL, o_leR, o_lt, o_ltL, o_ltR, o_eq, o_eqL, o_eqR, o_cl, o_add, o_addL, o_addR, o_mul, o_mulL, o_mulR, o_sub, o_subR, o_0le, o_lt0, o_ixo, n1_eq, n1_eq', n1_lt, n1_le, n1_ge, n1_gt, n2_eq, n2_eq', n2_lt, n2_le, n2_ge, n2_gt, ↓reduceIte, ite_self, Nat.reduceEqDiff, Nat.reduceAdd, Nat.reduceMul, Nat.reduceSub, Nat.reduceLT, Nat.reduceLeDiff, Nat.not_lt_zero, Nat.zero_le, if_true, if_false, ite_true, ite_false, true_and, and_true, false_and, and_false, true_implies, false_implies, implies_true, not_true_eq_false, not_false_eq_true, eq_self, true_or, or_true, false_or, or_false, and_self, reduceCtorEq, forall_const]
    · refine ⟨?_, ?_, ?_, by show max S.2.2.2.2.2 h ≤ 10; omega⟩
      · intro j hj
        obtain ⟨y1, y2⟩ := f1 j hj
        unfold updB fl at *
        rw [← hX]
        by_cases ej : j = i
        · subst ej
          simp (disch := omega) only [xTw, xLw, xAw, xTp, xLp, xAp, xTc, xLc, xAc, xAn, xTn, xLn, xw1, xw2, xp1, xp2, xp3, mw1, mw2, xn1, xn2, xc1, xc2, o_le, o_leL, o_leR, o_lt, o_ltL, o_ltR, o_eq, o_eqL, o_eqR, o_cl, o_add, o_addL, o_addR, o_mul, o_mulL, o_mulR, o_sub, o_subR, o_0le, o_lt0, o_ixo, n1_eq, n1_eq', n1_lt, n1_le, n1_ge, n1_gt, n2_eq, n2_eq', n2_lt, n2_le, n2_ge, n2_gt, ↓reduceIte, ite_self, Nat.reduceEqDiff, Nat.reduceAdd, Nat.reduceMul, Nat.reduceSub, Nat.reduceLT, Nat.reduceLeDiff, Nat.not_lt_zero, Nat.zero_le, if_true, if_false, ite_true, ite_false, true_and, and_true, false_and, and_false, true_implies, false_implies, implies_true, not_true_eq_false, not_false_eq_true, eq_self, true_or, or_true, false_or, or_false, and_self, reduceCtorEq, forall_const]
          simp
        · simp (disch := omega) only [xTw, xLw, xAw, xTp, xLp, xAp, xTc, xLc, xAc, xAn, xTn, xLn, xw1, xw2, xp1, xp2, xp3, mw1, mw2, xn1, xn2, xc1, xc2, ej, o_le, o_leL, o_leR, o_lt, o_ltL, o_ltR, o_eq, o_eqL, o_eqR, o_cl, o_add, o_addL, o_addR, o_mul, o_mulL, o_mulR, o_sub, o_subR, o_0le, o_lt0, o_ixo, n1_eq, n1_eq', n1_lt, n1_le, n1_ge, n1_gt, n2_eq, n2_eq', n2_lt, n2_le, n2_ge, n2_gt, ↓reduceIte, ite_self, Nat.reduceEqDiff, Nat.reduceAdd, Nat.reduceMul, Nat.reduceSub, Nat.reduceLT, Nat.reduceLeDiff, Nat.not_lt_zero, Nat.zero_le, if_true, if_false, ite_true, ite_false, true_and, and_true, false_and, and_false, true_implies, false_implies, implies_true, not_true_eq_false, not_false_eq_true, eq_self, true_or, or_true, false_or, or_false, and_self, reduceCtorEq, forall_const]
          exact ⟨y1, y2⟩
      · intro j hj hsj
        by_cases ej : j = i
        · subst ej
          unfold updN
          rw [← hX]
          simp (disch := omega) only [xTw, xLw, xAw, xTp, xLp, xAp, xTc, xLc, xAc, xAn, xTn, xLn, xw1, xw2, xp1, xp2, xp3, mw1, mw2, xn1, xn2, xc1, xc2, o_le, o_leL, o_leR, o_lt, o_ltL, o_ltR, o_eq, o_eqL, o_eqR, o_cl, o_add, o_addL, o_addR, o_mul, o_mulL, o_mulR, o_sub, o_subR, o_0le, o_lt0, o_ixo, n1_eq, n1_eq', n1_lt, n1_le, n1_ge, n1_gt, n2_eq, n2_eq', n2_lt, n2_le, n2_ge, n2_gt, ↓reduceIte, ite_self, Nat.reduceEqDiff, Nat.reduceAdd, Nat.reduceMul, Nat.reduceSub, Nat.reduceLT, Nat.reduceLeDiff, Nat.not_lt_zero, Nat.zero_le, if_true, if_false, ite_true, ite_false, true_and, and_true, false_and, and_false, true_implies, false_implies, implies_true, not_true_eq_false, not_false_eq_true, eq_self, true_or, or_true, false_or, or_false, and_self, reduceCtorEq, forall_const]
          refine ⟨by omega, ?_, ?_⟩
          · intro k hk
            have a1 : j * 10 ≤ j * 10 + k := by omega
            have a2 : j * 10 + k < j * 10 + h := by omega
            have a3 : 0 + (j * 10 + k - j * 10) = k := by omega
            rw [if_pos ⟨a1, a2⟩, a3]
            exact hg k hk
          · intro k hk
            have a1 : j * 12 ≤ j * 12 + k := by omega
            have a2 : j * 12 + k < j * 12 + 12 := by omega
            have a3 : 0 + (j * 12 + k - j * 12) = k := by omega
            rw [if_pos ⟨a1, a2⟩, a3]
            exact hl k hk
        · have hsj' : S.1 j = true := by
            have hsj2 : updB S.1 i true j = true := hsj
            unfold updB at hsj2
            rw [if_neg ej] at hsj2
            exact hsj2
          obtain ⟨y1, y2, y3, y4⟩ := f2 j hj hsj'
          unfold updN
          rw [← hX]
          simp (disch := omega) only [xTw, xLw, xAw, xTp, xLp, xAp, xTc, xLc, xAc, xAn, xTn, xLn, xw1, xw2, xp1, xp2, xp3, mw1, mw2, xn1, xn2, xc1, xc2, ej, o_le, o_leL, o_leR, o_lt, o_ltL, o_ltR, o_eq, o_eqL, o_eqR, o_cl, o_add, o_addL, o_addR, o_mul, o_mulL, o_mulR, o_sub, o_subR, o_0le, o_lt0, o_ixo, n1_eq, n1_eq', n1_lt, n1_le, n1_ge, n1_gt, n2_eq, n2_eq', n2_lt, n2_le, n2_ge, n2_gt, ↓reduceIte, ite_self, Nat.reduceEqDiff, Nat.reduceAdd, Nat.reduceMul, Nat.reduceSub, Nat.reduceLT, Nat.reduceLeDiff, Nat.not_lt_zero, Nat.zero_le, if_true, if_false, ite_true, ite_false, true_and, and_true, false_and, and_false, true_implies, false_implies, implies_true, not_true_eq_false, not_false_eq_true, eq_self, true_or, or_true, false_or, or_false, and_self, reduceCtorEq, forall_const]
          refine ⟨y1, y2, ?_, ?_⟩
          · intro k hk
            rw [if_neg (by omega)]
            exact y3 k hk
          · intro k hk
            rw [if_neg (by omega)]
            exact y4 k hk
      · rw [← hX]
        simp (disch := omega) only [xTw, xLw, xAw, xTp, xLp, xAp, xTc, xLc, xAc, xAn, xTn, xLn, xw1, xw2, xp1, xp2, xp3, mw1, mw2, xn1, xn2, xc1, xc2, o_le, o_leL, o_leR, o_lt, o_ltL, o_ltR, o_eq, o_eqL, o_eqR, o_cl, o_add, o_addL, o_addR, o_mul, o_mulL, o_mulR, o_sub, o_subR, o_0le, o_lt0, o_ixo, n1_eq, n1_eq', n1_lt, n1_le, n1_ge, n1_gt, n2_eq, n2_eq', n2_lt, n2_le, n2_ge, n2_gt, ↓reduceIte, ite_self, Nat.reduceEqDiff, Nat.reduceAdd, Nat.reduceMul, Nat.reduceSub, Nat.reduceLT, Nat.reduceLeDiff, Nat.not_lt_zero, Nat.zero_le, if_true, if_false, ite_true, ite_false, true_and, and_true, false_and, and_false, true_implies, false_implies, implies_true, not_true_eq_false, not_false_eq_true, eq_self, true_or, or_true, false_or, or_false, and_self, reduceCtorEq, forall_const]
  · have hs : S.1 i = true := by cases e : S.1 i with | false => exact absurd e cs | true => rfl
    have n23 : ¬ X.1 23 i = 0 := z1.mpr hs
    obtain ⟨b1, b2, b3, b4⟩ := f2 i hi hs
    rw [if_neg cs]
    by_cases ch : S.2.2.1 i = h
    · rw [ch] at b2 b3
      have ss := same_28 hi hh b2 b3 hg
      by_cases cq : sameK h (S.2.2.2.1 i) g = true
      · obtain ⟨X', e, c9, e10, hf⟩ := merge_ok hS0 hi hs hl
        refine ⟨X', ?_, c9, Or.inr ⟨_, by rw [if_pos ⟨ch, cq⟩], e10, hf⟩⟩
        rw [cq] at ss
        simp (disch := omega) only [i59, hh, hcap, n23, ss, e, Option.bind_some, o_le, o_leL, o_leR, o_lt, o_ltL, o_ltR, o_eq, o_eqL, o_eqR, o_cl, o_add, o_addL, o_addR, o_mul, o_mulL, o_mulR, o_sub, o_subR, o_0le, o_lt0, o_ixo, n1_eq, n1_eq', n1_lt, n1_le, n1_ge, n1_gt, n2_eq, n2_eq', n2_lt, n2_le, n2_ge, n2_gt, ↓reduceIte, ite_self, Nat.reduceEqDiff, Nat.reduceAdd, Nat.reduceMul, Nat.reduceSub, Nat.reduceLT, Nat.reduceLeDiff, Nat.not_lt_zero, Nat.zero_le, if_true, if_false, ite_true, ite_false, true_and, and_true, false_and, and_false, true_implies, false_implies, implies_true, not_true_eq_false, not_false_eq_true, eq_self, true_or, or_true, false_or, or_false, and_self, reduceCtorEq, forall_const]
      · refine ⟨xw X 22 10 (Int32.ofNat i), ?_, ⟨(Only.refl X).xw (by unfold Fcx; omega) _ _, fun f h1 h2 => by rw [xw1, if_neg (fun q => h2 q.2)]⟩, Or.inl ⟨by rw [if_neg (fun q => cq q.2)], by rw [xw1, if_pos ⟨rfl, rfl⟩]⟩⟩
        have cq' : sameK h (S.2.2.2.1 i) g = false := by cases e : sameK h (S.2.2.2.1 i) g with | false => rfl | true => exact absurd e cq
        rw [cq'] at ss
        simp (disch := omega) only [i59, hh, hcap, n23, ss, lt, Option.bind_some, o_le, o_leL, o_leR, o_lt, o_ltL, o_ltR, o_eq, o_eqL, o_eqR, o_cl, o_add, o_addL, o_addR, o_mul, o_mulL, o_mulR, o_sub, o_subR, o_0le, o_lt0, o_ixo, n1_eq, n1_eq', n1_lt, n1_le, n1_ge, n1_gt, n2_eq, n2_eq', n2_lt, n2_le, n2_ge, n2_gt, ↓reduceIte, ite_self, Nat.reduceEqDiff, Nat.reduceAdd, Nat.reduceMul, Nat.reduceSub, Nat.reduceLT, Nat.reduceLeDiff, Nat.not_lt_zero, Nat.zero_le, if_true, if_false, ite_true, ite_false, true_and, and_true, false_and, and_false, true_implies, false_implies, implies_true, not_true_eq_false, not_false_eq_true, eq_self, true_or, or_true, false_or, or_false, and_self, reduceCtorEq, forall_const]
    · refine ⟨xw X 22 10 (Int32.ofNat i), ?_, ⟨(Only.refl X).xw (by unfold Fcx; omega) _ _, fun f h1 h2 => by rw [xw1, if_neg (fun q => h2 q.2)]⟩, Or.inl ⟨by rw [if_neg (fun q => ch q.1)], by rw [xw1, if_pos ⟨rfl, rfl⟩]⟩⟩
      have ss : f_Flow_sameStack_28 (Int32.ofNat i) (Int32.ofNat h) X = some false := by
        unfold f_Flow_sameStack_28
        simp (disch := omega) only [hi, b2, ch, o_le, o_leL, o_leR, o_lt, o_ltL, o_ltR, o_eq, o_eqL, o_eqR, o_cl, o_add, o_addL, o_addR, o_mul, o_mulL, o_mulR, o_sub, o_subR, o_0le, o_lt0, o_ixo, n1_eq, n1_eq', n1_lt, n1_le, n1_ge, n1_gt, n2_eq, n2_eq', n2_lt, n2_le, n2_ge, n2_gt, ↓reduceIte, ite_self, Nat.reduceEqDiff, Nat.reduceAdd, Nat.reduceMul, Nat.reduceSub, Nat.reduceLT, Nat.reduceLeDiff, Nat.not_lt_zero, Nat.zero_le, if_true, if_false, ite_true, ite_false, true_and, and_true, false_and, and_false, true_implies, false_implies, implies_true, not_true_eq_false, not_false_eq_true, eq_self, true_or, or_true, false_or, or_false, and_self, reduceCtorEq, forall_const]
      simp (disch := omega) only [i59, hh, hcap, n23, ss, lt, Option.bind_some, o_le, o_leL, o_leR, o_lt, o_ltL, o_ltR, o_eq, o_eqL, o_eqR, o_cl, o_add, o_addL, o_addR, o_mul, o_mulL, o_mulR, o_sub, o_subR, o_0le, o_lt0, o_ixo, n1_eq, n1_eq', n1_lt, n1_le, n1_ge, n1_gt, n2_eq, n2_eq', n2_lt, n2_le, n2_ge, n2_gt, ↓reduceIte, ite_self, Nat.reduceEqDiff, Nat.reduceAdd, Nat.reduceMul, Nat.reduceSub, Nat.reduceLT, Nat.reduceLeDiff, Nat.not_lt_zero, Nat.zero_le, if_true, if_false, ite_true, ite_false, true_and, and_true, false_and, and_false, true_implies, false_implies, implies_true, not_true_eq_false, not_false_eq_true, eq_self, true_or, or_true, false_or, or_false, and_self, reduceCtorEq, forall_const]
set_option maxRecDepth 20000 in
set_option maxHeartbeats 4000000 in
theorem same_o4 {X : XS} {i h : Nat} {sk g : Nat → Int32} (hi : i < 60) (hh : h ≤ 1) (h25 : X.1 25 i = Int32.ofNat h) (h26 : ∀ k, k < h → X.1 26 (i * 10 + k) = sk k) (hg : ∀ k, k < h → oT 4 k = g k) : f_Flow_sameStack_o4 (Int32.ofNat i) (Int32.ofNat h) X = some (sameK h sk g) := by
  have w : Wo (lp (b15_Flow_sameStack_o4 (Int32.ofNat i) (Int32.ofNat h) X) 10000 (0 : Int32)) (fun r => r = sameK h sk g) := by
    refine W_lp (fun s => ∃ k, k ≤ h ∧ s = Int32.ofNat k ∧ ∀ j, j < k → sk j = g j) (fun s => h - s.toNatClampNeg) ?_ 10000 _ ⟨0, Nat.zero_le _, rfl, fun j hj => absurd hj (Nat.not_lt_zero j)⟩ (by show h - 0 < 10000; omega)
    intro s ⟨k, hk, es, hj⟩
    subst es
    unfold b15_Flow_sameStack_o4
    by_cases hl : k < h
    · have q1 : ¬ h ≤ k := by omega
      have q2 : i * 10 + k < 600 := by omega
      have q3 : k < 1 := by omega
      by_cases c : sk k = g k
      · have e26 := h26 k hl
        have eg := hg k hl
        simp (disch := omega) only [W_some, W_none, W_bind, W_ite, W_ocz, W_lt, q1, q2, q3, o_le, o_leL, o_leR, o_lt, o_ltL, o_ltR, o_eq, o_eqL, o_eqR, o_cl, o_add, o_addL, o_addR, o_mul, o_mulL, o_mulR, o_sub, o_subR, o_0le, o_lt0, o_ixo, n1_eq, n1_eq', n1_lt, n1_le, n1_ge, n1_gt, n2_eq, n2_eq', n2_lt, n2_le, n2_ge, n2_gt, ↓reduceIte, ite_self, Nat.reduceEqDiff, Nat.reduceAdd, Nat.reduceMul, Nat.reduceSub, Nat.reduceLT, Nat.reduceLeDiff, Nat.not_lt_zero, Nat.zero_le, if_true, if_false, ite_true, ite_false, true_and, and_true, false_and, and_false, true_implies, false_implies, implies_true, not_true_eq_false, not_false_eq_true, eq_self, true_or, or_true, false_or, or_false, and_self, reduceCtorEq, forall_const]
        rw [e26, eg]
        refine ⟨fun _ => ?_, fun h => absurd c h⟩
        refine ⟨⟨k + 1, by omega, rfl, ?_⟩, by omega⟩
        intro j hj'
        by_cases ej : j = k
        · subst ej; exact c
        · exact hj j (by omega)
      · have e26 := h26 k hl
        have eg := hg k hl
        simp (disch := omega) only [W_some, W_none, W_bind, W_ite, W_ocz, W_lt, q1, q2, q3, o_le, o_leL, o_leR, o_lt, o_ltL, o_ltR, o_eq, o_eqL, o_eqR, o_cl, o_add, o_addL, o_addR, o_mul, o_mulL, o_mulR, o_sub, o_subR, o_0le, o_lt0, o_ixo, n1_eq, n1_eq', n1_lt, n1_le, n1_ge, n1_gt, n2_eq, n2_eq', n2_lt, n2_le, n2_ge, n2_gt, ↓reduceIte, ite_self, Nat.reduceEqDiff, Nat.reduceAdd, Nat.reduceMul, Nat.reduceSub, Nat.reduceLT, Nat.reduceLeDiff, Nat.not_lt_zero, Nat.zero_le, if_true, if_false, ite_true, ite_false, true_and, and_true, false_and, and_false, true_implies, false_implies, implies_true, not_true_eq_false, not_false_eq_true, eq_self, true_or, or_true, false_or, or_false, and_self, reduceCtorEq, forall_const]
        rw [e26, eg]
        refine ⟨fun h => absurd h c, fun _ => ?_⟩
        symm
        rw [Bool.eq_false_iff]
        intro hc
        exact c (sameK_iff.mp hc k hl)
    · have ek : k = h := by omega
      subst ek
      simp (disch := omega) only [W_some, W_none, W_bind, W_ite, W_ocz, W_lt, Nat.le_refl, o_le, o_leL, o_leR, o_lt, o_ltL, o_ltR, o_eq, o_eqL, o_eqR, o_cl, o_add, o_addL, o_addR, o_mul, o_mulL, o_mulR, o_sub, o_subR, o_0le, o_lt0, o_ixo, n1_eq, n1_eq', n1_lt, n1_le, n1_ge, n1_gt, n2_eq, n2_eq', n2_lt, n2_le, n2_ge, n2_gt, ↓reduceIte, ite_self, Nat.reduceEqDiff, Nat.reduceAdd, Nat.reduceMul, Nat.reduceSub, Nat.reduceLT, Nat.reduceLeDiff, Nat.not_lt_zero, Nat.zero_le, if_true, if_false, ite_true, ite_false, true_and, and_true, false_and, and_false, true_implies, false_implies, implies_true, not_true_eq_false, not_false_eq_true, eq_self, true_or, or_true, false_or, or_false, and_self, reduceCtorEq, forall_const]
      exact (sameK_iff.mpr hj).symm
  obtain ⟨r, e, hr⟩ := w
  unfold f_Flow_sameStack_o4
  simp (disch := omega) only [hi, h25, o_le, o_leL, o_leR, o_lt, o_ltL, o_ltR, o_eq, o_eqL, o_eqR, o_cl, o_add, o_addL, o_addR, o_mul, o_mulL, o_mulR, o_sub, o_subR, o_0le, o_lt0, o_ixo, n1_eq, n1_eq', n1_lt, n1_le, n1_ge, n1_gt, n2_eq, n2_eq', n2_lt, n2_le, n2_ge, n2_gt, ↓reduceIte, ite_self, Nat.reduceEqDiff, Nat.reduceAdd, Nat.reduceMul, Nat.reduceSub, Nat.reduceLT, Nat.reduceLeDiff, Nat.not_lt_zero, Nat.zero_le, if_true, if_false, ite_true, ite_false, true_and, and_true, false_and, and_false, true_implies, false_implies, implies_true, not_true_eq_false, not_false_eq_true, eq_self, true_or, or_true, false_or, or_false, and_self, reduceCtorEq, forall_const]
  rw [e, hr]
set_option maxRecDepth 20000 in
set_option maxHeartbeats 4000000 in
theorem come_o4 {X : XS} {S : FS} {i h : Nat} {g l : Nat → Int32} (hS : FX X S) (hi : i < 60) (hh : h ≤ 1) (hg : ∀ k, k < h → oT 4 k = g k) (hl : ∀ k, k < 12 → X.1 29 k = l k) : ∃ X', f_Flow_comeTo_o4 (Int32.ofNat i) (Int32.ofNat h) X = some X' ∧ C9 X X' ∧ ((come S i g h l = none ∧ X'.1 22 10 = Int32.ofNat i) ∨ ∃ S', come S i g h l = some S' ∧ X'.1 22 10 = X.1 22 10 ∧ FX X' S') := by
  have hS0 := hS
  obtain ⟨f1, f2, f3, f4⟩ := hS
  have i59 : i ≤ 59 := by omega
  have hcap : (if (1 : Int32) < 10 then (1 : Int32) else 10) = 1 := by decide
  unfold f_Flow_comeTo_o4 come
  obtain ⟨z1, z2⟩ := f1 i hi
  by_cases cs : S.1 i = false
  · -- for the first time
    have n23 : X.1 23 i = 0 := by
      apply Classical.byContradiction
      intro hc
      rw [z1.mp hc] at cs
      cases cs
    have c1 : cpo 0 (Int32.ofNat (i * 10)) (Int32.ofNat h) 1 600 := by
      rw [show (0 : Int32) = Int32.ofNat 0 from rfl, o_cpo 0 (i * 10) h 1 600 (by omega) (by omega) (by omega)]
      omega
    have c2 : cpo 0 (Int32.ofNat (i * 12)) 12 12 720 := by
      rw [show (0 : Int32) = Int32.ofNat 0 from rfl, show (12 : Int32) = Int32.ofNat 12 from rfl, o_cpo 0 (i * 12) 12 12 720 (by omega) (by omega) (by omega)]
      omega
    have mx : (if S.2.2.2.2.2 < h then Int32.ofNat h else Int32.ofNat S.2.2.2.2.2) = Int32.ofNat (max S.2.2.2.2.2 h) := by
      by_cases q : S.2.2.2.2.2 < h
      · rw [if_pos q]; congr 1; omega
      · rw [if_neg q]; congr 1; omega
    generalize hX : xc (xc (xw (xw (xw (xw X 23 i 1) 24 i 1) 25 i (Int32.ofNat h)) 22 0 (Int32.ofNat (max S.2.2.2.2.2 h))) (oT 4) 26 0 (i * 10) h) ((xc (xw (xw (xw (xw X 23 i 1) 24 i 1) 25 i (Int32.ofNat h)) 22 0 (Int32.ofNat (max S.2.2.2.2.2 h))) (oT 4) 26 0 (i * 10) h).1 29) 27 0 (i * 12) 12 = X'
    refine ⟨X', ?_, ?_, Or.inr ⟨_, by rw [if_pos cs], ?_, ?_⟩⟩
    · simp (disch := omega) only [i59, hh, hcap, n23, lt, xTw, xLw, xAw, xTp, xLp, xAp, xTc, xLc, xAc, xAn, xTn, xLn, xw1, xw2, xp1, xp2, xp3, mw1, mw2, xn1, xn2, xc1, xc2, f3, o_le, o_leL, o_leR, o_lt, o_ltL, o_ltR, o_eq, o_eqL, o_eqR, o_cl, o_add, o_addL, o_addR, o_mul, o_mulL, o_mulR, o_sub, o_subR, o_0le, o_lt0, o_ixo, n1_eq, n1_eq', n1_lt, n1_le, n1_ge, n1_gt, n2_eq, n2_eq', n2_lt, n2_le, n2_ge, n2_gt, ↓reduceIte, ite_self, Nat.reduceEqDiff, Nat.reduceAdd, Nat.reduceMul, Nat.reduceSub, Nat.reduceLT, Nat.reduceLeDiff, Nat.not_lt_zero, Nat.zero_le, if_true, if_false, ite_true, ite_false, true_and, and_true, false_and, and_false, true_implies, false_implies, implies_true, not_true_eq_false, not_false_eq_true, eq_self, true_or, or_true, false_or, or_false, and_self, reduceCtorEq, forall_const]
      rw [if_pos c1, if_pos c2, mx]
      exact congrArg some hX
    · refine ⟨⟨by rw [← hX]; rfl, ?_⟩, ?_⟩
      · intro b hb
        unfold Fcx at hb
        rw [← hX]
        funext j
        have n1 : ¬ b = 22 := by omega
        have n2 : ¬ b = 23 := by omega
        have n3 : ¬ b = 24 := by omega
        have n4 : ¬ b = 25 := by omega
        have n5 : ¬ b = 26 := by omega
        have n6 : ¬ b = 27 := by omega
        simp (disch := omega) only [xTw, xLw, xAw, xTp, xLp, xAp, xTc, xLc, xAc, xAn, xTn, xLn, xw1, xw2, xp1, xp2, xp3, mw1, mw2, xn1, xn2, xc1, xc2, n1, n2, n3, n4, n5, n6, o_le, o_leL, o_leR, o_lt, o_ltL, o_ltR, o_eq, o_eqL, o_eqR, o_cl, o_add, o_addL, o_addR, o_mul, o_mulL, o_mulR, o_sub, o_subR, o_0le, o_lt0, o_ixo, n1_eq, n1_eq', n1_lt, n1_le, n1_ge, n1_gt, n2_eq, n2_eq', n2_lt, n2_le, n2_ge, n2_gt, ↓reduceIte, ite_self, Nat.reduceEqDiff, Nat.reduceAdd, Nat.reduceMul, Nat.reduceSub, Nat.reduceLT, Nat.reduceLeDiff, Nat.not_lt_zero, Nat.zero_le, if_true, if_false, ite_true, ite_false, true_and, and_true, false_and, and_false, true_implies, false_implies, implies_true, not_true_eq_false, not_false_eq_true, eq_self, true_or, or_true, false_or, or_false, and_self, reduceCtorEq, forall_const]
      · intro f h1 h2
        rw [← hX]
        simp (disch := omega) only [xTw, xLw, xAw, xTp, xLp, xAp, xTc, xLc, xAc, xAn, xTn, xLn, xw1, xw2, xp1, xp2, xp3, mw1, mw2, xn1, xn2, xc1, xc2, h1, o_le, o_leL, o_leR, o_lt, o_ltL, o_ltR, o_eq, o_eqL, o_eqR, o_cl, o_add, o_addL, o_addR, o_mul, o_mulL, o_mulR, o_sub, o_subR, o_0le, o_lt0, o_ixo, n1_eq, n1_eq', n1_lt, n1_le, n1_ge, n1_gt, n2_eq, n2_eq', n2_lt, n2_le, n2_ge, n2_gt, ↓reduceIte, ite_self, Nat.reduceEqDiff, Nat.reduceAdd, Nat.reduceMul, Nat.reduceSub, Nat.reduceLT, Nat.reduceLeDiff, Nat.not_lt_zero, Nat.zero_le, if_true, if_false, ite_true, ite_false, true_and, and_true, false_and, and_false, true_implies, false_implies, implies_true, not_true_eq_false, not_false_eq_true, eq_self, true_or, or_true, false_or, or_false, and_self, reduceCtorEq, forall_const]
    · rw [← hX]
      simp (disch := omega) only [xTw, xLw, xAw, xTp, xLp, xAp, xTc, xLc, xAc, xAn, xTn, xLn, xw1, xw2, xp1, xp2, xp3, mw1, mw2, xn1, xn2, xc1, xc2, o_le, o_leL, o_leR, o_lt, o_ltL, o_ltR, o_eq, o_eqL, o_eqR, o_cl, o_add, o_addL, o_addR, o_mul, o_mulL, o_mulR, o_sub, o_subR, o_0le, o_lt0, o_ixo, n1_eq, n1_eq', n1_lt, n1_le, n1_ge, n1_gt, n2_eq, n2_eq', n2_lt, n2_le, n2_ge, n2_gt, ↓reduceIte, ite_self, Nat.reduceEqDiff, Nat.reduceAdd, Nat.reduceMul, Nat.reduceSub, Nat.reduceLT, Nat.reduceLeDiff, Nat.not_lt_zero, Nat.zero_le, if_true, if_false, ite_true, ite_false, true_and, and_true, false_and, and_false, true_implies, false_implies, implies_true, not_true_eq_false, not_false_eq_true, eq_self, true_or, or_true, false_or, or_false, and_self, reduceCtorEq, forall_const]
    · refine ⟨?_, ?_, ?_, by show max S.2.2.2.2.2 h ≤ 10; omega⟩
      · intro j hj
        obtain ⟨y1, y2⟩ := f1 j hj
        unfold updB fl at *
        rw [← hX]
        by_cases ej : j = i
        · subst ej
          simp (disch := omega) only [xTw, xLw, xAw, xTp, xLp, xAp, xTc, xLc, xAc, xAn, xTn, xLn, xw1, xw2, xp1, xp2, xp3, mw1, mw2, xn1, xn2, xc1, xc2, o_le, o_leL, o_leR, o_lt, o_ltL, o_ltR, o_eq, o_eqL, o_eqR, o_cl, o_add, o_addL, o_addR, o_mul, o_mulL, o_mulR, o_sub, o_subR, o_0le, o_lt0, o_ixo, n1_eq, n1_eq', n1_lt, n1_le, n1_ge, n1_gt, n2_eq, n2_eq', n2_lt, n2_le, n2_ge, n2_gt, ↓reduceIte, ite_self, Nat.reduceEqDiff, Nat.reduceAdd, Nat.reduceMul, Nat.reduceSub, Nat.reduceLT, Nat.reduceLeDiff, Nat.not_lt_zero, Nat.zero_le, if_true, if_false, ite_true, ite_false, true_and, and_true, false_and, and_false, true_implies, false_implies, implies_true, not_true_eq_false, not_false_eq_true, eq_self, true_or, or_true, false_or, or_false, and_self, reduceCtorEq, forall_const]
          simp
        · simp (disch := omega) only [xTw, xLw, xAw, xTp, xLp, xAp, xTc, xLc, xAc, xAn, xTn, xLn, xw1, xw2, xp1, xp2, xp3, mw1, mw2, xn1, xn2, xc1, xc2, ej, o_le, o_leL, o_leR, o_lt, o_ltL, o_ltR, o_eq, o_eqL, o_eqR, o_cl, o_add, o_addL, o_addR, o_mul, o_mulL, o_mulR, o_sub, o_subR, o_0le, o_lt0, o_ixo, n1_eq, n1_eq', n1_lt, n1_le, n1_ge, n1_gt, n2_eq, n2_eq', n2_lt, n2_le, n2_ge, n2_gt, ↓reduceIte, ite_self, Nat.reduceEqDiff, Nat.reduceAdd, Nat.reduceMul, Nat.reduceSub, Nat.reduceLT, Nat.reduceLeDiff, Nat.not_lt_zero, Nat.zero_le, if_true, if_false, ite_true, ite_false, true_and, and_true, false_and, and_false, true_implies, false_implies, implies_true, not_true_eq_false, not_false_eq_true, eq_self, true_or, or_true, false_or, or_false, and_self, reduceCtorEq, forall_const]
          exact ⟨y1, y2⟩
      · intro j hj hsj
        by_cases ej : j = i
        · subst ej
          unfold updN
          rw [← hX]
          simp (disch := omega) only [xTw, xLw, xAw, xTp, xLp, xAp, xTc, xLc, xAc, xAn, xTn, xLn, xw1, xw2, xp1, xp2, xp3, mw1, mw2, xn1, xn2, xc1, xc2, o_le, o_leL, o_leR, o_lt, o_ltL, o_ltR, o_eq, o_eqL, o_eqR, o_cl, o_add, o_addL, o_addR, o_mul, o_mulL, o_mulR, o_sub, o_subR, o_0le, o_lt0, o_ixo, n1_eq, n1_eq', n1_lt, n1_le, n1_ge, n1_gt, n2_eq, n2_eq', n2_lt, n2_le, n2_ge, n2_gt, ↓reduceIte, ite_self, Nat.reduceEqDiff, Nat.reduceAdd, Nat.reduceMul, Nat.reduceSub, Nat.reduceLT, Nat.reduceLeDiff, Nat.not_lt_zero, Nat.zero_le, if_true, if_false, ite_true, ite_false, true_and, and_true, false_and, and_false, true_implies, false_implies, implies_true, not_true_eq_false, not_false_eq_true, eq_self, true_or, or_true, false_or, or_false, and_self, reduceCtorEq, forall_const]
          refine ⟨by omega, ?_, ?_⟩
          · intro k hk
            have a1 : j * 10 ≤ j * 10 + k := by omega
            have a2 : j * 10 + k < j * 10 + h := by omega
            have a3 : 0 + (j * 10 + k - j * 10) = k := by omega
            rw [if_pos ⟨a1, a2⟩, a3]
            exact hg k hk
          · intro k hk
            have a1 : j * 12 ≤ j * 12 + k := by omega
            have a2 : j * 12 + k < j * 12 + 12 := by omega
            have a3 : 0 + (j * 12 + k - j * 12) = k := by omega
            rw [if_pos ⟨a1, a2⟩, a3]
            exact hl k hk
        · have hsj' : S.1 j = true := by
            have hsj2 : updB S.1 i true j = true := hsj
            unfold updB at hsj2
            rw [if_neg ej] at hsj2
            exact hsj2
          obtain ⟨y1, y2, y3, y4⟩ := f2 j hj hsj'
          unfold updN
          rw [← hX]
          simp (disch := omega) only [xTw, xLw, xAw, xTp, xLp, xAp, xTc, xLc, xAc, xAn, xTn, xLn, xw1, xw2, xp1, xp2, xp3, mw1, mw2, xn1, xn2, xc1, xc2, ej, o_le, o_leL, o_leR, o_lt, o_ltL, o_ltR, o_eq, o_eqL, o_eqR, o_cl, o_add, o_addL, o_addR, o_mul, o_mulL, o_mulR, o_sub, o_subR, o_0le, o_lt0, o_ixo, n1_eq, n1_eq', n1_lt, n1_le, n1_ge, n1_gt, n2_eq, n2_eq', n2_lt, n2_le, n2_ge, n2_gt, ↓reduceIte, ite_self, Nat.reduceEqDiff, Nat.reduceAdd, Nat.reduceMul, Nat.reduceSub, Nat.reduceLT, Nat.reduceLeDiff, Nat.not_lt_zero, Nat.zero_le, if_true, if_false, ite_true, ite_false, true_and, and_true, false_and, and_false, true_implies, false_implies, implies_true, not_true_eq_false, not_false_eq_true, eq_self, true_or, or_true, false_or, or_false, and_self, reduceCtorEq, forall_const]
          refine ⟨y1, y2, ?_, ?_⟩
          · intro k hk
            rw [if_neg (by omega)]
            exact y3 k hk
          · intro k hk
            rw [if_neg (by omega)]
            exact y4 k hk
      · rw [← hX]
        simp (disch := omega) only [xTw, xLw, xAw, xTp, xLp, xAp, xTc, xLc, xAc, xAn, xTn, xLn, xw1, xw2, xp1, xp2, xp3, mw1, mw2, xn1, xn2, xc1, xc2, o_le, o_leL, o_leR, o_lt, o_ltL, o_ltR, o_eq, o_eqL, o_eqR, o_cl, o_add, o_addL, o_addR, o_mul, o_mulL, o_mulR, o_sub, o_subR, o_0le, o_lt0, o_ixo, n1_eq, n1_eq', n1_lt, n1_le, n1_ge, n1_gt, n2_eq, n2_eq', n2_lt, n2_le, n2_ge, n2_gt, ↓reduceIte, ite_self, Nat.reduceEqDiff, Nat.reduceAdd, Nat.reduceMul, Nat.reduceSub, Nat.reduceLT, Nat.reduceLeDiff, Nat.not_lt_zero, Nat.zero_le, if_true, if_false, ite_true, ite_false, true_and, and_true, false_and, and_false, true_implies, false_implies, implies_true, not_true_eq_false, not_false_eq_true, eq_self, true_or, or_true, false_or, or_false, and_self, reduceCtorEq, forall_const]
  · have hs : S.1 i = true := by cases e : S.1 i with | false => exact absurd e cs | true => rfl
    have n23 : ¬ X.1 23 i = 0 := z1.mpr hs
    obtain ⟨b1, b2, b3, b4⟩ := f2 i hi hs
    rw [if_neg cs]
    by_cases ch : S.2.2.1 i = h
    · rw [ch] at b2 b3
      have ss := same_o4 hi hh b2 b3 hg
      by_cases cq : sameK h (S.2.2.2.1 i) g = true
      · obtain ⟨X', e, c9, e10, hf⟩ := merge_ok hS0 hi hs hl
        refine ⟨X', ?_, c9, Or.inr ⟨_, by rw [if_pos ⟨ch, cq⟩], e10, hf⟩⟩
        rw [cq] at ss
        simp (disch := omega) only [i59, hh, hcap, n23, ss, e, Option.bind_some, o_le, o_leL, o_leR, o_lt, o_ltL, o_ltR, o_eq, o_eqL, o_eqR, o_cl, o_add, o_addL, o_addR, o_mul, o_mulL, o_mulR, o_sub, o_subR, o_0le, o_lt0, o_ixo, n1_eq, n1_eq', n1_lt, n1_le, n1_ge, n1_gt, n2_eq, n2_eq', n2_lt, n2_le, n2_ge, n2_gt, ↓reduceIte, ite_self, Nat.reduceEqDiff, Nat.reduceAdd, Nat.reduceMul, Nat.reduceSub, Nat.reduceLT, Nat.reduceLeDiff, Nat.not_lt_zero, Nat.zero_le, if_true, if_false, ite_true, ite_false, true_and, and_true, false_and, and_false, true_implies, false_implies, implies_true, not_true_eq_false, not_false_eq_true, eq_self, true_or, or_true, false_or, or_false, and_self, reduceCtorEq, forall_const]
      · refine ⟨xw X 22 10 (Int32.ofNat i), ?_, ⟨(Only.refl X).xw (by unfold Fcx; omega) _ _, fun f h1 h2 => by rw [xw1, if_neg (fun q => h2 q.2)]⟩, Or.inl ⟨by rw [if_neg (fun q => cq q.2)], by rw [xw1, if_pos ⟨rfl, rfl⟩]⟩⟩
        have cq' : sameK h (S.2.2.2.1 i) g = false := by cases e : sameK h (S.2.2.2.1 i) g with | false => rfl | true => exact absurd e cq
        rw [cq'] at ss
        simp (disch := omega) only [i59, hh, hcap, n23, ss, lt, Option.bind_some, o_le, o_leL, o_leR, o_lt, o_ltL, o_ltR, o_eq, o_eqL, o_eqR, o_cl, o_add, o_addL, o_addR, o_mul, o_mulL, o_mulR, o_sub, o_subR, o_0le, o_lt0, o_ixo, n1_eq, n1_eq', n1_lt, n1_le, n1_ge, n1_gt, n2_eq, n2_eq', n2_lt, n2_le, n2_ge, n2_gt, ↓reduceIte, ite_self, Nat.reduceEqDiff, Nat.reduceAdd, Nat.reduceMul, Nat.reduceSub, Nat.reduceLT, Nat.reduceLeDiff, Nat.not_lt_zero, Nat.zero_le, if_true, if_false, ite_true, ite_false, true_and, and_true, false_and, and_false, true_implies, false_implies, implies_true, not_true_eq_false, not_false_eq_true, eq_self, true_or, or_true, false_or, or_false, and_self, reduceCtorEq, forall_const]
    · refine ⟨xw X 22 10 (Int32.ofNat i), ?_, ⟨(Only.refl X).xw (by unfold Fcx; omega) _ _, fun f h1 h2 => by rw [xw1, if_neg (fun q => h2 q.2)]⟩, Or.inl ⟨by rw [if_neg (fun q => ch q.1)], by rw [xw1, if_pos ⟨rfl, rfl⟩]⟩⟩
      have ss : f_Flow_sameStack_o4 (Int32.ofNat i) (Int32.ofNat h) X = some false := by
        unfold f_Flow_sameStack_o4
        simp (disch := omega) only [hi, b2, ch, o_le, o_leL, o_leR, o_lt, o_ltL, o_ltR, o_eq, o_eqL, o_eqR, o_cl, o_add, o_addL, o_addR, o_mul, o_mulL, o_mulR, o_sub, o_subR, o_0le, o_lt0, o_ixo, n1_eq, n1_eq', n1_lt, n1_le, n1_ge, n1_gt, n2_eq, n2_eq', n2_lt, n2_le, n2_ge, n2_gt, ↓reduceIte, ite_self, Nat.reduceEqDiff, Nat.reduceAdd, Nat.reduceMul, Nat.reduceSub, Nat.reduceLT, Nat.reduceLeDiff, Nat.not_lt_zero, Nat.zero_le, if_true, if_false, ite_true, ite_false, true_and, and_true, false_and, and_false, true_implies, false_implies, implies_true, not_true_eq_false, not_false_eq_true, eq_self, true_or, or_true, false_or, or_false, and_self, reduceCtorEq, forall_const]
      simp (disch := omega) only [i59, hh, hcap, n23, ss, lt, Option.bind_some, o_le, o_leL, o_leR, o_lt, o_ltL, o_ltR, o_eq, o_eqL, o_eqR, o_cl, o_add, o_addL, o_addR, o_mul, o_mulL, o_mulR, o_sub, o_subR, o_0le, o_lt0, o_ixo, n1_eq, n1_eq', n1_lt, n1_le, n1_ge, n1_gt, n2_eq, n2_eq', n2_lt, n2_le, n2_ge, n2_gt, ↓reduceIte, ite_self, Nat.reduceEqDiff, Nat.reduceAdd, Nat.reduceMul, Nat.reduceSub, Nat.reduceLT, Nat.reduceLeDiff, Nat.not_lt_zero, Nat.zero_le, if_true, if_false, ite_true, ite_false, true_and, and_true, false_and, and_false, true_implies, false_implies, implies_true, not_true_eq_false, not_false_eq_true, eq_self, true_or, or_true, false_or, or_false, and_self, reduceCtorEq, forall_const]
