/-! H4 -/
/-- the state of both sides before method m is looked through -/
def LkI (M0 M1 : MS) (X1 : XS) (kc rc m : Nat) (X : XS) (M : MS) : Prop := Only Flk X1 X ∧ MO Fmk M1 M ∧ ∀ m', m' < m → fm M1 75 m' → ∃ S, TyM M0 kc rc M m' S ∧ TyX X m' S
theorem hasR_same {X : XS} {M M1 : MS} {T : Nat → Nat} {kc rc k : Nat} (h : RSc X M T kc rc) (hs : Same kc rc X M1) (hk : k < 24) : (f_Reach_hasRoutine (Int32.ofNat k) X = true) ↔ fm M1 75 k := by
  rw [hasR_iff h hk, hs.1 k hk]
  exact ⟨fun x => x.2, fun x => ⟨hs.2.1 k hk x, x⟩⟩
set_option maxRecDepth 20000 in
set_option maxHeartbeats 4000000 in
theorem Same_only {X X' : XS} {M : MS} {kc rc : Nat} (h : Same kc rc X M) (h17 : X'.1 17 = X.1 17) (h15 : X'.1 15 = X.1 15) (h14 : X'.1 14 = X.1 14) (h20 : X'.1 20 = X.1 20) (h21 : X'.1 21 = X.1 21) : Same kc rc X' M := by
  unfold Same fl at *
  rw [h17, h15, h14, h20, h21]
  exact h
set_option maxRecDepth 20000 in
set_option maxHeartbeats 4000000 in
theorem Same_M {X : XS} {M M' : MS} {kc rc : Nat} (h : Same kc rc X M) (h75 : M'.1 75 = M.1 75) (h77 : M'.1 77 = M.1 77) (h80 : M'.1 80 = M.1 80) (h79 : M'.1 79 = M.1 79) (h2 : M'.1 60 22 = M.1 60 22) (h3 : M'.1 60 23 = M.1 60 23) : Same kc rc X M' := by
  unfold Same fm at *
  rw [h75, h77, h80, h79, h2, h3]
  exact h
theorem Flk_same {X X' : XS} {M : MS} {kc rc : Nat} (h : Same kc rc X M) (ho : Only Flk X X') : Same kc rc X' M :=
  Same_only h (ho.2 _ (by unfold Flk Fal; omega)) (ho.2 _ (by unfold Flk Fal; omega)) (ho.2 _ (by unfold Flk Fal; omega)) (ho.2 _ (by unfold Flk Fal; omega)) (ho.2 _ (by unfold Flk Fal; omega))
set_option maxRecDepth 20000 in
set_option maxHeartbeats 4000000 in
theorem Fmk_src : ∀ a i, Fmk a i → 74 < a ∨ (a = 60 ∧ i ≠ 3 ∧ i ≠ 15) := by
  intro a i h
  unfold Fmk Flm at h
  omega
theorem Fmk_row {M M' : MS} (h : MO Fmk M M') {a : Nat} (ha : 75 ≤ a ∧ a ≤ 80) : M'.1 a = M.1 a := funext fun i => h.2 a i (by unfold Fmk Flm; omega)
theorem MSrc.trans {A B C : MS} (h : MSrc A B) (k : MSrc B C) : MSrc A C := ⟨fun a h1 h2 => (k.1 a h1 h2).trans (h.1 a h1 h2), k.2.1.trans h.2.1, k.2.2.trans h.2.2⟩
theorem lp_none {α ρ : Type} {body : α → Option (α ⊕ ρ)} {n : Nat} {x : α} (h : body x = none) : lp body (n + 1) x = none := by
  unfold lp
  rw [h]
set_option maxRecDepth 20000 in
set_option maxHeartbeats 4000000 in
theorem prodTail {X : XS} {M : MS} {T : Nat → Nat} {kc rc : Nat} (x : Int32) (h : RSc X M T kc rc) : ∀ d m N, m + d = 24 → rc ≤ m → d < N → lp (b10_Linker_produce_30 x) N (Int32.ofNat m, X) = (f_Linker_write_30 x X).bind (fun x15 => some (x15.1 30 0, x15)) := by
  intro d
  induction d with
  | zero =>
    intro m N e hm hN
    obtain ⟨N, rfl⟩ : ∃ N', N = N' + 1 := ⟨N - 1, by omega⟩
    have em : m = 24 := by omega
    subst em
    have e1 : b10_Linker_produce_30 x (Int32.ofNat 24, X) = (f_Linker_write_30 x X).bind (fun x15 => some (.inr (x15.1 30 0, x15))) := by
      unfold b10_Linker_produce_30
      simp (disch := omega) only [Nat.le_refl, o_le, o_leL, o_leR, o_lt, o_ltL, o_ltR, o_eq, o_eqL, o_eqR, o_cl, o_add, o_addL, o_addR, o_mul, o_mulL, o_mulR, o_sub, o_subR, o_0le, o_lt0, o_ixo, n1_eq, n1_eq', n1_lt, n1_le, n1_ge, n1_gt, n2_eq, n2_eq', n2_lt, n2_le, n2_ge, n2_gt, ↓reduceIte, ite_self, Nat.reduceEqDiff, Nat.reduceAdd, Nat.reduceMul, Nat.reduceSub, Nat.reduceLT, Nat.reduceLeDiff, Nat.not_lt_zero, Nat.zero_le, if_true, if_false, ite_true, ite_false, true_and, and_true, false_and, and_false, true_implies, false_implies, implies_true, not_true_eq_false, not_false_eq_true, eq_self, true_or, or_true, false_or, or_false, and_self, reduceCtorEq, forall_const]
    cases hw : f_Linker_write_30 x X with
    | none =>
      rw [hw] at e1
      exact lp_none e1
    | some y =>
      rw [hw] at e1
      exact lp_inr e1
  | succ d ih =>
    intro m N e hm hN
    obtain ⟨N, rfl⟩ : ∃ N', N = N' + 1 := ⟨N - 1, by omega⟩
    have nh : ¬ f_Reach_hasRoutine (Int32.ofNat m) X = true := fun q => by have := ((hasR_iff h (by omega)).mp q).1; omega
    have e1 : b10_Linker_produce_30 x (Int32.ofNat m, X) = some (.inl (Int32.ofNat (m + 1), X)) := by
      unfold b10_Linker_produce_30
      have q1 : ¬ 24 ≤ m := by omega
      simp (disch := omega) only [q1, nh, o_le, o_leL, o_leR, o_lt, o_ltL, o_ltR, o_eq, o_eqL, o_eqR, o_cl, o_add, o_addL, o_addR, o_mul, o_mulL, o_mulR, o_sub, o_subR, o_0le, o_lt0, o_ixo, n1_eq, n1_eq', n1_lt, n1_le, n1_ge, n1_gt, n2_eq, n2_eq', n2_lt, n2_le, n2_ge, n2_gt, ↓reduceIte, ite_self, Nat.reduceEqDiff, Nat.reduceAdd, Nat.reduceMul, Nat.reduceSub, Nat.reduceLT, Nat.reduceLeDiff, Nat.not_lt_zero, Nat.zero_le, if_true, if_false, ite_true, ite_false, true_and, and_true, false_and, and_false, true_implies, false_implies, implies_true, not_true_eq_false, not_false_eq_true, eq_self, true_or, or_true, false_or, or_false, and_self, reduceCtorEq, forall_const]
    rw [lp_inl e1]
    exact ih (m + 1) N (by omega) (by omega) (by omega)
set_option maxRecDepth 20000 in
set_option maxHeartbeats 4000000 in
theorem prodLoop {X1 : XS} {M0 M1 : MS} {T : Nat → Nat} {kc rc : Nat} (x : Int32) (h : RSc X1 M0 T kc rc) (ht : TG T) (hsr : MSrc M0 M1) (hs : Same kc rc X1 M1) (h90 : M1.1 90 0 = 2) : ∀ d m N N' X M, m + d = rc → d < N' → 30 + d < N → LkI M0 M1 X1 kc rc m X M →
    (∃ r X' M', lp (b10_Linker_produce_30 x) N (Int32.ofNat m, X) = some (r, X') ∧ lp b26_M_link N' (Int32.ofNat m, M) = some (.inr (r, M')) ∧ Only Flk X1 X' ∧ MO Fmk M1 M') ∨
    (∃ X' M', lp (b10_Linker_produce_30 x) N (Int32.ofNat m, X) = (f_Linker_write_30 x X').bind (fun x15 => some (x15.1 30 0, x15)) ∧ lp b26_M_link N' (Int32.ofNat m, M) = some (.inl (Int32.ofNat rc, M')) ∧ LkI M0 M1 X1 kc rc rc X' M') := by
  have hr24 := h.2.1
  intro d
  induction d with
  | zero =>
    intro m N N' X M e hN' hN hi
    obtain ⟨N', rfl⟩ : ∃ N1, N' = N1 + 1 := ⟨N' - 1, by omega⟩
    have em : m = rc := by omega
    subst em
    have hX := Only.rsc h ht hi.1 (by unfold Flk Fal; omega)
    refine Or.inr ⟨X, M, prodTail x hX (24 - m) m N (by omega) (by omega) (by omega), ?_, hi⟩
    have g15 : M.1 60 15 = Int32.ofNat m := by
      rw [hi.2.1.2 60 15 (by unfold Fmk Flm; omega), hsr.2.2]; exact h.2.2.2.1
    apply lp_inr
    unfold b26_M_link
    simp (disch := omega) only [g15, Nat.le_refl, o_le, o_leL, o_leR, o_lt, o_ltL, o_ltR, o_eq, o_eqL, o_eqR, o_cl, o_add, o_addL, o_addR, o_mul, o_mulL, o_mulR, o_sub, o_subR, o_0le, o_lt0, o_ixo, n1_eq, n1_eq', n1_lt, n1_le, n1_ge, n1_gt, n2_eq, n2_eq', n2_lt, n2_le, n2_ge, n2_gt, ↓reduceIte, ite_self, Nat.reduceEqDiff, Nat.reduceAdd, Nat.reduceMul, Nat.reduceSub, Nat.reduceLT, Nat.reduceLeDiff, Nat.not_lt_zero, Nat.zero_le, if_true, if_false, ite_true, ite_false, true_and, and_true, false_and, and_false, true_implies, false_implies, implies_true, not_true_eq_false, not_false_eq_true, eq_self, true_or, or_true, false_or, or_false, and_self, reduceCtorEq, forall_const]
  | succ d ih =>
    intro m N N' X M e hN' hN hi
    obtain ⟨N', rfl⟩ : ∃ N1, N' = N1 + 1 := ⟨N' - 1, by omega⟩
    obtain ⟨N, rfl⟩ : ∃ N1, N = N1 + 1 := ⟨N - 1, by omega⟩
    obtain ⟨i1, i2, i3⟩ := hi
    have hX := Only.rsc h ht i1 (by unfold Flk Fal; omega)
    have hsX := Flk_same hs i1
    have g15 : M.1 60 15 = Int32.ofNat rc := by
      rw [i2.2 60 15 (by unfold Fmk Flm; omega), hsr.2.2]; exact h.2.2.2.1
    have g75 : M.1 75 = M1.1 75 := Fmk_row i2 (by omega)
    have q1 : ¬ 24 ≤ m := by omega
    have q2 : ¬ rc ≤ m := by omega
    have q3 : m < 24 := by omega
    by_cases hr : fm M1 75 m
    · have hh : f_Reach_hasRoutine (Int32.ofNat m) X = true := (hasR_same hX hsX q3).mpr hr
      have z75 : ¬ M.1 75 m = 0 := by rw [g75]; exact hr
      obtain ⟨a, f, ra, rv⟩ := hX.2.2.2.2.2 m (by omega)
      have sr : MSrc M0 M := hsr.trans (i2.src Fmk_src)
      obtain ⟨rx, X', rm, M', ex, em, ox, om, hres⟩ := first_ok hX ht sr (by omega) ra.1 (by rw [i2.2 90 0 (by unfold Fmk Flm; omega)]; exact h90)
      have ox' : Only Flk X1 X' := i1.trans (ox.mono (fun b hb => Or.inr (Or.inr hb)))
      have om' : MO Fmk M1 M' := i2.trans (om.mono (fun a i hh => Fml_k hh))
      rcases hres with ⟨w, hw, rfl, rfl⟩ | ⟨rfl, rfl, s, tc, tk, S, hres⟩
      · refine Or.inl ⟨((-1000) - (100 * Int32.ofNat m)) - Int32.ofNat w, X', M', ?_, ?_, ox', om'⟩
        · apply lp_inr
          unfold b10_Linker_produce_30
          simp (disch := omega) only [q1, hh, ra.1, ocz, ex, Option.bind_some, o_le, o_leL, o_leR, o_lt, o_ltL, o_ltR, o_eq, o_eqL, o_eqR, o_cl, o_add, o_addL, o_addR, o_mul, o_mulL, o_mulR, o_sub, o_subR, o_0le, o_lt0, o_ixo, n1_eq, n1_eq', n1_lt, n1_le, n1_ge, n1_gt, n2_eq, n2_eq', n2_lt, n2_le, n2_ge, n2_gt, ↓reduceIte, ite_self, Nat.reduceEqDiff, Nat.reduceAdd, Nat.reduceMul, Nat.reduceSub, Nat.reduceLT, Nat.reduceLeDiff, Nat.not_lt_zero, Nat.zero_le, if_true, if_false, ite_true, ite_false, true_and, and_true, false_and, and_false, true_implies, false_implies, implies_true, not_true_eq_false, not_false_eq_true, eq_self, true_or, or_true, false_or, or_false, and_self, reduceCtorEq, forall_const]
        · apply lp_inr
          unfold b26_M_link
          simp (disch := omega) only [q2, q3, g15, z75, em, Option.bind_some, o_le, o_leL, o_leR, o_lt, o_ltL, o_ltR, o_eq, o_eqL, o_eqR, o_cl, o_add, o_addL, o_addR, o_mul, o_mulL, o_mulR, o_sub, o_subR, o_0le, o_lt0, o_ixo, n1_eq, n1_eq', n1_lt, n1_le, n1_ge, n1_gt, n2_eq, n2_eq', n2_lt, n2_le, n2_ge, n2_gt, ↓reduceIte, ite_self, Nat.reduceEqDiff, Nat.reduceAdd, Nat.reduceMul, Nat.reduceSub, Nat.reduceLT, Nat.reduceLeDiff, Nat.not_lt_zero, Nat.zero_le, if_true, if_false, ite_true, ite_false, true_and, and_true, false_and, and_false, true_implies, false_implies, implies_true, not_true_eq_false, not_false_eq_true, eq_self, true_or, or_true, false_or, or_false, and_self, reduceCtorEq, forall_const]
      · obtain ⟨s1, s2, s3, s4, s5, s6, s7, s8⟩ := hres
        obtain ⟨X2, e2, k1, k2, k3, k4⟩ := keepFlow_ok q3 s6
        have eX : b10_Linker_produce_30 x (Int32.ofNat m, X) = some (.inl (Int32.ofNat (m + 1), X2)) := by
          unfold b10_Linker_produce_30
          simp (disch := omega) only [q1, hh, ra.1, ocz, ex, Option.bind_some, e2, o_le, o_leL, o_leR, o_lt, o_ltL, o_ltR, o_eq, o_eqL, o_eqR, o_cl, o_add, o_addL, o_addR, o_mul, o_mulL, o_mulR, o_sub, o_subR, o_0le, o_lt0, o_ixo, n1_eq, n1_eq', n1_lt, n1_le, n1_ge, n1_gt, n2_eq, n2_eq', n2_lt, n2_le, n2_ge, n2_gt, ↓reduceIte, ite_self, Nat.reduceEqDiff, Nat.reduceAdd, Nat.reduceMul, Nat.reduceSub, Nat.reduceLT, Nat.reduceLeDiff, Nat.not_lt_zero, Nat.zero_le, if_true, if_false, ite_true, ite_false, true_and, and_true, false_and, and_false, true_implies, false_implies, implies_true, not_true_eq_false, not_false_eq_true, eq_self, true_or, or_true, false_or, or_false, and_self, reduceCtorEq, forall_const]
        have eM : b26_M_link (Int32.ofNat m, M) = some (.inl (Int32.ofNat (m + 1), M')) := by
          unfold b26_M_link
          simp (disch := omega) only [q2, q3, g15, z75, em, Option.bind_some, o_le, o_leL, o_leR, o_lt, o_ltL, o_ltR, o_eq, o_eqL, o_eqR, o_cl, o_add, o_addL, o_addR, o_mul, o_mulL, o_mulR, o_sub, o_subR, o_0le, o_lt0, o_ixo, n1_eq, n1_eq', n1_lt, n1_le, n1_ge, n1_gt, n2_eq, n2_eq', n2_lt, n2_le, n2_ge, n2_gt, ↓reduceIte, ite_self, Nat.reduceEqDiff, Nat.reduceAdd, Nat.reduceMul, Nat.reduceSub, Nat.reduceLT, Nat.reduceLeDiff, Nat.not_lt_zero, Nat.zero_le, if_true, if_false, ite_true, ite_false, true_and, and_true, false_and, and_false, true_implies, false_implies, implies_true, not_true_eq_false, not_false_eq_true, eq_self, true_or, or_true, false_or, or_false, and_self, reduceCtorEq, forall_const]
          rfl
        rw [lp_inl eX, lp_inl eM]
        refine ih (m + 1) N N' X2 M' (by omega) (by omega) (by omega) ⟨ox'.trans (k1.mono (fun b hb => by unfold Fkp at hb; unfold Flk; omega)), om', ?_⟩
        intro m' hm' hr'
        by_cases e' : m' = m
        · subst e'
          refine ⟨S, ⟨⟨s, tc, tk, s1, s2, s3, s4, s5, s8⟩, fun i hi => (s7.1 i hi).2.2, s7.2.2.1, s7.2.2.2⟩, k2⟩
        · obtain ⟨S', t1, t2⟩ := i3 m' (by omega) hr'
          refine ⟨S', ⟨t1.1, ?_, ?_, t1.2.2.2⟩, ?_, ?_⟩
          · intro i hi
            have : M'.1 88 (60 * m' + i) = M.1 88 (60 * m' + i) := om.2 _ _ (by unfold Fml Flm Fcm; omega)
            unfold fm
            rw [this]
            exact t1.2.1 i hi
          · have : M'.1 89 m' = M.1 89 m' := om.2 _ _ (by unfold Fml Flm Fcm; omega)
            rw [this]
            exact t1.2.2.1
          · intro i hi
            unfold fl
            rw [k3 _ (by omega), ox.2 11 (by unfold Fal; omega)]
            exact t2.1 i hi
          · rw [k4 _ e', ox.2 12 (by unfold Fal; omega)]
            exact t2.2
    · have hh : ¬ f_Reach_hasRoutine (Int32.ofNat m) X = true := fun q => hr ((hasR_same hX hsX q3).mp q)
      have z75 : M.1 75 m = 0 := by
        rw [g75]
        exact Classical.not_not.mp hr
      have eX : b10_Linker_produce_30 x (Int32.ofNat m, X) = some (.inl (Int32.ofNat (m + 1), X)) := by
        unfold b10_Linker_produce_30
        simp (disch := omega) only [q1, hh, o_le, o_leL, o_leR, o_lt, o_ltL, o_ltR, o_eq, o_eqL, o_eqR, o_cl, o_add, o_addL, o_addR, o_mul, o_mulL, o_mulR, o_sub, o_subR, o_0le, o_lt0, o_ixo, n1_eq, n1_eq', n1_lt, n1_le, n1_ge, n1_gt, n2_eq, n2_eq', n2_lt, n2_le, n2_ge, n2_gt, ↓reduceIte, ite_self, Nat.reduceEqDiff, Nat.reduceAdd, Nat.reduceMul, Nat.reduceSub, Nat.reduceLT, Nat.reduceLeDiff, Nat.not_lt_zero, Nat.zero_le, if_true, if_false, ite_true, ite_false, true_and, and_true, false_and, and_false, true_implies, false_implies, implies_true, not_true_eq_false, not_false_eq_true, eq_self, true_or, or_true, false_or, or_false, and_self, reduceCtorEq, forall_const]
      have eM : b26_M_link (Int32.ofNat m, M) = some (.inl (Int32.ofNat (m + 1), M)) := by
        unfold b26_M_link
        simp (disch := omega) only [q2, q3, g15, z75, o_le, o_leL, o_leR, o_lt, o_ltL, o_ltR, o_eq, o_eqL, o_eqR, o_cl, o_add, o_addL, o_addR, o_mul, o_mulL, o_mulR, o_sub, o_subR, o_0le, o_lt0, o_ixo, n1_eq, n1_eq', n1_lt, n1_le, n1_ge, n1_gt, n2_eq, n2_eq', n2_lt, n2_le, n2_ge, n2_gt, ↓reduceIte, ite_self, Nat.reduceEqDiff, Nat.reduceAdd, Nat.reduceMul, Nat.reduceSub, Nat.reduceLT, Nat.reduceLeDiff, Nat.not_lt_zero, Nat.zero_le, if_true, if_false, ite_true, ite_false, true_and, and_true, false_and, and_false, true_implies, false_implies, implies_true, not_true_eq_false, not_false_eq_true, eq_self, true_or, or_true, false_or, or_false, and_self, reduceCtorEq, forall_const]
      rw [lp_inl eX, lp_inl eM]
      refine ih (m + 1) N N' X M (by omega) (by omega) (by omega) ⟨i1, i2, ?_⟩
      intro m' hm' hr'
      by_cases e' : m' = m
      · subst e'; exact absurd hr' hr
      · exact i3 m' (by omega) hr'
