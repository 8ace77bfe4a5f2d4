/-! L5 -/
/-- all that classes made and names called lead to -/
def JX (M : MS) (kc rc : Nat) (X : XS) : Prop := ∀ c n r, c < kc → n < 8 → fl X 16 c → fl X 19 n → fnd M rc n 10 c = some r → fl X 17 r
set_option maxRecDepth 20000 in
set_option maxHeartbeats 4000000 in
theorem fnd_lt {M : MS} {rc n r : Nat} : ∀ k c, fnd M rc n k c = some r → r < rc
  | 0, _, h => by cases h
  | k + 1, c, h => by
    unfold fnd at h
    cases e : ownM M rc c n with
    | some m =>
      rw [e] at h
      cases h
      exact (ownM_some e).1
    | none =>
      rw [e] at h
      dsimp only at h
      split at h
      · cases h
      · exact fnd_lt k _ h
set_option maxRecDepth 20000 in
set_option maxHeartbeats 4000000 in
theorem callByName_ok {X : XS} {M : MS} {T : Nat → Nat} {kc rc main : Nat} (h : RSc X M T kc rc) (ht : TG T) (hp : PX M kc rc main X) : Wo (f_Reach_callByName X) (fun X' => Only Rch X X' ∧ PX M kc rc main X' ∧ JX M kc rc X' ∧ (∀ b j, fl X b j → fl X' b j) ∧ (∀ b j, b ≠ 17 → (fl X' b j ↔ fl X b j)) ∧ (JX M kc rc X → ∀ j, fl X' 17 j ↔ fl X 17 j)) := by
  have hr := h.2.1
  have k1 := h.1.1
  have grow : ∀ X', (∀ b j, b ≠ 17 → (fl X' b j ↔ fl X b j)) → (∀ j, fl X 17 j → fl X' 17 j) → (∀ j, fl X' 17 j → fl X 17 j ∨ ∃ c n, c < kc ∧ n < 8 ∧ fl X 16 c ∧ fl X 19 n ∧ fnd M rc n 10 c = some j) → PX M kc rc main X' ∧ (JX M kc rc X → ∀ j, fl X' 17 j ↔ fl X 17 j) := by
    intro X' e1 e2 e3
    obtain ⟨p1, p2, p3, p4, p5⟩ := hp
    refine ⟨⟨?_, ?_, ?_, ?_, ?_⟩, ?_⟩
    · intro m hm hf
      rcases e3 m hf with hf | ⟨c, n, _, _, _, _, hf⟩
      · exact p1 m hm hf
      · exact fnd_lt 10 c hf
    · intro c hc hf
      exact p2 c hc ((e1 _ _ (by decide)).mp hf)
    · intro m hm hf
      obtain ⟨g1, g2, g3, g4, g5⟩ := p3 m hm ((e1 _ _ (by decide)).mp hf)
      exact ⟨e2 _ g1, fun r h => e2 _ (g2 r h), fun r h => (e1 _ _ (by decide)).mpr (g3 r h), fun r h => (e1 _ _ (by decide)).mpr (g4 r h), fun r h => (e1 _ _ (by decide)).mpr (g5 r h)⟩
    · intro c hc hf
      obtain ⟨m, g1, g2, g3⟩ := p4 c hc ((e1 _ _ (by decide)).mp hf)
      exact ⟨m, g1, (e1 _ _ (by decide)).mpr g2, g3⟩
    · intro R Md C hcl
      obtain ⟨g1, g2, g3⟩ := p5 R Md C hcl
      refine ⟨?_, fun c hc hf => g2 c hc ((e1 _ _ (by decide)).mp hf), fun c hc hf => g3 c hc ((e1 _ _ (by decide)).mp hf)⟩
      intro m hm hf
      rcases e3 m hf with hf | ⟨c, n, i1, i2, i3, i4, hf⟩
      · exact g1 m hm hf
      · exact hcl.2.2 c n m i1 i2 (g2 c (by omega) i3) (g3 n i2 i4) hf
    · intro hj j
      constructor
      · intro hf
        rcases e3 j hf with hf | ⟨c, n, i1, i2, i3, i4, hf⟩
        · exact hf
        · exact hj c n j i1 i2 i3 i4 hf
      · exact e2 j
  unfold f_Reach_callByName
  rw [W_bind]
  have w : Wo (lp b2_Reach_callByName 10000 ((0 : Int32), X)) (fun p => Only Rch X p.2 ∧ (∀ b j, b ≠ 17 → (fl p.2 b j ↔ fl X b j)) ∧ ∀ j, fl p.2 17 j ↔ fl X 17 j ∨ ∃ c n, c < 10 ∧ n < 8 ∧ fl X 16 c ∧ fl X 19 n ∧ fnd M rc n 10 c = some j) := by
    refine W_lp (fun p => ∃ k, k ≤ 10 ∧ p.1 = Int32.ofNat k ∧ Only Rch X p.2 ∧ (∀ b j, b ≠ 17 → (fl p.2 b j ↔ fl X b j)) ∧ ∀ j, fl p.2 17 j ↔ fl X 17 j ∨ ∃ c n, c < k ∧ n < 8 ∧ fl X 16 c ∧ fl X 19 n ∧ fnd M rc n 10 c = some j) (fun p => 10 - p.1.toNatClampNeg) ?_ 10000 _ ⟨0, by omega, rfl, Only.refl X, fun _ _ _ => Iff.rfl, ?_⟩ (by show 10 - 0 < 10000; omega)
    · intro p ⟨k, hk, ep, ho, e1, e2⟩
      refine Wo.cps (fun Q hQ => ?_)
      unfold b2_Reach_callByName
      by_cases hl : k < 10
      case neg =>
        have ek : k = 10 := by omega
        subst ek
        simp (disch := omega) only [W_some, W_none, W_bind, W_ite, W_ocz, W_lt, ep, Nat.le_refl, o_le, o_leL, o_leR, o_lt, o_ltL, o_ltR, o_eq, o_eqL, o_eqR, o_cl, o_add, o_addL, o_addR, o_mul, o_mulL, o_mulR, o_sub, o_subR, o_0le, o_lt0, o_ixo, n1_eq, n1_eq', n1_lt, n1_le, n1_ge, n1_gt, n2_eq, n2_eq', n2_lt, n2_le, n2_ge, n2_gt, ↓reduceIte, ite_self, Nat.reduceEqDiff, Nat.reduceAdd, Nat.reduceMul, Nat.reduceSub, Nat.reduceLT, Nat.reduceLeDiff, Nat.not_lt_zero, Nat.zero_le, if_true, if_false, ite_true, ite_false, true_and, and_true, false_and, and_false, true_implies, false_implies, implies_true, not_true_eq_false, not_false_eq_true, eq_self, true_or, or_true, false_or, or_false, and_self, reduceCtorEq, forall_const]
        exact hQ _ ⟨ho, e1, e2⟩
      have q1 : ¬ 10 ≤ k := by omega
      have w2 : Wo (lp (b10_Reach_callByName p) 10000 ((0 : Int32), p.2)) (fun q => Only Rch X q.2 ∧ (∀ b j, b ≠ 17 → (fl q.2 b j ↔ fl X b j)) ∧ ∀ j, fl q.2 17 j ↔ fl p.2 17 j ∨ ∃ n, n < 8 ∧ fl X 16 k ∧ fl X 19 n ∧ fnd M rc n 10 k = some j) := by
        refine W_lp (fun q => ∃ i, i ≤ 8 ∧ q.1 = Int32.ofNat i ∧ Only Rch X q.2 ∧ (∀ b j, b ≠ 17 → (fl q.2 b j ↔ fl X b j)) ∧ ∀ j, fl q.2 17 j ↔ fl p.2 17 j ∨ ∃ n, n < i ∧ fl X 16 k ∧ fl X 19 n ∧ fnd M rc n 10 k = some j) (fun q => 8 - q.1.toNatClampNeg) ?_ 10000 _ ⟨0, by omega, rfl, ho, e1, ?_⟩ (by show 8 - 0 < 10000; omega)
        · intro q ⟨i, hi, eq, ho2, g1, g2⟩
          refine Wo.cps (fun Q2 hQ2 => ?_)
          unfold b10_Reach_callByName
          have m16 := g1 16 k (by decide)
          by_cases c16 : q.2.1 16 k = 0
          · simp (disch := omega) only [W_some, W_none, W_bind, W_ite, W_ocz, W_lt, ep, eq, hl, c16, o_le, o_leL, o_leR, o_lt, o_ltL, o_ltR, o_eq, o_eqL, o_eqR, o_cl, o_add, o_addL, o_addR, o_mul, o_mulL, o_mulR, o_sub, o_subR, o_0le, o_lt0, o_ixo, n1_eq, n1_eq', n1_lt, n1_le, n1_ge, n1_gt, n2_eq, n2_eq', n2_lt, n2_le, n2_ge, n2_gt, ↓reduceIte, ite_self, Nat.reduceEqDiff, Nat.reduceAdd, Nat.reduceMul, Nat.reduceSub, Nat.reduceLT, Nat.reduceLeDiff, Nat.not_lt_zero, Nat.zero_le, if_true, if_false, ite_true, ite_false, true_and, and_true, false_and, and_false, true_implies, false_implies, implies_true, not_true_eq_false, not_false_eq_true, eq_self, true_or, or_true, false_or, or_false, and_self, reduceCtorEq, forall_const]
            refine hQ2 _ ⟨ho2, g1, ?_⟩
            have nf : ¬ fl X 16 k := fun h => (m16.mpr h) c16
            intro j
            rw [g2]
            constructor
            · rintro (h | ⟨n, _, h, _⟩)
              · exact Or.inl h
              · exact absurd h nf
            · rintro (h | ⟨n, _, h, _⟩)
              · exact Or.inl h
              · exact absurd h nf
          by_cases hi8 : i < 8
          case neg =>
            have ei : i = 8 := by omega
            subst ei
            simp (disch := omega) only [W_some, W_none, W_bind, W_ite, W_ocz, W_lt, ep, eq, hl, c16, Nat.le_refl, o_le, o_leL, o_leR, o_lt, o_ltL, o_ltR, o_eq, o_eqL, o_eqR, o_cl, o_add, o_addL, o_addR, o_mul, o_mulL, o_mulR, o_sub, o_subR, o_0le, o_lt0, o_ixo, n1_eq, n1_eq', n1_lt, n1_le, n1_ge, n1_gt, n2_eq, n2_eq', n2_lt, n2_le, n2_ge, n2_gt, ↓reduceIte, ite_self, Nat.reduceEqDiff, Nat.reduceAdd, Nat.reduceMul, Nat.reduceSub, Nat.reduceLT, Nat.reduceLeDiff, Nat.not_lt_zero, Nat.zero_le, if_true, if_false, ite_true, ite_false, true_and, and_true, false_and, and_false, true_implies, false_implies, implies_true, not_true_eq_false, not_false_eq_true, eq_self, true_or, or_true, false_or, or_false, and_self, reduceCtorEq, forall_const]
            exact hQ2 _ ⟨ho2, g1, g2⟩
          have q2 : ¬ 8 ≤ i := by omega
          have m19 := g1 19 i (by decide)
          have f16 : fl X 16 k := m16.mp c16
          have kl : k < kc := hp.2.1 k hl f16
          by_cases c19 : q.2.1 19 i = 0
          · have nf : ¬ fl X 19 i := fun h => (m19.mpr h) c19
            simp (disch := omega) only [W_some, W_none, W_bind, W_ite, W_ocz, W_lt, ep, eq, hl, c16, q2, hi8, c19, o_le, o_leL, o_leR, o_lt, o_ltL, o_ltR, o_eq, o_eqL, o_eqR, o_cl, o_add, o_addL, o_addR, o_mul, o_mulL, o_mulR, o_sub, o_subR, o_0le, o_lt0, o_ixo, n1_eq, n1_eq', n1_lt, n1_le, n1_ge, n1_gt, n2_eq, n2_eq', n2_lt, n2_le, n2_ge, n2_gt, ↓reduceIte, ite_self, Nat.reduceEqDiff, Nat.reduceAdd, Nat.reduceMul, Nat.reduceSub, Nat.reduceLT, Nat.reduceLeDiff, Nat.not_lt_zero, Nat.zero_le, if_true, if_false, ite_true, ite_false, true_and, and_true, false_and, and_false, true_implies, false_implies, implies_true, not_true_eq_false, not_false_eq_true, eq_self, true_or, or_true, false_or, or_false, and_self, reduceCtorEq, forall_const]
            refine hQ2 _ ⟨⟨i + 1, by omega, rfl, ho2, g1, ?_⟩, by simp (disch := omega) only [eq, o_le, o_leL, o_leR, o_lt, o_ltL, o_ltR, o_eq, o_eqL, o_eqR, o_cl, o_add, o_addL, o_addR, o_mul, o_mulL, o_mulR, o_sub, o_subR, o_0le, o_lt0, o_ixo, n1_eq, n1_eq', n1_lt, n1_le, n1_ge, n1_gt, n2_eq, n2_eq', n2_lt, n2_le, n2_ge, n2_gt, ↓reduceIte, ite_self, Nat.reduceEqDiff, Nat.reduceAdd, Nat.reduceMul, Nat.reduceSub, Nat.reduceLT, Nat.reduceLeDiff, Nat.not_lt_zero, Nat.zero_le, if_true, if_false, ite_true, ite_false, true_and, and_true, false_and, and_false, true_implies, false_implies, implies_true, not_true_eq_false, not_false_eq_true, eq_self, true_or, or_true, false_or, or_false, and_self, reduceCtorEq, forall_const]; omega⟩
            intro j
            rw [g2, ex_succ]
            constructor
            · rintro (h | h)
              · exact Or.inl h
              · exact Or.inr (Or.inl h)
            · rintro (h | h | ⟨_, h, _⟩)
              · exact Or.inl h
              · exact Or.inr h
              · exact absurd h nf
          · have f19 : fl X 19 i := m19.mp c19
            have hc2 := Only.rsc h ht ho2 (by unfold Rch; omega)
            have ne := nearest_eq (n := i) (c := k) hc2 hi8 kl
            obtain ⟨X', ex, o', f'⟩ := addRoutine_ok hc2 (enc (-1) (fnd M rc i 10 k))
            simp (disch := omega) only [W_some, W_none, W_bind, W_ite, W_ocz, W_lt, ep, eq, hl, c16, q2, hi8, c19, ne, ex, o_le, o_leL, o_leR, o_lt, o_ltL, o_ltR, o_eq, o_eqL, o_eqR, o_cl, o_add, o_addL, o_addR, o_mul, o_mulL, o_mulR, o_sub, o_subR, o_0le, o_lt0, o_ixo, n1_eq, n1_eq', n1_lt, n1_le, n1_ge, n1_gt, n2_eq, n2_eq', n2_lt, n2_le, n2_ge, n2_gt, ↓reduceIte, ite_self, Nat.reduceEqDiff, Nat.reduceAdd, Nat.reduceMul, Nat.reduceSub, Nat.reduceLT, Nat.reduceLeDiff, Nat.not_lt_zero, Nat.zero_le, if_true, if_false, ite_true, ite_false, true_and, and_true, false_and, and_false, true_implies, false_implies, implies_true, not_true_eq_false, not_false_eq_true, eq_self, true_or, or_true, false_or, or_false, and_self, reduceCtorEq, forall_const]
            have f17 : ∀ j, (j < rc ∧ enc (-1) (fnd M rc i 10 k) = Int32.ofNat j) ↔ fnd M rc i 10 k = some j := by
              intro j
              cases ef : fnd M rc i 10 k with
              | none =>
                constructor
                · rintro ⟨h1, h2⟩
                  have h2' : (-1 : Int32) = Int32.ofNat j := h2
                  rw [n1_eq' j (by omega)] at h2'
                  exact h2'.elim
                · intro h; cases h
              | some r =>
                have hrr := fnd_lt 10 k ef
                constructor
                · rintro ⟨h1, h2⟩
                  have h2' : Int32.ofNat r = Int32.ofNat j := h2
                  rw [o_eq _ _ (by omega) (by omega)] at h2'
                  rw [h2']
                · intro h
                  cases h
                  exact ⟨hrr, rfl⟩
            refine hQ2 _ ⟨⟨i + 1, by omega, rfl, ho2.trans o', ?_, ?_⟩, by simp (disch := omega) only [eq, o_le, o_leL, o_leR, o_lt, o_ltL, o_ltR, o_eq, o_eqL, o_eqR, o_cl, o_add, o_addL, o_addR, o_mul, o_mulL, o_mulR, o_sub, o_subR, o_0le, o_lt0, o_ixo, n1_eq, n1_eq', n1_lt, n1_le, n1_ge, n1_gt, n2_eq, n2_eq', n2_lt, n2_le, n2_ge, n2_gt, ↓reduceIte, ite_self, Nat.reduceEqDiff, Nat.reduceAdd, Nat.reduceMul, Nat.reduceSub, Nat.reduceLT, Nat.reduceLeDiff, Nat.not_lt_zero, Nat.zero_le, if_true, if_false, ite_true, ite_false, true_and, and_true, false_and, and_false, true_implies, false_implies, implies_true, not_true_eq_false, not_false_eq_true, eq_self, true_or, or_true, false_or, or_false, and_self, reduceCtorEq, forall_const]; omega⟩
            · intro b j hb
              rw [f', g1 b j hb]
              constructor
              · rintro (h | ⟨h, _⟩)
                · exact h
                · exact absurd h hb
              · exact Or.inl
            · intro j
              rw [f', g2, ex_succ]
              constructor
              · rintro ((h | h) | ⟨_, h⟩)
                · exact Or.inl h
                · exact Or.inr (Or.inl h)
                · exact Or.inr (Or.inr ⟨f16, f19, (f17 j).mp h⟩)
              · rintro (h | h | ⟨_, _, h⟩)
                · exact Or.inl (Or.inl h)
                · exact Or.inl (Or.inr h)
                · exact Or.inr ⟨rfl, (f17 j).mpr h⟩
        · intro j
          constructor
          · exact Or.inl
          · rintro (h | ⟨n, hn, _⟩)
            · exact h
            · exact absurd hn (Nat.not_lt_zero n)
      obtain ⟨q, eq, qo, g1, g2⟩ := w2
      simp (disch := omega) only [W_some, W_none, W_bind, W_ite, W_ocz, W_lt, ep, q1, eq, o_le, o_leL, o_leR, o_lt, o_ltL, o_ltR, o_eq, o_eqL, o_eqR, o_cl, o_add, o_addL, o_addR, o_mul, o_mulL, o_mulR, o_sub, o_subR, o_0le, o_lt0, o_ixo, n1_eq, n1_eq', n1_lt, n1_le, n1_ge, n1_gt, n2_eq, n2_eq', n2_lt, n2_le, n2_ge, n2_gt, ↓reduceIte, ite_self, Nat.reduceEqDiff, Nat.reduceAdd, Nat.reduceMul, Nat.reduceSub, Nat.reduceLT, Nat.reduceLeDiff, Nat.not_lt_zero, Nat.zero_le, if_true, if_false, ite_true, ite_false, true_and, and_true, false_and, and_false, true_implies, false_implies, implies_true, not_true_eq_false, not_false_eq_true, eq_self, true_or, or_true, false_or, or_false, and_self, reduceCtorEq, forall_const]
      refine hQ _ ⟨⟨k + 1, by omega, rfl, qo, g1, ?_⟩, by simp (disch := omega) only [ep, o_le, o_leL, o_leR, o_lt, o_ltL, o_ltR, o_eq, o_eqL, o_eqR, o_cl, o_add, o_addL, o_addR, o_mul, o_mulL, o_mulR, o_sub, o_subR, o_0le, o_lt0, o_ixo, n1_eq, n1_eq', n1_lt, n1_le, n1_ge, n1_gt, n2_eq, n2_eq', n2_lt, n2_le, n2_ge, n2_gt, ↓reduceIte, ite_self, Nat.reduceEqDiff, Nat.reduceAdd, Nat.reduceMul, Nat.reduceSub, Nat.reduceLT, Nat.reduceLeDiff, Nat.not_lt_zero, Nat.zero_le, if_true, if_false, ite_true, ite_false, true_and, and_true, false_and, and_false, true_implies, false_implies, implies_true, not_true_eq_false, not_false_eq_true, eq_self, true_or, or_true, false_or, or_false, and_self, reduceCtorEq, forall_const]; omega⟩
      intro j
      rw [g2, e2]
      constructor
      · rintro ((h | ⟨c, n, h1, h2⟩) | ⟨n, h1, h2⟩)
        · exact Or.inl h
        · exact Or.inr ⟨c, n, by omega, h2⟩
        · exact Or.inr ⟨k, n, by omega, h1, h2⟩
      · rintro (h | ⟨c, n, h1, h2⟩)
        · exact Or.inl (Or.inl h)
        · by_cases ec : c = k
          · subst ec
            exact Or.inr ⟨n, h2⟩
          · exact Or.inl (Or.inr ⟨c, n, by omega, h2⟩)
    · intro j
      constructor
      · exact Or.inl
      · rintro (h | ⟨c, n, hn, _⟩)
        · exact h
        · exact absurd hn (Nat.not_lt_zero c)
  refine Wo.mono w ?_
  intro p ⟨po, e1, e2⟩
  rw [W_some]
  have gg := grow p.2 e1 (fun j hf => (e2 j).mpr (Or.inl hf)) (by
    intro j hf
    rcases (e2 j).mp hf with h | ⟨c, n, h1, h2, h3, h4, h5⟩
    · exact Or.inl h
    · exact Or.inr ⟨c, n, hp.2.1 c h1 h3, h2, h3, h4, h5⟩)
  refine ⟨po, gg.1, ?_, ?_, e1, gg.2⟩
  · intro c n r hc hn hf1 hf2 hf
    exact (e2 r).mpr (Or.inr ⟨c, n, by omega, hn, (e1 _ _ (by decide)).mp hf1, (e1 _ _ (by decide)).mp hf2, hf⟩)
  · intro b j hf
    by_cases eb : b = 17
    · subst eb
      exact (e2 j).mpr (Or.inl hf)
    · exact (e1 b j eb).mpr hf
