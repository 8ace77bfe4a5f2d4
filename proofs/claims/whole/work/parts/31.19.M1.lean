/-! M1 -/
/-- only these places of the reference are other ones -/
def MO (S : Nat → Nat → Prop) (M M' : MS) : Prop := M'.2 = M.2 ∧ ∀ a i, ¬ S a i → M'.1 a i = M.1 a i
theorem MO.refl {S : Nat → Nat → Prop} (M : MS) : MO S M M := ⟨rfl, fun _ _ _ => rfl⟩
theorem MO.trans {S : Nat → Nat → Prop} {M N K : MS} (h : MO S M N) (k : MO S N K) : MO S M K := ⟨k.1.trans h.1, fun a i hs => (k.2 a i hs).trans (h.2 a i hs)⟩
theorem MO.mono {S S' : Nat → Nat → Prop} {M N : MS} (h : MO S M N) (k : ∀ a i, S a i → S' a i) : MO S' M N := ⟨h.1, fun a i hs => h.2 a i (fun x => hs (k a i x))⟩
set_option maxRecDepth 20000 in
set_option maxHeartbeats 4000000 in
theorem MO.mw {S : Nat → Nat → Prop} {M N : MS} (h : MO S M N) {a i : Nat} (ha : S a i) (v : Int32) : MO S M (mw N a i v) := by
  refine ⟨h.1, fun b j hs => ?_⟩
  rw [mw1, if_neg (by rintro ⟨rfl, rfl⟩; exact hs ha)]
  exact h.2 b j hs
/-- where the reference's reach writes -/
def Rcm (a i : Nat) : Prop := (75 ≤ a ∧ a ≤ 80) ∨ (a = 60 ∧ (i = 22 ∨ i = 23))
set_option maxRecDepth 20000 in
set_option maxHeartbeats 4000000 in
theorem MO.src {S : Nat → Nat → Prop} {M N : MS} (h : MO S M N) (hs : ∀ a i, S a i → 74 < a ∨ (a = 60 ∧ i ≠ 3 ∧ i ≠ 15)) : MSrc M N := by
  refine ⟨fun a h1 h2 => funext fun i => h.2 a i (fun q => ?_), h.2 60 3 (fun q => ?_), h.2 60 15 (fun q => ?_)⟩
  · have := hs a i q; omega
  · have := hs 60 3 q; omega
  · have := hs 60 15 q; omega
set_option maxRecDepth 20000 in
set_option maxHeartbeats 4000000 in
theorem Rcm_src : ∀ a i, Rcm a i → 74 < a ∨ (a = 60 ∧ i ≠ 3 ∧ i ≠ 15) := by
  intro a i h
  unfold Rcm at h
  omega
/-- flags of the reference -/
def fm (M : MS) (b i : Nat) : Prop := ¬ M.1 b i = 0
def fmB (M : MS) (b : Nat) : Nat → Bool := fun i => decide (¬ M.1 b i = 0)
theorem fmB_iff {M : MS} {b i : Nat} : fmB M b i = true ↔ fm M b i := decide_eq_true_iff
set_option maxRecDepth 20000 in
set_option maxHeartbeats 4000000 in
theorem fm_set {M : MS} {b i : Nat} (a j : Nat) : fm (mw M b i 1) a j ↔ fm M a j ∨ (a = b ∧ j = i) := by
  unfold fm
  rw [mw1]
  by_cases h : a = b ∧ j = i
  · rw [if_pos h]
    simp [h]
  · rw [if_neg h]
    simp [h]
/-- one more flag than before -/
def New (M M' : MS) : Prop := ∃ b j, ((b = 75 ∧ j < 24) ∨ (b = 76 ∧ j < 10) ∨ (b = 78 ∧ j < 8)) ∧ fm M' b j ∧ ¬ fm M b j
set_option maxRecDepth 20000 in
set_option maxHeartbeats 4000000 in
theorem isStaticM {M : MS} {rc : Nat} (hr : rc ≤ 24) (e2 : M.1 60 15 = Int32.ofNat rc) (y : Int32) : ∃ b, f_M_isStatic y M = some b ∧ (b = true ↔ ∃ m, m < rc ∧ y = Int32.ofNat m ∧ M.1 65 m = -2) := by
  unfold f_M_isStatic
  have mx := le1_iff (kc := rc) (by omega) y
  rw [← e2] at mx
  by_cases c : ∃ m, m < rc ∧ y = Int32.ofNat m
  · rw [if_pos (by rw [mx]; exact c)]
    obtain ⟨m, hm, rfl⟩ := c
    have h24 : m < 24 := by omega
    by_cases c2 : M.1 65 m = -2
    · exact ⟨true, by simp (disch := omega) only [h24, c2, o_le, o_leL, o_leR, o_lt, o_ltL, o_ltR, o_eq, o_eqL, o_eqR, o_cl, o_add, o_addL, o_addR, o_mul, o_mulL, o_mulR, o_sub, o_subR, o_0le, o_lt0, o_ixo, n1_eq, n1_eq', n1_lt, n1_le, n1_ge, n1_gt, n2_eq, n2_eq', n2_lt, n2_le, n2_ge, n2_gt, ↓reduceIte, ite_self, Nat.reduceEqDiff, Nat.reduceAdd, Nat.reduceMul, Nat.reduceSub, Nat.reduceLT, Nat.reduceLeDiff, Nat.not_lt_zero, Nat.zero_le, if_true, if_false, ite_true, ite_false, true_and, and_true, false_and, and_false, true_implies, false_implies, implies_true, not_true_eq_false, not_false_eq_true, eq_self, true_or, or_true, false_or, or_false, and_self, reduceCtorEq, forall_const], by simp; exact ⟨m, hm, rfl, c2⟩⟩
    · refine ⟨false, by simp (disch := omega) only [h24, c2, o_le, o_leL, o_leR, o_lt, o_ltL, o_ltR, o_eq, o_eqL, o_eqR, o_cl, o_add, o_addL, o_addR, o_mul, o_mulL, o_mulR, o_sub, o_subR, o_0le, o_lt0, o_ixo, n1_eq, n1_eq', n1_lt, n1_le, n1_ge, n1_gt, n2_eq, n2_eq', n2_lt, n2_le, n2_ge, n2_gt, ↓reduceIte, ite_self, Nat.reduceEqDiff, Nat.reduceAdd, Nat.reduceMul, Nat.reduceSub, Nat.reduceLT, Nat.reduceLeDiff, Nat.not_lt_zero, Nat.zero_le, if_true, if_false, ite_true, ite_false, true_and, and_true, false_and, and_false, true_implies, false_implies, implies_true, not_true_eq_false, not_false_eq_true, eq_self, true_or, or_true, false_or, or_false, and_self, reduceCtorEq, forall_const], ?_⟩
      constructor
      · intro h; cases h
      · rintro ⟨k, q1, q2, q3⟩
        rw [o_eq _ _ (by omega) (by omega)] at q2
        rw [q2] at c2
        exact absurd q3 c2
  · rw [if_neg (by rw [mx]; exact c)]
    refine ⟨false, rfl, ?_⟩
    constructor
    · intro h; cases h
    · rintro ⟨k, q1, q2, q3⟩
      exact absurd ⟨k, q1, q2⟩ c
set_option maxRecDepth 20000 in
set_option maxHeartbeats 4000000 in
theorem isClassM {M : MS} {kc : Nat} (hk : kc ≤ 10) (e2 : M.1 60 3 = Int32.ofNat kc) (y : Int32) : (f_M_isClass y M = true) = ∃ c, c < kc ∧ y = Int32.ofNat c := by
  unfold f_M_isClass
  have mx := le1_iff (kc := kc) (by omega) y
  rw [← e2] at mx
  by_cases c : ∃ c, c < kc ∧ y = Int32.ofNat c
  · rw [if_pos (by rw [mx]; exact c)]
    simp [c]
  · rw [if_neg (by rw [mx]; exact c)]
    simp [c]
set_option maxRecDepth 20000 in
set_option maxHeartbeats 4000000 in
theorem followM_ok {M0 M : MS} {kc rc m : Nat} (hk : kc ≤ 10) (hr : rc ≤ 24) (e1 : M0.1 60 3 = Int32.ofNat kc) (e2 : M0.1 60 15 = Int32.ofNat rc) (hs : MO Rcm M0 M) (hm : m < rc) (hsz : ∃ s, s ≤ 60 ∧ M0.1 70 m = Int32.ofNat s) : Wo (f_M_follow (Int32.ofNat m) M) (fun p => MO Rcm M0 p.2 ∧ (∀ b j, fm p.2 b j ↔ fm M b j ∨ (b = 75 ∧ aR M0 rc m j) ∨ (b = 76 ∧ aM M0 kc m j) ∨ (b = 78 ∧ aC M0 m j)) ∧ ((p.1 = false ∧ p.2 = M) ∨ (p.1 = true ∧ New M p.2))) := by
  obtain ⟨s, hs60, es⟩ := hsz
  have hz : sz M0 m = s := by unfold sz; rw [es, o_cl s (by omega)]
  unfold f_M_follow aR aM aC
  rw [W_bind, hz]
  have w : Wo (lp (b4_M_follow (Int32.ofNat m)) 10000 ((0 : Int32), (0 : Int32), M)) (fun p => MO Rcm M0 p.2.2 ∧ (∀ b j, fm p.2.2 b j ↔ fm M b j ∨ (b = 75 ∧ ∃ i, i < s ∧ gR M0 rc (M0.1 71 (60 * m + i)) (M0.1 72 (60 * m + i)) j) ∨ (b = 76 ∧ ∃ i, i < s ∧ gM kc (M0.1 71 (60 * m + i)) (M0.1 72 (60 * m + i)) j) ∨ (b = 78 ∧ ∃ i, i < s ∧ gC (M0.1 71 (60 * m + i)) (M0.1 72 (60 * m + i)) j)) ∧ ((p.1 = 0 ∧ p.2.2 = M) ∨ (p.1 = 1 ∧ New M p.2.2))) := by
    refine W_lp (fun p => ∃ k, k ≤ s ∧ p.2.1 = Int32.ofNat k ∧ MO Rcm M0 p.2.2 ∧ (∀ b j, fm p.2.2 b j ↔ fm M b j ∨ (b = 75 ∧ ∃ i, i < k ∧ gR M0 rc (M0.1 71 (60 * m + i)) (M0.1 72 (60 * m + i)) j) ∨ (b = 76 ∧ ∃ i, i < k ∧ gM kc (M0.1 71 (60 * m + i)) (M0.1 72 (60 * m + i)) j) ∨ (b = 78 ∧ ∃ i, i < k ∧ gC (M0.1 71 (60 * m + i)) (M0.1 72 (60 * m + i)) j)) ∧ ((p.1 = 0 ∧ p.2.2 = M) ∨ (p.1 = 1 ∧ New M p.2.2))) (fun p => s - p.2.1.toNatClampNeg) ?_ 10000 _ ⟨0, Nat.zero_le _, rfl, hs, ?_, Or.inl ⟨rfl, rfl⟩⟩ (by show s - 0 < 10000; omega)
    · intro p ⟨k, hk', ep, ho, hf, hn⟩
      have sr := ho.src Rcm_src
      have g71 : p.2.2.1 71 = M0.1 71 := sr.1 71 (by omega) (by omega)
      have g72 : p.2.2.1 72 = M0.1 72 := sr.1 72 (by omega) (by omega)
      have g65 : p.2.2.1 65 = M0.1 65 := sr.1 65 (by omega) (by omega)
      have g70 : p.2.2.1 70 m = Int32.ofNat s := by rw [sr.1 70 (by omega) (by omega)]; exact es
      have i1 := isClassM (M := p.2.2) hk (sr.2.1.trans e1) (M0.1 72 (60 * m + k))
      obtain ⟨b, ib, hb⟩ := isStaticM (M := p.2.2) hr (sr.2.2.trans e2) (M0.1 72 (60 * m + k))
      rw [g65] at hb
      have h24 : m < 24 := by omega
      refine Wo.cps (fun Q hQ => ?_)
      by_cases hl : k < s
      case neg =>
        have ek : k = s := by omega
        subst ek
        unfold b4_M_follow
        simp (disch := omega) only [W_some, W_none, W_bind, W_ite, W_ocz, W_lt, ep, h24, g70, Nat.le_refl, o_le, o_leL, o_leR, o_lt, o_ltL, o_ltR, o_eq, o_eqL, o_eqR, o_cl, o_add, o_addL, o_addR, o_mul, o_mulL, o_mulR, o_sub, o_subR, o_0le, o_lt0, o_ixo, n1_eq, n1_eq', n1_lt, n1_le, n1_ge, n1_gt, n2_eq, n2_eq', n2_lt, n2_le, n2_ge, n2_gt, ↓reduceIte, ite_self, Nat.reduceEqDiff, Nat.reduceAdd, Nat.reduceMul, Nat.reduceSub, Nat.reduceLT, Nat.reduceLeDiff, Nat.not_lt_zero, Nat.zero_le, if_true, if_false, ite_true, ite_false, true_and, and_true, false_and, and_false, true_implies, false_implies, implies_true, not_true_eq_false, not_false_eq_true, eq_self, true_or, or_true, false_or, or_false, and_self, reduceCtorEq, forall_const]
        exact hQ _ ⟨ho, hf, hn⟩
      have q1 : ¬ s ≤ k := by omega
      have q2 : 60 * m + k < 1440 := by omega
      have same : (∀ j, gR M0 rc (M0.1 71 (60 * m + k)) (M0.1 72 (60 * m + k)) j → fm p.2.2 75 j) → (∀ j, gM kc (M0.1 71 (60 * m + k)) (M0.1 72 (60 * m + k)) j → fm p.2.2 76 j) → (∀ j, gC (M0.1 71 (60 * m + k)) (M0.1 72 (60 * m + k)) j → fm p.2.2 78 j) → Q (.inl (p.1, Int32.ofNat (k + 1), p.2.2)) := by
        intro a1 a2 a3
        refine hQ _ ⟨⟨k + 1, by omega, rfl, ho, ?_, hn⟩, by simp (disch := omega) only [ep, o_le, o_leL, o_leR, o_lt, o_ltL, o_ltR, o_eq, o_eqL, o_eqR, o_cl, o_add, o_addL, o_addR, o_mul, o_mulL, o_mulR, o_sub, o_subR, o_0le, o_lt0, o_ixo, n1_eq, n1_eq', n1_lt, n1_le, n1_ge, n1_gt, n2_eq, n2_eq', n2_lt, n2_le, n2_ge, n2_gt, ↓reduceIte, ite_self, Nat.reduceEqDiff, Nat.reduceAdd, Nat.reduceMul, Nat.reduceSub, Nat.reduceLT, Nat.reduceLeDiff, Nat.not_lt_zero, Nat.zero_le, if_true, if_false, ite_true, ite_false, true_and, and_true, false_and, and_false, true_implies, false_implies, implies_true, not_true_eq_false, not_false_eq_true, eq_self, true_or, or_true, false_or, or_false, and_self, reduceCtorEq, forall_const]; omega⟩
        intro b j
        simp only [ex_succ]
        have h1 := a1 j
        have h2 := a2 j
        have h3 := a3 j
        have h4 := hf b j
        constructor
        · intro hh
          rcases h4.mp hh with q | ⟨q, q'⟩ | ⟨q, q'⟩ | ⟨q, q'⟩
          · exact Or.inl q
          · exact Or.inr (Or.inl ⟨q, Or.inl q'⟩)
          · exact Or.inr (Or.inr (Or.inl ⟨q, Or.inl q'⟩))
          · exact Or.inr (Or.inr (Or.inr ⟨q, Or.inl q'⟩))
        · rintro (q | ⟨q, q' | q'⟩ | ⟨q, q' | q'⟩ | ⟨q, q' | q'⟩)
          · exact h4.mpr (Or.inl q)
          · exact h4.mpr (Or.inr (Or.inl ⟨q, q'⟩))
          · subst q; exact h1 q'
          · exact h4.mpr (Or.inr (Or.inr (Or.inl ⟨q, q'⟩)))
          · subst q; exact h2 q'
          · exact h4.mpr (Or.inr (Or.inr (Or.inr ⟨q, q'⟩)))
          · subst q; exact h3 q'
      have one : ∀ a c, ((a = 75 ∧ c < 24) ∨ (a = 76 ∧ c < 10) ∨ (a = 78 ∧ c < 8)) → ¬ fm p.2.2 a c → (∀ b j, ((b = 75 ∧ gR M0 rc (M0.1 71 (60 * m + k)) (M0.1 72 (60 * m + k)) j) ∨ (b = 76 ∧ gM kc (M0.1 71 (60 * m + k)) (M0.1 72 (60 * m + k)) j) ∨ (b = 78 ∧ gC (M0.1 71 (60 * m + k)) (M0.1 72 (60 * m + k)) j)) ↔ (b = a ∧ j = c)) → Q (.inl (1, Int32.ofNat (k + 1), mw p.2.2 a c 1)) := by
        intro a c hac nf hg
        have hra : Rcm a c := by unfold Rcm; omega
        refine hQ _ ⟨⟨k + 1, by omega, rfl, ho.mw hra 1, ?_, Or.inr ⟨rfl, a, c, hac, (fm_set _ _).mpr (Or.inr ⟨rfl, rfl⟩), fun q => nf ((hf _ _).mpr (Or.inl q))⟩⟩, by simp (disch := omega) only [ep, o_le, o_leL, o_leR, o_lt, o_ltL, o_ltR, o_eq, o_eqL, o_eqR, o_cl, o_add, o_addL, o_addR, o_mul, o_mulL, o_mulR, o_sub, o_subR, o_0le, o_lt0, o_ixo, n1_eq, n1_eq', n1_lt, n1_le, n1_ge, n1_gt, n2_eq, n2_eq', n2_lt, n2_le, n2_ge, n2_gt, ↓reduceIte, ite_self, Nat.reduceEqDiff, Nat.reduceAdd, Nat.reduceMul, Nat.reduceSub, Nat.reduceLT, Nat.reduceLeDiff, Nat.not_lt_zero, Nat.zero_le, if_true, if_false, ite_true, ite_false, true_and, and_true, false_and, and_false, true_implies, false_implies, implies_true, not_true_eq_false, not_false_eq_true, eq_self, true_or, or_true, false_or, or_false, and_self, reduceCtorEq, forall_const]; omega⟩
        intro b j
        rw [fm_set, hf, ← hg]
        simp only [ex_succ]
        constructor
        · rintro ((q | ⟨q, q'⟩ | ⟨q, q'⟩ | ⟨q, q'⟩) | ⟨q, q'⟩ | ⟨q, q'⟩ | ⟨q, q'⟩)
          · exact Or.inl q
          · exact Or.inr (Or.inl ⟨q, Or.inl q'⟩)
          · exact Or.inr (Or.inr (Or.inl ⟨q, Or.inl q'⟩))
          · exact Or.inr (Or.inr (Or.inr ⟨q, Or.inl q'⟩))
          · exact Or.inr (Or.inl ⟨q, Or.inr q'⟩)
          · exact Or.inr (Or.inr (Or.inl ⟨q, Or.inr q'⟩))
          · exact Or.inr (Or.inr (Or.inr ⟨q, Or.inr q'⟩))
        · rintro (q | ⟨q, q' | q'⟩ | ⟨q, q' | q'⟩ | ⟨q, q' | q'⟩)
          · exact Or.inl (Or.inl q)
          · exact Or.inl (Or.inr (Or.inl ⟨q, q'⟩))
          · exact Or.inr (Or.inl ⟨q, q'⟩)
          · exact Or.inl (Or.inr (Or.inr (Or.inl ⟨q, q'⟩)))
          · exact Or.inr (Or.inr (Or.inl ⟨q, q'⟩))
          · exact Or.inl (Or.inr (Or.inr (Or.inr ⟨q, q'⟩)))
          · exact Or.inr (Or.inr (Or.inr ⟨q, q'⟩))
      unfold b4_M_follow
      generalize hop : M0.1 71 (60 * m + k) = op at *
      generalize hod : M0.1 72 (60 * m + k) = od at *
      have r1 : p.2.2.1 71 (60 * m + k) = op := by rw [g71]; exact hop
      have r2 : p.2.2.1 72 (60 * m + k) = od := by rw [g72]; exact hod
      unfold gR gM gC at same one
      by_cases c38 : op = 38
      · subst c38
        cases b with
        | true =>
          obtain ⟨o, ho', eo, h2⟩ := hb.mp rfl
          subst eo
          have o24 : o < 24 := by omega
          have n38 : ¬ (38 : Int32) = 26 ∧ ¬ (38 : Int32) = 39 ∧ ¬ (38 : Int32) = 48 := by decide
          by_cases c75 : p.2.2.1 75 o = 0
          · simp (disch := omega) only [W_some, W_none, W_bind, W_ite, W_ocz, W_lt, ep, h24, g70, q1, q2, r1, r2, ib, o24, c75, o_le, o_leL, o_leR, o_lt, o_ltL, o_ltR, o_eq, o_eqL, o_eqR, o_cl, o_add, o_addL, o_addR, o_mul, o_mulL, o_mulR, o_sub, o_subR, o_0le, o_lt0, o_ixo, n1_eq, n1_eq', n1_lt, n1_le, n1_ge, n1_gt, n2_eq, n2_eq', n2_lt, n2_le, n2_ge, n2_gt, ↓reduceIte, ite_self, Nat.reduceEqDiff, Nat.reduceAdd, Nat.reduceMul, Nat.reduceSub, Nat.reduceLT, Nat.reduceLeDiff, Nat.not_lt_zero, Nat.zero_le, if_true, if_false, ite_true, ite_false, true_and, and_true, false_and, and_false, true_implies, false_implies, implies_true, not_true_eq_false, not_false_eq_true, eq_self, true_or, or_true, false_or, or_false, and_self, reduceCtorEq, forall_const]
            refine one 75 o (Or.inl ⟨rfl, o24⟩) (fun h => h c75) ?_
            intro b j
            have ce : j < rc → (Int32.ofNat o = Int32.ofNat j) = (o = j) := fun hj => o_eq o j (by omega) (by omega)
            grind
          · simp (disch := omega) only [W_some, W_none, W_bind, W_ite, W_ocz, W_lt, ep, h24, g70, q1, q2, r1, r2, ib, o24, c75, o_le, o_leL, o_leR, o_lt, o_ltL, o_ltR, o_eq, o_eqL, o_eqR, o_cl, o_add, o_addL, o_addR, o_mul, o_mulL, o_mulR, o_sub, o_subR, o_0le, o_lt0, o_ixo, n1_eq, n1_eq', n1_lt, n1_le, n1_ge, n1_gt, n2_eq, n2_eq', n2_lt, n2_le, n2_ge, n2_gt, ↓reduceIte, ite_self, Nat.reduceEqDiff, Nat.reduceAdd, Nat.reduceMul, Nat.reduceSub, Nat.reduceLT, Nat.reduceLeDiff, Nat.not_lt_zero, Nat.zero_le, if_true, if_false, ite_true, ite_false, true_and, and_true, false_and, and_false, true_implies, false_implies, implies_true, not_true_eq_false, not_false_eq_true, eq_self, true_or, or_true, false_or, or_false, and_self, reduceCtorEq, forall_const]
            refine same ?_ ?_ ?_
            · rintro j ⟨_, j1, j2, _⟩
              rw [o_eq _ _ (by omega) (by omega)] at j2
              subst j2
              exact c75
            · rintro j ⟨h, _⟩; exact absurd h n38.1
            · rintro j (⟨h, _⟩ | ⟨h, _⟩)
              · exact absurd h n38.2.1
              · exact absurd h n38.2.2
        | false =>
          have nb : ¬ ∃ m, m < rc ∧ od = Int32.ofNat m ∧ M0.1 65 m = -2 := fun h => by have := hb.mpr h; cases this
          have n38 : ¬ (38 : Int32) = 26 ∧ ¬ (38 : Int32) = 39 ∧ ¬ (38 : Int32) = 48 := by decide
          simp (disch := omega) only [W_some, W_none, W_bind, W_ite, W_ocz, W_lt, ep, h24, g70, q1, q2, r1, r2, ib, o_le, o_leL, o_leR, o_lt, o_ltL, o_ltR, o_eq, o_eqL, o_eqR, o_cl, o_add, o_addL, o_addR, o_mul, o_mulL, o_mulR, o_sub, o_subR, o_0le, o_lt0, o_ixo, n1_eq, n1_eq', n1_lt, n1_le, n1_ge, n1_gt, n2_eq, n2_eq', n2_lt, n2_le, n2_ge, n2_gt, ↓reduceIte, ite_self, Nat.reduceEqDiff, Nat.reduceAdd, Nat.reduceMul, Nat.reduceSub, Nat.reduceLT, Nat.reduceLeDiff, Nat.not_lt_zero, Nat.zero_le, if_true, if_false, ite_true, ite_false, true_and, and_true, false_and, and_false, true_implies, false_implies, implies_true, not_true_eq_false, not_false_eq_true, eq_self, true_or, or_true, false_or, or_false, and_self, reduceCtorEq, forall_const]
          refine same ?_ ?_ ?_
          · rintro j ⟨_, j1, j2, j3⟩; exact absurd ⟨j, j1, j2, j3⟩ nb
          · rintro j ⟨h, _⟩; exact absurd h n38.1
          · rintro j (⟨h, _⟩ | ⟨h, _⟩)
            · exact absurd h n38.2.1
            · exact absurd h n38.2.2
      by_cases c39 : op = 39
      · subst c39
        have n39 : ¬ (39 : Int32) = 26 ∧ ¬ (39 : Int32) = 48 := by decide
        by_cases hy : 0 ≤ od ∧ od ≤ 7
        · have hy' := hy
          obtain ⟨n, hn7, rfl⟩ := toNle (n := 7) (by omega) hy.1 hy.2
          by_cases c78 : p.2.2.1 78 n = 0
          · simp (disch := omega) only [W_some, W_none, W_bind, W_ite, W_ocz, W_lt, ep, h24, g70, q1, q2, r1, r2, c38, hy', hn7, c78, o_le, o_leL, o_leR, o_lt, o_ltL, o_ltR, o_eq, o_eqL, o_eqR, o_cl, o_add, o_addL, o_addR, o_mul, o_mulL, o_mulR, o_sub, o_subR, o_0le, o_lt0, o_ixo, n1_eq, n1_eq', n1_lt, n1_le, n1_ge, n1_gt, n2_eq, n2_eq', n2_lt, n2_le, n2_ge, n2_gt, ↓reduceIte, ite_self, Nat.reduceEqDiff, Nat.reduceAdd, Nat.reduceMul, Nat.reduceSub, Nat.reduceLT, Nat.reduceLeDiff, Nat.not_lt_zero, Nat.zero_le, if_true, if_false, ite_true, ite_false, true_and, and_true, false_and, and_false, true_implies, false_implies, implies_true, not_true_eq_false, not_false_eq_true, eq_self, true_or, or_true, false_or, or_false, and_self, reduceCtorEq, forall_const]
            refine one 78 n (Or.inr (Or.inr ⟨rfl, by omega⟩)) (fun h => h c78) ?_
            intro b j
            have ce : j < 8 → (Int32.ofNat n = Int32.ofNat j) = (n = j) := fun hj => o_eq n j (by omega) (by omega)
            have : n < 8 := by omega
            grind
          · simp (disch := omega) only [W_some, W_none, W_bind, W_ite, W_ocz, W_lt, ep, h24, g70, q1, q2, r1, r2, c38, hy', hn7, c78, o_le, o_leL, o_leR, o_lt, o_ltL, o_ltR, o_eq, o_eqL, o_eqR, o_cl, o_add, o_addL, o_addR, o_mul, o_mulL, o_mulR, o_sub, o_subR, o_0le, o_lt0, o_ixo, n1_eq, n1_eq', n1_lt, n1_le, n1_ge, n1_gt, n2_eq, n2_eq', n2_lt, n2_le, n2_ge, n2_gt, ↓reduceIte, ite_self, Nat.reduceEqDiff, Nat.reduceAdd, Nat.reduceMul, Nat.reduceSub, Nat.reduceLT, Nat.reduceLeDiff, Nat.not_lt_zero, Nat.zero_le, if_true, if_false, ite_true, ite_false, true_and, and_true, false_and, and_false, true_implies, false_implies, implies_true, not_true_eq_false, not_false_eq_true, eq_self, true_or, or_true, false_or, or_false, and_self, reduceCtorEq, forall_const]
            refine same ?_ ?_ ?_
            · rintro j ⟨h, _⟩; exact absurd h c38
            · rintro j ⟨h, _⟩; exact absurd h n39.1
            · rintro j (⟨_, j1, j2⟩ | ⟨h, _⟩)
              · rw [o_eq _ _ (by omega) (by omega)] at j2
                subst j2
                exact c78
              · exact absurd h n39.2
        · simp (disch := omega) only [W_some, W_none, W_bind, W_ite, W_ocz, W_lt, ep, h24, g70, q1, q2, r1, r2, c38, hy, o_le, o_leL, o_leR, o_lt, o_ltL, o_ltR, o_eq, o_eqL, o_eqR, o_cl, o_add, o_addL, o_addR, o_mul, o_mulL, o_mulR, o_sub, o_subR, o_0le, o_lt0, o_ixo, n1_eq, n1_eq', n1_lt, n1_le, n1_ge, n1_gt, n2_eq, n2_eq', n2_lt, n2_le, n2_ge, n2_gt, ↓reduceIte, ite_self, Nat.reduceEqDiff, Nat.reduceAdd, Nat.reduceMul, Nat.reduceSub, Nat.reduceLT, Nat.reduceLeDiff, Nat.not_lt_zero, Nat.zero_le, if_true, if_false, ite_true, ite_false, true_and, and_true, false_and, and_false, true_implies, false_implies, implies_true, not_true_eq_false, not_false_eq_true, eq_self, true_or, or_true, false_or, or_false, and_self, reduceCtorEq, forall_const]
          refine same ?_ ?_ ?_
          · rintro j ⟨h, _⟩; exact absurd h c38
          · rintro j ⟨h, _⟩; exact absurd h n39.1
          · rintro j (⟨_, j1, j2⟩ | ⟨h, _⟩)
            · exfalso
              apply hy
              rw [j2]
              have : j ≤ 7 := by omega
              simp (disch := omega) only [this, o_le, o_leL, o_leR, o_lt, o_ltL, o_ltR, o_eq, o_eqL, o_eqR, o_cl, o_add, o_addL, o_addR, o_mul, o_mulL, o_mulR, o_sub, o_subR, o_0le, o_lt0, o_ixo, n1_eq, n1_eq', n1_lt, n1_le, n1_ge, n1_gt, n2_eq, n2_eq', n2_lt, n2_le, n2_ge, n2_gt, ↓reduceIte, ite_self, Nat.reduceEqDiff, Nat.reduceAdd, Nat.reduceMul, Nat.reduceSub, Nat.reduceLT, Nat.reduceLeDiff, Nat.not_lt_zero, Nat.zero_le, if_true, if_false, ite_true, ite_false, true_and, and_true, false_and, and_false, true_implies, false_implies, implies_true, not_true_eq_false, not_false_eq_true, eq_self, true_or, or_true, false_or, or_false, and_self, reduceCtorEq, forall_const]
            · exact absurd h n39.2
      by_cases c48 : op = 48
      · subst c48
        have n48 : ¬ (48 : Int32) = 26 := by decide
        by_cases c78 : p.2.2.1 78 0 = 0
        · simp (disch := omega) only [W_some, W_none, W_bind, W_ite, W_ocz, W_lt, ep, h24, g70, q1, q2, r1, r2, c38, c39, c78, o_le, o_leL, o_leR, o_lt, o_ltL, o_ltR, o_eq, o_eqL, o_eqR, o_cl, o_add, o_addL, o_addR, o_mul, o_mulL, o_mulR, o_sub, o_subR, o_0le, o_lt0, o_ixo, n1_eq, n1_eq', n1_lt, n1_le, n1_ge, n1_gt, n2_eq, n2_eq', n2_lt, n2_le, n2_ge, n2_gt, ↓reduceIte, ite_self, Nat.reduceEqDiff, Nat.reduceAdd, Nat.reduceMul, Nat.reduceSub, Nat.reduceLT, Nat.reduceLeDiff, Nat.not_lt_zero, Nat.zero_le, if_true, if_false, ite_true, ite_false, true_and, and_true, false_and, and_false, true_implies, false_implies, implies_true, not_true_eq_false, not_false_eq_true, eq_self, true_or, or_true, false_or, or_false, and_self, reduceCtorEq, forall_const]
          refine one 78 0 (Or.inr (Or.inr ⟨rfl, by omega⟩)) (fun h => h c78) ?_
          intro b j
          grind
        · simp (disch := omega) only [W_some, W_none, W_bind, W_ite, W_ocz, W_lt, ep, h24, g70, q1, q2, r1, r2, c38, c39, c78, o_le, o_leL, o_leR, o_lt, o_ltL, o_ltR, o_eq, o_eqL, o_eqR, o_cl, o_add, o_addL, o_addR, o_mul, o_mulL, o_mulR, o_sub, o_subR, o_0le, o_lt0, o_ixo, n1_eq, n1_eq', n1_lt, n1_le, n1_ge, n1_gt, n2_eq, n2_eq', n2_lt, n2_le, n2_ge, n2_gt, ↓reduceIte, ite_self, Nat.reduceEqDiff, Nat.reduceAdd, Nat.reduceMul, Nat.reduceSub, Nat.reduceLT, Nat.reduceLeDiff, Nat.not_lt_zero, Nat.zero_le, if_true, if_false, ite_true, ite_false, true_and, and_true, false_and, and_false, true_implies, false_implies, implies_true, not_true_eq_false, not_false_eq_true, eq_self, true_or, or_true, false_or, or_false, and_self, reduceCtorEq, forall_const]
          refine same ?_ ?_ ?_
          · rintro j ⟨h, _⟩; exact absurd h c38
          · rintro j ⟨h, _⟩; exact absurd h n48
          · rintro j (⟨h, _⟩ | ⟨_, h⟩)
            · exact absurd h c39
            · subst h; exact c78
      by_cases c26 : op = 26
      · subst c26
        by_cases cc : ∃ c, c < kc ∧ od = Int32.ofNat c
        · have i1' : f_M_isClass od p.2.2 = true := by rw [i1]; exact cc
          obtain ⟨c, hc, rfl⟩ := cc
          have c10 : c < 10 := by omega
          by_cases c76 : p.2.2.1 76 c = 0
          · simp (disch := omega) only [W_some, W_none, W_bind, W_ite, W_ocz, W_lt, ep, h24, g70, q1, q2, r1, r2, c38, c39, c48, i1', c10, c76, o_le, o_leL, o_leR, o_lt, o_ltL, o_ltR, o_eq, o_eqL, o_eqR, o_cl, o_add, o_addL, o_addR, o_mul, o_mulL, o_mulR, o_sub, o_subR, o_0le, o_lt0, o_ixo, n1_eq, n1_eq', n1_lt, n1_le, n1_ge, n1_gt, n2_eq, n2_eq', n2_lt, n2_le, n2_ge, n2_gt, ↓reduceIte, ite_self, Nat.reduceEqDiff, Nat.reduceAdd, Nat.reduceMul, Nat.reduceSub, Nat.reduceLT, Nat.reduceLeDiff, Nat.not_lt_zero, Nat.zero_le, if_true, if_false, ite_true, ite_false, true_and, and_true, false_and, and_false, true_implies, false_implies, implies_true, not_true_eq_false, not_false_eq_true, eq_self, true_or, or_true, false_or, or_false, and_self, reduceCtorEq, forall_const]
            refine one 76 c (Or.inr (Or.inl ⟨rfl, c10⟩)) (fun h => h c76) ?_
            intro b j
            have ce : j < kc → (Int32.ofNat c = Int32.ofNat j) = (c = j) := fun hj => o_eq c j (by omega) (by omega)
            grind
          · simp (disch := omega) only [W_some, W_none, W_bind, W_ite, W_ocz, W_lt, ep, h24, g70, q1, q2, r1, r2, c38, c39, c48, i1', c10, c76, o_le, o_leL, o_leR, o_lt, o_ltL, o_ltR, o_eq, o_eqL, o_eqR, o_cl, o_add, o_addL, o_addR, o_mul, o_mulL, o_mulR, o_sub, o_subR, o_0le, o_lt0, o_ixo, n1_eq, n1_eq', n1_lt, n1_le, n1_ge, n1_gt, n2_eq, n2_eq', n2_lt, n2_le, n2_ge, n2_gt, ↓reduceIte, ite_self, Nat.reduceEqDiff, Nat.reduceAdd, Nat.reduceMul, Nat.reduceSub, Nat.reduceLT, Nat.reduceLeDiff, Nat.not_lt_zero, Nat.zero_le, if_true, if_false, ite_true, ite_false, true_and, and_true, false_and, and_false, true_implies, false_implies, implies_true, not_true_eq_false, not_false_eq_true, eq_self, true_or, or_true, false_or, or_false, and_self, reduceCtorEq, forall_const]
            refine same ?_ ?_ ?_
            · rintro j ⟨h, _⟩; exact absurd h c38
            · rintro j ⟨_, j1, j2⟩
              rw [o_eq _ _ (by omega) (by omega)] at j2
              subst j2
              exact c76
            · rintro j (⟨h, _⟩ | ⟨h, _⟩)
              · exact absurd h c39
              · exact absurd h c48
        · have i1' : ¬ f_M_isClass od p.2.2 = true := by rw [i1]; exact cc
          simp (disch := omega) only [W_some, W_none, W_bind, W_ite, W_ocz, W_lt, ep, h24, g70, q1, q2, r1, r2, c38, c39, c48, i1', o_le, o_leL, o_leR, o_lt, o_ltL, o_ltR, o_eq, o_eqL, o_eqR, o_cl, o_add, o_addL, o_addR, o_mul, o_mulL, o_mulR, o_sub, o_subR, o_0le, o_lt0, o_ixo, n1_eq, n1_eq', n1_lt, n1_le, n1_ge, n1_gt, n2_eq, n2_eq', n2_lt, n2_le, n2_ge, n2_gt, ↓reduceIte, ite_self, Nat.reduceEqDiff, Nat.reduceAdd, Nat.reduceMul, Nat.reduceSub, Nat.reduceLT, Nat.reduceLeDiff, Nat.not_lt_zero, Nat.zero_le, if_true, if_false, ite_true, ite_false, true_and, and_true, false_and, and_false, true_implies, false_implies, implies_true, not_true_eq_false, not_false_eq_true, eq_self, true_or, or_true, false_or, or_false, and_self, reduceCtorEq, forall_const]
          refine same ?_ ?_ ?_
          · rintro j ⟨h, _⟩; exact absurd h c38
          · rintro j ⟨_, j1, j2⟩; exact absurd ⟨j, j1, j2⟩ cc
          · rintro j (⟨h, _⟩ | ⟨h, _⟩)
            · exact absurd h c39
            · exact absurd h c48
      · simp (disch := omega) only [W_some, W_none, W_bind, W_ite, W_ocz, W_lt, ep, h24, g70, q1, q2, r1, r2, c38, c39, c48, c26, o_le, o_leL, o_leR, o_lt, o_ltL, o_ltR, o_eq, o_eqL, o_eqR, o_cl, o_add, o_addL, o_addR, o_mul, o_mulL, o_mulR, o_sub, o_subR, o_0le, o_lt0, o_ixo, n1_eq, n1_eq', n1_lt, n1_le, n1_ge, n1_gt, n2_eq, n2_eq', n2_lt, n2_le, n2_ge, n2_gt, ↓reduceIte, ite_self, Nat.reduceEqDiff, Nat.reduceAdd, Nat.reduceMul, Nat.reduceSub, Nat.reduceLT, Nat.reduceLeDiff, Nat.not_lt_zero, Nat.zero_le, if_true, if_false, ite_true, ite_false, true_and, and_true, false_and, and_false, true_implies, false_implies, implies_true, not_true_eq_false, not_false_eq_true, eq_self, true_or, or_true, false_or, or_false, and_self, reduceCtorEq, forall_const]
        refine same ?_ ?_ ?_
        · rintro j ⟨h, _⟩; exact absurd h c38
        · rintro j ⟨h, _⟩; exact absurd h c26
        · rintro j (⟨h, _⟩ | ⟨h, _⟩)
          · exact absurd h c39
          · exact absurd h c48
    · intro b j
      constructor
      · exact Or.inl
      · rintro (h | ⟨_, i, hi, _⟩ | ⟨_, i, hi, _⟩ | ⟨_, i, hi, _⟩)
        · exact h
        all_goals exact absurd hi (Nat.not_lt_zero i)
  refine Wo.mono w ?_
  intro p ⟨po, pf, pn⟩
  rcases pn with ⟨a1, a2⟩ | ⟨a1, a2⟩
  · rw [a1, if_neg (by decide), if_pos rfl, W_some]
    exact ⟨po, pf, Or.inl ⟨rfl, a2⟩⟩
  · rw [a1, if_pos rfl, W_some]
    exact ⟨po, pf, Or.inr ⟨rfl, a2⟩⟩
