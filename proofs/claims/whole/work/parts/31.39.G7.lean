/-! G7 -/
def WtSn (S : FS) : Prop := ∀ i, S.2.1 i = true → S.1 i = true
set_option maxRecDepth 20000 in
set_option maxHeartbeats 4000000 in
theorem come_wt {S S' : FS} {i h : Nat} {g l : Nat → Int32} (hi : i < 60) (w : WtSn S) (e : come S i g h l = some S') : WtSn S' := by
  obtain ⟨p1, p2, _, _, _, p6⟩ := come_props hi e
  intro j hj
  rcases p6 j hj with q | q
  · exact (p1.1 j (w j q)).1
  · rw [q]; exact p2.1
set_option maxRecDepth 20000 in
set_option maxHeartbeats 4000000 in
theorem hand_wt {fr tt hd : Nat → Nat} {i s : Nat} {l : Nat → Int32} (hs : s ≤ 60) : ∀ n t S S', (∀ u, t ≤ u → u < t + n → hd u < s) → WtSn S → handF fr tt hd i l n t S = .inr S' → WtSn S'
  | 0, t, S, S', _, w, e => by
    have : (Sum.inr S : Nat ⊕ FS) = .inr S' := e
    cases this
    exact w
  | n + 1, t, S, S', hh, w, e => by
    unfold handF at e
    by_cases c : fr t ≤ i ∧ i < tt t
    · rw [if_pos c] at e
      have ht := hh t (by omega) (by omega)
      cases ec : come S (hd t) (fun _ => 2) 1 l with
      | none => rw [ec] at e; cases e
      | some S1 =>
        rw [ec] at e
        exact hand_wt hs n (t + 1) S1 S' (fun u h1 h2 => hh u (by omega) (by omega)) (come_wt (by omega) w ec) e
    · rw [if_neg c] at e
      exact hand_wt hs n (t + 1) S S' (fun u h1 h2 => hh u (by omega) (by omega)) w e
set_option maxRecDepth 20000 in
set_option maxHeartbeats 4000000 in
theorem look_wt {M : MS} {kc rc m s tc : Nat} {fr tt hd : Nat → Nat} {S S' : FS} {i : Nat} (hs : s ≤ 60) (es : M.1 70 m = Int32.ofNat s) (hi : i < s) (to : TrO M m s tc fr tt hd) (w : WtSn S) (hr : LookRes M kc rc m s tc fr tt hd S i (.inr S')) : WtSn S' := by
  rcases hr with ⟨w, _, _, q⟩ | ⟨S1, hS1, hr⟩
  · cases q
  rcases hr with ⟨_, q⟩ | ⟨_, _, q⟩ | ⟨pp, g, h, l, tn, hr⟩
  · cases q
  · cases q
  rcases hr with ⟨_, _, q⟩ | ⟨S2, hS2, hres⟩
  · cases q
  have w0 : WtSn (clrW S i) := by
    intro j hj
    have hj' : updB S.2.1 i false j = true := hj
    unfold updB at hj'
    by_cases e : j = i
    · rw [if_pos e] at hj'; cases hj'
    · rw [if_neg e] at hj'; exact w j hj'
  have w1 := hand_wt hs tc 0 (clrW S i) S1 (fun u _ hu => (to u (by omega)).2.2.2.2.2) w0 hS1
  have w2 : WtSn S2 := by
    rcases hS2 with ⟨j, c⟩ | ⟨_, rfl⟩
    · have := (posJ j).mp pp
      rw [es] at this
      obtain ⟨k, hk, e⟩ := (le1_iff (kc := s) (by omega) (odI M m i)).mp this
      rw [e, o_cl k (by omega)] at c
      exact come_wt (by omega) w1 c
    · exact w1
  rcases hres with ⟨e, q⟩ | ⟨_, _, q⟩ | ⟨e, e5, ⟨_, q⟩ | ⟨S3, c, q⟩⟩
  · cases q; exact w2
  · cases q
  · cases q
  · cases q; exact come_wt (by omega) w2 c
/-- the lowest that waits -/
def low (S : FS) : Option Nat := (List.range 60).find? (fun i => S.2.1 i)
set_option maxRecDepth 20000 in
set_option maxHeartbeats 4000000 in
theorem low_some {S : FS} {i : Nat} (h : low S = some i) : i < 60 ∧ S.2.1 i = true ∧ ∀ j, j < i → S.2.1 j = false := by
  unfold low at h
  rw [List.find?_range_eq_some] at h
  obtain ⟨h1, h2, h3⟩ := h
  refine ⟨List.mem_range.mp h2, h1, ?_⟩
  intro j hj
  have q := h3 j hj
  simpa using q
set_option maxRecDepth 20000 in
set_option maxHeartbeats 4000000 in
theorem low_none {S : FS} (h : low S = none) : ∀ j, j < 60 → S.2.1 j = false := by
  unfold low at h
  intro j hj
  have q := List.find?_eq_none.mp h j (List.mem_range.mpr hj)
  simpa using q
set_option maxRecDepth 20000 in
set_option maxHeartbeats 4000000 in
theorem lowX {X : XS} {S : FS} (hS : FX X S) : f_Flow_lowestWaiting X = some (enc (-1) (low S)) := by
  have w : Wo (lp (b2_Flow_lowestWaiting X) 10000 (0 : Int32)) (fun r => r = enc (-1) (low S)) := by
    refine W_lp (fun p => ∃ k, k ≤ 60 ∧ p = Int32.ofNat k ∧ ∀ j, j < k → S.2.1 j = false) (fun p => 60 - p.toNatClampNeg) ?_ 10000 _ ⟨0, by omega, rfl, fun j hj => absurd hj (Nat.not_lt_zero j)⟩ (by show 60 - 0 < 10000; omega)
    intro p ⟨k, hk, ep, hj⟩
    subst ep
    refine Wo.cps (fun Q hQ => ?_)
    unfold b2_Flow_lowestWaiting
    by_cases hl : k < 60
    · have q1 : ¬ 60 ≤ k := by omega
      have z := (hS.1 k hl).2
      by_cases c : X.1 24 k = 0
      · simp (disch := omega) only [W_some, W_none, W_bind, W_ite, W_ocz, W_lt, q1, hl, c, o_le, o_leL, o_leR, o_lt, o_ltL, o_ltR, o_eq, o_eqL, o_eqR, o_cl, o_add, o_addL, o_addR, o_mul, o_mulL, o_mulR, o_sub, o_subR, o_0le, o_lt0, o_ixo, n1_eq, n1_eq', n1_lt, n1_le, n1_ge, n1_gt, n2_eq, n2_eq', n2_lt, n2_le, n2_ge, n2_gt, ↓reduceIte, ite_self, Nat.reduceEqDiff, Nat.reduceAdd, Nat.reduceMul, Nat.reduceSub, Nat.reduceLT, Nat.reduceLeDiff, Nat.not_lt_zero, Nat.zero_le, if_true, if_false, ite_true, ite_false, true_and, and_true, false_and, and_false, true_implies, false_implies, implies_true, not_true_eq_false, not_false_eq_true, eq_self, true_or, or_true, false_or, or_false, and_self, reduceCtorEq, forall_const]
        refine hQ _ ⟨⟨k + 1, by omega, rfl, ?_⟩, by simp (disch := omega) only [o_le, o_leL, o_leR, o_lt, o_ltL, o_ltR, o_eq, o_eqL, o_eqR, o_cl, o_add, o_addL, o_addR, o_mul, o_mulL, o_mulR, o_sub, o_subR, o_0le, o_lt0, o_ixo, n1_eq, n1_eq', n1_lt, n1_le, n1_ge, n1_gt, n2_eq, n2_eq', n2_lt, n2_le, n2_ge, n2_gt, ↓reduceIte, ite_self, Nat.reduceEqDiff, Nat.reduceAdd, Nat.reduceMul, Nat.reduceSub, Nat.reduceLT, Nat.reduceLeDiff, Nat.not_lt_zero, Nat.zero_le, if_true, if_false, ite_true, ite_false, true_and, and_true, false_and, and_false, true_implies, false_implies, implies_true, not_true_eq_false, not_false_eq_true, eq_self, true_or, or_true, false_or, or_false, and_self, reduceCtorEq, forall_const]; omega⟩
        intro j hj'
        by_cases e : j = k
        · subst e
          cases q : S.2.1 j with
          | false => rfl
          | true => exact absurd c (z.mpr q)
        · exact hj j (by omega)
      · simp (disch := omega) only [W_some, W_none, W_bind, W_ite, W_ocz, W_lt, q1, hl, c, o_le, o_leL, o_leR, o_lt, o_ltL, o_ltR, o_eq, o_eqL, o_eqR, o_cl, o_add, o_addL, o_addR, o_mul, o_mulL, o_mulR, o_sub, o_subR, o_0le, o_lt0, o_ixo, n1_eq, n1_eq', n1_lt, n1_le, n1_ge, n1_gt, n2_eq, n2_eq', n2_lt, n2_le, n2_ge, n2_gt, ↓reduceIte, ite_self, Nat.reduceEqDiff, Nat.reduceAdd, Nat.reduceMul, Nat.reduceSub, Nat.reduceLT, Nat.reduceLeDiff, Nat.not_lt_zero, Nat.zero_le, if_true, if_false, ite_true, ite_false, true_and, and_true, false_and, and_false, true_implies, false_implies, implies_true, not_true_eq_false, not_false_eq_true, eq_self, true_or, or_true, false_or, or_false, and_self, reduceCtorEq, forall_const]
        refine hQ _ ?_
        have wk := z.mp c
        cases e : low S with
        | none => rw [low_none e k hl] at wk; cases wk
        | some i =>
          obtain ⟨a1, a2, a3⟩ := low_some e
          have : i = k := by
            rcases Nat.lt_trichotomy i k with q | q | q
            · rw [hj i q] at a2; cases a2
            · exact q
            · rw [a3 k q] at wk; cases wk
          rw [this]
          rfl
    · have ek : k = 60 := by omega
      subst ek
      simp (disch := omega) only [W_some, W_none, W_bind, W_ite, W_ocz, W_lt, Nat.le_refl, o_le, o_leL, o_leR, o_lt, o_ltL, o_ltR, o_eq, o_eqL, o_eqR, o_cl, o_add, o_addL, o_addR, o_mul, o_mulL, o_mulR, o_sub, o_subR, o_0le, o_lt0, o_ixo, n1_eq, n1_eq', n1_lt, n1_le, n1_ge, n1_gt, n2_eq, n2_eq', n2_lt, n2_le, n2_ge, n2_gt, ↓reduceIte, ite_self, Nat.reduceEqDiff, Nat.reduceAdd, Nat.reduceMul, Nat.reduceSub, Nat.reduceLT, Nat.reduceLeDiff, Nat.not_lt_zero, Nat.zero_le, if_true, if_false, ite_true, ite_false, true_and, and_true, false_and, and_false, true_implies, false_implies, implies_true, not_true_eq_false, not_false_eq_true, eq_self, true_or, or_true, false_or, or_false, and_self, reduceCtorEq, forall_const]
      refine hQ _ ?_
      cases e : low S with
      | none => rfl
      | some i =>
        obtain ⟨a1, a2, a3⟩ := low_some e
        rw [hj i a1] at a2; cases a2
  obtain ⟨r, e, hr⟩ := w
  unfold f_Flow_lowestWaiting
  rw [e, hr]
set_option maxRecDepth 20000 in
set_option maxHeartbeats 4000000 in
theorem lowM {M : MS} {S : FS} {m s : Nat} (hm : m < 24) (es : M.1 70 m = Int32.ofNat s) (hs : s ≤ 60) (hS : FM M m S) (hw : ∀ i, S.2.1 i = true → i < s) : f_M_nextLook (Int32.ofNat m) M = some (enc (-2) (low S)) := by
  have w : Wo (lp (b2_M_nextLook (Int32.ofNat m) M) 10000 (0 : Int32)) (fun r => r = enc (-2) (low S)) := by
    refine W_lp (fun p => ∃ k, k ≤ s ∧ p = Int32.ofNat k ∧ ∀ j, j < k → S.2.1 j = false) (fun p => s - p.toNatClampNeg) ?_ 10000 _ ⟨0, by omega, rfl, fun j hj => absurd hj (Nat.not_lt_zero j)⟩ (by show s - 0 < 10000; omega)
    intro p ⟨k, hk, ep, hj⟩
    subst ep
    refine Wo.cps (fun Q hQ => ?_)
    unfold b2_M_nextLook
    by_cases hl : k < s
    · have q1 : ¬ s ≤ k := by omega
      have q2 : k < 60 := by omega
      have z := (hS.1 k q2).2.1
      by_cases c : M.1 82 k = 0
      · simp (disch := omega) only [W_some, W_none, W_bind, W_ite, W_ocz, W_lt, hm, es, q1, q2, c, o_le, o_leL, o_leR, o_lt, o_ltL, o_ltR, o_eq, o_eqL, o_eqR, o_cl, o_add, o_addL, o_addR, o_mul, o_mulL, o_mulR, o_sub, o_subR, o_0le, o_lt0, o_ixo, n1_eq, n1_eq', n1_lt, n1_le, n1_ge, n1_gt, n2_eq, n2_eq', n2_lt, n2_le, n2_ge, n2_gt, ↓reduceIte, ite_self, Nat.reduceEqDiff, Nat.reduceAdd, Nat.reduceMul, Nat.reduceSub, Nat.reduceLT, Nat.reduceLeDiff, Nat.not_lt_zero, Nat.zero_le, if_true, if_false, ite_true, ite_false, true_and, and_true, false_and, and_false, true_implies, false_implies, implies_true, not_true_eq_false, not_false_eq_true, eq_self, true_or, or_true, false_or, or_false, and_self, reduceCtorEq, forall_const]
        refine hQ _ ⟨⟨k + 1, by omega, rfl, ?_⟩, by simp (disch := omega) only [o_le, o_leL, o_leR, o_lt, o_ltL, o_ltR, o_eq, o_eqL, o_eqR, o_cl, o_add, o_addL, o_addR, o_mul, o_mulL, o_mulR, o_sub, o_subR, o_0le, o_lt0, o_ixo, n1_eq, n1_eq', n1_lt, n1_le, n1_ge, n1_gt, n2_eq, n2_eq', n2_lt, n2_le, n2_ge, n2_gt, ↓reduceIte, ite_self, Nat.reduceEqDiff, Nat.reduceAdd, Nat.reduceMul, Nat.reduceSub, Nat.reduceLT, Nat.reduceLeDiff, Nat.not_lt_zero, Nat.zero_le, if_true, if_false, ite_true, ite_false, true_and, and_true, false_and, and_false, true_implies, false_implies, implies_true, not_true_eq_false, not_false_eq_true, eq_self, true_or, or_true, false_or, or_false, and_self, reduceCtorEq, forall_const]; omega⟩
        intro j hj'
        by_cases e : j = k
        · subst e
          cases q : S.2.1 j with
          | false => rfl
          | true => exact absurd c (z.mpr q)
        · exact hj j (by omega)
      · simp (disch := omega) only [W_some, W_none, W_bind, W_ite, W_ocz, W_lt, hm, es, q1, q2, c, o_le, o_leL, o_leR, o_lt, o_ltL, o_ltR, o_eq, o_eqL, o_eqR, o_cl, o_add, o_addL, o_addR, o_mul, o_mulL, o_mulR, o_sub, o_subR, o_0le, o_lt0, o_ixo, n1_eq, n1_eq', n1_lt, n1_le, n1_ge, n1_gt, n2_eq, n2_eq', n2_lt, n2_le, n2_ge, n2_gt, ↓reduceIte, ite_self, Nat.reduceEqDiff, Nat.reduceAdd, Nat.reduceMul, Nat.reduceSub, Nat.reduceLT, Nat.reduceLeDiff, Nat.not_lt_zero, Nat.zero_le, if_true, if_false, ite_true, ite_false, true_and, and_true, false_and, and_false, true_implies, false_implies, implies_true, not_true_eq_false, not_false_eq_true, eq_self, true_or, or_true, false_or, or_false, and_self, reduceCtorEq, forall_const]
        refine hQ _ ?_
        have wk := z.mp c
        cases e : low S with
        | none => rw [low_none e k q2] at wk; cases wk
        | some i =>
          obtain ⟨a1, a2, a3⟩ := low_some e
          have : i = k := by
            rcases Nat.lt_trichotomy i k with q | q | q
            · rw [hj i q] at a2; cases a2
            · exact q
            · rw [a3 k q] at wk; cases wk
          rw [this]
          rfl
    · have ek : k = s := by omega
      subst ek
      simp (disch := omega) only [W_some, W_none, W_bind, W_ite, W_ocz, W_lt, hm, es, Nat.le_refl, o_le, o_leL, o_leR, o_lt, o_ltL, o_ltR, o_eq, o_eqL, o_eqR, o_cl, o_add, o_addL, o_addR, o_mul, o_mulL, o_mulR, o_sub, o_subR, o_0le, o_lt0, o_ixo, n1_eq, n1_eq', n1_lt, n1_le, n1_ge, n1_gt, n2_eq, n2_eq', n2_lt, n2_le, n2_ge, n2_gt, ↓reduceIte, ite_self, Nat.reduceEqDiff, Nat.reduceAdd, Nat.reduceMul, Nat.reduceSub, Nat.reduceLT, Nat.reduceLeDiff, Nat.not_lt_zero, Nat.zero_le, if_true, if_false, ite_true, ite_false, true_and, and_true, false_and, and_false, true_implies, false_implies, implies_true, not_true_eq_false, not_false_eq_true, eq_self, true_or, or_true, false_or, or_false, and_self, reduceCtorEq, forall_const]
      refine hQ _ ?_
      cases e : low S with
      | none => rfl
      | some i =>
        obtain ⟨a1, a2, a3⟩ := low_some e
        rw [hj i (hw i a2)] at a2; cases a2
  obtain ⟨r, e, hr⟩ := w
  unfold f_M_nextLook
  rw [e, hr]
/-- the looks at a method's instructions, one after the other -/
def Looks (M : MS) (kc rc m s tc : Nat) (fr tt hd : Nat → Nat) : Nat → FS → Nat ⊕ FS → Prop
  | 0, S, res => low S = none ∧ res = .inr S
  | n + 1, S, res => (low S = none ∧ res = .inr S) ∨ ∃ i, low S = some i ∧ ((∃ w, LookRes M kc rc m s tc fr tt hd S i (.inl w) ∧ res = .inl w) ∨ ∃ S', LookRes M kc rc m s tc fr tt hd S i (.inr S') ∧ Looks M kc rc m s tc fr tt hd n S' res)
set_option maxRecDepth 20000 in
set_option maxHeartbeats 4000000 in
theorem hand_lt {fr tt hd : Nat → Nat} {i s : Nat} {l : Nat → Int32} : ∀ n t S w, (∀ u, t ≤ u → u < t + n → hd u < s) → handF fr tt hd i l n t S = .inl w → w < s
  | 0, t, S, w, _, e => by
    have : (Sum.inr S : Nat ⊕ FS) = .inl w := e
    cases this
  | n + 1, t, S, w, hh, e => by
    unfold handF at e
    by_cases c : fr t ≤ i ∧ i < tt t
    · rw [if_pos c] at e
      cases ec : come S (hd t) (fun _ => 2) 1 l with
      | none =>
        rw [ec] at e
        have : hd t = w := Sum.inl.inj e
        rw [← this]
        exact hh t (by omega) (by omega)
      | some S1 =>
        rw [ec] at e
        exact hand_lt n (t + 1) S1 w (fun u h1 h2 => hh u (by omega) (by omega)) e
    · rw [if_neg c] at e
      exact hand_lt n (t + 1) S w (fun u h1 h2 => hh u (by omega) (by omega)) e
set_option maxRecDepth 20000 in
set_option maxHeartbeats 4000000 in
theorem looks_ex {M : MS} {kc rc m s tc : Nat} {fr tt hd : Nat → Nat} (hs : s ≤ 60) (es : M.1 70 m = Int32.ofNat s) (to : TrO M m s tc fr tt hd) : ∀ n S, mu S ≤ n → Typed M kc rc m s tc fr tt hd S → WtSn S → ∃ res, Looks M kc rc m s tc fr tt hd n S res := by
  intro n
  induction n with
  | zero =>
    intro S hmu ht hw
    refine ⟨.inr S, ?_, rfl⟩
    cases e : low S with
    | none => rfl
    | some i =>
      obtain ⟨a1, a2, _⟩ := low_some e
      have := mu_clr a1 (hw i a2) a2
      omega
  | succ n ih =>
    intro S hmu ht hw
    cases e : low S with
    | none => exact ⟨.inr S, Or.inl ⟨e, rfl⟩⟩
    | some i =>
      obtain ⟨a1, a2, _⟩ := low_some e
      have hi := (ht i (hw i a2)).1
      obtain ⟨res, hres⟩ := look_ex (X := (fun _ _ => 0, fun _ _ => none, [])) (T := fun _ => 0) (M := M) (kc := kc) (rc := rc) (m := m) (s := s) (tc := tc) (fr := fr) (tt := tt) (hd := hd) (S := S) (i := i) (fun w hw' => hand_lt tc 0 (clrW S i) w (fun u _ hu => (to u (by omega)).2.2.2.2.2) hw')
      cases res with
      | inl w => exact ⟨.inl w, Or.inr ⟨i, e, Or.inl ⟨w, hres, rfl⟩⟩⟩
      | inr S' =>
        obtain ⟨b1, b2, _⟩ := look_typed hs es hi to ht (hw i a2) a2 hres
        obtain ⟨res, hr⟩ := ih S' (by omega) b1 (look_wt hs es hi to hw hres)
        exact ⟨res, Or.inr ⟨i, e, Or.inr ⟨S', hres, hr⟩⟩⟩
set_option maxRecDepth 20000 in
set_option maxHeartbeats 4000000 in
theorem looks_end {M : MS} {kc rc m s tc : Nat} {fr tt hd : Nat → Nat} (hs : s ≤ 60) (es : M.1 70 m = Int32.ofNat s) (to : TrO M m s tc fr tt hd) : ∀ n S S', Typed M kc rc m s tc fr tt hd S → WtSn S → Looks M kc rc m s tc fr tt hd n S (.inr S') → Typed M kc rc m s tc fr tt hd S' ∧ (∀ i, S'.1 i = true → S'.2.1 i = false) ∧ (∀ j, S.1 j = true → S'.1 j = true ∧ S'.2.2.1 j = S.2.2.1 j ∧ S'.2.2.2.1 j = S.2.2.2.1 j ∧ ∀ k, leK (S'.2.2.2.2.1 j k) (S.2.2.2.2.1 j k)) := by
  have fin : ∀ S, Typed M kc rc m s tc fr tt hd S → WtSn S → low S = none → ∀ i, S.1 i = true → S.2.1 i = false := by
    intro S ht _ hl i hi
    have := (ht i hi).1
    exact low_none hl i (by omega)
  intro n
  induction n with
  | zero =>
    intro S S' ht hw hr
    obtain ⟨a, b⟩ := hr
    cases b
    exact ⟨ht, fin S ht hw a, fun j hj => ⟨hj, rfl, rfl, fun _ => Or.inr rfl⟩⟩
  | succ n ih =>
    intro S S' ht hw hr
    rcases hr with ⟨a, b⟩ | ⟨i, e, ⟨w, _, b⟩ | ⟨S1, h1, h2⟩⟩
    · cases b
      exact ⟨ht, fin S ht hw a, fun j hj => ⟨hj, rfl, rfl, fun _ => Or.inr rfl⟩⟩
    · cases b
    · obtain ⟨a1, a2, _⟩ := low_some e
      have hi := (ht i (hw i a2)).1
      obtain ⟨b1, b2, b3⟩ := look_typed hs es hi to ht (hw i a2) a2 h1
      obtain ⟨c1, c2, c3⟩ := ih S1 S' b1 (look_wt hs es hi to hw h1) h2
      refine ⟨c1, c2, ?_⟩
      intro j hj
      obtain ⟨d1, d2, d3, d4⟩ := b3 j hj
      obtain ⟨f1, f2, f3, f4⟩ := c3 j d1
      exact ⟨f1, f2.trans d2, f3.trans d3, fun k => (f4 k).trans (d4 k)⟩
