/-! L1 -/
/-- only these cells are other ones -/
def Only (S : Nat → Prop) (X X' : XS) : Prop := X'.2 = X.2 ∧ ∀ b, ¬ S b → X'.1 b = X.1 b
theorem Only.refl {S : Nat → Prop} (X : XS) : Only S X X := ⟨rfl, fun _ _ => rfl⟩
theorem Only.trans {S : Nat → Prop} {X Y Z : XS} (h : Only S X Y) (k : Only S Y Z) : Only S X Z := ⟨k.1.trans h.1, fun b hb => (k.2 b hb).trans (h.2 b hb)⟩
theorem Only.mono {S S' : Nat → Prop} {X Y : XS} (h : Only S X Y) (k : ∀ b, S b → S' b) : Only S' X Y := ⟨h.1, fun b hb => h.2 b (fun x => hb (k b x))⟩
theorem Only.xw {S : Nat → Prop} {X Y : XS} (h : Only S X Y) {a : Nat} (ha : S a) (i : Nat) (v : Int32) : Only S X (xw Y a i v) := ⟨h.1, fun b hb => (xw_ne Y a i v (fun (e : b = a) => hb (by rw [e]; exact ha))).trans (h.2 b hb)⟩
theorem Only.mo {S : Nat → Prop} {X Y : XS} {T : Nat → Nat} (h : Only S X Y) : Mo T T X Y := Mo.id T h.1
theorem Only.un {S : Nat → Prop} {X Y : XS} {T : Nat → Nat} {U : Nat → Prop} (h : Only S X Y) (hu : ∀ b, S b → ¬ U (T b)) : Un U T X Y := fun b _ hb => ⟨h.2 b (fun hs => hu b hs hb), by rw [h.1]⟩
/-- the reference's source is as it was -/
def MSrc (M M' : MS) : Prop := (∀ a, 61 ≤ a → a ≤ 74 → M'.1 a = M.1 a) ∧ M'.1 60 3 = M.1 60 3 ∧ M'.1 60 15 = M.1 60 15
theorem MSrc.refl (M : MS) : MSrc M M := ⟨fun _ _ _ => rfl, rfl, rfl⟩
set_option maxRecDepth 20000 in
set_option maxHeartbeats 4000000 in
theorem RSc_frame {X X' : XS} {M M' : MS} {T T' : Nat → Nat} {kc rc : Nat} (h : RSc X M T kc rc) (ht : TG T) (hX : Un SrcT T X X') (hm : Mo T T' X X') (hM : MSrc M M') : RSc X' M' T' kc rc := by
  obtain ⟨hk, hr, e1, e2, hn, hmm⟩ := h
  have hge := xA130 X
  have fx : ∀ b, b < 10 → b ≠ 0 → X'.1 b = X.1 b ∧ X'.2.1 b = X.2.1 b := by
    intro b hb h0
    refine hX b (by omega) ?_
    rw [ht b (by omega) (by omega) (by omega) (by omega) (by omega) (by omega) (by omega)]
    unfold SrcT
    omega
  obtain ⟨m1, m2, m3⟩ := hM
  refine ⟨RSk_frame hk ?_ ?_ m2 (fun c h1 h2 => m1 c (by omega) (by omega)), hr, ?_, ?_, RSn_frame hn (fx 8 (by omega) (by omega)).1 (fx 9 (by omega) (by omega)).1 (fun c h1 h2 => m1 c (by omega) (by omega)), ?_⟩
  · rw [(fx 1 (by omega) (by omega)).1]
  · intro c h1 h2
    exact (fx c (by omega) (by omega)).1
  · rw [(fx 1 (by omega) (by omega)).1]; exact e1
  · rw [m3]; exact e2
  · intro m hm'
    refine RSr_frame (hmm m hm') (Nat.le_refl _) ?_ ?_ hm.w ?_ ?_ ?_
    · intro b hb hs
      exact hX b hb (by unfold SrcT; omega)
    · rw [(fx 2 (by omega) (by omega)).2]
    · intro c hc
      rw [m1 c (by omega) (by omega)]
    · intro i hi
      rw [m1 71 (by omega) (by omega), m1 72 (by omega) (by omega)]
      exact ⟨rfl, rfl⟩
    · intro i hi
      rw [m1 74 (by omega) (by omega)]
set_option maxRecDepth 20000 in
set_option maxHeartbeats 4000000 in
theorem Only.rsc {S : Nat → Prop} {X X' : XS} {M : MS} {T : Nat → Nat} {kc rc : Nat} (h : RSc X M T kc rc) (ht : TG T) (ho : Only S X X') (hs : ∀ b, S b → 10 ≤ b ∧ b < 30) : RSc X' M T kc rc :=
  RSc_frame h ht (ho.un (fun b hb hu => by
    have q := hs b hb
    rw [ht b (by omega) (by omega) (by omega) (by omega) (by omega) (by omega) (by omega)] at hu
    unfold SrcT at hu
    omega)) ho.mo (MSrc.refl M)
/-- the method of this class and name -/
def ownM (M : MS) (rc c n : Nat) : Option Nat := (List.range rc).find? (fun m => decide (M.1 64 m = Int32.ofNat c ∧ M.1 65 m = Int32.ofNat n))
/-- the nearest one, from this class on upwards -/
def fnd (M : MS) (rc n : Nat) : Nat → Nat → Option Nat
  | 0, _ => none
  | k + 1, c => match ownM M rc c n with
    | some m => some m
    | none => if M.1 61 c = -1 then none else fnd M rc n k (M.1 61 c).toNatClampNeg
def enc (z : Int32) (o : Option Nat) : Int32 := match o with
  | some m => Int32.ofNat m
  | none => z
set_option maxRecDepth 20000 in
set_option maxHeartbeats 4000000 in
theorem ownM_some {M : MS} {rc c n m : Nat} (h : ownM M rc c n = some m) : m < rc ∧ M.1 64 m = Int32.ofNat c ∧ M.1 65 m = Int32.ofNat n ∧ ∀ j, j < m → ¬ (M.1 64 j = Int32.ofNat c ∧ M.1 65 j = Int32.ofNat n) := by
  unfold ownM at h
  rw [List.find?_range_eq_some] at h
  obtain ⟨h1, h2, h3⟩ := h
  have := of_decide_eq_true h1
  refine ⟨List.mem_range.mp h2, this.1, this.2, ?_⟩
  intro j hj
  have q := h3 j hj
  intro hh
  simp [hh] at q
set_option maxRecDepth 20000 in
set_option maxHeartbeats 4000000 in
theorem ownM_none {M : MS} {rc c n : Nat} (h : ownM M rc c n = none) : ∀ j, j < rc → ¬ (M.1 64 j = Int32.ofNat c ∧ M.1 65 j = Int32.ofNat n) := by
  unfold ownM at h
  intro j hj
  have q := List.find?_eq_none.mp h j (List.mem_range.mpr hj)
  intro hh
  simp [hh] at q
set_option maxRecDepth 20000 in
set_option maxHeartbeats 4000000 in
theorem ownM_eq {X : XS} {M : MS} {kc rc c n : Nat} (hN : RSn X M kc rc) (hc : c < 10) (hn : n < 8) : X.1 8 (c * 8 + n) = enc (-1) (ownM M rc c n) := by
  rcases hN.1 c n hc hn with ⟨h1, h2⟩ | ⟨k, h1, h2, h3, h4⟩
  · cases e : ownM M rc c n with
    | none => exact h1
    | some m =>
      have q := ownM_some e
      exact absurd ⟨q.2.1, q.2.2.1⟩ (h2 m q.1)
  · cases e : ownM M rc c n with
    | none => exact absurd ⟨h3, h4⟩ (ownM_none e k h1)
    | some m =>
      have q := ownM_some e
      have n2 : ¬ M.1 65 m = -2 := by rw [q.2.2.1, n2_eq n (by omega)]; exact not_false
      have := (hN.2.2.1 m k q.1 h1 (q.2.2.1.trans h4.symm) n2).2.2.2 (q.2.1.trans h3.symm)
      subst this
      exact h2
set_option maxRecDepth 20000 in
set_option maxHeartbeats 4000000 in
theorem nearest_ok {X : XS} {M : MS} {T : Nat → Nat} {kc rc n : Nat} (h : RSc X M T kc rc) (hn : n < 8) : ∀ j c N, c < kc → j ≤ 10 → j < N → lp (b5_Source_nearest (Int32.ofNat n) X) N (Int32.ofNat c, Int32.ofNat (10 - j)) = some (enc (-1) (fnd M rc n j c)) := by
  obtain ⟨⟨k1, k2, k3, k4⟩, hr, e1, e2, hN, hm⟩ := h
  intro j
  induction j with
  | zero =>
    intro c N hc _ hN'
    obtain ⟨N, rfl⟩ : ∃ K, N = K + 1 := ⟨N - 1, by omega⟩
    refine lp_inr ?_
    unfold b5_Source_nearest
    simp (disch := omega) only [Nat.sub_zero, o_le, o_leL, o_leR, o_lt, o_ltL, o_ltR, o_eq, o_eqL, o_eqR, o_cl, o_add, o_addL, o_addR, o_mul, o_mulL, o_mulR, o_sub, o_subR, o_0le, o_lt0, o_ixo, n1_eq, n1_eq', n1_lt, n1_le, n1_ge, n1_gt, n2_eq, n2_eq', n2_lt, n2_le, n2_ge, n2_gt, ↓reduceIte, ite_self, Nat.reduceEqDiff, Nat.reduceAdd, Nat.reduceMul, Nat.reduceSub, Nat.reduceLT, Nat.reduceLeDiff, Nat.not_lt_zero, Nat.zero_le, if_true, if_false, ite_true, ite_false, true_and, and_true, false_and, and_false, true_implies, false_implies, implies_true, not_true_eq_false, not_false_eq_true, eq_self, true_or, or_true, false_or, or_false, and_self, reduceCtorEq, forall_const]
    rfl
  | succ j ih =>
    intro c N hc hj hN'
    obtain ⟨N, rfl⟩ : ∃ K, N = K + 1 := ⟨N - 1, by omega⟩
    have ik : f_Source_isKind (Int32.ofNat c) X = true := (isKind_iff k1 k2 _).mpr ⟨c, hc, rfl⟩
    have q1 : ¬ 10 ≤ 10 - (j + 1) := by omega
    have ow := own_named (n := n) k1 k2 hc hn
    rw [ownM_eq hN (by omega) hn] at ow
    unfold fnd
    cases eo : ownM M rc c n with
    | some m =>
      have qm := ownM_some eo
      rw [eo] at ow
      have n1 : ¬ Int32.ofNat m = -1 := by rw [n1_eq m (by omega)]; exact not_false
      refine lp_inr ?_
      unfold b5_Source_nearest
      simp (disch := omega) only [ik, q1, ow, enc, n1, Option.bind_some, o_le, o_leL, o_leR, o_lt, o_ltL, o_ltR, o_eq, o_eqL, o_eqR, o_cl, o_add, o_addL, o_addR, o_mul, o_mulL, o_mulR, o_sub, o_subR, o_0le, o_lt0, o_ixo, n1_eq, n1_eq', n1_lt, n1_le, n1_ge, n1_gt, n2_eq, n2_eq', n2_lt, n2_le, n2_ge, n2_gt, ↓reduceIte, ite_self, Nat.reduceEqDiff, Nat.reduceAdd, Nat.reduceMul, Nat.reduceSub, Nat.reduceLT, Nat.reduceLeDiff, Nat.not_lt_zero, Nat.zero_le, if_true, if_false, ite_true, ite_false, true_and, and_true, false_and, and_false, true_implies, false_implies, implies_true, not_true_eq_false, not_false_eq_true, eq_self, true_or, or_true, false_or, or_false, and_self, reduceCtorEq, forall_const]
    | none =>
      rw [eo] at ow
      obtain ⟨w1, w2, w3, w4, _⟩ := k4 c hc
      have e10 : 10 - (j + 1) + 1 = 10 - j := by omega
      rw [lp_inl (y := (M.1 61 c, Int32.ofNat (10 - j))) (by
        unfold b5_Source_nearest
        simp (disch := omega) only [ik, q1, ow, enc, Option.bind_some, o_le, o_leL, o_leR, o_lt, o_ltL, o_ltR, o_eq, o_eqL, o_eqR, o_cl, o_add, o_addL, o_addR, o_mul, o_mulL, o_mulR, o_sub, o_subR, o_0le, o_lt0, o_ixo, n1_eq, n1_eq', n1_lt, n1_le, n1_ge, n1_gt, n2_eq, n2_eq', n2_lt, n2_le, n2_ge, n2_gt, ↓reduceIte, ite_self, Nat.reduceEqDiff, Nat.reduceAdd, Nat.reduceMul, Nat.reduceSub, Nat.reduceLT, Nat.reduceLeDiff, Nat.not_lt_zero, Nat.zero_le, if_true, if_false, ite_true, ite_false, true_and, and_true, false_and, and_false, true_implies, false_implies, implies_true, not_true_eq_false, not_false_eq_true, eq_self, true_or, or_true, false_or, or_false, and_self, reduceCtorEq, forall_const]
        rw [w1, e10])]
      dsimp only
      rcases w4 with w4 | ⟨d, hd, w4⟩
      · rw [w4, if_pos rfl]
        obtain ⟨N, rfl⟩ : ∃ K, N = K + 1 := ⟨N - 1, by omega⟩
        refine lp_inr ?_
        unfold b5_Source_nearest
        have nk : ¬ f_Source_isKind (-1) X = true := by
          rw [isKind_iff k1 k2]
          intro ⟨d, hd, e⟩
          rw [n1_eq' d (by omega)] at e
          exact e
        by_cases e : 10 ≤ 10 - j
        · simp (disch := omega) only [e, o_le, o_leL, o_leR, o_lt, o_ltL, o_ltR, o_eq, o_eqL, o_eqR, o_cl, o_add, o_addL, o_addR, o_mul, o_mulL, o_mulR, o_sub, o_subR, o_0le, o_lt0, o_ixo, n1_eq, n1_eq', n1_lt, n1_le, n1_ge, n1_gt, n2_eq, n2_eq', n2_lt, n2_le, n2_ge, n2_gt, ↓reduceIte, ite_self, Nat.reduceEqDiff, Nat.reduceAdd, Nat.reduceMul, Nat.reduceSub, Nat.reduceLT, Nat.reduceLeDiff, Nat.not_lt_zero, Nat.zero_le, if_true, if_false, ite_true, ite_false, true_and, and_true, false_and, and_false, true_implies, false_implies, implies_true, not_true_eq_false, not_false_eq_true, eq_self, true_or, or_true, false_or, or_false, and_self, reduceCtorEq, forall_const]
          rfl
        · simp (disch := omega) only [e, nk, o_le, o_leL, o_leR, o_lt, o_ltL, o_ltR, o_eq, o_eqL, o_eqR, o_cl, o_add, o_addL, o_addR, o_mul, o_mulL, o_mulR, o_sub, o_subR, o_0le, o_lt0, o_ixo, n1_eq, n1_eq', n1_lt, n1_le, n1_ge, n1_gt, n2_eq, n2_eq', n2_lt, n2_le, n2_ge, n2_gt, ↓reduceIte, ite_self, Nat.reduceEqDiff, Nat.reduceAdd, Nat.reduceMul, Nat.reduceSub, Nat.reduceLT, Nat.reduceLeDiff, Nat.not_lt_zero, Nat.zero_le, if_true, if_false, ite_true, ite_false, true_and, and_true, false_and, and_false, true_implies, false_implies, implies_true, not_true_eq_false, not_false_eq_true, eq_self, true_or, or_true, false_or, or_false, and_self, reduceCtorEq, forall_const]
          rfl
      · have n1 : ¬ Int32.ofNat d = -1 := by rw [n1_eq d (by omega)]; exact not_false
        rw [w4, if_neg n1, ih d N (by omega) (by omega) (by omega), o_cl d (by omega)]
theorem nearest_eq {X : XS} {M : MS} {T : Nat → Nat} {kc rc n c : Nat} (h : RSc X M T kc rc) (hn : n < 8) (hc : c < kc) : f_Source_nearest (Int32.ofNat c) (Int32.ofNat n) X = some (enc (-1) (fnd M rc n 10 c)) := nearest_ok h hn 10 c 10000 hc (by omega) (by omega)
set_option maxRecDepth 20000 in
set_option maxHeartbeats 4000000 in
theorem findIn_ok {M : MS} {kc rc n c : Nat} (e2 : M.1 60 15 = Int32.ofNat rc) (hr : rc ≤ 24) (hc : c < 10) : Wo (lp (b9_M_find (Int32.ofNat n) M (Int32.ofNat c)) 10000 (0 : Int32)) (fun r => r = match ownM M rc c n with | some m => .inr (Int32.ofNat m) | none => .inl (M.1 61 c)) := by
  refine W_lp (fun s => ∃ k, k ≤ rc ∧ s = Int32.ofNat k ∧ ∀ j, j < k → ¬ (M.1 64 j = Int32.ofNat c ∧ M.1 65 j = Int32.ofNat n)) (fun s => rc - s.toNatClampNeg) ?_ 10000 _ ⟨0, Nat.zero_le _, rfl, fun j hj => absurd hj (Nat.not_lt_zero j)⟩ (by show rc - 0 < 10000; omega)
  intro s ⟨k, hk, es, hj⟩
  subst es
  unfold b9_M_find
  by_cases hl : k < rc
  · have q : ¬ rc ≤ k := by omega
    have q2 : k < 24 := by omega
    by_cases c1 : M.1 64 k = Int32.ofNat c
    · by_cases c2 : M.1 65 k = Int32.ofNat n
      · simp (disch := omega) only [W_some, W_none, W_bind, W_ite, W_ocz, W_lt, e2, q, q2, c1, c2, o_le, o_leL, o_leR, o_lt, o_ltL, o_ltR, o_eq, o_eqL, o_eqR, o_cl, o_add, o_addL, o_addR, o_mul, o_mulL, o_mulR, o_sub, o_subR, o_0le, o_lt0, o_ixo, n1_eq, n1_eq', n1_lt, n1_le, n1_ge, n1_gt, n2_eq, n2_eq', n2_lt, n2_le, n2_ge, n2_gt, ↓reduceIte, ite_self, Nat.reduceEqDiff, Nat.reduceAdd, Nat.reduceMul, Nat.reduceSub, Nat.reduceLT, Nat.reduceLeDiff, Nat.not_lt_zero, Nat.zero_le, if_true, if_false, ite_true, ite_false, true_and, and_true, false_and, and_false, true_implies, false_implies, implies_true, not_true_eq_false, not_false_eq_true, eq_self, true_or, or_true, false_or, or_false, and_self, reduceCtorEq, forall_const]
        cases eo : ownM M rc c n with
        | none => exact absurd ⟨c1, c2⟩ (ownM_none eo k hl)
        | some m =>
          have z := ownM_some eo
          have : m = k := by
            rcases Nat.lt_trichotomy m k with h | h | h
            · exact absurd ⟨z.2.1, z.2.2.1⟩ (hj m h)
            · exact h
            · exact absurd ⟨c1, c2⟩ (z.2.2.2 k h)
          rw [this]
      · simp (disch := omega) only [W_some, W_none, W_bind, W_ite, W_ocz, W_lt, e2, q, q2, c1, c2, o_le, o_leL, o_leR, o_lt, o_ltL, o_ltR, o_eq, o_eqL, o_eqR, o_cl, o_add, o_addL, o_addR, o_mul, o_mulL, o_mulR, o_sub, o_subR, o_0le, o_lt0, o_ixo, n1_eq, n1_eq', n1_lt, n1_le, n1_ge, n1_gt, n2_eq, n2_eq', n2_lt, n2_le, n2_ge, n2_gt, ↓reduceIte, ite_self, Nat.reduceEqDiff, Nat.reduceAdd, Nat.reduceMul, Nat.reduceSub, Nat.reduceLT, Nat.reduceLeDiff, Nat.not_lt_zero, Nat.zero_le, if_true, if_false, ite_true, ite_false, true_and, and_true, false_and, and_false, true_implies, false_implies, implies_true, not_true_eq_false, not_false_eq_true, eq_self, true_or, or_true, false_or, or_false, and_self, reduceCtorEq, forall_const]
        refine ⟨⟨k + 1, by omega, rfl, ?_⟩, by omega⟩
        intro j hj' hh
        by_cases ej : j = k
        · subst ej; exact c2 hh.2
        · exact hj j (by omega) hh
    · simp (disch := omega) only [W_some, W_none, W_bind, W_ite, W_ocz, W_lt, e2, q, q2, c1, o_le, o_leL, o_leR, o_lt, o_ltL, o_ltR, o_eq, o_eqL, o_eqR, o_cl, o_add, o_addL, o_addR, o_mul, o_mulL, o_mulR, o_sub, o_subR, o_0le, o_lt0, o_ixo, n1_eq, n1_eq', n1_lt, n1_le, n1_ge, n1_gt, n2_eq, n2_eq', n2_lt, n2_le, n2_ge, n2_gt, ↓reduceIte, ite_self, Nat.reduceEqDiff, Nat.reduceAdd, Nat.reduceMul, Nat.reduceSub, Nat.reduceLT, Nat.reduceLeDiff, Nat.not_lt_zero, Nat.zero_le, if_true, if_false, ite_true, ite_false, true_and, and_true, false_and, and_false, true_implies, false_implies, implies_true, not_true_eq_false, not_false_eq_true, eq_self, true_or, or_true, false_or, or_false, and_self, reduceCtorEq, forall_const]
      refine ⟨⟨k + 1, by omega, rfl, ?_⟩, by omega⟩
      intro j hj' hh
      by_cases ej : j = k
      · subst ej; exact c1 hh.1
      · exact hj j (by omega) hh
  · have ek : k = rc := by omega
    subst ek
    simp (disch := omega) only [W_some, W_none, W_bind, W_ite, W_ocz, W_lt, e2, Nat.le_refl, hc, o_le, o_leL, o_leR, o_lt, o_ltL, o_ltR, o_eq, o_eqL, o_eqR, o_cl, o_add, o_addL, o_addR, o_mul, o_mulL, o_mulR, o_sub, o_subR, o_0le, o_lt0, o_ixo, n1_eq, n1_eq', n1_lt, n1_le, n1_ge, n1_gt, n2_eq, n2_eq', n2_lt, n2_le, n2_ge, n2_gt, ↓reduceIte, ite_self, Nat.reduceEqDiff, Nat.reduceAdd, Nat.reduceMul, Nat.reduceSub, Nat.reduceLT, Nat.reduceLeDiff, Nat.not_lt_zero, Nat.zero_le, if_true, if_false, ite_true, ite_false, true_and, and_true, false_and, and_false, true_implies, false_implies, implies_true, not_true_eq_false, not_false_eq_true, eq_self, true_or, or_true, false_or, or_false, and_self, reduceCtorEq, forall_const]
    cases eo : ownM M k c n with
    | none => rfl
    | some m =>
      have z := ownM_some eo
      exact absurd ⟨z.2.1, z.2.2.1⟩ (hj m z.1)
set_option maxRecDepth 20000 in
set_option maxHeartbeats 4000000 in
theorem find_ok {X : XS} {M : MS} {T : Nat → Nat} {kc rc n : Nat} (h : RSc X M T kc rc) : ∀ j c N, c < j → c < kc → j < N → lp (b2_M_find (Int32.ofNat n) M) N (Int32.ofNat c) = some (enc (-2) (fnd M rc n j c)) := by
  obtain ⟨⟨k1, k2, k3, k4⟩, hr, e1, e2, hN, hm⟩ := h
  intro j
  induction j with
  | zero => intro c N h; exact absurd h (Nat.not_lt_zero c)
  | succ j ih =>
    intro c N hj hc hN'
    obtain ⟨N, rfl⟩ : ∃ K, N = K + 1 := ⟨N - 1, by omega⟩
    obtain ⟨r, er, hr'⟩ := findIn_ok (kc := kc) (n := n) (c := c) e2 hr (by omega)
    unfold fnd
    cases eo : ownM M rc c n with
    | some m =>
      refine lp_inr ?_
      unfold b2_M_find
      simp (disch := omega) only [er, o_le, o_leL, o_leR, o_lt, o_ltL, o_ltR, o_eq, o_eqL, o_eqR, o_cl, o_add, o_addL, o_addR, o_mul, o_mulL, o_mulR, o_sub, o_subR, o_0le, o_lt0, o_ixo, n1_eq, n1_eq', n1_lt, n1_le, n1_ge, n1_gt, n2_eq, n2_eq', n2_lt, n2_le, n2_ge, n2_gt, ↓reduceIte, ite_self, Nat.reduceEqDiff, Nat.reduceAdd, Nat.reduceMul, Nat.reduceSub, Nat.reduceLT, Nat.reduceLeDiff, Nat.not_lt_zero, Nat.zero_le, if_true, if_false, ite_true, ite_false, true_and, and_true, false_and, and_false, true_implies, false_implies, implies_true, not_true_eq_false, not_false_eq_true, eq_self, true_or, or_true, false_or, or_false, and_self, reduceCtorEq, forall_const]
      rw [hr', eo]
      rfl
    | none =>
      obtain ⟨w1, w2, w3, w4, _⟩ := k4 c hc
      rw [lp_inl (y := M.1 61 c) (by
        unfold b2_M_find
        simp (disch := omega) only [er, o_le, o_leL, o_leR, o_lt, o_ltL, o_ltR, o_eq, o_eqL, o_eqR, o_cl, o_add, o_addL, o_addR, o_mul, o_mulL, o_mulR, o_sub, o_subR, o_0le, o_lt0, o_ixo, n1_eq, n1_eq', n1_lt, n1_le, n1_ge, n1_gt, n2_eq, n2_eq', n2_lt, n2_le, n2_ge, n2_gt, ↓reduceIte, ite_self, Nat.reduceEqDiff, Nat.reduceAdd, Nat.reduceMul, Nat.reduceSub, Nat.reduceLT, Nat.reduceLeDiff, Nat.not_lt_zero, Nat.zero_le, if_true, if_false, ite_true, ite_false, true_and, and_true, false_and, and_false, true_implies, false_implies, implies_true, not_true_eq_false, not_false_eq_true, eq_self, true_or, or_true, false_or, or_false, and_self, reduceCtorEq, forall_const]
        rw [hr', eo])]
      dsimp only
      rcases w4 with w4 | ⟨d, hd, w4⟩
      · rw [w4, if_pos rfl]
        obtain ⟨N, rfl⟩ : ∃ K, N = K + 1 := ⟨N - 1, by omega⟩
        exact lp_inr rfl
      · have n1 : ¬ Int32.ofNat d = -1 := by rw [n1_eq d (by omega)]; exact not_false
        rw [w4, if_neg n1, ih d N (by omega) (by omega) (by omega), o_cl d (by omega)]
theorem find_eq {X : XS} {M : MS} {T : Nat → Nat} {kc rc n c : Nat} (h : RSc X M T kc rc) (hc : c < kc) : f_M_find (Int32.ofNat c) (Int32.ofNat n) M = some (enc (-2) (fnd M rc n 10 c)) := by
  have k1 := h.1.1
  exact find_ok h 10 c 10000 (by omega) hc (by omega)
