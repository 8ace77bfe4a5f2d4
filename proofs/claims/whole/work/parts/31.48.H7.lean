/-! H7 -/
set_option maxRecDepth 20000 in
set_option maxHeartbeats 4000000 in
theorem hasK_iff {Mr : MS} {kc rc : Nat} {X : XS} {T : Nat → Nat} (h : EX Mr kc rc X T) {c : Nat} (hc : c < 10) : (f_Reach_hasKind (Int32.ofNat c) X = true) ↔ fm Mr 77 c := by
  obtain ⟨h1, h2, h3, h4⟩ := h
  have hk := isKind_iff h1.1.1 h1.1.2.1 (Int32.ofNat c)
  rw [← h3.2.2.1 c hc]
  unfold f_Reach_hasKind fl
  by_cases q : c < kc
  · have : f_Source_isKind (Int32.ofNat c) X = true := by rw [hk]; exact ⟨c, q, rfl⟩
    rw [if_pos this, o_cl c (by omega)]
    by_cases z : X.1 15 c = 0 <;> simp [z]
  · have : ¬ f_Source_isKind (Int32.ofNat c) X = true := by
      rw [hk]
      rintro ⟨d, hd, e⟩
      have := h1.1.1
      rw [o_eq c d (by omega) (by omega)] at e
      omega
    rw [if_neg this]
    constructor
    · intro x; cases x
    · intro x
      have := h3.2.2.2.1 c hc ((h3.2.2.1 c hc).mp x)
      omega
set_option maxRecDepth 20000 in
set_option maxHeartbeats 4000000 in
theorem nK_eq {Mr : MS} {kc rc : Nat} {X : XS} {T : Nat → Nat} (h : EX Mr kc rc X T) {c : Nat} (hc : c < 10) (hw : fm Mr 77 c) : f_Reach_newKind (Int32.ofNat c) X = Mr.1 80 c := by
  unfold f_Reach_newKind
  rw [if_pos ((hasK_iff h hc).mpr hw), o_cl c (by omega)]
  exact h.2.2.1.2.2.2.2.2.2.1 c hc hw
theorem nK_neg {Mr : MS} {kc rc : Nat} {X : XS} {T : Nat → Nat} (h : EX Mr kc rc X T) : f_Reach_newKind (-1) X = 255 := by
  unfold f_Reach_newKind f_Reach_hasKind f_Source_isKind
  rfl
theorem hasR_q {Mr : MS} {kc rc : Nat} {X : XS} {T : Nat → Nat} (h : EX Mr kc rc X T) {m : Nat} (hm : m < 24) : (f_Reach_hasRoutine (Int32.ofNat m) X = true) ↔ fm Mr 75 m := hasR_same h.1 h.2.2.1 hm
set_option maxRecDepth 20000 in
set_option maxHeartbeats 4000000 in
theorem nR_eq {Mr : MS} {kc rc : Nat} {X : XS} {T : Nat → Nat} (h : EX Mr kc rc X T) {m : Nat} (hm : m < 24) (hw : fm Mr 75 m) : f_Reach_newRoutine (Int32.ofNat m) X = Mr.1 79 m := by
  unfold f_Reach_newRoutine
  rw [if_pos ((hasR_q h hm).mpr hw), o_cl m (by omega)]
  exact h.2.2.1.2.2.2.2.2.2.2 m hm hw
/-- a method's number in the image -/
def mnum (M : MS) (o : Option Nat) : Int32 := match o with
  | none => 255
  | some r => if M.1 75 r = 0 then 255 else M.1 79 r
set_option maxRecDepth 20000 in
set_option maxHeartbeats 4000000 in
theorem nR_enc {Mr : MS} {kc rc : Nat} {X : XS} {T : Nat → Nat} (h : EX Mr kc rc X T) (o : Option Nat) (ho : ∀ r, o = some r → r < rc) : f_Reach_newRoutine (enc (-1) o) X = mnum Mr o := by
  cases o with
  | none =>
    unfold f_Reach_newRoutine f_Reach_hasRoutine f_Source_isRoutine
    rfl
  | some r =>
    have hr := ho r rfl
    have := h.1.2.1
    show f_Reach_newRoutine (Int32.ofNat r) X = if Mr.1 75 r = 0 then 255 else Mr.1 79 r
    by_cases z : Mr.1 75 r = 0
    · rw [if_pos z]
      unfold f_Reach_newRoutine
      rw [if_neg (fun q => ((hasR_q h (by omega)).mp q) z)]
    · rw [if_neg z]
      exact nR_eq h (by omega) z
def kindL (M : MS) (rc c : Nat) : List Int32 := [if M.1 61 c = -1 then 255 else M.1 80 (M.1 61 c).toNatClampNeg, allN M 62 10 c, allN M 63 10 c] ++ cat (fun n => [mnum M (fnd M rc n 10 c)]) 8
set_option maxRecDepth 20000 in
set_option maxHeartbeats 4000000 in
theorem cat_len (f : Nat → List Int32) (k : Nat) : ∀ n, (∀ i, i < n → (f i).length = k) → (cat f n).length = k * n := by
  intro n
  induction n with
  | zero => intro _; rfl
  | succ n ih =>
    intro h
    show (cat f n ++ f n).length = _
    rw [List.length_append, ih (fun i hi => h i (by omega)), h n (by omega), Nat.mul_succ]
set_option maxRecDepth 20000 in
set_option maxHeartbeats 4000000 in
theorem kindL_len (M : MS) (rc c : Nat) : (kindL M rc c).length = 11 := by
  unfold kindL
  rw [List.length_append, cat_len _ 1 8 (fun i _ => rfl)]
  rfl
set_option maxRecDepth 20000 in
set_option maxHeartbeats 4000000 in
theorem aboveX {Mr : MS} {kc rc : Nat} {X : XS} {T : Nat → Nat} {main : Nat} (h : EX Mr kc rc X T) (hl : LkR Mr kc rc main) {c : Nat} (hc : c < kc) (hw : fm Mr 77 c) : f_Reach_newKind (f_Source_above (Int32.ofNat c) X) X = if Mr.1 61 c = -1 then 255 else Mr.1 80 (Mr.1 61 c).toNatClampNeg := by
  have hk10 := h.1.1.1
  have ik : f_Source_isKind (Int32.ofNat c) X = true := by rw [isKind_iff h.1.1.1 h.1.1.2.1]; exact ⟨c, hc, rfl⟩
  unfold f_Source_above
  rw [if_pos ik, o_cl c (by omega)]
  obtain ⟨h1, h2, h3, h4, _⟩ := h.1.1.2.2.2 c hc
  rw [h1]
  rcases h4 with e | ⟨d, hd, e⟩
  · rw [e, if_pos rfl]
    exact nK_neg h
  · have q : ¬ (Int32.ofNat d = -1) := by rw [n1_eq d (by omega)]; simp
    have hw' := hl.2.2.2.2.2.1 c d hc hw e (by omega)
    rw [e, if_neg q, o_cl d (by omega)]
    exact nK_eq h (by omega) hw'
set_option maxRecDepth 20000 in
set_option maxHeartbeats 4000000 in
theorem writeKind_q {Mr : MS} {kc rc main : Nat} {X0 X : XS} {T0 T : Nat → Nat} {l : List Int32} {o hd nm sk : Nat → Int32} (hR : LkR Mr kc rc main) (h : QX Mr kc rc X0 T0 X T l o hd nm sk) (hl : l.length + 11 ≤ 5663) {c : Nat} (hc : c < kc) (hw : fm Mr 77 c) {β : Type} {k : XS → Option β} {R : β → Prop} (hk : ∀ X' T', QX Mr kc rc X0 T0 X' T' (l ++ kindL Mr rc c) o hd nm (upd sk (cnt (fmB Mr 77) c) (Int32.ofNat c)) → Wo (k X') R) : Wo ((f_Linker_writeKind_30 (Int32.ofNat c) X).bind k) R := by
  have hk10 := h.1.1.1.1
  have c10 : c < 10 := by omega
  have n80 : Mr.1 80 c = Int32.ofNat (cnt (fmB Mr 77) c) := hR.2.2.2.2.2.2.2.2.2.1 c hc
  have ncl := cnt_max (fmB Mr 77) c
  generalize hN : cnt (fmB Mr 77) c = N at *
  unfold f_Linker_writeKind_30
  rw [nK_eq h.1 c10 hw, n80]
  unfold f_Image_noteSourceKind_30
  have q1 : N ≤ 9 := by omega
  simp (disch := omega) only [q1, lt, Option.bind_some, Option.bind_assoc, o_le, o_leL, o_leR, o_lt, o_ltL, o_ltR, o_eq, o_eqL, o_eqR, o_cl, o_add, o_addL, o_addR, o_mul, o_mulL, o_mulR, o_sub, o_subR, o_0le, o_lt0, o_ixo, n1_eq, n1_eq', n1_lt, n1_le, n1_ge, n1_gt, n2_eq, n2_eq', n2_lt, n2_le, n2_ge, n2_gt, ↓reduceIte, ite_self, Nat.reduceEqDiff, Nat.reduceAdd, Nat.reduceMul, Nat.reduceSub, Nat.reduceLT, Nat.reduceLeDiff, Nat.not_lt_zero, Nat.zero_le, if_true, if_false, ite_true, ite_false, true_and, and_true, false_and, and_false, true_implies, false_implies, implies_true, not_true_eq_false, not_false_eq_true, eq_self, true_or, or_true, false_or, or_false, and_self, reduceCtorEq, forall_const]
  have qx : QX Mr kc rc X0 T0 (xw X 34 N (Int32.ofNat c)) T l o hd nm (upd sk N (Int32.ofNat c)) := by
    obtain ⟨h1, ⟨b, L, h2, h3⟩, h4, h5, h6, h7, h8, h9⟩ := h
    have hu : Un (fun t => ¬ WrT t) T X (xw X 34 N (Int32.ofNat c)) := xw_un (fun _ _ _ => ⟨rfl, rfl⟩) (by rw [h1.2.1 34 (by omega) (by omega) (by omega) (by omega) (by omega) (by omega) (by omega)]; unfold WrT; omega) rfl
    have hm : Mo T T X (xw X 34 N (Int32.ofNat c)) := Mo.id T rfl
    have nb : b ≠ 34 := by
      intro e
      have := h2.2.2.2.2.2
      rw [e, h1.2.1 34 (by omega) (by omega) (by omega) (by omega) (by omega) (by omega) (by omega)] at this
      omega
    refine ⟨EX_frame h1 hu hm h1.2.1, ⟨b, L, ⟨?_, h2.2⟩, ?_⟩, ?_, ?_, ?_, ?_, h8.trans hm, h9.trans h8 hu⟩
    · rw [xw_ne _ _ _ _ (by omega)]; exact h2.1
    · intro j hj; rw [xw_ne _ _ _ _ nb]; exact h3 j hj
    · rw [xw_ne _ _ _ _ (by omega)]; exact h4
    · rw [xw_ne _ _ _ _ (by omega)]; exact h5
    · rw [xw_ne _ _ _ _ (by omega)]; exact h6
    · rw [← h7]
      funext j
      rw [xw1]
      unfold upd
      simp
  rw [aboveX qx.1 hR hc hw]
  refine put_q qx (by omega) _ ?_
  intro X1 T1 q1
  have ik1 : f_Source_isKind (Int32.ofNat c) X1 = true := by rw [isKind_iff q1.1.1.1.1 q1.1.1.1.2.1]; exact ⟨c, hc, rfl⟩
  have e1 : f_Source_allInts (Int32.ofNat c) X1 = allN Mr 62 10 c := by
    unfold f_Source_allInts
    rw [if_pos ik1, o_cl c (by omega)]
    exact (all_X q1.1.1.1 10 c (by omega) hc).1
  dsimp only
  rw [e1]
  refine put_q q1 (by simp only [List.length_append, List.length_singleton]; omega) _ ?_
  intro X2 T2 q2
  have ik2 : f_Source_isKind (Int32.ofNat c) X2 = true := by rw [isKind_iff q2.1.1.1.1 q2.1.1.1.2.1]; exact ⟨c, hc, rfl⟩
  have e2 : f_Source_allRefs (Int32.ofNat c) X2 = allN Mr 63 10 c := by
    unfold f_Source_allRefs
    rw [if_pos ik2, o_cl c (by omega)]
    exact (all_X q2.1.1.1 10 c (by omega) hc).2
  dsimp only
  rw [e2]
  refine put_q q2 (by simp only [List.length_append, List.length_singleton]; omega) _ ?_
  intro X3 T3 q3
  dsimp only
  rw [W_bind]
  simp only [List.append_assoc] at q3
  refine W_lp (fun p => ∃ n T', n ≤ 8 ∧ p.1 = Int32.ofNat n ∧ QX Mr kc rc X0 T0 p.2 T' (l ++ ([if Mr.1 61 c = -1 then 255 else Mr.1 80 (Mr.1 61 c).toNatClampNeg, allN Mr 62 10 c, allN Mr 63 10 c] ++ cat (fun n => [mnum Mr (fnd Mr rc n 10 c)]) n)) o hd nm (upd sk N (Int32.ofNat c))) (fun p => 8 - p.1.toNatClampNeg) ?_ 10000 _ ⟨0, T3, by omega, rfl, by show QX Mr kc rc X0 T0 X3 T3 (l ++ ([_, _, _] ++ [])) _ _ _ _; rw [List.append_nil]; exact q3⟩ (by show 8 - 0 < 10000; omega)
  intro p ⟨n, T', hn, ep, hq⟩
  unfold b61_Linker_writeKind_30
  by_cases hl8 : n < 8
  · have q1 : ¬ 8 ≤ n := by omega
    rw [ep]
    simp (disch := omega) only [q1, nearest_eq hq.1.1 hl8 hc, Option.bind_some, o_le, o_leL, o_leR, o_lt, o_ltL, o_ltR, o_eq, o_eqL, o_eqR, o_cl, o_add, o_addL, o_addR, o_mul, o_mulL, o_mulR, o_sub, o_subR, o_0le, o_lt0, o_ixo, n1_eq, n1_eq', n1_lt, n1_le, n1_ge, n1_gt, n2_eq, n2_eq', n2_lt, n2_le, n2_ge, n2_gt, ↓reduceIte, ite_self, Nat.reduceEqDiff, Nat.reduceAdd, Nat.reduceMul, Nat.reduceSub, Nat.reduceLT, Nat.reduceLeDiff, Nat.not_lt_zero, Nat.zero_le, if_true, if_false, ite_true, ite_false, true_and, and_true, false_and, and_false, true_implies, false_implies, implies_true, not_true_eq_false, not_false_eq_true, eq_self, true_or, or_true, false_or, or_false, and_self, reduceCtorEq, forall_const]
    rw [nR_enc hq.1 _ (fun r e => fnd_lt _ _ e)]
    refine put_q hq (by simp only [List.length_append, cat_len (fun n => [mnum Mr (fnd Mr rc n 10 c)]) 1 n (fun i _ => rfl), List.length_cons, List.length_nil]; omega) _ ?_
    intro X4 T4 q4
    rw [W_some]
    refine ⟨⟨n + 1, T4, by omega, rfl, ?_⟩, by simp (disch := omega) only [o_le, o_leL, o_leR, o_lt, o_ltL, o_ltR, o_eq, o_eqL, o_eqR, o_cl, o_add, o_addL, o_addR, o_mul, o_mulL, o_mulR, o_sub, o_subR, o_0le, o_lt0, o_ixo, n1_eq, n1_eq', n1_lt, n1_le, n1_ge, n1_gt, n2_eq, n2_eq', n2_lt, n2_le, n2_ge, n2_gt, ↓reduceIte, ite_self, Nat.reduceEqDiff, Nat.reduceAdd, Nat.reduceMul, Nat.reduceSub, Nat.reduceLT, Nat.reduceLeDiff, Nat.not_lt_zero, Nat.zero_le, if_true, if_false, ite_true, ite_false, true_and, and_true, false_and, and_false, true_implies, false_implies, implies_true, not_true_eq_false, not_false_eq_true, eq_self, true_or, or_true, false_or, or_false, and_self, reduceCtorEq, forall_const]; omega⟩
    simp only [List.append_assoc] at q4
    exact q4
  · have en : n = 8 := by omega
    subst en
    rw [ep]
    simp (disch := omega) only [Nat.le_refl, W_some, Option.bind_some, o_le, o_leL, o_leR, o_lt, o_ltL, o_ltR, o_eq, o_eqL, o_eqR, o_cl, o_add, o_addL, o_addR, o_mul, o_mulL, o_mulR, o_sub, o_subR, o_0le, o_lt0, o_ixo, n1_eq, n1_eq', n1_lt, n1_le, n1_ge, n1_gt, n2_eq, n2_eq', n2_lt, n2_le, n2_ge, n2_gt, ↓reduceIte, ite_self, Nat.reduceEqDiff, Nat.reduceAdd, Nat.reduceMul, Nat.reduceSub, Nat.reduceLT, Nat.reduceLeDiff, Nat.not_lt_zero, Nat.zero_le, if_true, if_false, ite_true, ite_false, true_and, and_true, false_and, and_false, true_implies, false_implies, implies_true, not_true_eq_false, not_false_eq_true, eq_self, true_or, or_true, false_or, or_false, and_self, reduceCtorEq, forall_const]
    exact hk p.2 T' hq
