/-! J9 -/
/-- what a call by name takes -/
def nmF (M : MS) (rc n : Nat) : Int32 := match anyM M rc n with
  | none => 1
  | some r => tkn M r
set_option maxRecDepth 20000 in
set_option maxHeartbeats 4000000 in
theorem noteNames_q {Mr : MS} {kc rc : Nat} {X : XS} {T : Nat → Nat} (h : EX Mr kc rc X T) : Wo (f_Linker_noteNames_30 X) (fun X' => Only (fun a => a = 33) X X' ∧ ∀ n, n < 8 → X'.1 33 n = nmF Mr rc n) := by
  have hr24 := h.1.2.1
  unfold f_Linker_noteNames_30
  rw [W_bind]
  refine W_lp (fun p => ∃ n, n ≤ 8 ∧ p.1 = Int32.ofNat n ∧ Only (fun a => a = 33) X p.2 ∧ ∀ i, i < n → p.2.1 33 i = nmF Mr rc i) (fun p => 8 - p.1.toNatClampNeg) ?_ 10000 _ ⟨0, by omega, rfl, Only.refl X, fun c hc => absurd hc (Nat.not_lt_zero c)⟩ (by show 8 - 0 < 10000; omega)
  rintro ⟨p1, X1⟩ ⟨n, hn, e1, ho, hf⟩
  dsimp only at e1 ho hf
  subst e1
  unfold b2_Linker_noteNames_30
  dsimp only
  have t33 := h.2.1 33 (by omega) (by omega) (by omega) (by omega) (by omega) (by omega) (by omega)
  have hx : EX Mr kc rc X1 T := EX_frame h (ho.un (fun b hb q => q (by rw [hb, t33]; unfold WrT; omega))) ho.mo h.2.1
  by_cases hl : n < 8
  · have n7 : n ≤ 7 := by omega
    have nx : ∀ v, v = nmF Mr rc n → ∀ Q : (Int32 × XS) ⊕ (Int32 × XS) → Prop, (∀ X', Only (fun a => a = 33) X X' → (∀ i, i < n + 1 → X'.1 33 i = nmF Mr rc i) → Q (.inl (Int32.ofNat n + 1, X'))) → Wo ((f_Image_noteTaken_30 (Int32.ofNat n) v X1).bind fun x20 => some (Sum.inl (Int32.ofNat n + 1, x20) : (Int32 × XS) ⊕ (Int32 × XS))) Q := by
      intro v hv Q hQ
      unfold f_Image_noteTaken_30
      simp (disch := omega) only [n7, lt, Option.bind_some, W_some, o_le, o_leL, o_leR, o_lt, o_ltL, o_ltR, o_eq, o_eqL, o_eqR, o_cl, o_add, o_addL, o_addR, o_mul, o_mulL, o_mulR, o_sub, o_subR, o_0le, o_lt0, o_ixo, n1_eq, n1_eq', n1_lt, n1_le, n1_ge, n1_gt, n2_eq, n2_eq', n2_lt, n2_le, n2_ge, n2_gt, ↓reduceIte, ite_self, Nat.reduceEqDiff, Nat.reduceAdd, Nat.reduceMul, Nat.reduceSub, Nat.reduceLT, Nat.reduceLeDiff, Nat.not_lt_zero, Nat.zero_le, if_true, if_false, ite_true, ite_false, true_and, and_true, false_and, and_false, true_implies, false_implies, implies_true, not_true_eq_false, not_false_eq_true, eq_self, true_or, or_true, false_or, or_false, and_self, reduceCtorEq, forall_const]
      rw [o_addR] at hQ
      refine hQ _ (ho.xw rfl _ _) ?_
      intro i hi
      by_cases e : i = n
      · subst e
        simp (disch := omega) only [xTw, xLw, xAw, xTp, xLp, xAp, xTc, xLc, xAc, xAn, xTn, xLn, xw1, xw2, xp1, xp2, xp3, mw1, mw2, xn1, xn2, xc1, xc2, o_le, o_leL, o_leR, o_lt, o_ltL, o_ltR, o_eq, o_eqL, o_eqR, o_cl, o_add, o_addL, o_addR, o_mul, o_mulL, o_mulR, o_sub, o_subR, o_0le, o_lt0, o_ixo, n1_eq, n1_eq', n1_lt, n1_le, n1_ge, n1_gt, n2_eq, n2_eq', n2_lt, n2_le, n2_ge, n2_gt, ↓reduceIte, ite_self, Nat.reduceEqDiff, Nat.reduceAdd, Nat.reduceMul, Nat.reduceSub, Nat.reduceLT, Nat.reduceLeDiff, Nat.not_lt_zero, Nat.zero_le, if_true, if_false, ite_true, ite_false, true_and, and_true, false_and, and_false, true_implies, false_implies, implies_true, not_true_eq_false, not_false_eq_true, eq_self, true_or, or_true, false_or, or_false, and_self, reduceCtorEq, forall_const]
        exact hv
      · simp (disch := omega) only [xTw, xLw, xAw, xTp, xLp, xAp, xTc, xLc, xAc, xAn, xTn, xLn, xw1, xw2, xp1, xp2, xp3, mw1, mw2, xn1, xn2, xc1, xc2, e, o_le, o_leL, o_leR, o_lt, o_ltL, o_ltR, o_eq, o_eqL, o_eqR, o_cl, o_add, o_addL, o_addR, o_mul, o_mulL, o_mulR, o_sub, o_subR, o_0le, o_lt0, o_ixo, n1_eq, n1_eq', n1_lt, n1_le, n1_ge, n1_gt, n2_eq, n2_eq', n2_lt, n2_le, n2_ge, n2_gt, ↓reduceIte, ite_self, Nat.reduceEqDiff, Nat.reduceAdd, Nat.reduceMul, Nat.reduceSub, Nat.reduceLT, Nat.reduceLeDiff, Nat.not_lt_zero, Nat.zero_le, if_true, if_false, ite_true, ite_false, true_and, and_true, false_and, and_false, true_implies, false_implies, implies_true, not_true_eq_false, not_false_eq_true, eq_self, true_or, or_true, false_or, or_false, and_self, reduceCtorEq, forall_const]
        exact hf i (by omega)
    have fin : ∀ X', Only (fun a => a = 33) X X' → (∀ i, i < n + 1 → X'.1 33 i = nmF Mr rc i) → (∃ k, k ≤ 8 ∧ (Int32.ofNat n + 1, X').1 = Int32.ofNat k ∧ Only (fun a => a = 33) X (Int32.ofNat n + 1, X').2 ∧ ∀ i, i < k → (Int32.ofNat n + 1, X').2.1 33 i = nmF Mr rc i) ∧ 8 - (Int32.ofNat n + 1).toNatClampNeg < 8 - (Int32.ofNat n).toNatClampNeg := fun X' h1 h2 => ⟨⟨n + 1, by omega, o_addR n 1, h1, h2⟩, by simp (disch := omega) only [o_le, o_leL, o_leR, o_lt, o_ltL, o_ltR, o_eq, o_eqL, o_eqR, o_cl, o_add, o_addL, o_addR, o_mul, o_mulL, o_mulR, o_sub, o_subR, o_0le, o_lt0, o_ixo, n1_eq, n1_eq', n1_lt, n1_le, n1_ge, n1_gt, n2_eq, n2_eq', n2_lt, n2_le, n2_ge, n2_gt, ↓reduceIte, ite_self, Nat.reduceEqDiff, Nat.reduceAdd, Nat.reduceMul, Nat.reduceSub, Nat.reduceLT, Nat.reduceLeDiff, Nat.not_lt_zero, Nat.zero_le, if_true, if_false, ite_true, ite_false, true_and, and_true, false_and, and_false, true_implies, false_implies, implies_true, not_true_eq_false, not_false_eq_true, eq_self, true_or, or_true, false_or, or_false, and_self, reduceCtorEq, forall_const]; omega⟩
    refine We (by simp (disch := omega) only [o_le, o_leL, o_leR, o_lt, o_ltL, o_ltR, o_eq, o_eqL, o_eqR, o_cl, o_add, o_addL, o_addR, o_mul, o_mulL, o_mulR, o_sub, o_subR, o_0le, o_lt0, o_ixo, n1_eq, n1_eq', n1_lt, n1_le, n1_ge, n1_gt, n2_eq, n2_eq', n2_lt, n2_le, n2_ge, n2_gt, ↓reduceIte, ite_self, Nat.reduceEqDiff, Nat.reduceAdd, Nat.reduceMul, Nat.reduceSub, Nat.reduceLT, Nat.reduceLeDiff, Nat.not_lt_zero, Nat.zero_le, if_true, if_false, ite_true, ite_false, true_and, and_true, false_and, and_false, true_implies, false_implies, implies_true, not_true_eq_false, not_false_eq_true, eq_self, true_or, or_true, false_or, or_false, and_self, reduceCtorEq, forall_const]; omega) ?_
    rw [anyX hx.1.2.2.2.2.1 hl]
    cases ha : anyM Mr rc n with
    | none =>
      refine We (fun q => by have e : f_Source_isRoutine (enc (-1) none) X1 = false := rfl
                             rw [e] at q
                             cases q) ?_
      exact nx 1 (by unfold nmF; rw [ha]) _ fin
    | some r =>
      obtain ⟨r1, r2, r3⟩ := anyM_some ha
      obtain ⟨a, f, ra, rv⟩ := hx.1.2.2.2.2.2 r r1
      refine Wi (isRoutine_of hr24 hx.1.2.2.1 r1 ra.1) (Wz (by show X1.2.1 2 (Int32.ofNat r).toNatClampNeg = some a; rw [o_cl r (by omega)]; exact ra.1) (Wi ra.2.1 ?_))
      rw [taken_q ra rv]
      simp only [Option.bind_some]
      exact nx _ (by unfold nmF; rw [ha]) _ fin
  · have en : n = 8 := by omega
    subst en
    refine Wi (by decide) ?_
    rw [W_some]
    show Wo (some _) _
    rw [W_some]
    exact ⟨ho, hf⟩
def hdrL (M : MS) (main : Nat) : List Int32 := [80, 77, M.1 60 23, M.1 60 22, M.1 79 main] ++ w2 0 ++ w2 0
def baseN (M : MS) : Nat := 9 + 11 * cnt (fmB M 77) 10 + sumR M (hbF M) 24
/-- the image, before it is sealed -/
def imgL (M : MS) (rc main : Nat) : List Int32 := hdrL M main ++ kindsL M rc 10 ++ headsL M (baseN M) 24 ++ codesL M 24
set_option maxRecDepth 20000 in
set_option maxHeartbeats 4000000 in
theorem imgL_len (M : MS) (rc main : Nat) : (imgL M rc main).length = baseN M + sumR M (cdF M) 24 := by
  unfold imgL baseN
  simp only [List.length_append, kindsL_len, headsL_len, codesL_len]
  rfl
theorem bt_byte (l : List Int32) : ∀ j, j < l.length → ∃ k, k < 256 ∧ bt l j = Int32.ofNat k := fun j _ => byte_of _
/-- what lies in the image after a link -/
def ImO (Mr : MS) (rc main : Nat) (X : XS) (T : Nat → Nat) : Prop := ∃ b L, IMG 30 1 X T (imgL Mr rc main).length b L ∧ (∀ j, j < (imgL Mr rc main).length → X.1 b j = sealB (bt (imgL Mr rc main)) (imgL Mr rc main).length j) ∧ (∀ m, m < 24 → fm Mr 75 m → X.1 32 (cnt (fmB Mr 75) m) = Int32.ofNat (9 + 11 * cnt (fmB Mr 77) 10 + sumR Mr (hbF Mr) m)) ∧ (∀ n, n < 8 → X.1 33 n = nmF Mr rc n) ∧ (∀ c, c < 10 → fm Mr 77 c → X.1 34 (cnt (fmB Mr 77) c) = Int32.ofNat c)
set_option maxRecDepth 20000 in
set_option maxHeartbeats 4000000 in
theorem write_X {Mr : MS} {kc rc main : Nat} {X : XS} {T : Nat → Nat} {n0 b0 L0 : Nat} (hT : LkT Mr kc rc) (hR : LkR Mr kc rc main) (h : EX Mr kc rc X T) (h0 : IMG 30 1 X T n0 b0 L0) : Wo (f_Linker_write_30 (Int32.ofNat main) X) (fun X' => ∃ T', EX Mr kc rc X' T' ∧ ImO Mr rc main X' T' ∧ Mo T T' X X' ∧ Un (fun t => ¬ WrT t) T X X') := by
  have hk10 := h.1.1.1
  have hr24 := h.1.2.1
  have hX0 : ∀ m, m < rc → ∃ a, X.2.1 2 m = some a := fun m hm => by
    obtain ⟨a, f, ra, rv⟩ := h.1.2.2.2.2.2 m hm
    exact ⟨a, ra.1⟩
  have ck : cnt (fmB Mr 77) 10 = cnt (fmB Mr 77) kc := cnt_ext kc 10 hk10 (fun m h1 h2 hf => by have := hR.2.2.2.1 m h2 (fmB_iff.mp hf); omega)
  have ckl := cnt_max (fmB Mr 77) 10
  have hbl := hb_le hT 24 (by omega)
  have cdl := cd_le hT 24 (by omega)
  have q0 : QX Mr kc rc X T (xw X 30 0 0) T [] (X.1 13) (X.1 32) (X.1 33) (X.1 34) := by
    have t30 := h.2.1 30 (by omega) (by omega) (by omega) (by omega) (by omega) (by omega) (by omega)
    have hu : Un (fun t => ¬ WrT t) T X (xw X 30 0 0) := xw_un (fun _ _ _ => ⟨rfl, rfl⟩) (by rw [t30]; unfold WrT; omega) rfl
    have hm : Mo T T X (xw X 30 0 0) := Mo.id T rfl
    refine ⟨EX_frame h hu hm h.2.1, ⟨b0, L0, ⟨by rw [xw1]; simp, h0.2.1, h0.2.2.1, Nat.zero_le _, h0.2.2.2.2⟩, fun j hj => absurd hj (Nat.not_lt_zero j)⟩, ?_, ?_, ?_, ?_, hm, hu⟩ <;> exact xw_ne _ _ _ _ (by omega)
  unfold f_Linker_write_30 f_Image_clear_30
  simp only [lt, Option.bind_some]
  refine put_q q0 (by decide) _ ?_
  intro X1 T1 q1
  refine put_q q1 (by decide) _ ?_
  intro X2 T2 q2
  refine put_q q2 (by decide) _ ?_
  intro X3 T3 q3
  rw [q2.1.2.2.1.2.2.2.2.1] at q3
  refine put_q q3 (by show 3 < _; omega) _ ?_
  intro X4 T4 q4
  rw [q3.1.2.2.1.2.2.2.2.2.1] at q4
  refine put_q q4 (by show 4 < _; omega) _ ?_
  intro X5 T5 q5
  rw [nR_eq q4.1 (by have := hR.1; omega) hR.2.1] at q5
  refine two_q q5 (by show 5 + 1 < _; omega) _ ?_
  intro X6 T6 q6
  refine two_q q6 (by show 7 + 1 < _; omega) _ ?_
  intro X7 T7 q7
  have q7' : QX Mr kc rc X T X7 T7 (hdrL Mr main) (X.1 13) (X.1 32) (X.1 33) (X.1 34) := q7
  refine kindsX hR q7' (by show 9 + 110 ≤ _; omega) ?_
  intro z X8 T8 sk q8 hsk
  have l8 : (hdrL Mr main ++ kindsL Mr rc 10).length = 9 + 11 * cnt (fmB Mr 77) 10 := by rw [List.length_append, kindsL_len]; rfl
  dsimp only
  rw [headBytes_q hT q8 hX0]
  simp only [Option.bind_some]
  have eb : (9 + 11 * X8.1 14 0) + Int32.ofNat (sumR Mr (hbF Mr) 24) = Int32.ofNat (baseN Mr) := by
    rw [q8.1.2.2.1.2.2.2.2.1, hR.2.2.2.2.2.2.2.1, ← ck]
    unfold baseN
    simp (disch := omega) only [o_le, o_leL, o_leR, o_lt, o_ltL, o_ltR, o_eq, o_eqL, o_eqR, o_cl, o_add, o_addL, o_addR, o_mul, o_mulL, o_mulR, o_sub, o_subR, o_0le, o_lt0, o_ixo, n1_eq, n1_eq', n1_lt, n1_le, n1_ge, n1_gt, n2_eq, n2_eq', n2_lt, n2_le, n2_ge, n2_gt, ↓reduceIte, ite_self, Nat.reduceEqDiff, Nat.reduceAdd, Nat.reduceMul, Nat.reduceSub, Nat.reduceLT, Nat.reduceLeDiff, Nat.not_lt_zero, Nat.zero_le, if_true, if_false, ite_true, ite_false, true_and, and_true, false_and, and_false, true_implies, false_implies, implies_true, not_true_eq_false, not_false_eq_true, eq_self, true_or, or_true, false_or, or_false, and_self, reduceCtorEq, forall_const]
  rw [eb]
  refine headsX hT hR q8 hX0 (by rw [l8]; omega) (baseN Mr) ?_
  intro z1 z2 X9 T9 o9 hd9 q9 hhd
  have l9 : (hdrL Mr main ++ kindsL Mr rc 10 ++ headsL Mr (baseN Mr) 24).length = baseN Mr := by
    rw [List.length_append, l8, headsL_len]
    rfl
  dsimp only
  refine codesX hT hR q9 hX0 (by rw [l9]; unfold baseN; omega) ?_
  intro z3 X10 T10 o10 q10
  dsimp only
  have q10' : QX Mr kc rc X T X10 T10 (imgL Mr rc main) o10 hd9 (X.1 33) sk := q10
  obtain ⟨p1, ⟨b, L, p2, p3⟩, p4, p5, p6, p7, p8, p9⟩ := q10'
  have ll := imgL_len Mr rc main
  have lb : (imgL Mr rc main).length ≤ 5663 ∧ 9 ≤ (imgL Mr rc main).length := by
    rw [ll]
    unfold baseN
    omega
  rw [W_bind]
  refine Wo.mono (seal_q p2 p1.2.1 lb.1 lb.2 p3 (bt_byte _)) ?_
  rintro X11 ⟨s1, s2, s3⟩
  have tb : T10 b = 1 := p2.2.2.2.2.2
  have u11 : Un (fun t => ¬ WrT t) T10 X10 X11 := s2.un (fun a ha q => q (by rw [ha, tb]; unfold WrT; omega))
  have e11 := EX_frame p1 u11 s2.mo p1.2.1
  have hb34 : ∀ a, a = 32 ∨ a = 33 ∨ a = 34 → a ≠ b := by
    intro a ha e
    have := p1.2.1 a (by omega) (by omega) (by omega) (by omega) (by omega) (by omega) (by omega)
    rw [e, tb] at this
    omega
  rw [W_bind]
  refine Wo.mono (noteNames_q e11) ?_
  rintro X12 ⟨n1, n2⟩
  rw [W_some]
  have t33 := p1.2.1 33 (by omega) (by omega) (by omega) (by omega) (by omega) (by omega) (by omega)
  have u12 : Un (fun t => ¬ WrT t) T10 X11 X12 := n1.un (fun a ha q => q (by rw [ha, t33]; unfold WrT; omega))
  have mo := (p8.trans (s2.mo (T := T10))).trans (n1.mo (T := T10))
  refine ⟨T10, EX_frame e11 u12 n1.mo p1.2.1, ⟨b, L, ?_, ?_, ?_, n2, ?_⟩, mo, (p9.trans p8 u11).trans (p8.trans s2.mo) u12⟩
  · obtain ⟨i1, i2, i3, i4⟩ := s1
    refine ⟨by rw [n1.2 30 (by omega)]; exact i1, by rw [n1.1]; exact i2, (n1.mo (T := T10)).2.2 b _ i3, i4⟩
  · intro j hj
    rw [n1.2 b (fun e => hb34 33 (by omega) e.symm)]
    exact s3 j hj
  · intro m hm hf
    rw [n1.2 32 (by omega), s2.2 32 (hb34 32 (by omega)), p5, hhd m hm hf, l8]
  · intro c hc hf
    rw [n1.2 34 (by omega), s2.2 34 (hb34 34 (by omega)), p7]
    exact hsk c hc hf
set_option maxRecDepth 20000 in
set_option maxHeartbeats 4000000 in
theorem write_M {X : XS} {T : Nat → Nat} {Mr : MS} {kc rc main : Nat} (hS : RSc X Mr T kc rc) (hT : LkT Mr kc rc) (hR : LkR Mr kc rc main) : Wo (f_M_write (Int32.ofNat main) Mr) (fun M' => MO Fw Mr M' ∧ M'.1 60 39 = Int32.ofNat (imgL Mr rc main).length ∧ ∀ j, j < (imgL Mr rc main).length → M'.1 92 j = sealB (bt (imgL Mr rc main)) (imgL Mr rc main).length j) := by
  have hk10 := hS.1.1
  have hr24 := hS.2.1
  have m24 : main < 24 := by have := hR.1; omega
  have ck : cnt (fmB Mr 77) 10 = cnt (fmB Mr 77) kc := cnt_ext kc 10 hk10 (fun m h1 h2 hf => by have := hR.2.2.2.1 m h2 (fmB_iff.mp hf); omega)
  have ckl := cnt_max (fmB Mr 77) 10
  have hbl := hb_le hT 24 (by omega)
  have cdl := cd_le hT 24 (by omega)
  have nr : ∀ m, rc ≤ m → m < 24 → ¬ fm Mr 75 m := fun m h1 h2 hf => by have := hR.2.2.1 m h2 hf; omega
  have eK : kindsL Mr rc 10 = kindsL Mr rc kc := cat_ext _ kc 10 hk10 (fun c h1 h2 => if_pos (Classical.not_not.mp (fun hf => by have := hR.2.2.2.1 c h2 hf; omega)))
  have eH : headsL Mr (baseN Mr) 24 = headsL Mr (baseN Mr) rc := cat_ext _ rc 24 hr24 (fun c h1 h2 => if_pos (Classical.not_not.mp (nr c h1 h2)))
  have eC : codesL Mr 24 = codesL Mr rc := cat_ext _ rc 24 hr24 (fun c h1 h2 => if_pos (Classical.not_not.mp (nr c h1 h2)))
  have eS : sumR Mr (hbF Mr) 24 = sumR Mr (hbF Mr) rc := sumR_ext 24 hr24 nr
  have q0 : QM Mr (mw Mr 60 39 0) [] (Mr.1 93) := by
    refine ⟨(MO.refl Mr).mw (Or.inr (Or.inr ⟨rfl, rfl⟩)) _, by rw [mw1]; simp, fun j hj => absurd hj (Nat.not_lt_zero j), mw_ne _ _ _ _ (by omega)⟩
  unfold f_M_write
  simp only [lt]
  refine put_m q0 (by decide) _ ?_
  intro M1 q1
  refine put_m q1 (by decide) _ ?_
  intro M2 q2
  refine put_m q2 (by decide) _ ?_
  intro M3 q3
  rw [q2.1.2 60 23 (by unfold Fw; omega)] at q3
  refine put_m q3 (by show 3 < _; omega) _ ?_
  intro M4 q4
  rw [q3.1.2 60 22 (by unfold Fw; omega)] at q4
  refine Wi (by rw [o_ixo _ _ (by omega)]; exact m24) ?_
  refine put_m q4 (by show 4 < _; omega) _ ?_
  intro M5 q5
  rw [o_cl main (by omega), qm_row q4 79 (by omega)] at q5
  refine two_m q5 (by show 5 + 1 < _; omega) _ ?_
  intro M6 q6
  refine two_m q6 (by show 7 + 1 < _; omega) _ ?_
  intro M7 q7
  have q7' : QM Mr M7 (hdrL Mr main) (Mr.1 93) := q7
  refine kindsM hS hR q7' (by show 9 + 110 ≤ _; omega) ?_
  intro z M8 q8
  rw [← eK] at q8
  have l8 : (hdrL Mr main ++ kindsL Mr rc 10).length = 9 + 11 * cnt (fmB Mr 77) 10 := by rw [List.length_append, kindsL_len]; rfl
  have w8 : M8.1 60 39 = Int32.ofNat (9 + 11 * cnt (fmB Mr 77) 10) := by rw [q8.2.1, l8]
  dsimp only
  rw [w8]
  refine sumM hS hT (z, M8) q8 _ ?_
  intro z1
  dsimp only
  have eb : 9 + 11 * cnt (fmB Mr 77) 10 + sumR Mr (hbF Mr) rc = baseN Mr := by unfold baseN; rw [eS]
  rw [eb]
  refine headsM hS hT q8 (by rw [l8]; omega) (baseN Mr) ?_
  intro z2 z3 M9 o9 q9
  rw [← eH] at q9
  have l9 : (hdrL Mr main ++ kindsL Mr rc 10 ++ headsL Mr (baseN Mr) 24).length = baseN Mr := by
    rw [List.length_append, l8, headsL_len]
    rfl
  dsimp only
  refine codesM hS hT q9 (by rw [l9]; unfold baseN; omega) ?_
  intro z4 M10 o10 q10
  rw [← eC] at q10
  have q10' : QM Mr M10 (imgL Mr rc main) o10 := q10
  obtain ⟨p1, p2, p3, p4⟩ := q10'
  have ll := imgL_len Mr rc main
  have lb : (imgL Mr rc main).length ≤ 5663 ∧ 9 ≤ (imgL Mr rc main).length := by
    rw [ll]
    unfold baseN
    omega
  dsimp only
  generalize hn : (imgL Mr rc main).length = n at *
  have e39 : (mw M10 92 5 ((M10.1 60 39 >>> ((8 : Int32) &&& 31)) &&& 255)).1 60 39 = Int32.ofNat n := by rw [mw_ne _ _ _ _ (by omega)]; exact p2
  rw [e39, p2]
  generalize hM1 : mw (mw M10 92 5 ((Int32.ofNat n >>> ((8 : Int32) &&& 31)) &&& 255)) 92 6 (Int32.ofNat n &&& 255) = N1
  have o1 : MO Fw Mr N1 := by rw [← hM1]; exact (p1.mw (Or.inl rfl) _).mw (Or.inl rfl) _
  have v1 : ∀ j, j < n → N1.1 92 j = seal1 (bt (imgL Mr rc main)) n j := by
    intro j hj
    rw [← hM1, mw1, mw1, p3 j hj]
    unfold seal1 upd bt
    simp
  have e1 : N1.1 60 39 = Int32.ofNat n := by rw [← hM1, mw_ne _ _ _ _ (by omega), mw_ne _ _ _ _ (by omega)]; exact p2
  rw [W_bind]
  refine Wo.mono (sum_W e1 (by omega)) ?_
  rintro ⟨s, z5⟩ es
  dsimp only at es
  rw [W_some, es, sumB_congr n v1]
  refine ⟨(o1.mw (Or.inl rfl) _).mw (Or.inl rfl) _, ?_, ?_⟩
  · rw [mw_ne _ _ _ _ (by omega), mw_ne _ _ _ _ (by omega)]; exact e1
  · intro j hj
    rw [mw1, mw1, v1 j hj]
    unfold sealB upd
    simp
