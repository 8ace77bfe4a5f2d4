/-! G4 -/
set_option maxRecDepth 20000 in
set_option maxHeartbeats 4000000 in
theorem FM.flm {M M' : MS} {m : Nat} {S : FS} (h : MO Flm M M') (hS : FM M m S) : FM M' m S := by
  obtain ⟨f1, f2, f3, f4⟩ := hS
  have r : ∀ a j, a ≠ 86 → a ≠ 87 → a ≠ 60 → M'.1 a j = M.1 a j := fun a j h1 h2 h3 => h.2 a j (by unfold Flm; omega)
  refine ⟨?_, ?_, ?_, f4⟩
  · intro j hj
    unfold fm
    rw [r 81 j (by omega) (by omega) (by omega), r 82 j (by omega) (by omega) (by omega), r 88 _ (by omega) (by omega) (by omega)]
    exact f1 j hj
  · intro j hj hs
    obtain ⟨y1, y2, y3, y4⟩ := f2 j hj hs
    refine ⟨y1, ?_, ?_, ?_⟩
    · rw [r 83 j (by omega) (by omega) (by omega)]; exact y2
    · intro k hk; rw [r 84 _ (by omega) (by omega) (by omega)]; exact y3 k hk
    · intro k hk; rw [r 85 _ (by omega) (by omega) (by omega)]; exact y4 k hk
  · rw [r 89 m (by omega) (by omega) (by omega)]; exact f3
set_option maxRecDepth 20000 in
set_option maxHeartbeats 4000000 in
theorem AM.fcm {M M' : MS} {m : Nat} {g l : Nat → Int32} {hh : Nat} (h : MO (Fcm m) M M') (ha : AM M g hh l) : AM M' g hh l := by
  obtain ⟨a1, a2, a3, a4⟩ := ha
  refine ⟨?_, a2, ?_, ?_⟩
  · rw [h.2 60 30 (by unfold Fcm; omega)]; exact a1
  · intro k hk; rw [h.2 86 k (by unfold Fcm; omega)]; exact a3 k hk
  · intro k hk; rw [h.2 87 k (by unfold Fcm; omega)]; exact a4 k hk
set_option maxRecDepth 20000 in
set_option maxHeartbeats 4000000 in
theorem lookM_ok {X : XS} {M0 M : MS} {T : Nat → Nat} {kc rc m i s tc : Nat} {fr tt hd : Nat → Nat} {S : FS} {res : Nat ⊕ FS} (h : RSc X M0 T kc rc) (hsr : MSrc M0 M) (hm : m < rc) (es : M0.1 70 m = Int32.ofNat s) (hs60 : s ≤ 60) (etc : M0.1 73 m = Int32.ofNat tc) (htc : tc ≤ 6) (to : TrO M0 m s tc fr tt hd) (hi : i < s) (h90 : M.1 90 0 = 2) (hS : FM M m S) (hsn : S.1 i = true) (hr : LookRes M0 kc rc m s tc fr tt hd S i res) : ∃ r M', f_M_lookAt (Int32.ofNat m) (Int32.ofNat i) M = some (r, M') ∧ MO (Fml m) M M' ∧ (∀ w, res = .inl w → r = Int32.ofNat w) ∧ (∀ S', res = .inr S' → r = -2 ∧ FM M' m S') := by
  have hr24 := h.2.1
  have m24 : m < 24 := by omega
  have i60 : i < 60 := by omega
  obtain ⟨M1, ld, o1, f1, am1⟩ := loadM_ok hS (i := i) i60 hsn
  have sr1 : MSrc M0 M1 := by
    have q := o1.src (Fml_src m)
    exact ⟨fun a h1 h2 => (q.1 a h1 h2).trans (hsr.1 a h1 h2), q.2.1.trans hsr.2.1, q.2.2.trans hsr.2.2⟩
  have h90' : M1.1 90 0 = 2 := by rw [o1.2 90 0 (by unfold Fml Flm Fcm; omega)]; exact h90
  obtain ⟨r2, M2, e2, o2, b2⟩ := handM_ok (l := S.2.2.2.2.1 i) m24 etc htc hs60 hi to tc 0 10000 M1 (clrW S i) (by omega) (by omega) sr1 h90' f1 am1.2.2.2
  have e2' : lp (b117_M_lookAt (Int32.ofNat m) (Int32.ofNat i)) 10000 ((0 : Int32), M1) = some r2 := e2
  have oo2 : MO (Fml m) M M2 := o1.trans (o2.mono (fun a i h => Or.inr h))
  have sr2 : MSrc M0 M2 := by
    have q := oo2.src (Fml_src m)
    exact ⟨fun a h1 h2 => (q.1 a h1 h2).trans (hsr.1 a h1 h2), q.2.1.trans hsr.2.1, q.2.2.trans hsr.2.2⟩
  obtain ⟨a, f, ra, rv⟩ := h.2.2.2.2.2 m hm
  obtain ⟨s', v16, v17, v18⟩ := rv.2.2.2.2.2.2.2.2.2.2.2.2.2.2.1
  have es' : s' = s := by rw [v17, o_eq _ _ (by omega) (by omega)] at es; exact es
  subst es'
  obtain ⟨u1, u2, u3⟩ := v18 i hi
  obtain ⟨op, hop, eop⟩ := toNle (n := 55) (by omega) u3.1 u3.2
  have eopN : opN M0 m i = op := by unfold opN; rw [eop, o_cl op (by omega)]
  have r71 : M.1 71 (60 * m + i) = Int32.ofNat op := by rw [hsr.1 71 (by omega) (by omega)]; exact eop
  have r72 : M.1 72 (60 * m + i) = odI M0 m i := by rw [hsr.1 72 (by omega) (by omega)]; rfl
  have c1 : ixo (60 * Int32.ofNat m + Int32.ofNat i) 1440 := by
    have : 60 * Int32.ofNat m + Int32.ofNat i = Int32.ofNat (60 * m + i) := by simp (disch := omega) only [o_le, o_leL, o_leR, o_lt, o_ltL, o_ltR, o_eq, o_eqL, o_eqR, o_cl, o_add, o_addL, o_addR, o_mul, o_mulL, o_mulR, o_sub, o_subR, o_0le, o_lt0, o_ixo, n1_eq, n1_eq', n1_lt, n1_le, n1_ge, n1_gt, n2_eq, n2_eq', n2_lt, n2_le, n2_ge, n2_gt, ↓reduceIte, ite_self, Nat.reduceEqDiff, Nat.reduceAdd, Nat.reduceMul, Nat.reduceSub, Nat.reduceLT, Nat.reduceLeDiff, Nat.not_lt_zero, Nat.zero_le, if_true, if_false, ite_true, ite_false, true_and, and_true, false_and, and_false, true_implies, false_implies, implies_true, not_true_eq_false, not_false_eq_true, eq_self, true_or, or_true, false_or, or_false, and_self, reduceCtorEq, forall_const]
    rw [this, o_ixo _ 1440 (by omega)]; omega
  have c2 : ixo (Int32.ofNat i) 60 := by rw [o_ixo i 60 (by omega)]; exact i60
  have ecl : (60 * Int32.ofNat m + Int32.ofNat i).toNatClampNeg = 60 * m + i := by
    have : 60 * Int32.ofNat m + Int32.ofNat i = Int32.ofNat (60 * m + i) := by simp (disch := omega) only [o_le, o_leL, o_leR, o_lt, o_ltL, o_ltR, o_eq, o_eqL, o_eqR, o_cl, o_add, o_addL, o_addR, o_mul, o_mulL, o_mulR, o_sub, o_subR, o_0le, o_lt0, o_ixo, n1_eq, n1_eq', n1_lt, n1_le, n1_ge, n1_gt, n2_eq, n2_eq', n2_lt, n2_le, n2_ge, n2_gt, ↓reduceIte, ite_self, Nat.reduceEqDiff, Nat.reduceAdd, Nat.reduceMul, Nat.reduceSub, Nat.reduceLT, Nat.reduceLeDiff, Nat.not_lt_zero, Nat.zero_le, if_true, if_false, ite_true, ite_false, true_and, and_true, false_and, and_false, true_implies, false_implies, implies_true, not_true_eq_false, not_false_eq_true, eq_self, true_or, or_true, false_or, or_false, and_self, reduceCtorEq, forall_const]
    rw [this, o_cl _ (by omega)]
  unfold f_M_lookAt
  rw [if_pos c1, if_pos c2, ld, e2']
  simp only [Option.bind_some]
  unfold LookRes at hr
  rw [eopN] at hr
  rcases hr with ⟨w, hw1, hw2, rfl⟩ | ⟨S1, hS1, hr⟩
  · rcases b2 with ⟨w', q1, q2, rfl⟩ | ⟨S', v, q1, _⟩
    · rw [hw1] at q1
      cases q1
      refine ⟨Int32.ofNat w, M2, rfl, oo2, fun w0 hw0 => by cases hw0; rfl, fun S' hS' => by cases hS'⟩
    · rw [hw1] at q1; cases q1
  rcases b2 with ⟨w', q1, _⟩ | ⟨S', v, q1, rfl, q3⟩
  · rw [hS1] at q1; cases q1
  rw [hS1] at q1
  cases q1
  have am2 := AM.fcm o2 am1
  obtain ⟨b, epos, hpos⟩ := possM (od := odI M0 m i) h sr2 hm (show op < 56 by omega)
  unfold sb
  dsimp only
  rw [ecl, r71, r72, epos]
  simp only [Option.bind_some]
  have n10 : ¬ (1 : Int32) = 0 := by decide
  have wi : ∀ Y, MO (Fml m) M Y → ∃ r M', (some (Int32.ofNat i, Y) : Option (Int32 × MS)) = some (r, M') ∧ MO (Fml m) M M' ∧ (∀ w, (Sum.inl i : Nat ⊕ FS) = .inl w → r = Int32.ofNat w) ∧ (∀ S', (Sum.inl i : Nat ⊕ FS) = .inr S' → r = -2 ∧ FM M' m S') := by
    intro Y hY
    exact ⟨_, _, rfl, hY, fun w hw => (by cases hw; rfl), fun S' hS' => by cases hS'⟩
  rcases hr with ⟨np, rfl⟩ | hr
  · have nb : ¬ b = true := fun q => np (hpos.mp q)
    rw [if_neg nb]
    have o5 : MO (Fml m) M (mw M2 60 32 1) := oo2.mw (by unfold Fml Flm; omega) 1
    have key : ∀ (E : Option (Int32 × MS)), E = some (Int32.ofNat i, mw M2 60 32 1) → ∃ r M', E = some (r, M') ∧ MO (Fml m) M M' ∧ (∀ w, (Sum.inl i : Nat ⊕ FS) = .inl w → r = Int32.ofNat w) ∧ (∀ S', (Sum.inl i : Nat ⊕ FS) = .inr S' → r = -2 ∧ FM M' m S') := by
      intro E hE
      rw [hE]
      exact wi _ o5
    refine key _ ?_
    unfold lt
    simp (disch := omega) only [xTw, xLw, xAw, xTp, xLp, xAp, xTc, xLc, xAc, xAn, xTn, xLn, xw1, xw2, xp1, xp2, xp3, mw1, mw2, xn1, xn2, xc1, xc2, n10, Option.bind_some, o_le, o_leL, o_leR, o_lt, o_ltL, o_ltR, o_eq, o_eqL, o_eqR, o_cl, o_add, o_addL, o_addR, o_mul, o_mulL, o_mulR, o_sub, o_subR, o_0le, o_lt0, o_ixo, n1_eq, n1_eq', n1_lt, n1_le, n1_ge, n1_gt, n2_eq, n2_eq', n2_lt, n2_le, n2_ge, n2_gt, ↓reduceIte, ite_self, Nat.reduceEqDiff, Nat.reduceAdd, Nat.reduceMul, Nat.reduceSub, Nat.reduceLT, Nat.reduceLeDiff, Nat.not_lt_zero, Nat.zero_le, if_true, if_false, ite_true, ite_false, true_and, and_true, false_and, and_false, true_implies, false_implies, implies_true, not_true_eq_false, not_false_eq_true, eq_self, true_or, or_true, false_or, or_false, and_self, reduceCtorEq, forall_const]
  have pp : Pos M0 kc rc m op (odI M0 m i) := by
    rcases hr with ⟨pp, _⟩ | ⟨pp, _⟩ <;> exact pp
  rw [if_pos (hpos.mpr pp)]
  have o5 : MO (Fml m) M (mw M2 60 32 0) := oo2.mw (by unfold Fml Flm; omega) 0
  have sr5 : MSrc M0 (mw M2 60 32 0) := by
    have q := o5.src (Fml_src m)
    exact ⟨fun a h1 h2 => (q.1 a h1 h2).trans (hsr.1 a h1 h2), q.2.1.trans hsr.2.1, q.2.2.trans hsr.2.2⟩
  have am5 : AM (mw M2 60 32 0) (S.2.2.2.1 i) (S.2.2.1 i) (S.2.2.2.2.1 i) := by
    obtain ⟨z1, z2, z3, z4⟩ := am2
    refine ⟨?_, z2, ?_, ?_⟩
    · rw [mw1, if_neg (by omega)]; exact z1
    · intro k hk; rw [mw1, if_neg (by omega)]; exact z3 k hk
    · intro k hk; rw [mw1, if_neg (by omega)]; exact z4 k hk
  have w5 : (mw M2 60 32 0).1 60 32 = 0 := by rw [mw1, if_pos ⟨rfl, rfl⟩]
  have f5 : FM (mw M2 60 32 0) m S1 := FM.flm ((MO.refl M2).mw (by unfold Flm; omega) 0) q3
  have h5 : RSc X (mw M2 60 32 0) T kc rc := by
    obtain ⟨hk, hr', e1, e2, hn, hmm⟩ := h
    obtain ⟨s1, s2, s3⟩ := sr5
    refine ⟨RSk_frame hk rfl (fun _ _ _ => rfl) s2 (fun a h1 h2 => s1 a (by omega) (by omega)), hr', e1, s3.trans e2, RSn_frame hn rfl rfl (fun a h1 h2 => s1 a (by omega) (by omega)), ?_⟩
    intro m' hm'
    refine RSr_frame (hmm m' hm') (Nat.le_refl _) (fun _ _ _ => ⟨rfl, rfl⟩) rfl ⟨Nat.le_refl _, fun _ _ => rfl, fun _ _ h => h⟩ ?_ ?_ ?_
    · intro a ha; rw [s1 a (by omega) (by omega)]
    · intro i _; rw [s1 71 (by omega) (by omega), s1 72 (by omega) (by omega)]; exact ⟨rfl, rfl⟩
    · intro i _; rw [s1 74 (by omega) (by omega)]
  have anyE : ∀ n, anyM (mw M2 60 32 0) rc n = anyM M0 rc n := by
    intro n
    unfold anyM
    rw [sr5.1 65 (by omega) (by omega)]
  have pos5 : Pos (mw M2 60 32 0) kc rc m op (odI M0 m i) := by
    unfold Pos at pp ⊢
    simp only [anyE]
    rw [sr5.1 69 (by omega) (by omega), sr5.1 70 (by omega) (by omega), sr5.1 62 (by omega) (by omega), sr5.1 63 (by omega) (by omega), sr5.1 65 (by omega) (by omega), sr5.1 68 (by omega) (by omega), sr5.1 66 (by omega) (by omega)]
    exact pp
  have argE : ∀ r k, argK (mw M2 60 32 0) r k = argK M0 r k := by
    intro r k
    unfold argK
    rw [sr5.1 67 (by omega) (by omega)]
  have argsE : ∀ r n, argsK (mw M2 60 32 0) r n = argsK M0 r n := by
    intro r n
    induction n with
    | zero => rfl
    | succ n ih =>
      show argK _ r n :: argsK _ r n = argK _ r n :: argsK _ r n
      rw [argE, ih]
  have callE : ∀ r g h l, callT (mw M2 60 32 0) r g h l = callT M0 r g h l := by
    intro r g h l
    unfold callT callK
    rw [argsE, sr5.1 65 (by omega) (by omega), sr5.1 66 (by omega) (by omega), sr5.1 68 (by omega) (by omega)]
  have trE : ∀ g h l, Tr (mw M2 60 32 0) rc op (odI M0 m i) g h l = Tr M0 rc op (odI M0 m i) g h l := by
    intro g h l
    unfold Tr
    simp only [callE, anyE]
  have hod : op = 2 ∨ op = 3 → ∃ k, k < 12 ∧ odI M0 m i = Int32.ofNat k := by
    intro q
    have l12 : M0.1 69 m ≤ 12 := rv.2.2.2.2.2.2.2.2.2.2.2.2.2.1
    obtain ⟨p1, p2⟩ := (posL q).mp pp
    by_cases z : M0.1 69 m ≤ 0
    · exfalso
      have lb : (0 : Int32) ≤ M0.1 69 m := by
        refine Int32.le_trans ?_ rv.2.2.2.2.2.2.2.2.2.2.2.2.1
        have q4 := rv.2.2.2.2.2.2.2.2.2.1
        obtain ⟨n, hn, en⟩ := toNle (n := 4) (by omega) q4.1 q4.2
        rw [en]
        split
        · simp (disch := omega) only [o_le, o_leL, o_leR, o_lt, o_ltL, o_ltR, o_eq, o_eqL, o_eqR, o_cl, o_add, o_addL, o_addR, o_mul, o_mulL, o_mulR, o_sub, o_subR, o_0le, o_lt0, o_ixo, n1_eq, n1_eq', n1_lt, n1_le, n1_ge, n1_gt, n2_eq, n2_eq', n2_lt, n2_le, n2_ge, n2_gt, ↓reduceIte, ite_self, Nat.reduceEqDiff, Nat.reduceAdd, Nat.reduceMul, Nat.reduceSub, Nat.reduceLT, Nat.reduceLeDiff, Nat.not_lt_zero, Nat.zero_le, if_true, if_false, ite_true, ite_false, true_and, and_true, false_and, and_false, true_implies, false_implies, implies_true, not_true_eq_false, not_false_eq_true, eq_self, true_or, or_true, false_or, or_false, and_self, reduceCtorEq, forall_const]
        · simp (disch := omega) only [o_le, o_leL, o_leR, o_lt, o_ltL, o_ltR, o_eq, o_eqL, o_eqR, o_cl, o_add, o_addL, o_addR, o_mul, o_mulL, o_mulR, o_sub, o_subR, o_0le, o_lt0, o_ixo, n1_eq, n1_eq', n1_lt, n1_le, n1_ge, n1_gt, n2_eq, n2_eq', n2_lt, n2_le, n2_ge, n2_gt, ↓reduceIte, ite_self, Nat.reduceEqDiff, Nat.reduceAdd, Nat.reduceMul, Nat.reduceSub, Nat.reduceLT, Nat.reduceLeDiff, Nat.not_lt_zero, Nat.zero_le, if_true, if_false, ite_true, ite_false, true_and, and_true, false_and, and_false, true_implies, false_implies, implies_true, not_true_eq_false, not_false_eq_true, eq_self, true_or, or_true, false_or, or_false, and_self, reduceCtorEq, forall_const]
      rw [Int32.le_antisymm z lb] at p2
      exact absurd (Int32.le_trans p1 p2) (by decide)
    · obtain ⟨n, hn, en⟩ := toNle (n := 12) (by omega) (Int32.le_of_lt (Int32.not_le.mp z)) l12
      rw [en] at p2
      obtain ⟨k, hk, e⟩ := (le1_iff (kc := n) (by omega) (odI M0 m i)).mp ⟨p1, p2⟩
      exact ⟨k, by omega, e⟩
  obtain ⟨M6, e6, o6, b6⟩ := act_ok (m := m) h5 (MO.refl _) hm (show op < 56 by omega) pos5 hod am5 w5
  have oo6 : MO (Fml m) M M6 := o5.trans (o6.mono (fun a i h => Or.inl h))
  have f6 := FM.flm o6 f5
  unfold lt
  dsimp only
  rw [if_neg (by rw [w5]; simp), e6]
  simp only [Option.bind_some]
  rcases hr with ⟨_, tn, rfl⟩ | ⟨_, g, hh, l, tn, hr⟩
  · rcases b6 with ⟨nw, _⟩ | ⟨_, g', h', l', q, _⟩
    · rw [if_neg nw]
      exact wi M6 oo6
    · rw [trE, tn] at q; cases q
  rcases b6 with ⟨_, q⟩ | ⟨w6, g', h', l', q, am6⟩
  · rw [trE, tn] at q; cases q
  rw [trE, tn] at q
  cases q
  rw [if_pos w6]
  have e40 : (40 ≤ Int32.ofNat op ∧ Int32.ofNat op ≤ 43) = (40 ≤ op ∧ op ≤ 43) := by simp (disch := omega) only [o_le, o_leL, o_leR, o_lt, o_ltL, o_ltR, o_eq, o_eqL, o_eqR, o_cl, o_add, o_addL, o_addR, o_mul, o_mulL, o_mulR, o_sub, o_subR, o_0le, o_lt0, o_ixo, n1_eq, n1_eq', n1_lt, n1_le, n1_ge, n1_gt, n2_eq, n2_eq', n2_lt, n2_le, n2_ge, n2_gt, ↓reduceIte, ite_self, Nat.reduceEqDiff, Nat.reduceAdd, Nat.reduceMul, Nat.reduceSub, Nat.reduceLT, Nat.reduceLeDiff, Nat.not_lt_zero, Nat.zero_le, if_true, if_false, ite_true, ite_false, true_and, and_true, false_and, and_false, true_implies, false_implies, implies_true, not_true_eq_false, not_false_eq_true, eq_self, true_or, or_true, false_or, or_false, and_self, reduceCtorEq, forall_const]
  have e19 : (Int32.ofNat op = 19) = (op = 19) := by simp (disch := omega) only [o_le, o_leL, o_leR, o_lt, o_ltL, o_ltR, o_eq, o_eqL, o_eqR, o_cl, o_add, o_addL, o_addR, o_mul, o_mulL, o_mulR, o_sub, o_subR, o_0le, o_lt0, o_ixo, n1_eq, n1_eq', n1_lt, n1_le, n1_ge, n1_gt, n2_eq, n2_eq', n2_lt, n2_le, n2_ge, n2_gt, ↓reduceIte, ite_self, Nat.reduceEqDiff, Nat.reduceAdd, Nat.reduceMul, Nat.reduceSub, Nat.reduceLT, Nat.reduceLeDiff, Nat.not_lt_zero, Nat.zero_le, if_true, if_false, ite_true, ite_false, true_and, and_true, false_and, and_false, true_implies, false_implies, implies_true, not_true_eq_false, not_false_eq_true, eq_self, true_or, or_true, false_or, or_false, and_self, reduceCtorEq, forall_const]
  have eJ : (19 ≤ Int32.ofNat op ∧ Int32.ofNat op ≤ 25) = isJ op := by unfold isJ; simp (disch := omega) only [o_le, o_leL, o_leR, o_lt, o_ltL, o_ltR, o_eq, o_eqL, o_eqR, o_cl, o_add, o_addL, o_addR, o_mul, o_mulL, o_mulR, o_sub, o_subR, o_0le, o_lt0, o_ixo, n1_eq, n1_eq', n1_lt, n1_le, n1_ge, n1_gt, n2_eq, n2_eq', n2_lt, n2_le, n2_ge, n2_gt, ↓reduceIte, ite_self, Nat.reduceEqDiff, Nat.reduceAdd, Nat.reduceMul, Nat.reduceSub, Nat.reduceLT, Nat.reduceLeDiff, Nat.not_lt_zero, Nat.zero_le, if_true, if_false, ite_true, ite_false, true_and, and_true, false_and, and_false, true_implies, false_implies, implies_true, not_true_eq_false, not_false_eq_true, eq_self, true_or, or_true, false_or, or_false, and_self, reduceCtorEq, forall_const]
  have tail : ∀ M7 S2, MO (Fml m) M M7 → FM M7 m S2 → AM M7 g hh l → ((isE op ∧ res = .inr S2) ∨ (¬ isE op ∧ i + 1 = s' ∧ res = .inl i) ∨ (¬ isE op ∧ i + 1 ≠ s' ∧ ((come S2 (i + 1) g hh l = none ∧ res = .inl (i + 1)) ∨ ∃ S3, come S2 (i + 1) g hh l = some S3 ∧ res = .inr S3))) → ∃ r M', (if Int32.ofNat op = 19 then some ((-2), M7) else (if 40 ≤ Int32.ofNat op ∧ Int32.ofNat op ≤ 43 then some ((-2), M7) else (if ixo (Int32.ofNat m) 24 then (if ¬ Int32.ofNat i + 1 = M7.1 70 (Int32.ofNat m).toNatClampNeg then ((f_M_comeTo_86 (Int32.ofNat m) (Int32.ofNat i + 1) (M7.1 60 30) M7).bind fun x73 => (if x73.1 = true then some ((-2), x73.2) else some (Int32.ofNat i + 1, x73.2))) else some (Int32.ofNat i, M7)) else none))) = some (r, M') ∧ MO (Fml m) M M' ∧ (∀ w, res = .inl w → r = Int32.ofNat w) ∧ (∀ S', res = .inr S' → r = -2 ∧ FM M' m S') := by
    intro M7 S2 o7 f7 am7 hres
    have g70 : M7.1 70 m = Int32.ofNat s' := by
      have q := o7.src (Fml_src m)
      rw [q.1 70 (by omega) (by omega), hsr.1 70 (by omega) (by omega)]
      exact v17
    have em : (Int32.ofNat m).toNatClampNeg = m := o_cl m (by omega)
    have im : ixo (Int32.ofNat m) 24 := by rw [o_ixo m 24 (by omega)]; exact m24
    rcases hres with ⟨ee, rfl⟩ | ⟨ee, e5, rfl⟩ | ⟨ee, e5, hres⟩
    · refine ⟨-2, M7, ?_, o7, fun w hw => (by cases hw), fun S' hS' => by cases hS'; exact ⟨rfl, f7⟩⟩
      rcases ee with z | z
      · rw [if_pos (by rw [e19]; exact z)]
      · by_cases z19 : op = 19
        · rw [if_pos (by rw [e19]; exact z19)]
        · rw [if_neg (by rw [e19]; exact z19), if_pos (by rw [e40]; exact z)]
    · have z3 : ¬ ¬ Int32.ofNat i + 1 = M7.1 70 m := by
        rw [g70]
        have : Int32.ofNat i + 1 = Int32.ofNat (i + 1) := by simp (disch := omega) only [o_le, o_leL, o_leR, o_lt, o_ltL, o_ltR, o_eq, o_eqL, o_eqR, o_cl, o_add, o_addL, o_addR, o_mul, o_mulL, o_mulR, o_sub, o_subR, o_0le, o_lt0, o_ixo, n1_eq, n1_eq', n1_lt, n1_le, n1_ge, n1_gt, n2_eq, n2_eq', n2_lt, n2_le, n2_ge, n2_gt, ↓reduceIte, ite_self, Nat.reduceEqDiff, Nat.reduceAdd, Nat.reduceMul, Nat.reduceSub, Nat.reduceLT, Nat.reduceLeDiff, Nat.not_lt_zero, Nat.zero_le, if_true, if_false, ite_true, ite_false, true_and, and_true, false_and, and_false, true_implies, false_implies, implies_true, not_true_eq_false, not_false_eq_true, eq_self, true_or, or_true, false_or, or_false, and_self, reduceCtorEq, forall_const]
        rw [this, e5]
        exact fun q => q rfl
      rw [if_neg (by rw [e19]; exact fun q => ee (Or.inl q)), if_neg (by rw [e40]; exact fun q => ee (Or.inr q)), if_pos im, em, if_neg z3]
      exact wi M7 o7
    · have ei1 : Int32.ofNat i + 1 = Int32.ofNat (i + 1) := by simp (disch := omega) only [o_le, o_leL, o_leR, o_lt, o_ltL, o_ltR, o_eq, o_eqL, o_eqR, o_cl, o_add, o_addL, o_addR, o_mul, o_mulL, o_mulR, o_sub, o_subR, o_0le, o_lt0, o_ixo, n1_eq, n1_eq', n1_lt, n1_le, n1_ge, n1_gt, n2_eq, n2_eq', n2_lt, n2_le, n2_ge, n2_gt, ↓reduceIte, ite_self, Nat.reduceEqDiff, Nat.reduceAdd, Nat.reduceMul, Nat.reduceSub, Nat.reduceLT, Nat.reduceLeDiff, Nat.not_lt_zero, Nat.zero_le, if_true, if_false, ite_true, ite_false, true_and, and_true, false_and, and_false, true_implies, false_implies, implies_true, not_true_eq_false, not_false_eq_true, eq_self, true_or, or_true, false_or, or_false, and_self, reduceCtorEq, forall_const]
      have z3 : ¬ Int32.ofNat i + 1 = M7.1 70 m := by
        rw [g70, ei1, o_eq _ _ (by omega) (by omega)]
        exact e5
      rw [if_neg (by rw [e19]; exact fun q => ee (Or.inl q)), if_neg (by rw [e40]; exact fun q => ee (Or.inr q)), if_pos im, em, if_pos z3, am7.1, ei1]
      obtain ⟨b8, M8, e8, o8, b8'⟩ := comeM_86 (i := i + 1) m24 f7 (by omega) am7.2.1 am7.2.2.1 am7.2.2.2
      rw [e8]
      simp only [Option.bind_some]
      have oo8 : MO (Fml m) M M8 := o7.trans (o8.mono (fun a i h => Or.inr h))
      rcases b8' with ⟨n1, rfl⟩ | ⟨S'', n1, rfl, n3⟩
      · rcases hres with ⟨_, rfl⟩ | ⟨S3, n, _⟩
        · exact ⟨Int32.ofNat (i + 1), M8, by rw [if_neg (by decide)], oo8, fun w hw => (by cases hw; rfl), fun S' hS' => by cases hS'⟩
        · rw [n1] at n; cases n
      · rcases hres with ⟨n, _⟩ | ⟨S3, n, rfl⟩
        · rw [n1] at n; cases n
        · rw [n1] at n
          cases n
          exact ⟨-2, M8, by rw [if_pos rfl], oo8, fun w hw => (by cases hw), fun S' hS' => by cases hS'; exact ⟨rfl, n3⟩⟩
  rcases hr with ⟨j, cn, rfl⟩ | ⟨S2, hS2, hres⟩
  · obtain ⟨t, ht', et⟩ : ∃ t, t < s' ∧ odI M0 m i = Int32.ofNat t := by
      have := (posJ j).mp pp
      rw [v17] at this
      obtain ⟨k, hk, e⟩ := (le1_iff (kc := s') (by omega) (odI M0 m i)).mp this
      exact ⟨k, hk, e⟩
    rw [if_pos (by rw [eJ]; exact j), am6.1, et]
    rw [et, o_cl t (by omega)] at cn
    obtain ⟨b8, M8, e8, o8, b8'⟩ := comeM_86 (i := t) m24 f6 (by omega) am6.2.1 am6.2.2.1 am6.2.2.2
    rw [e8]
    simp only [Option.bind_some]
    rcases b8' with ⟨n1, rfl⟩ | ⟨S'', n1, _⟩
    · refine ⟨Int32.ofNat t, M8, by rw [if_neg (by decide)], oo6.trans (o8.mono (fun a i h => Or.inr h)), ?_, fun S' hS' => (by cases hS')⟩
      intro w hw
      have hw' : (Int32.ofNat t).toNatClampNeg = w := Sum.inl.inj hw
      rw [o_cl t (by omega)] at hw'
      rw [hw']
    · rw [cn] at n1; cases n1
  rcases hS2 with ⟨j, cs⟩ | ⟨j, rfl⟩
  · obtain ⟨t, ht', et⟩ : ∃ t, t < s' ∧ odI M0 m i = Int32.ofNat t := by
      have := (posJ j).mp pp
      rw [v17] at this
      obtain ⟨k, hk, e⟩ := (le1_iff (kc := s') (by omega) (odI M0 m i)).mp this
      exact ⟨k, hk, e⟩
    rw [if_pos (by rw [eJ]; exact j), am6.1, et]
    rw [et, o_cl t (by omega)] at cs
    obtain ⟨b8, M8, e8, o8, b8'⟩ := comeM_86 (i := t) m24 f6 (by omega) am6.2.1 am6.2.2.1 am6.2.2.2
    rw [e8]
    simp only [Option.bind_some]
    rcases b8' with ⟨n1, _⟩ | ⟨S'', n1, rfl, n3⟩
    · rw [cs] at n1; cases n1
    · rw [cs] at n1
      cases n1
      rw [if_pos rfl]
      exact tail M8 S2 (oo6.trans (o8.mono (fun a i h => Or.inr h))) n3 (AM.fcm o8 am6) hres
  · rw [if_neg (by rw [eJ]; exact j)]
    exact tail M6 S2 oo6 f6 am6 hres
