/-! G3 -/
def opN (M : MS) (m i : Nat) : Nat := (M.1 71 (60 * m + i)).toNatClampNeg
def odI (M : MS) (m i : Nat) : Int32 := M.1 72 (60 * m + i)
def isJ (op : Nat) : Prop := 19 ≤ op ∧ op ≤ 25
def isE (op : Nat) : Prop := op = 19 ∨ (40 ≤ op ∧ op ≤ 43)
/-- what a look at an instruction comes to -/
def LookRes (M : MS) (kc rc m s tc : Nat) (fr tt hd : Nat → Nat) (S : FS) (i : Nat) (res : Nat ⊕ FS) : Prop :=
  (∃ w, handF fr tt hd i (S.2.2.2.2.1 i) tc 0 (clrW S i) = .inl w ∧ w < s ∧ res = .inl w) ∨
  (∃ S1, handF fr tt hd i (S.2.2.2.2.1 i) tc 0 (clrW S i) = .inr S1 ∧ (
    (¬ Pos M kc rc m (opN M m i) (odI M m i) ∧ res = .inl i) ∨
    (Pos M kc rc m (opN M m i) (odI M m i) ∧ Tr M rc (opN M m i) (odI M m i) (S.2.2.2.1 i) (S.2.2.1 i) (S.2.2.2.2.1 i) = none ∧ res = .inl i) ∨
    (Pos M kc rc m (opN M m i) (odI M m i) ∧ ∃ g h l, Tr M rc (opN M m i) (odI M m i) (S.2.2.2.1 i) (S.2.2.1 i) (S.2.2.2.2.1 i) = some (g, h, l) ∧ (
      (isJ (opN M m i) ∧ come S1 (odI M m i).toNatClampNeg g h l = none ∧ res = .inl (odI M m i).toNatClampNeg) ∨
      (∃ S2, ((isJ (opN M m i) ∧ come S1 (odI M m i).toNatClampNeg g h l = some S2) ∨ (¬ isJ (opN M m i) ∧ S2 = S1)) ∧ (
        (isE (opN M m i) ∧ res = .inr S2) ∨ (¬ isE (opN M m i) ∧ i + 1 = s ∧ res = .inl i) ∨
        (¬ isE (opN M m i) ∧ i + 1 ≠ s ∧ ((come S2 (i + 1) g h l = none ∧ res = .inl (i + 1)) ∨ ∃ S3, come S2 (i + 1) g h l = some S3 ∧ res = .inr S3))))))))
set_option maxRecDepth 20000 in
set_option maxHeartbeats 4000000 in
theorem look_ex {X : XS} {M : MS} {T : Nat → Nat} {kc rc m s tc : Nat} {fr tt hd : Nat → Nat} {S : FS} {i : Nat} (hh : ∀ w, handF fr tt hd i (S.2.2.2.2.1 i) tc 0 (clrW S i) = .inl w → w < s) : ∃ res, LookRes M kc rc m s tc fr tt hd S i res := by
  unfold LookRes
  cases e : handF fr tt hd i (S.2.2.2.2.1 i) tc 0 (clrW S i) with
  | inl w => exact ⟨.inl w, Or.inl ⟨w, rfl, hh w e, rfl⟩⟩
  | inr S1 =>
    by_cases p : Pos M kc rc m (opN M m i) (odI M m i)
    case neg => exact ⟨.inl i, Or.inr ⟨S1, rfl, Or.inl ⟨p, rfl⟩⟩⟩
    cases t : Tr M rc (opN M m i) (odI M m i) (S.2.2.2.1 i) (S.2.2.1 i) (S.2.2.2.2.1 i) with
    | none => exact ⟨.inl i, Or.inr ⟨S1, rfl, Or.inr (Or.inl ⟨p, rfl, rfl⟩)⟩⟩
    | some q =>
      obtain ⟨g, h, l⟩ := q
      have nxt : ∀ S2, ((isJ (opN M m i) ∧ come S1 (odI M m i).toNatClampNeg g h l = some S2) ∨ (¬ isJ (opN M m i) ∧ S2 = S1)) → ∃ res, LookRes M kc rc m s tc fr tt hd S i res := by
        intro S2 h2
        unfold LookRes
        rw [e, t]
        by_cases ee : isE (opN M m i)
        · exact ⟨.inr S2, Or.inr ⟨S1, rfl, Or.inr (Or.inr ⟨p, g, h, l, rfl, Or.inr ⟨S2, h2, Or.inl ⟨ee, rfl⟩⟩⟩)⟩⟩
        · by_cases es : i + 1 = s
          · exact ⟨.inl i, Or.inr ⟨S1, rfl, Or.inr (Or.inr ⟨p, g, h, l, rfl, Or.inr ⟨S2, h2, Or.inr (Or.inl ⟨ee, es, rfl⟩)⟩⟩)⟩⟩
          · cases c : come S2 (i + 1) g h l with
            | none => exact ⟨.inl (i + 1), Or.inr ⟨S1, rfl, Or.inr (Or.inr ⟨p, g, h, l, rfl, Or.inr ⟨S2, h2, Or.inr (Or.inr ⟨ee, es, Or.inl ⟨c, rfl⟩⟩)⟩⟩)⟩⟩
            | some S3 => exact ⟨.inr S3, Or.inr ⟨S1, rfl, Or.inr (Or.inr ⟨p, g, h, l, rfl, Or.inr ⟨S2, h2, Or.inr (Or.inr ⟨ee, es, Or.inr ⟨S3, c, rfl⟩⟩)⟩⟩)⟩⟩
      by_cases j : isJ (opN M m i)
      · cases c : come S1 (odI M m i).toNatClampNeg g h l with
        | none => exact ⟨.inl (odI M m i).toNatClampNeg, Or.inr ⟨S1, rfl, Or.inr (Or.inr ⟨p, g, h, l, rfl, Or.inl ⟨j, c, rfl⟩⟩)⟩⟩
        | some S2 =>
          have := nxt S2 (Or.inl ⟨j, c⟩)
          unfold LookRes at this
          rw [e, t] at this
          exact this
      · have := nxt S1 (Or.inr ⟨j, rfl⟩)
        unfold LookRes at this
        rw [e, t] at this
        exact this
set_option maxRecDepth 20000 in
set_option maxHeartbeats 4000000 in
theorem H9.c {X X' : XS} (h : H9 X X') {S : FS} (hS : FX X S) : FX X' S := by
  obtain ⟨f1, f2, f3, f4⟩ := hS
  obtain ⟨o, o9⟩ := h
  have r : ∀ b, b ≠ 22 → b ≠ 28 → b ≠ 29 → X'.1 b = X.1 b := fun b h1 h2 h3 => o.2 b (by unfold Flx; omega)
  refine ⟨?_, ?_, ?_, f4⟩
  · intro j hj
    unfold fl
    rw [r 23 (by omega) (by omega) (by omega), r 24 (by omega) (by omega) (by omega)]
    exact f1 j hj
  · intro j hj hs
    rw [r 25 (by omega) (by omega) (by omega), r 26 (by omega) (by omega) (by omega), r 27 (by omega) (by omega) (by omega)]
    exact f2 j hj hs
  · rw [o9 0 (by omega)]; exact f3
set_option maxRecDepth 20000 in
set_option maxHeartbeats 4000000 in
theorem C9.a {X X' : XS} (h : C9 X X') {g l : Nat → Int32} {hh : Nat} (ha : AX X g hh l) : AX X' g hh l := by
  obtain ⟨a1, a2, a3, a4⟩ := ha
  obtain ⟨o, o9⟩ := h
  refine ⟨?_, a2, ?_, ?_⟩
  · rw [o9 9 (by omega) (by omega)]; exact a1
  · rw [o.2 28 (by unfold Fcx; omega)]; exact a3
  · rw [o.2 29 (by unfold Fcx; omega)]; exact a4
set_option maxRecDepth 20000 in
set_option maxHeartbeats 4000000 in
theorem lookX_ok {X : XS} {M : MS} {T : Nat → Nat} {kc rc m a i s tc : Nat} {fr tt hd : Nat → Nat} {S : FS} {res : Nat ⊕ FS} (h : RSc X M T kc rc) (ht : TG T) (hm : m < rc) (hp : X.2.1 2 m = some a) (es : M.1 70 m = Int32.ofNat s) (hs60 : s ≤ 60) (etc : M.1 73 m = Int32.ofNat tc) (htc : tc ≤ 6) (to : TrO M m s tc fr tt hd) (hi : i < s) (hS : FX X S) (hsn : S.1 i = true) (hw : X.1 22 10 = -1) (hr : LookRes M kc rc m s tc fr tt hd S i res) : ∃ X', f_Flow_lookAt a (Int32.ofNat i) X = some X' ∧ Only Fal X X' ∧ (∀ w, res = .inl w → X'.1 22 10 = Int32.ofNat w) ∧ (∀ S', res = .inr S' → X'.1 22 10 = -1 ∧ FX X' S') := by
  have hr24 := h.2.1
  have i59 : i ≤ 59 := by omega
  obtain ⟨X1, ld, o1, w1, f1, ax1⟩ := loadX_ok hS (i := i) (by omega) hsn
  obtain ⟨v, X2, e2, c92, b2⟩ := handX_ok (l := S.2.2.2.2.1 i) h ht hm hp etc htc hs60 hi to tc 0 10000 X1 (clrW S i) (by omega) (by omega) o1 f1 (w1.trans hw) ax1.2.2.2
  have e2' : f_Flow_comeToHandlers a (Int32.ofNat i) X1 = some X2 := by
    unfold f_Flow_comeToHandlers
    have : lp (b2_Flow_comeToHandlers a (Int32.ofNat i)) 10000 ((0 : Int32), X1) = some (v, X2) := e2
    rw [this]
    rfl
  have o2 : Only Fal X X2 := o1.trans (c92.1.mono (by unfold Fcx Fal; omega))
  unfold f_Flow_lookAt
  rw [if_pos (by simp (disch := omega) only [o_le, o_leL, o_leR, o_lt, o_ltL, o_ltR, o_eq, o_eqL, o_eqR, o_cl, o_add, o_addL, o_addR, o_mul, o_mulL, o_mulR, o_sub, o_subR, o_0le, o_lt0, o_ixo, n1_eq, n1_eq', n1_lt, n1_le, n1_ge, n1_gt, n2_eq, n2_eq', n2_lt, n2_le, n2_ge, n2_gt, ↓reduceIte, ite_self, Nat.reduceEqDiff, Nat.reduceAdd, Nat.reduceMul, Nat.reduceSub, Nat.reduceLT, Nat.reduceLeDiff, Nat.not_lt_zero, Nat.zero_le, if_true, if_false, ite_true, ite_false, true_and, and_true, false_and, and_false, true_implies, false_implies, implies_true, not_true_eq_false, not_false_eq_true, eq_self, true_or, or_true, false_or, or_false, and_self, reduceCtorEq, forall_const]; exact i59), ld, e2']
  simp only [Option.bind_some]
  rcases hr with ⟨w, hw1, hw2, rfl⟩ | ⟨S1, hS1, hr⟩
  · rcases b2 with ⟨w', q1, q2, q3⟩ | ⟨S', q1, _⟩
    · rw [hw1] at q1
      cases q1
      have nw : ¬ X2.1 22 10 = -1 := by rw [q3, n1_eq _ (by omega)]; exact not_false
      refine ⟨X2, by rw [if_neg nw], o2, ?_, ?_⟩
      · intro w0 hw0; cases hw0; exact q3
      · intro S' hS'; cases hS'
    · rw [hw1] at q1; cases q1
  rcases b2 with ⟨w', q1, _⟩ | ⟨S', q1, q2, q3⟩
  · rw [hS1] at q1; cases q1
  rw [hS1] at q1
  cases q1
  have ax2 := c92.a ax1
  have hc2 := Only.rsc h ht o2 (by unfold Fal; omega)
  have hp2 : X2.2.1 2 m = some a := by rw [o2.1]; exact hp
  obtain ⟨a', f, ra, rv⟩ := hc2.2.2.2.2.2 m hm
  have ea : a' = a := by have := ra.1; rw [hp2] at this; exact (Option.some.inj this).symm
  subst ea
  obtain ⟨s', v16, v17, v18⟩ := rv.2.2.2.2.2.2.2.2.2.2.2.2.2.2.1
  have es' : s' = s := by rw [v17, o_eq _ _ (by omega) (by omega)] at es; exact es
  subst es'
  obtain ⟨u1, u2, u3⟩ := v18 i hi
  obtain ⟨p7, t7, _⟩ := ra.2.2.2.1 7 (Or.inl rfl)
  obtain ⟨p8, t8, _⟩ := ra.2.2.2.1 8 (Or.inr rfl)
  have l7 := xL_iff.mpr t7
  have l8 := xL_iff.mpr t8
  obtain ⟨op, hop, eop⟩ := toNle (n := 55) (by omega) u3.1 u3.2
  have eopN : opN M m i = op := by unfold opN; rw [eop, o_cl op (by omega)]
  have r7 : X2.1 (f 7) i = Int32.ofNat op := u1.trans eop
  have r8 : X2.1 (f 8) i = odI M m i := u2
  have i60 : i < 60 := by omega
  obtain ⟨b, epos, hpos⟩ := possX (od := odI M m i) hc2 hm hp2 (show op < 56 by omega)
  rw [eopN] at hr
  have ix60 : ixo (Int32.ofNat i) 60 := by rw [o_ixo i 60 (by omega)]; exact i60
  have ei : (Int32.ofNat i).toNatClampNeg = i := o_cl i (by omega)
  rw [if_pos q2, if_pos ra.2.1]
  unfold ocz
  rw [p7]
  dsimp only
  rw [l7]
  dsimp only
  rw [if_pos ix60, p8]
  dsimp only
  rw [l8]
  dsimp only
  rw [if_pos ix60, ei, r7, r8, epos]
  simp only [Option.bind_some]
  have wi : ∀ Y, Only Fal X Y → ∃ X', (lt (xw Y 22 10 (Int32.ofNat i)) fun X63 => some X63) = some X' ∧ Only Fal X X' ∧ (∀ w, (Sum.inl i : Nat ⊕ FS) = .inl w → X'.1 22 10 = Int32.ofNat w) ∧ (∀ S', (Sum.inl i : Nat ⊕ FS) = .inr S' → X'.1 22 10 = -1 ∧ FX X' S') := by
    intro Y hY
    refine ⟨_, rfl, hY.xw (by unfold Fal; omega) _ _, ?_, ?_⟩
    · intro w hw; cases hw; rw [xw1, if_pos ⟨rfl, rfl⟩]
    · intro S' hS'; cases hS'
  rcases hr with ⟨np, rfl⟩ | ⟨pp, tn, rfl⟩ | ⟨pp, g, hh, l, tn, hr⟩
  · have nb : ¬ b = true := fun q => np (hpos.mp q)
    rw [if_neg nb]
    exact wi X2 o2
  · rw [if_pos (hpos.mpr pp)]
    obtain ⟨b', X3, e3, o3, b3⟩ := apply_ok hc2 ht hm (show op < 56 by omega) pp ax2
    rw [e3]
    simp only [Option.bind_some]
    rcases b3 with ⟨rfl, _⟩ | ⟨rfl, g', h', l', q, _⟩
    · rw [if_neg (by decide)]
      exact wi X3 (o2.trans (o3.1.mono (by unfold Flx Fal; omega)))
    · rw [tn] at q; cases q
  rw [if_pos (hpos.mpr pp)]
  obtain ⟨b', X3, e3, o3, b3⟩ := apply_ok hc2 ht hm (show op < 56 by omega) pp ax2
  rw [e3]
  simp only [Option.bind_some]
  rcases b3 with ⟨rfl, q⟩ | ⟨rfl, g', h', l', q, ax3⟩
  · rw [tn] at q; cases q
  rw [tn] at q
  cases q
  rw [if_pos rfl]
  have o3' : Only Fal X X3 := o2.trans (o3.1.mono (by unfold Flx Fal; omega))
  have f3 := o3.c q3
  have w3 : X3.1 22 10 = -1 := (o3.2 10 (by omega)).trans q2
  have jm : (f_P_jumps (Int32.ofNat op) = true) = isJ op := by
    unfold f_P_jumps isJ
    simp (disch := omega) only [o_le, o_leL, o_leR, o_lt, o_ltL, o_ltR, o_eq, o_eqL, o_eqR, o_cl, o_add, o_addL, o_addR, o_mul, o_mulL, o_mulR, o_sub, o_subR, o_0le, o_lt0, o_ixo, n1_eq, n1_eq', n1_lt, n1_le, n1_ge, n1_gt, n2_eq, n2_eq', n2_lt, n2_le, n2_ge, n2_gt, ↓reduceIte, ite_self, Nat.reduceEqDiff, Nat.reduceAdd, Nat.reduceMul, Nat.reduceSub, Nat.reduceLT, Nat.reduceLeDiff, Nat.not_lt_zero, Nat.zero_le, if_true, if_false, ite_true, ite_false, true_and, and_true, false_and, and_false, true_implies, false_implies, implies_true, not_true_eq_false, not_false_eq_true, eq_self, true_or, or_true, false_or, or_false, and_self, reduceCtorEq, forall_const]
    by_cases c : 19 ≤ op ∧ op ≤ 25 <;> simp [c]
  have tail : ∀ X4 S2, Only Fal X X4 → FX X4 S2 → X4.1 22 10 = -1 → AX X4 g hh l → ((isE op ∧ res = .inr S2) ∨ (¬ isE op ∧ i + 1 = s' ∧ res = .inl i) ∨ (¬ isE op ∧ i + 1 ≠ s' ∧ ((come S2 (i + 1) g hh l = none ∧ res = .inl (i + 1)) ∨ ∃ S3, come S2 (i + 1) g hh l = some S3 ∧ res = .inr S3))) → ∃ X', (if Int32.ofNat op = 19 then some X4 else (if 40 ≤ Int32.ofNat op ∧ Int32.ofNat op ≤ 43 then some X4 else (if (xT X4 a' = some (12, 0)) then (if X4.1 a' 6 ≤ Int32.ofNat i + 1 then (lt (xw X4 22 10 (Int32.ofNat i)) fun X43 => some X43) else ((f_Flow_comeTo_28 (Int32.ofNat i + 1) (X4.1 22 9) X4).bind fun x44 => some x44)) else none))) = some X' ∧ Only Fal X X' ∧ (∀ w, res = .inl w → X'.1 22 10 = Int32.ofNat w) ∧ (∀ S', res = .inr S' → X'.1 22 10 = -1 ∧ FX X' S') := by
    intro X4 S2 o4 f4 w4 ax4 hres
    have hc4 := Only.rsc h ht o4 (by unfold Fal; omega)
    obtain ⟨a4, f4', ra4, rv4⟩ := hc4.2.2.2.2.2 m hm
    have ea4 : a4 = a' := by have := ra4.1; rw [o4.1, hp] at this; exact (Option.some.inj this).symm
    subst ea4
    have v7 : X4.1 a4 6 = Int32.ofNat s' := rv4.2.2.2.2.2.2.1.trans v17
    rcases hres with ⟨ee, rfl⟩ | ⟨ee, e5, rfl⟩ | ⟨ee, e5, hres⟩
    · refine ⟨X4, ?_, o4, fun w hw => (by cases hw), fun S' hS' => by cases hS'; exact ⟨w4, f4⟩⟩
      rcases ee with e19 | e40
      · rw [if_pos (by rw [e19]; rfl)]
      · by_cases e19 : op = 19
        · rw [if_pos (by rw [e19]; rfl)]
        · have z1 : ¬ Int32.ofNat op = 19 := by simp (disch := omega) only [o_le, o_leL, o_leR, o_lt, o_ltL, o_ltR, o_eq, o_eqL, o_eqR, o_cl, o_add, o_addL, o_addR, o_mul, o_mulL, o_mulR, o_sub, o_subR, o_0le, o_lt0, o_ixo, n1_eq, n1_eq', n1_lt, n1_le, n1_ge, n1_gt, n2_eq, n2_eq', n2_lt, n2_le, n2_ge, n2_gt, ↓reduceIte, ite_self, Nat.reduceEqDiff, Nat.reduceAdd, Nat.reduceMul, Nat.reduceSub, Nat.reduceLT, Nat.reduceLeDiff, Nat.not_lt_zero, Nat.zero_le, if_true, if_false, ite_true, ite_false, true_and, and_true, false_and, and_false, true_implies, false_implies, implies_true, not_true_eq_false, not_false_eq_true, eq_self, true_or, or_true, false_or, or_false, and_self, reduceCtorEq, forall_const]; exact e19
          have z2 : 40 ≤ Int32.ofNat op ∧ Int32.ofNat op ≤ 43 := by simp (disch := omega) only [o_le, o_leL, o_leR, o_lt, o_ltL, o_ltR, o_eq, o_eqL, o_eqR, o_cl, o_add, o_addL, o_addR, o_mul, o_mulL, o_mulR, o_sub, o_subR, o_0le, o_lt0, o_ixo, n1_eq, n1_eq', n1_lt, n1_le, n1_ge, n1_gt, n2_eq, n2_eq', n2_lt, n2_le, n2_ge, n2_gt, ↓reduceIte, ite_self, Nat.reduceEqDiff, Nat.reduceAdd, Nat.reduceMul, Nat.reduceSub, Nat.reduceLT, Nat.reduceLeDiff, Nat.not_lt_zero, Nat.zero_le, if_true, if_false, ite_true, ite_false, true_and, and_true, false_and, and_false, true_implies, false_implies, implies_true, not_true_eq_false, not_false_eq_true, eq_self, true_or, or_true, false_or, or_false, and_self, reduceCtorEq, forall_const]; exact e40
          rw [if_neg z1, if_pos z2]
    · have z1 : ¬ Int32.ofNat op = 19 := by simp (disch := omega) only [o_le, o_leL, o_leR, o_lt, o_ltL, o_ltR, o_eq, o_eqL, o_eqR, o_cl, o_add, o_addL, o_addR, o_mul, o_mulL, o_mulR, o_sub, o_subR, o_0le, o_lt0, o_ixo, n1_eq, n1_eq', n1_lt, n1_le, n1_ge, n1_gt, n2_eq, n2_eq', n2_lt, n2_le, n2_ge, n2_gt, ↓reduceIte, ite_self, Nat.reduceEqDiff, Nat.reduceAdd, Nat.reduceMul, Nat.reduceSub, Nat.reduceLT, Nat.reduceLeDiff, Nat.not_lt_zero, Nat.zero_le, if_true, if_false, ite_true, ite_false, true_and, and_true, false_and, and_false, true_implies, false_implies, implies_true, not_true_eq_false, not_false_eq_true, eq_self, true_or, or_true, false_or, or_false, and_self, reduceCtorEq, forall_const]; exact fun q => ee (Or.inl q)
      have z2 : ¬ (40 ≤ Int32.ofNat op ∧ Int32.ofNat op ≤ 43) := by simp (disch := omega) only [o_le, o_leL, o_leR, o_lt, o_ltL, o_ltR, o_eq, o_eqL, o_eqR, o_cl, o_add, o_addL, o_addR, o_mul, o_mulL, o_mulR, o_sub, o_subR, o_0le, o_lt0, o_ixo, n1_eq, n1_eq', n1_lt, n1_le, n1_ge, n1_gt, n2_eq, n2_eq', n2_lt, n2_le, n2_ge, n2_gt, ↓reduceIte, ite_self, Nat.reduceEqDiff, Nat.reduceAdd, Nat.reduceMul, Nat.reduceSub, Nat.reduceLT, Nat.reduceLeDiff, Nat.not_lt_zero, Nat.zero_le, if_true, if_false, ite_true, ite_false, true_and, and_true, false_and, and_false, true_implies, false_implies, implies_true, not_true_eq_false, not_false_eq_true, eq_self, true_or, or_true, false_or, or_false, and_self, reduceCtorEq, forall_const]; exact fun q => ee (Or.inr q)
      have z3 : X4.1 a4 6 ≤ Int32.ofNat i + 1 := by rw [v7]; simp (disch := omega) only [o_le, o_leL, o_leR, o_lt, o_ltL, o_ltR, o_eq, o_eqL, o_eqR, o_cl, o_add, o_addL, o_addR, o_mul, o_mulL, o_mulR, o_sub, o_subR, o_0le, o_lt0, o_ixo, n1_eq, n1_eq', n1_lt, n1_le, n1_ge, n1_gt, n2_eq, n2_eq', n2_lt, n2_le, n2_ge, n2_gt, ↓reduceIte, ite_self, Nat.reduceEqDiff, Nat.reduceAdd, Nat.reduceMul, Nat.reduceSub, Nat.reduceLT, Nat.reduceLeDiff, Nat.not_lt_zero, Nat.zero_le, if_true, if_false, ite_true, ite_false, true_and, and_true, false_and, and_false, true_implies, false_implies, implies_true, not_true_eq_false, not_false_eq_true, eq_self, true_or, or_true, false_or, or_false, and_self, reduceCtorEq, forall_const]; omega
      rw [if_neg z1, if_neg z2, if_pos ra4.2.1, if_pos z3]
      exact wi X4 o4
    · have z1 : ¬ Int32.ofNat op = 19 := by simp (disch := omega) only [o_le, o_leL, o_leR, o_lt, o_ltL, o_ltR, o_eq, o_eqL, o_eqR, o_cl, o_add, o_addL, o_addR, o_mul, o_mulL, o_mulR, o_sub, o_subR, o_0le, o_lt0, o_ixo, n1_eq, n1_eq', n1_lt, n1_le, n1_ge, n1_gt, n2_eq, n2_eq', n2_lt, n2_le, n2_ge, n2_gt, ↓reduceIte, ite_self, Nat.reduceEqDiff, Nat.reduceAdd, Nat.reduceMul, Nat.reduceSub, Nat.reduceLT, Nat.reduceLeDiff, Nat.not_lt_zero, Nat.zero_le, if_true, if_false, ite_true, ite_false, true_and, and_true, false_and, and_false, true_implies, false_implies, implies_true, not_true_eq_false, not_false_eq_true, eq_self, true_or, or_true, false_or, or_false, and_self, reduceCtorEq, forall_const]; exact fun q => ee (Or.inl q)
      have z2 : ¬ (40 ≤ Int32.ofNat op ∧ Int32.ofNat op ≤ 43) := by simp (disch := omega) only [o_le, o_leL, o_leR, o_lt, o_ltL, o_ltR, o_eq, o_eqL, o_eqR, o_cl, o_add, o_addL, o_addR, o_mul, o_mulL, o_mulR, o_sub, o_subR, o_0le, o_lt0, o_ixo, n1_eq, n1_eq', n1_lt, n1_le, n1_ge, n1_gt, n2_eq, n2_eq', n2_lt, n2_le, n2_ge, n2_gt, ↓reduceIte, ite_self, Nat.reduceEqDiff, Nat.reduceAdd, Nat.reduceMul, Nat.reduceSub, Nat.reduceLT, Nat.reduceLeDiff, Nat.not_lt_zero, Nat.zero_le, if_true, if_false, ite_true, ite_false, true_and, and_true, false_and, and_false, true_implies, false_implies, implies_true, not_true_eq_false, not_false_eq_true, eq_self, true_or, or_true, false_or, or_false, and_self, reduceCtorEq, forall_const]; exact fun q => ee (Or.inr q)
      have z3 : ¬ X4.1 a4 6 ≤ Int32.ofNat i + 1 := by rw [v7]; simp (disch := omega) only [o_le, o_leL, o_leR, o_lt, o_ltL, o_ltR, o_eq, o_eqL, o_eqR, o_cl, o_add, o_addL, o_addR, o_mul, o_mulL, o_mulR, o_sub, o_subR, o_0le, o_lt0, o_ixo, n1_eq, n1_eq', n1_lt, n1_le, n1_ge, n1_gt, n2_eq, n2_eq', n2_lt, n2_le, n2_ge, n2_gt, ↓reduceIte, ite_self, Nat.reduceEqDiff, Nat.reduceAdd, Nat.reduceMul, Nat.reduceSub, Nat.reduceLT, Nat.reduceLeDiff, Nat.not_lt_zero, Nat.zero_le, if_true, if_false, ite_true, ite_false, true_and, and_true, false_and, and_false, true_implies, false_implies, implies_true, not_true_eq_false, not_false_eq_true, eq_self, true_or, or_true, false_or, or_false, and_self, reduceCtorEq, forall_const]; omega
      rw [if_neg z1, if_neg z2, if_pos ra4.2.1, if_neg z3, ax4.1]
      have ei1 : Int32.ofNat i + 1 = Int32.ofNat (i + 1) := by simp (disch := omega) only [o_le, o_leL, o_leR, o_lt, o_ltL, o_ltR, o_eq, o_eqL, o_eqR, o_cl, o_add, o_addL, o_addR, o_mul, o_mulL, o_mulR, o_sub, o_subR, o_0le, o_lt0, o_ixo, n1_eq, n1_eq', n1_lt, n1_le, n1_ge, n1_gt, n2_eq, n2_eq', n2_lt, n2_le, n2_ge, n2_gt, ↓reduceIte, ite_self, Nat.reduceEqDiff, Nat.reduceAdd, Nat.reduceMul, Nat.reduceSub, Nat.reduceLT, Nat.reduceLeDiff, Nat.not_lt_zero, Nat.zero_le, if_true, if_false, ite_true, ite_false, true_and, and_true, false_and, and_false, true_implies, false_implies, implies_true, not_true_eq_false, not_false_eq_true, eq_self, true_or, or_true, false_or, or_false, and_self, reduceCtorEq, forall_const]
      rw [ei1]
      obtain ⟨X5, e5', c95, b5⟩ := come_28 (i := i + 1) f4 (by omega) ax4.2.1 ax4.2.2.1 ax4.2.2.2
      rw [e5']
      refine ⟨X5, rfl, o4.trans (c95.1.mono (by unfold Fcx Fal; omega)), ?_, ?_⟩
      · intro w hw
        rcases b5 with ⟨n1, n2⟩ | ⟨S'', n1, n2, n3⟩
        · rcases hres with ⟨_, rfl⟩ | ⟨S3, n, _⟩
          · cases hw; exact n2
          · rw [n1] at n; cases n
        · rcases hres with ⟨n, _⟩ | ⟨S3, _, rfl⟩
          · rw [n1] at n; cases n
          · cases hw
      · intro S' hS'
        rcases b5 with ⟨n1, n2⟩ | ⟨S'', n1, n2, n3⟩
        · rcases hres with ⟨_, rfl⟩ | ⟨S3, n, _⟩
          · cases hS'
          · rw [n1] at n; cases n
        · rcases hres with ⟨n, _⟩ | ⟨S3, n, rfl⟩
          · rw [n1] at n; cases n
          · rw [n1] at n
            cases n
            cases hS'
            exact ⟨n2.trans w4, n3⟩
  rcases hr with ⟨j, cn, rfl⟩ | ⟨S2, hS2, hres⟩
  · -- a jump that does not fit
    obtain ⟨t, ht', et⟩ : ∃ t, t < s' ∧ odI M m i = Int32.ofNat t := by
      have := (posJ j).mp pp
      rw [v17] at this
      obtain ⟨k, hk, e⟩ := (le1_iff (kc := s') (by omega) (odI M m i)).mp this
      exact ⟨k, hk, e⟩
    rw [if_pos (by rw [jm]; exact j), ax3.1, et]
    rw [et, o_cl t (by omega)] at cn
    obtain ⟨X4, e4, c94, b4⟩ := come_28 (i := t) f3 (by omega) ax3.2.1 ax3.2.2.1 ax3.2.2.2
    rw [e4]
    simp only [Option.bind_some]
    rcases b4 with ⟨n1, n2⟩ | ⟨S'', n1, _⟩
    · have nw : ¬ X4.1 22 10 = -1 := by rw [n2, n1_eq _ (by omega)]; exact not_false
      refine ⟨X4, ?_, o3'.trans (c94.1.mono (by unfold Fcx Fal; omega)), ?_, fun S' hS' => (by cases hS')⟩
      · simp only [nw, not_false_eq_true, if_true, ite_true, ite_self]
      · intro w hw
        have hw' : (Int32.ofNat t).toNatClampNeg = w := Sum.inl.inj hw
        rw [o_cl t (by omega)] at hw'
        rw [← hw']
        exact n2
    · rw [cn] at n1; cases n1
  rcases hS2 with ⟨j, cs⟩ | ⟨j, rfl⟩
  · obtain ⟨t, ht', et⟩ : ∃ t, t < s' ∧ odI M m i = Int32.ofNat t := by
      have := (posJ j).mp pp
      rw [v17] at this
      obtain ⟨k, hk, e⟩ := (le1_iff (kc := s') (by omega) (odI M m i)).mp this
      exact ⟨k, hk, e⟩
    rw [if_pos (by rw [jm]; exact j), ax3.1, et]
    rw [et, o_cl t (by omega)] at cs
    obtain ⟨X4, e4, c94, b4⟩ := come_28 (i := t) f3 (by omega) ax3.2.1 ax3.2.2.1 ax3.2.2.2
    rw [e4]
    simp only [Option.bind_some]
    rcases b4 with ⟨n1, n2⟩ | ⟨S'', n1, n2, n3⟩
    · rw [cs] at n1; cases n1
    · rw [cs] at n1
      cases n1
      have w4 : X4.1 22 10 = -1 := n2.trans w3
      have tl := tail X4 S2 (o3'.trans (c94.1.mono (by unfold Fcx Fal; omega))) n3 w4 (c94.a ax3) hres
      simp only [w4, not_true_eq_false, if_false, ite_false, ite_self]
      exact tl
  · rw [if_neg (by rw [jm]; exact j)]
    have tl := tail X3 S2 o3' f3 w3 ax3 hres
    simp only [w3, not_true_eq_false, if_false, ite_false, ite_self]
    exact tl
