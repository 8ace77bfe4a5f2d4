/-! H5 -/
/-- lists one after the other -/
def cat (f : Nat → List Int32) : Nat → List Int32
  | 0 => []
  | n + 1 => cat f n ++ f n
def w2 (v : Int32) : List Int32 := [(v : Int32) >>> ((8 : Int32) &&& 31), v]
/-- what the linker reads of a state while it writes -/
def EX (Mr : MS) (kc rc : Nat) (X : XS) (T : Nat → Nat) : Prop := RSc X Mr T kc rc ∧ TG T ∧ Same kc rc X Mr ∧ ∀ m, m < 24 → fm Mr 75 m → (∀ i, i < 60 → (fl X 11 (60 * m + i) ↔ fm Mr 88 (60 * m + i))) ∧ X.1 12 m = Mr.1 89 m
def WrT (t : Nat) : Prop := t = 1 ∨ t = 1030 ∨ t = 1013 ∨ t = 1032 ∨ t = 1033 ∨ t = 1034
/-- the state of the class while it writes: l is written -/
def QX (Mr : MS) (kc rc : Nat) (X0 : XS) (T0 : Nat → Nat) (X : XS) (T : Nat → Nat) (l : List Int32) (o hd nm sk : Nat → Int32) : Prop := EX Mr kc rc X T ∧ (∃ b L, IMG 30 1 X T l.length b L ∧ ∀ j, j < l.length → X.1 b j = l.getD j 0 &&& 255) ∧ X.1 13 = o ∧ X.1 32 = hd ∧ X.1 33 = nm ∧ X.1 34 = sk ∧ Mo T0 T X0 X ∧ Un (fun t => ¬ WrT t) T0 X0 X
def Fw (a i : Nat) : Prop := a = 92 ∨ a = 93 ∨ (a = 60 ∧ i = 39)
/-- the state of the reference while it writes -/
def QM (Mr M : MS) (l : List Int32) (o : Nat → Int32) : Prop := MO Fw Mr M ∧ M.1 60 39 = Int32.ofNat l.length ∧ (∀ j, j < l.length → M.1 92 j = l.getD j 0 &&& 255) ∧ M.1 93 = o
theorem Mo.trans {T T' T'' : Nat → Nat} {X Y Z : XS} (h : Mo T T' X Y) (k : Mo T' T'' Y Z) : Mo T T'' X Z := ⟨⟨Nat.le_trans h.1.1 k.1.1, h.1.2.trans k.1.2⟩, fun b hb => (k.2.1 b (Nat.lt_of_lt_of_le hb h.1.1)).trans (h.2.1 b hb), fun b q hq => k.2.2 b q (h.2.2 b q hq)⟩
set_option maxRecDepth 20000 in
set_option maxHeartbeats 4000000 in
theorem Un.trans {S : Nat → Prop} {T T' : Nat → Nat} {X Y Z : XS} (h : Un S T X Y) (hm : Mo T T' X Y) (k : Un S T' Y Z) : Un S T X Z := by
  intro b hb hs
  have h1 := h b hb hs
  have h2 := k b (Nat.lt_of_lt_of_le hb hm.1.1) (by rw [hm.2.1 b hb]; exact hs)
  exact ⟨h2.1.trans h1.1, h2.2.trans h1.2⟩
theorem Un.mono {S S' : Nat → Prop} {T : Nat → Nat} {X Y : XS} (h : Un S T X Y) (k : ∀ t, S' t → S t) : Un S' T X Y := fun b hb hs => h b hb (k _ hs)
theorem un_fix {S : Nat → Prop} {T : Nat → Nat} {X Y : XS} (h : Un S T X Y) (ht : TG T) {a : Nat} (ha : a < 30 ∨ (32 ≤ a ∧ a ≤ 35)) (hs : S (1000 + a)) : Y.1 a = X.1 a := (h a (by have := xA130 X; omega) (by rw [ht a (by omega) (by omega) (by omega) (by omega) (by omega) (by omega) (by omega)]; exact hs)).1
set_option maxRecDepth 20000 in
set_option maxHeartbeats 4000000 in
theorem EX_frame {Mr : MS} {kc rc : Nat} {X X' : XS} {T T' : Nat → Nat} (h : EX Mr kc rc X T) (hu : Un (fun t => ¬ WrT t) T X X') (hm : Mo T T' X X') (ht : TG T') : EX Mr kc rc X' T' := by
  obtain ⟨h1, h2, h3, h4⟩ := h
  have f : ∀ a, a = 11 ∨ a = 12 ∨ (14 ≤ a ∧ a ≤ 21) → X'.1 a = X.1 a := fun a ha => un_fix hu h2 (by omega) (by unfold WrT; omega)
  refine ⟨RSc_frame h1 h2 (hu.mono (fun t q => by unfold SrcT at q; unfold WrT; omega)) hm (MSrc.refl Mr), ht, Same_only h3 (f _ (by omega)) (f _ (by omega)) (f _ (by omega)) (f _ (by omega)) (f _ (by omega)), ?_⟩
  intro m hm' hr
  unfold fl
  rw [f 11 (by omega), f 12 (by omega)]
  exact h4 m hm' hr
theorem getD_app1 (l : List Int32) (v : Int32) (j : Nat) (h : j < l.length) : (l ++ [v]).getD j 0 = l.getD j 0 := by
  rw [List.getD_eq_getElem?_getD, List.getD_eq_getElem?_getD, List.getElem?_append_left h]
theorem getD_app2 (l : List Int32) (v : Int32) : (l ++ [v]).getD l.length 0 = v := by
  rw [List.getD_eq_getElem?_getD, List.getElem?_append_right (Nat.le_refl _)]
  simp
set_option maxRecDepth 20000 in
set_option maxHeartbeats 4000000 in
theorem put_q {Mr : MS} {kc rc : Nat} {X0 X : XS} {T0 T : Nat → Nat} {l : List Int32} {o hd nm sk : Nat → Int32} (h : QX Mr kc rc X0 T0 X T l o hd nm sk) (hl : l.length < 5663) (v : Int32) {β : Type} {k : Bool × XS → Option β} {R : β → Prop} (hk : ∀ X' T', QX Mr kc rc X0 T0 X' T' (l ++ [v]) o hd nm sk → Wo (k (true, X')) R) : Wo ((f_Image_put_30 v X).bind k) R := by
  obtain ⟨h1, ⟨b, L, h2, h3⟩, h4, h5, h6, h7, h8, h9⟩ := h
  rw [W_bind]
  refine Wo.mono (put_30 h2 h1.2.1 hl v) ?_
  rintro ⟨r, X'⟩ ⟨rfl, T', b', L', g1, g2, g3, g4, g5, g6, g7, g8⟩
  have hu : Un (fun t => ¬ WrT t) T X X' := g6.mono (fun t q => by unfold WrT at q; omega)
  have f : ∀ a, a = 13 ∨ a = 32 ∨ a = 33 ∨ a = 34 → X'.1 a = X.1 a := fun a ha => un_fix g6 h1.2.1 (by omega) (by omega)
  refine hk X' T' ⟨EX_frame h1 hu g4 g5, ⟨b', L', by rw [List.length_append]; exact g1, ?_⟩, (f 13 (by omega)).trans h4, (f 32 (by omega)).trans h5, (f 33 (by omega)).trans h6, (f 34 (by omega)).trans h7, h8.trans g4, h9.trans h8 hu⟩
  intro j hj
  rw [List.length_append] at hj
  by_cases e : j = l.length
  · subst e
    rw [getD_app2]
    exact g3
  · have hj' : j < l.length := by simp at hj; omega
    rw [getD_app1 l v j hj']
    exact (g2 j hj').trans (h3 j hj')
set_option maxRecDepth 20000 in
set_option maxHeartbeats 4000000 in
theorem two_q {Mr : MS} {kc rc : Nat} {X0 X : XS} {T0 T : Nat → Nat} {l : List Int32} {o hd nm sk : Nat → Int32} (h : QX Mr kc rc X0 T0 X T l o hd nm sk) (hl : l.length + 1 < 5663) (v : Int32) {β : Type} {k : XS → Option β} {R : β → Prop} (hk : ∀ X' T', QX Mr kc rc X0 T0 X' T' (l ++ w2 v) o hd nm sk → Wo (k X') R) : Wo ((f_Image_putTwo_30 v X).bind k) R := by
  unfold f_Image_putTwo_30
  rw [Option.bind_assoc]
  refine put_q h (by omega) _ ?_
  intro X1 T1 q1
  dsimp only
  rw [Option.bind_assoc]
  refine put_q q1 (by rw [List.length_append]; exact hl) _ ?_
  intro X2 T2 q2
  rw [List.append_assoc] at q2
  exact hk X2 T2 q2
set_option maxRecDepth 20000 in
set_option maxHeartbeats 4000000 in
theorem put_m {Mr M : MS} {l : List Int32} {o : Nat → Int32} (h : QM Mr M l o) (hl : l.length < 8000) (v : Int32) {β : Type} {k : MS → Option β} {R : β → Prop} (hk : ∀ M', QM Mr M' (l ++ [v]) o → Wo (k M') R) : Wo ((f_M_put v M).bind k) R := by
  obtain ⟨h1, h2, h3, h4⟩ := h
  unfold f_M_put
  simp (disch := omega) only [W_some, W_none, W_bind, W_ite, W_ocz, W_lt, h2, hl, o_le, o_leL, o_leR, o_lt, o_ltL, o_ltR, o_eq, o_eqL, o_eqR, o_cl, o_add, o_addL, o_addR, o_mul, o_mulL, o_mulR, o_sub, o_subR, o_0le, o_lt0, o_ixo, n1_eq, n1_eq', n1_lt, n1_le, n1_ge, n1_gt, n2_eq, n2_eq', n2_lt, n2_le, n2_ge, n2_gt, ↓reduceIte, ite_self, Nat.reduceEqDiff, Nat.reduceAdd, Nat.reduceMul, Nat.reduceSub, Nat.reduceLT, Nat.reduceLeDiff, Nat.not_lt_zero, Nat.zero_le, if_true, if_false, ite_true, ite_false, true_and, and_true, false_and, and_false, true_implies, false_implies, implies_true, not_true_eq_false, not_false_eq_true, eq_self, true_or, or_true, false_or, or_false, and_self, reduceCtorEq, forall_const]
  have e : (mw M 92 l.length (v &&& 255)).1 60 39 + 1 = Int32.ofNat (l.length + 1) := by simp (disch := omega) only [xTw, xLw, xAw, xTp, xLp, xAp, xTc, xLc, xAc, xAn, xTn, xLn, xw1, xw2, xp1, xp2, xp3, mw1, mw2, xn1, xn2, xc1, xc2, h2, o_le, o_leL, o_leR, o_lt, o_ltL, o_ltR, o_eq, o_eqL, o_eqR, o_cl, o_add, o_addL, o_addR, o_mul, o_mulL, o_mulR, o_sub, o_subR, o_0le, o_lt0, o_ixo, n1_eq, n1_eq', n1_lt, n1_le, n1_ge, n1_gt, n2_eq, n2_eq', n2_lt, n2_le, n2_ge, n2_gt, ↓reduceIte, ite_self, Nat.reduceEqDiff, Nat.reduceAdd, Nat.reduceMul, Nat.reduceSub, Nat.reduceLT, Nat.reduceLeDiff, Nat.not_lt_zero, Nat.zero_le, if_true, if_false, ite_true, ite_false, true_and, and_true, false_and, and_false, true_implies, false_implies, implies_true, not_true_eq_false, not_false_eq_true, eq_self, true_or, or_true, false_or, or_false, and_self, reduceCtorEq, forall_const]
  rw [e]
  refine hk _ ⟨(h1.mw (Or.inl rfl) _).mw (Or.inr (Or.inr ⟨rfl, rfl⟩)) _, ?_, ?_, ?_⟩
  · simp (disch := omega) only [xTw, xLw, xAw, xTp, xLp, xAp, xTc, xLc, xAc, xAn, xTn, xLn, xw1, xw2, xp1, xp2, xp3, mw1, mw2, xn1, xn2, xc1, xc2, o_le, o_leL, o_leR, o_lt, o_ltL, o_ltR, o_eq, o_eqL, o_eqR, o_cl, o_add, o_addL, o_addR, o_mul, o_mulL, o_mulR, o_sub, o_subR, o_0le, o_lt0, o_ixo, n1_eq, n1_eq', n1_lt, n1_le, n1_ge, n1_gt, n2_eq, n2_eq', n2_lt, n2_le, n2_ge, n2_gt, ↓reduceIte, ite_self, Nat.reduceEqDiff, Nat.reduceAdd, Nat.reduceMul, Nat.reduceSub, Nat.reduceLT, Nat.reduceLeDiff, Nat.not_lt_zero, Nat.zero_le, if_true, if_false, ite_true, ite_false, true_and, and_true, false_and, and_false, true_implies, false_implies, implies_true, not_true_eq_false, not_false_eq_true, eq_self, true_or, or_true, false_or, or_false, and_self, reduceCtorEq, forall_const]
    rw [List.length_append]
    rfl
  · intro j hj
    rw [List.length_append] at hj
    by_cases e : j = l.length
    · subst e
      rw [getD_app2]
      simp (disch := omega) only [xTw, xLw, xAw, xTp, xLp, xAp, xTc, xLc, xAc, xAn, xTn, xLn, xw1, xw2, xp1, xp2, xp3, mw1, mw2, xn1, xn2, xc1, xc2, o_le, o_leL, o_leR, o_lt, o_ltL, o_ltR, o_eq, o_eqL, o_eqR, o_cl, o_add, o_addL, o_addR, o_mul, o_mulL, o_mulR, o_sub, o_subR, o_0le, o_lt0, o_ixo, n1_eq, n1_eq', n1_lt, n1_le, n1_ge, n1_gt, n2_eq, n2_eq', n2_lt, n2_le, n2_ge, n2_gt, ↓reduceIte, ite_self, Nat.reduceEqDiff, Nat.reduceAdd, Nat.reduceMul, Nat.reduceSub, Nat.reduceLT, Nat.reduceLeDiff, Nat.not_lt_zero, Nat.zero_le, if_true, if_false, ite_true, ite_false, true_and, and_true, false_and, and_false, true_implies, false_implies, implies_true, not_true_eq_false, not_false_eq_true, eq_self, true_or, or_true, false_or, or_false, and_self, reduceCtorEq, forall_const]
    · have hj' : j < l.length := by simp at hj; omega
      rw [getD_app1 l v j hj']
      simp (disch := omega) only [xTw, xLw, xAw, xTp, xLp, xAp, xTc, xLc, xAc, xAn, xTn, xLn, xw1, xw2, xp1, xp2, xp3, mw1, mw2, xn1, xn2, xc1, xc2, e, o_le, o_leL, o_leR, o_lt, o_ltL, o_ltR, o_eq, o_eqL, o_eqR, o_cl, o_add, o_addL, o_addR, o_mul, o_mulL, o_mulR, o_sub, o_subR, o_0le, o_lt0, o_ixo, n1_eq, n1_eq', n1_lt, n1_le, n1_ge, n1_gt, n2_eq, n2_eq', n2_lt, n2_le, n2_ge, n2_gt, ↓reduceIte, ite_self, Nat.reduceEqDiff, Nat.reduceAdd, Nat.reduceMul, Nat.reduceSub, Nat.reduceLT, Nat.reduceLeDiff, Nat.not_lt_zero, Nat.zero_le, if_true, if_false, ite_true, ite_false, true_and, and_true, false_and, and_false, true_implies, false_implies, implies_true, not_true_eq_false, not_false_eq_true, eq_self, true_or, or_true, false_or, or_false, and_self, reduceCtorEq, forall_const]
      exact h3 j hj'
  · rw [mw_ne _ _ _ _ (by omega), mw_ne _ _ _ _ (by omega)]
    exact h4
set_option maxRecDepth 20000 in
set_option maxHeartbeats 4000000 in
theorem two_m {Mr M : MS} {l : List Int32} {o : Nat → Int32} (h : QM Mr M l o) (hl : l.length + 1 < 8000) (v : Int32) {β : Type} {k : MS → Option β} {R : β → Prop} (hk : ∀ M', QM Mr M' (l ++ w2 v) o → Wo (k M') R) : Wo ((f_M_putTwo v M).bind k) R := by
  unfold f_M_putTwo
  rw [Option.bind_assoc]
  refine put_m h (by omega) _ ?_
  intro X1 q1
  rw [Option.bind_assoc]
  refine put_m q1 (by rw [List.length_append]; exact hl) _ ?_
  intro X2 q2
  rw [List.append_assoc] at q2
  exact hk X2 q2
