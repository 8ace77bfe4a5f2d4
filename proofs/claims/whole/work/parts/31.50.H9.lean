/-! H9 -/
set_option maxRecDepth 20000 in
set_option maxHeartbeats 4000000 in
theorem set13 {Mr : MS} {kc rc : Nat} {X0 X : XS} {T0 T : Nat → Nat} {l : List Int32} {o hd nm sk : Nat → Int32} (h : QX Mr kc rc X0 T0 X T l o hd nm sk) (i : Nat) (v : Int32) : QX Mr kc rc X0 T0 (xw X 13 i v) T l (upd o i v) hd nm sk := by
    obtain ⟨h1, ⟨b, L, h2, h3⟩, h4, h5, h6, h7, h8, h9⟩ := h
    have hu : Un (fun t => ¬ WrT t) T X (xw X 13 i v) := xw_un (fun _ _ _ => ⟨rfl, rfl⟩) (by rw [h1.2.1 13 (by omega) (by omega) (by omega) (by omega) (by omega) (by omega) (by omega)]; unfold WrT; omega) rfl
    have hm : Mo T T X (xw X 13 i v) := Mo.id T rfl
    have nb : b ≠ 13 := by
      intro e
      have := h2.2.2.2.2.2
      rw [e, h1.2.1 13 (by omega) (by omega) (by omega) (by omega) (by omega) (by omega) (by omega)] at this
      omega
    refine ⟨EX_frame h1 hu hm h1.2.1, ⟨b, L, ⟨?_, h2.2⟩, ?_⟩, ?_, ?_, ?_, ?_, h8.trans hm, h9.trans h8 hu⟩
    · rw [xw_ne _ _ _ _ (by omega)]; exact h2.1
    · intro j hj; rw [xw_ne _ _ _ _ nb]; exact h3 j hj
    · rw [← h4]
      funext j
      rw [xw1]
      unfold upd
      simp
    · rw [xw_ne _ _ _ _ (by omega)]; exact h5
    · rw [xw_ne _ _ _ _ (by omega)]; exact h6
    · rw [xw_ne _ _ _ _ (by omega)]; exact h7
set_option maxRecDepth 20000 in
set_option maxHeartbeats 4000000 in
theorem set32 {Mr : MS} {kc rc : Nat} {X0 X : XS} {T0 T : Nat → Nat} {l : List Int32} {o hd nm sk : Nat → Int32} (h : QX Mr kc rc X0 T0 X T l o hd nm sk) (i : Nat) (v : Int32) : QX Mr kc rc X0 T0 (xw X 32 i v) T l o (upd hd i v) nm sk := by
    obtain ⟨h1, ⟨b, L, h2, h3⟩, h4, h5, h6, h7, h8, h9⟩ := h
    have hu : Un (fun t => ¬ WrT t) T X (xw X 32 i v) := xw_un (fun _ _ _ => ⟨rfl, rfl⟩) (by rw [h1.2.1 32 (by omega) (by omega) (by omega) (by omega) (by omega) (by omega) (by omega)]; unfold WrT; omega) rfl
    have hm : Mo T T X (xw X 32 i v) := Mo.id T rfl
    have nb : b ≠ 32 := by
      intro e
      have := h2.2.2.2.2.2
      rw [e, h1.2.1 32 (by omega) (by omega) (by omega) (by omega) (by omega) (by omega) (by omega)] at this
      omega
    refine ⟨EX_frame h1 hu hm h1.2.1, ⟨b, L, ⟨?_, h2.2⟩, ?_⟩, ?_, ?_, ?_, ?_, h8.trans hm, h9.trans h8 hu⟩
    · rw [xw_ne _ _ _ _ (by omega)]; exact h2.1
    · intro j hj; rw [xw_ne _ _ _ _ nb]; exact h3 j hj
    · rw [xw_ne _ _ _ _ (by omega)]; exact h4
    · rw [← h5]
      funext j
      rw [xw1]
      unfold upd
      simp
    · rw [xw_ne _ _ _ _ (by omega)]; exact h6
    · rw [xw_ne _ _ _ _ (by omega)]; exact h7
set_option maxRecDepth 20000 in
set_option maxHeartbeats 4000000 in
theorem set33 {Mr : MS} {kc rc : Nat} {X0 X : XS} {T0 T : Nat → Nat} {l : List Int32} {o hd nm sk : Nat → Int32} (h : QX Mr kc rc X0 T0 X T l o hd nm sk) (i : Nat) (v : Int32) : QX Mr kc rc X0 T0 (xw X 33 i v) T l o hd (upd nm i v) sk := by
    obtain ⟨h1, ⟨b, L, h2, h3⟩, h4, h5, h6, h7, h8, h9⟩ := h
    have hu : Un (fun t => ¬ WrT t) T X (xw X 33 i v) := xw_un (fun _ _ _ => ⟨rfl, rfl⟩) (by rw [h1.2.1 33 (by omega) (by omega) (by omega) (by omega) (by omega) (by omega) (by omega)]; unfold WrT; omega) rfl
    have hm : Mo T T X (xw X 33 i v) := Mo.id T rfl
    have nb : b ≠ 33 := by
      intro e
      have := h2.2.2.2.2.2
      rw [e, h1.2.1 33 (by omega) (by omega) (by omega) (by omega) (by omega) (by omega) (by omega)] at this
      omega
    refine ⟨EX_frame h1 hu hm h1.2.1, ⟨b, L, ⟨?_, h2.2⟩, ?_⟩, ?_, ?_, ?_, ?_, h8.trans hm, h9.trans h8 hu⟩
    · rw [xw_ne _ _ _ _ (by omega)]; exact h2.1
    · intro j hj; rw [xw_ne _ _ _ _ nb]; exact h3 j hj
    · rw [xw_ne _ _ _ _ (by omega)]; exact h4
    · rw [xw_ne _ _ _ _ (by omega)]; exact h5
    · rw [← h6]
      funext j
      rw [xw1]
      unfold upd
      simp
    · rw [xw_ne _ _ _ _ (by omega)]; exact h7
set_option maxRecDepth 20000 in
set_option maxHeartbeats 4000000 in
theorem set34 {Mr : MS} {kc rc : Nat} {X0 X : XS} {T0 T : Nat → Nat} {l : List Int32} {o hd nm sk : Nat → Int32} (h : QX Mr kc rc X0 T0 X T l o hd nm sk) (i : Nat) (v : Int32) : QX Mr kc rc X0 T0 (xw X 34 i v) T l o hd nm (upd sk i v) := by
    obtain ⟨h1, ⟨b, L, h2, h3⟩, h4, h5, h6, h7, h8, h9⟩ := h
    have hu : Un (fun t => ¬ WrT t) T X (xw X 34 i v) := xw_un (fun _ _ _ => ⟨rfl, rfl⟩) (by rw [h1.2.1 34 (by omega) (by omega) (by omega) (by omega) (by omega) (by omega) (by omega)]; unfold WrT; omega) rfl
    have hm : Mo T T X (xw X 34 i v) := Mo.id T rfl
    have nb : b ≠ 34 := by
      intro e
      have := h2.2.2.2.2.2
      rw [e, h1.2.1 34 (by omega) (by omega) (by omega) (by omega) (by omega) (by omega) (by omega)] at this
      omega
    refine ⟨EX_frame h1 hu hm h1.2.1, ⟨b, L, ⟨?_, h2.2⟩, ?_⟩, ?_, ?_, ?_, ?_, h8.trans hm, h9.trans h8 hu⟩
    · rw [xw_ne _ _ _ _ (by omega)]; exact h2.1
    · intro j hj; rw [xw_ne _ _ _ _ nb]; exact h3 j hj
    · rw [xw_ne _ _ _ _ (by omega)]; exact h4
    · rw [xw_ne _ _ _ _ (by omega)]; exact h5
    · rw [xw_ne _ _ _ _ (by omega)]; exact h6
    · rw [← h7]
      funext j
      rw [xw1]
      unfold upd
      simp
/-- lengths of instructions in the image, and offsets -/
def ln0 (op : Nat) : Nat := if op = 2 ∨ op = 3 ∨ op = 26 ∨ op = 38 ∨ op = 39 ∨ op = 44 ∨ (52 ≤ op ∧ op ≤ 55) then 2 else if (19 ≤ op ∧ op ≤ 25) ∨ (27 ≤ op ∧ op ≤ 30) then 3 else 1
def ln (op : Nat) (od : Int32) : Nat := if op = 1 then (if -128 ≤ od ∧ od ≤ 127 then 2 else 3) else ln0 op
def lnF (M : MS) (m i : Nat) : Nat := if M.1 88 (60 * m + i) = 0 then 1 else ln (opN M m i) (odI M m i)
def off (M : MS) (m : Nat) : Nat → Nat
  | 0 => 0
  | i + 1 => off M m i + lnF M m i
set_option maxRecDepth 20000 in
set_option maxHeartbeats 4000000 in
theorem ln_le (op : Nat) (od : Int32) : 1 ≤ ln op od ∧ ln op od ≤ 3 := by
  unfold ln ln0
  repeat' split
  all_goals omega
set_option maxRecDepth 20000 in
set_option maxHeartbeats 4000000 in
theorem lnF_le (M : MS) (m i : Nat) : 1 ≤ lnF M m i ∧ lnF M m i ≤ 3 := by
  unfold lnF
  split
  · omega
  · exact ln_le _ _
set_option maxRecDepth 20000 in
set_option maxHeartbeats 4000000 in
theorem off_le (M : MS) (m : Nat) : ∀ i, i ≤ off M m i ∧ off M m i ≤ 3 * i
  | 0 => ⟨Nat.le_refl _, Nat.le_refl _⟩
  | i + 1 => by
    have := off_le M m i
    have := lnF_le M m i
    show i + 1 ≤ off M m i + lnF M m i ∧ off M m i + lnF M m i ≤ 3 * (i + 1)
    omega
theorem bytesOf_eq : ∀ op, op < 56 → op ≠ 1 → f_P_bytesOf (Int32.ofNat op) = Int32.ofNat (ln0 op) := by decide
set_option maxRecDepth 20000 in
set_option maxHeartbeats 4000000 in
theorem bytesOf_w {op : Nat} (h : op < 56) (od : Int32) : f_P_bytesOf (f_Linker_writtenOp (Int32.ofNat op) od) = Int32.ofNat (ln op od) := by
  unfold f_Linker_writtenOp ln
  by_cases e : op = 1
  · subst e
    by_cases c : -128 ≤ od ∧ od ≤ 127
    · simp (disch := omega) only [c, o_le, o_leL, o_leR, o_lt, o_ltL, o_ltR, o_eq, o_eqL, o_eqR, o_cl, o_add, o_addL, o_addR, o_mul, o_mulL, o_mulR, o_sub, o_subR, o_0le, o_lt0, o_ixo, n1_eq, n1_eq', n1_lt, n1_le, n1_ge, n1_gt, n2_eq, n2_eq', n2_lt, n2_le, n2_ge, n2_gt, ↓reduceIte, ite_self, Nat.reduceEqDiff, Nat.reduceAdd, Nat.reduceMul, Nat.reduceSub, Nat.reduceLT, Nat.reduceLeDiff, Nat.not_lt_zero, Nat.zero_le, if_true, if_false, ite_true, ite_false, true_and, and_true, false_and, and_false, true_implies, false_implies, implies_true, not_true_eq_false, not_false_eq_true, eq_self, true_or, or_true, false_or, or_false, and_self, reduceCtorEq, forall_const]
      decide
    · rw [if_neg (by decide), if_neg c, if_pos rfl, if_neg c]
      decide
  · have e' : ¬ Int32.ofNat op = 1 := by simp (disch := omega) only [o_le, o_leL, o_leR, o_lt, o_ltL, o_ltR, o_eq, o_eqL, o_eqR, o_cl, o_add, o_addL, o_addR, o_mul, o_mulL, o_mulR, o_sub, o_subR, o_0le, o_lt0, o_ixo, n1_eq, n1_eq', n1_lt, n1_le, n1_ge, n1_gt, n2_eq, n2_eq', n2_lt, n2_le, n2_ge, n2_gt, ↓reduceIte, ite_self, Nat.reduceEqDiff, Nat.reduceAdd, Nat.reduceMul, Nat.reduceSub, Nat.reduceLT, Nat.reduceLeDiff, Nat.not_lt_zero, Nat.zero_le, if_true, if_false, ite_true, ite_false, true_and, and_true, false_and, and_false, true_implies, false_implies, implies_true, not_true_eq_false, not_false_eq_true, eq_self, true_or, or_true, false_or, or_false, and_self, reduceCtorEq, forall_const]; exact e
    rw [if_pos e', if_neg e]
    exact bytesOf_eq op h e
/-- what is known of a reached method -/
def LkT (M : MS) (kc rc : Nat) : Prop := ∀ m, m < 24 → fm M 75 m → ∃ S, TyM M kc rc M m S
set_option maxRecDepth 20000 in
set_option maxHeartbeats 4000000 in
theorem ty_facts {M : MS} {kc rc m : Nat} (h : LkT M kc rc) (hm : m < 24) (hr : fm M 75 m) : ∃ s tc mm, s ≤ 60 ∧ 0 < s ∧ M.1 70 m = Int32.ofNat s ∧ tc ≤ 6 ∧ M.1 73 m = Int32.ofNat tc ∧ mm ≤ 10 ∧ M.1 89 m = Int32.ofNat mm ∧ (∀ i, i < 60 → fm M 88 (60 * m + i) → i < s ∧ Pos M kc rc m (opN M m i) (odI M m i)) ∧ ∀ t, t < tc → TrV M kc m s t := by
  obtain ⟨S, ⟨s, tc, tk, h1, h2, h3, h4, h5, h6⟩, h7, h8, h9⟩ := h m hm hr
  obtain ⟨f1, f2, f3, f4, f5, f6, f7⟩ := h6
  refine ⟨s, tc, _, h1, f1, h2, h3, h4, h9, h8, ?_, f7⟩
  intro i hi hf
  have hS := (h7 i hi).mp hf
  obtain ⟨g1, g2⟩ := f2 i hS
  exact ⟨g1, (g2 (f3 i hS)).1⟩
set_option maxRecDepth 20000 in
set_option maxHeartbeats 4000000 in
theorem wasSeen_q {Mr : MS} {kc rc : Nat} {X : XS} {T : Nat → Nat} (h : EX Mr kc rc X T) {m i : Nat} (hm : m < 24) (hr : fm Mr 75 m) (hi : i < 60) : f_Linker_wasSeen (Int32.ofNat m) (Int32.ofNat i) X = some (fmB Mr 88 (60 * m + i)) := by
  have q1 : m ≤ 23 := by omega
  have q2 : i ≤ 59 := by omega
  have q3 : 60 * m + i < 1440 := by omega
  have q4 : m * 60 + i = 60 * m + i := by omega
  unfold f_Linker_wasSeen
  simp (disch := omega) only [q1, q2, q3, q4, o_le, o_leL, o_leR, o_lt, o_ltL, o_ltR, o_eq, o_eqL, o_eqR, o_cl, o_add, o_addL, o_addR, o_mul, o_mulL, o_mulR, o_sub, o_subR, o_0le, o_lt0, o_ixo, n1_eq, n1_eq', n1_lt, n1_le, n1_ge, n1_gt, n2_eq, n2_eq', n2_lt, n2_le, n2_ge, n2_gt, ↓reduceIte, ite_self, Nat.reduceEqDiff, Nat.reduceAdd, Nat.reduceMul, Nat.reduceSub, Nat.reduceLT, Nat.reduceLeDiff, Nat.not_lt_zero, Nat.zero_le, if_true, if_false, ite_true, ite_false, true_and, and_true, false_and, and_false, true_implies, false_implies, implies_true, not_true_eq_false, not_false_eq_true, eq_self, true_or, or_true, false_or, or_false, and_self, reduceCtorEq, forall_const]
  have := (h.2.2.2 m hm hr).1 i hi
  by_cases z : X.1 11 (60 * m + i) = 0
  · rw [if_pos z]
    have : ¬ fm Mr 88 (60 * m + i) := fun q => (this.mpr q) z
    rw [← fmB_iff] at this
    simp [this]
  · rw [if_neg z]
    have : fm Mr 88 (60 * m + i) := this.mp z
    rw [← fmB_iff] at this
    simp [this]
set_option maxRecDepth 20000 in
set_option maxHeartbeats 4000000 in
theorem findOffsets_q {Mr : MS} {kc rc : Nat} {X0 X : XS} {T0 T : Nat → Nat} {l : List Int32} {o hd nm sk : Nat → Int32} (hT : LkT Mr kc rc) (h : QX Mr kc rc X0 T0 X T l o hd nm sk) {m a : Nat} (hm : m < rc) (hr : fm Mr 75 m) (ha : X.2.1 2 m = some a) {β : Type} {k : XS → Option β} {R : β → Prop} (hk : ∀ X' o', QX Mr kc rc X0 T0 X' T l o' hd nm sk → X'.2 = X.2 → (∀ i, i ≤ 60 → o' i = Int32.ofNat (off Mr m i)) → Wo (k X') R) : Wo ((f_Linker_findOffsets a (Int32.ofNat m) X).bind k) R := by
  have hr24 := h.1.1.2.1
  have m24 : m < 24 := by omega
  obtain ⟨s, tc, mm, s1, s2, s3, s4, s5, s6, s7, s8, s9⟩ := ty_facts hT m24 hr
  unfold f_Linker_findOffsets
  rw [Option.bind_assoc, W_bind]
  refine W_lp (fun p => ∃ n o', n ≤ 60 ∧ p.1 = Int32.ofNat (off Mr m n) ∧ p.2.1 = Int32.ofNat n ∧ QX Mr kc rc X0 T0 p.2.2 T l o' hd nm sk ∧ p.2.2.2 = X.2 ∧ ∀ i, i < n → o' i = Int32.ofNat (off Mr m i)) (fun p => 60 - p.2.1.toNatClampNeg) ?_ 10000 _ ⟨0, o, by omega, rfl, rfl, h, rfl, fun c hc => absurd hc (Nat.not_lt_zero c)⟩ (by show 60 - 0 < 10000; omega)
  rintro ⟨p1, p2, p3⟩ ⟨n, o', hn, e1, e2, hq, e3, ho⟩
  dsimp only at e1 e2 hq e3
  subst e1 e2
  unfold b5_Linker_findOffsets
  by_cases hl : n < 60
  · have q1 : ¬ 60 ≤ n := by omega
    have q2 : n < 61 := by omega
    have hq' := set13 hq n (Int32.ofNat (off Mr m n))
    have ho' : ∀ i, i < n + 1 → upd o' n (Int32.ofNat (off Mr m n)) i = Int32.ofNat (off Mr m i) := by
      intro i hi
      unfold upd
      by_cases e : i = n
      · subst e; rw [if_pos rfl]
      · rw [if_neg e]; exact ho i (by omega)
    simp (disch := omega) only [q1, q2, lt, wasSeen_q hq'.1 m24 hr hl, Option.bind_some, o_le, o_leL, o_leR, o_lt, o_ltL, o_ltR, o_eq, o_eqL, o_eqR, o_cl, o_add, o_addL, o_addR, o_mul, o_mulL, o_mulR, o_sub, o_subR, o_0le, o_lt0, o_ixo, n1_eq, n1_eq', n1_lt, n1_le, n1_ge, n1_gt, n2_eq, n2_eq', n2_lt, n2_le, n2_ge, n2_gt, ↓reduceIte, ite_self, Nat.reduceEqDiff, Nat.reduceAdd, Nat.reduceMul, Nat.reduceSub, Nat.reduceLT, Nat.reduceLeDiff, Nat.not_lt_zero, Nat.zero_le, if_true, if_false, ite_true, ite_false, true_and, and_true, false_and, and_false, true_implies, false_implies, implies_true, not_true_eq_false, not_false_eq_true, eq_self, true_or, or_true, false_or, or_false, and_self, reduceCtorEq, forall_const]
    by_cases sn : fm Mr 88 (60 * m + n)
    · obtain ⟨g1, g2⟩ := s8 n hl sn
      obtain ⟨a', f, ra, rv⟩ := hq'.1.1.2.2.2.2.2 m hm
      have ea : a' = a := by
        have := ra.1
        rw [show (xw p3 13 n (Int32.ofNat (off Mr m n))).2 = p3.2 from rfl, e3, ha] at this
        exact (Option.some.inj this).symm
      subst ea
      obtain ⟨v1, v2, v3, v4, v5, v6, v7, v8, v9, v11, v12, v13, v14, v15, ⟨s', v16, v17, v18⟩, _⟩ := rv
      have es : s' = s := by
        have := v17.symm.trans s3
        rw [o_eq _ _ (by omega) (by omega)] at this
        exact this
      subst es
      obtain ⟨w1, w2, w3⟩ := v18 n g1
      obtain ⟨op, hop, eop⟩ := toNle (n := 55) (by omega) w3.1 w3.2
      have r7 := ra.2.2.2.1 7 (by omega)
      have r8 := ra.2.2.2.1 8 (by omega)
      have l7 := xL_iff.mpr r7.2.1
      have l8 := xL_iff.mpr r8.2.1
      have eo : opN Mr m n = op := by unfold opN; rw [eop, o_cl op (by omega)]
      have lF : lnF Mr m n = ln op (Mr.1 72 (60 * m + n)) := by
        unfold lnF
        rw [if_neg sn, eo]
        rfl
      generalize hXX : xw p3 13 n (Int32.ofNat (off Mr m n)) = XX at *
      simp (disch := omega) only [fmB_iff.mpr sn, ra.2.1, r7.1, r8.1, l7, l8, ocz, hl, w1, w2, eop, bytesOf_w (show op < 56 by omega), W_some, o_le, o_leL, o_leR, o_lt, o_ltL, o_ltR, o_eq, o_eqL, o_eqR, o_cl, o_add, o_addL, o_addR, o_mul, o_mulL, o_mulR, o_sub, o_subR, o_0le, o_lt0, o_ixo, n1_eq, n1_eq', n1_lt, n1_le, n1_ge, n1_gt, n2_eq, n2_eq', n2_lt, n2_le, n2_ge, n2_gt, ↓reduceIte, ite_self, Nat.reduceEqDiff, Nat.reduceAdd, Nat.reduceMul, Nat.reduceSub, Nat.reduceLT, Nat.reduceLeDiff, Nat.not_lt_zero, Nat.zero_le, if_true, if_false, ite_true, ite_false, true_and, and_true, false_and, and_false, true_implies, false_implies, implies_true, not_true_eq_false, not_false_eq_true, eq_self, true_or, or_true, false_or, or_false, and_self, reduceCtorEq, forall_const]
      rw [← lF]
      exact ⟨⟨n + 1, _, by omega, rfl, rfl, hq', by rw [← hXX]; exact e3, ho'⟩, by (try simp (disch := omega) only [o_le, o_leL, o_leR, o_lt, o_ltL, o_ltR, o_eq, o_eqL, o_eqR, o_cl, o_add, o_addL, o_addR, o_mul, o_mulL, o_mulR, o_sub, o_subR, o_0le, o_lt0, o_ixo, n1_eq, n1_eq', n1_lt, n1_le, n1_ge, n1_gt, n2_eq, n2_eq', n2_lt, n2_le, n2_ge, n2_gt, ↓reduceIte, ite_self, Nat.reduceEqDiff, Nat.reduceAdd, Nat.reduceMul, Nat.reduceSub, Nat.reduceLT, Nat.reduceLeDiff, Nat.not_lt_zero, Nat.zero_le, if_true, if_false, ite_true, ite_false, true_and, and_true, false_and, and_false, true_implies, false_implies, implies_true, not_true_eq_false, not_false_eq_true, eq_self, true_or, or_true, false_or, or_false, and_self, reduceCtorEq, forall_const]); omega⟩
    · have lF : lnF Mr m n = 1 := by
        unfold lnF
        rw [if_pos (Classical.not_not.mp sn)]
      have sn' : fmB Mr 88 (60 * m + n) = false := by rw [← Bool.not_eq_true, fmB_iff]; exact sn
      simp (disch := omega) only [sn', W_some, Bool.false_eq_true, o_le, o_leL, o_leR, o_lt, o_ltL, o_ltR, o_eq, o_eqL, o_eqR, o_cl, o_add, o_addL, o_addR, o_mul, o_mulL, o_mulR, o_sub, o_subR, o_0le, o_lt0, o_ixo, n1_eq, n1_eq', n1_lt, n1_le, n1_ge, n1_gt, n2_eq, n2_eq', n2_lt, n2_le, n2_ge, n2_gt, ↓reduceIte, ite_self, Nat.reduceEqDiff, Nat.reduceAdd, Nat.reduceMul, Nat.reduceSub, Nat.reduceLT, Nat.reduceLeDiff, Nat.not_lt_zero, Nat.zero_le, if_true, if_false, ite_true, ite_false, true_and, and_true, false_and, and_false, true_implies, false_implies, implies_true, not_true_eq_false, not_false_eq_true, eq_self, true_or, or_true, false_or, or_false, and_self, reduceCtorEq, forall_const]
      exact ⟨⟨n + 1, _, by omega, by show _ = Int32.ofNat (off Mr m n + lnF Mr m n); rw [lF], rfl, hq', e3, ho'⟩, by (try simp (disch := omega) only [o_le, o_leL, o_leR, o_lt, o_ltL, o_ltR, o_eq, o_eqL, o_eqR, o_cl, o_add, o_addL, o_addR, o_mul, o_mulL, o_mulR, o_sub, o_subR, o_0le, o_lt0, o_ixo, n1_eq, n1_eq', n1_lt, n1_le, n1_ge, n1_gt, n2_eq, n2_eq', n2_lt, n2_le, n2_ge, n2_gt, ↓reduceIte, ite_self, Nat.reduceEqDiff, Nat.reduceAdd, Nat.reduceMul, Nat.reduceSub, Nat.reduceLT, Nat.reduceLeDiff, Nat.not_lt_zero, Nat.zero_le, if_true, if_false, ite_true, ite_false, true_and, and_true, false_and, and_false, true_implies, false_implies, implies_true, not_true_eq_false, not_false_eq_true, eq_self, true_or, or_true, false_or, or_false, and_self, reduceCtorEq, forall_const]); omega⟩
  · have en : n = 60 := by omega
    subst en
    simp (disch := omega) only [Nat.le_refl, W_some, lt, Option.bind_some, o_le, o_leL, o_leR, o_lt, o_ltL, o_ltR, o_eq, o_eqL, o_eqR, o_cl, o_add, o_addL, o_addR, o_mul, o_mulL, o_mulR, o_sub, o_subR, o_0le, o_lt0, o_ixo, n1_eq, n1_eq', n1_lt, n1_le, n1_ge, n1_gt, n2_eq, n2_eq', n2_lt, n2_le, n2_ge, n2_gt, ↓reduceIte, ite_self, Nat.reduceEqDiff, Nat.reduceAdd, Nat.reduceMul, Nat.reduceSub, Nat.reduceLT, Nat.reduceLeDiff, Nat.not_lt_zero, Nat.zero_le, if_true, if_false, ite_true, ite_false, true_and, and_true, false_and, and_false, true_implies, false_implies, implies_true, not_true_eq_false, not_false_eq_true, eq_self, true_or, or_true, false_or, or_false, and_self, reduceCtorEq, forall_const]
    refine hk _ _ (set13 hq 60 _) e3 ?_
    intro i hi
    unfold upd
    by_cases e : i = 60
    · subst e; rw [if_pos rfl]
    · rw [if_neg e]; exact ho i (by omega)
