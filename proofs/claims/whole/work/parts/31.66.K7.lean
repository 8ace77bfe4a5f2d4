/-! K7 -/
theorem Ez {α β : Type} {o : Option α} {x : α} {e : β} {f : α → β} (h : o = some x) : ocz o e f = f x := by rw [h]; rfl
theorem ixl {k n : Nat} (h : k < n) (h2 : k < 2147483648) : ixo (Int32.ofNat k) n := by rw [o_ixo k n h2]; exact h
set_option maxRecDepth 20000 in
set_option maxHeartbeats 4000000 in
theorem store_eq {X : XS} {a va mk ro pl hs fb h l : Nat} (s : SC X a va mk ro pl hs) (e7 : X.1 a 7 = Int32.ofNat (fb + 12)) (e8 : X.1 a 8 = Int32.ofNat (h + 1)) (hh : h < 10) (hb : fb + 22 ≤ 440) (hl : l < 12) : f_Strand_store a (Int32.ofNat l) X = some (xw (xw (xw (xw X mk (fb + l) (X.1 mk (fb + 12 + h))) a 8 (Int32.ofNat h)) mk (fb + 12 + h) 0) va (fb + l) (X.1 va (fb + 12 + h))) := by
  have q0 : f_Strand_slotUnder a 0 X = some (Int32.ofNat (fb + 12 + (h + 1) - 1 - 0)) := slotUnder_eq (k := 0) s.x e7 e8 (by omega) (by omega)
  rw [show fb + 12 + (h + 1) - 1 - 0 = fb + 12 + h by omega] at q0
  have q1 := slotL_eq s.x e7 hl hb
  have b1 : fb + 12 + h < 440 := by omega
  have b2 : fb + l < 440 := by omega
  have s' : SC (xw X mk (fb + l) (X.1 mk (fb + 12 + h))) a va mk ro pl hs := s.of2 rfl
  have na : ¬ a = mk := s.n1.2.1
  have nv : ¬ va = mk := s.n2.1
  have p := pop_eq s' (bo := fb + 12) (h := h) (by rw [xw1, if_neg (fun q => na q.1)]; exact e7) (by rw [xw1, if_neg (fun q => na q.1)]; exact e8) b1
  unfold f_Strand_store
  rw [if_pos s.x, q0, q1]
  simp (disch := omega) only [Option.bind_some, ocz, s.r6, s.l6, b1, b2, lt, o_le, o_leL, o_leR, o_lt, o_ltL, o_ltR, o_eq, o_eqL, o_eqR, o_cl, o_add, o_addL, o_addR, o_mul, o_mulL, o_mulR, o_sub, o_subR, o_0le, o_lt0, o_ixo, n1_eq, n1_eq', n1_lt, n1_le, n1_ge, n1_gt, n2_eq, n2_eq', n2_lt, n2_le, n2_ge, n2_gt, ↓reduceIte, ite_self, Nat.reduceEqDiff, Nat.reduceAdd, Nat.reduceMul, Nat.reduceSub, Nat.reduceLT, Nat.reduceLeDiff, Nat.not_lt_zero, Nat.zero_le, if_true, if_false, ite_true, ite_false, true_and, and_true, false_and, and_false, true_implies, false_implies, implies_true, not_true_eq_false, not_false_eq_true, eq_self, true_or, or_true, false_or, or_false, and_self, reduceCtorEq, forall_const]
  have r5 : (xw X mk (fb + l) (X.1 mk (fb + 12 + h))).2.1 a 5 = some va := s.r5
  rw [r5]
  dsimp only
  rw [p]
  have l5 : xL (xw (xw (xw X mk (fb + l) (X.1 mk (fb + 12 + h))) a 8 (Int32.ofNat h)) mk (fb + 12 + h) 0) 0 va = some 440 := s.l5
  rw [Option.bind_some, l5]
  simp (disch := omega) only [b2, o_le, o_leL, o_leR, o_lt, o_ltL, o_ltR, o_eq, o_eqL, o_eqR, o_cl, o_add, o_addL, o_addR, o_mul, o_mulL, o_mulR, o_sub, o_subR, o_0le, o_lt0, o_ixo, n1_eq, n1_eq', n1_lt, n1_le, n1_ge, n1_gt, n2_eq, n2_eq', n2_lt, n2_le, n2_ge, n2_gt, ↓reduceIte, ite_self, Nat.reduceEqDiff, Nat.reduceAdd, Nat.reduceMul, Nat.reduceSub, Nat.reduceLT, Nat.reduceLeDiff, Nat.not_lt_zero, Nat.zero_le, if_true, if_false, ite_true, ite_false, true_and, and_true, false_and, and_false, true_implies, false_implies, implies_true, not_true_eq_false, not_false_eq_true, eq_self, true_or, or_true, false_or, or_false, and_self, reduceCtorEq, forall_const]
  rw [xw1, if_neg (fun q => nv q.1)]
set_option maxRecDepth 20000 in
set_option maxHeartbeats 4000000 in
theorem swap_eq {X : XS} {a va mk ro pl hs bo h : Nat} (s : SC X a va mk ro pl hs) (e7 : X.1 a 7 = Int32.ofNat bo) (e8 : X.1 a 8 = Int32.ofNat (h + 2)) (hb : bo + h + 2 ≤ 440) : f_Strand_swap a X = some (xw (xw (xw (xw X va (bo + h + 1) (X.1 va (bo + h))) mk (bo + h + 1) (X.1 mk (bo + h))) va (bo + h) (X.1 va (bo + h + 1))) mk (bo + h) (X.1 mk (bo + h + 1))) := by
  have q0 : f_Strand_slotUnder a 0 X = some (Int32.ofNat (bo + (h + 2) - 1 - 0)) := slotUnder_eq (k := 0) s.x e7 e8 (by omega) (by omega)
  have q1 : f_Strand_slotUnder a 1 X = some (Int32.ofNat (bo + (h + 2) - 1 - 1)) := slotUnder_eq (k := 1) s.x e7 e8 (by omega) (by omega)
  rw [show bo + (h + 2) - 1 - 0 = bo + h + 1 by omega] at q0
  rw [show bo + (h + 2) - 1 - 1 = bo + h by omega] at q1
  have b1 : bo + h + 1 < 440 := by omega
  have b2 : bo + h < 440 := by omega
  unfold f_Strand_swap
  rw [if_pos s.x, q0, q1]
  have nv : ¬ mk = va := fun q => s.n2.1 q.symm
  have i1 : ixo (Int32.ofNat (bo + h + 1)) 440 := ixl b1 (by omega)
  have i2 : ixo (Int32.ofNat (bo + h)) 440 := ixl b2 (by omega)
  rw [Option.bind_some, Option.bind_some, if_neg (by rw [o_lt0 _ (by omega)]; exact fun q => q), if_pos (by rw [o_0le _ (by omega)]; trivial)]
  refine (Ez s.r5).trans ((Ez s.l5).trans ((if_pos i1).trans ((Ez s.r6).trans ((Ez s.l6).trans ((if_pos i1).trans ((Ez s.r5).trans ((Ez s.r5).trans ((Ez s.l5).trans ((if_pos i2).trans ((Ez s.l5).trans ((if_pos i1).trans ((Ez s.r6).trans ((Ez s.r6).trans ((Ez s.l6).trans ((if_pos i2).trans ((Ez s.l6).trans ((if_pos i1).trans ((Ez s.r5).trans ((Ez s.l5).trans ((if_pos i2).trans ((Ez s.r6).trans ((Ez s.l6).trans ((if_pos i2).trans ?_)))))))))))))))))))))))
  rw [o_cl _ (by omega), o_cl _ (by omega), xw1, if_neg (fun q => nv q.1)]
/-- a row filled from one place to another -/
def xf (X : XS) (a lo hi : Nat) (v : Int32) : XS := (fun b => if b = a then (fun j => if lo ≤ j ∧ j < hi then v else X.1 a j) else X.1 b, X.2)
set_option maxRecDepth 20000 in
set_option maxHeartbeats 4000000 in
theorem xf1 (X : XS) (a lo hi : Nat) (v : Int32) (b j : Nat) : (xf X a lo hi v).1 b j = if b = a ∧ lo ≤ j ∧ j < hi then v else X.1 b j := by
  unfold xf
  dsimp only
  by_cases h : b = a
  · subst h; simp
  · simp [h]
theorem xf2 (X : XS) (a lo hi : Nat) (v : Int32) : (xf X a lo hi v).2 = X.2 := rfl
set_option maxRecDepth 20000 in
set_option maxHeartbeats 4000000 in
theorem xf_0 (X : XS) (a lo : Nat) (v : Int32) : xf X a lo lo v = X := by
  refine Prod.ext ?_ rfl
  funext b j
  rw [xf1, if_neg (by omega)]
set_option maxRecDepth 20000 in
set_option maxHeartbeats 4000000 in
theorem xf_s (X : XS) (a lo k : Nat) (v : Int32) (h : lo ≤ k) : xw (xf X a lo k v) a k v = xf X a lo (k + 1) v := by
  refine Prod.ext ?_ rfl
  funext b j
  rw [xw1, xf1, xf1]
  by_cases e : b = a
  · by_cases c : j = k
    · rw [if_pos ⟨e, c⟩, if_pos ⟨e, by omega, by omega⟩]
    · rw [if_neg (fun q => c q.2)]
      by_cases d : lo ≤ j ∧ j < k
      · rw [if_pos ⟨e, d⟩, if_pos ⟨e, by omega, by omega⟩]
      · rw [if_neg (fun q => d q.2), if_neg (fun q => d (by omega))]
  · rw [if_neg (fun q => e q.1), if_neg (fun q => e q.1), if_neg (fun q => e q.1)]
set_option maxRecDepth 20000 in
set_option maxHeartbeats 4000000 in
theorem fill4_eq {X : XS} {a lo hi L : Nat} (hl : xL X 0 a = some L) (h1 : lo ≤ hi) (h2 : hi ≤ L) (h3 : L < 10000) (v : Int32) : f_Arrays_fill4 a (Int32.ofNat lo) (Int32.ofNat hi) v X = some (xf X a lo hi v) := by
  have key : ∀ n k, lo ≤ k → k ≤ hi → hi - k < n → lp (b10_Arrays_fill4 a (Int32.ofNat hi) v) n (Int32.ofNat k, xf X a lo k v) = some (Int32.ofNat hi, xf X a lo hi v) := by
    intro n
    induction n with
    | zero => intro k _ _ h; omega
    | succ n ih =>
      intro k k1 k2 k3
      have lx : xL (xf X a lo k v) 0 a = some L := hl
      by_cases e : k = hi
      · subst e
        unfold lp b10_Arrays_fill4
        simp (disch := omega) only [Nat.le_refl, o_le, o_leL, o_leR, o_lt, o_ltL, o_ltR, o_eq, o_eqL, o_eqR, o_cl, o_add, o_addL, o_addR, o_mul, o_mulL, o_mulR, o_sub, o_subR, o_0le, o_lt0, o_ixo, n1_eq, n1_eq', n1_lt, n1_le, n1_ge, n1_gt, n2_eq, n2_eq', n2_lt, n2_le, n2_ge, n2_gt, ↓reduceIte, ite_self, Nat.reduceEqDiff, Nat.reduceAdd, Nat.reduceMul, Nat.reduceSub, Nat.reduceLT, Nat.reduceLeDiff, Nat.not_lt_zero, Nat.zero_le, if_true, if_false, ite_true, ite_false, true_and, and_true, false_and, and_false, true_implies, false_implies, implies_true, not_true_eq_false, not_false_eq_true, eq_self, true_or, or_true, false_or, or_false, and_self, reduceCtorEq, forall_const]
      · have q1 : ¬ hi ≤ k := by omega
        have q2 : k < L := by omega
        have st : b10_Arrays_fill4 a (Int32.ofNat hi) v (Int32.ofNat k, xf X a lo k v) = some (.inl (Int32.ofNat (k + 1), xf X a lo (k + 1) v)) := by
          unfold b10_Arrays_fill4
          simp (disch := omega) only [q1, lx, ocz, q2, lt, o_le, o_leL, o_leR, o_lt, o_ltL, o_ltR, o_eq, o_eqL, o_eqR, o_cl, o_add, o_addL, o_addR, o_mul, o_mulL, o_mulR, o_sub, o_subR, o_0le, o_lt0, o_ixo, n1_eq, n1_eq', n1_lt, n1_le, n1_ge, n1_gt, n2_eq, n2_eq', n2_lt, n2_le, n2_ge, n2_gt, ↓reduceIte, ite_self, Nat.reduceEqDiff, Nat.reduceAdd, Nat.reduceMul, Nat.reduceSub, Nat.reduceLT, Nat.reduceLeDiff, Nat.not_lt_zero, Nat.zero_le, if_true, if_false, ite_true, ite_false, true_and, and_true, false_and, and_false, true_implies, false_implies, implies_true, not_true_eq_false, not_false_eq_true, eq_self, true_or, or_true, false_or, or_false, and_self, reduceCtorEq, forall_const]
          rw [xf_s _ _ _ _ _ k1]
        unfold lp
        rw [st]
        exact ih (k + 1) (by omega) (by omega) (by omega)
  have q3 : Int32.ofNat hi ≤ Int32.ofNat L := by rw [o_le hi L (by omega) (by omega)]; exact h2
  have q4 : Int32.ofNat lo ≤ Int32.ofNat hi := by rw [o_le lo hi (by omega) (by omega)]; exact h1
  unfold f_Arrays_fill4 f_Arrays_rangeCheck
  refine (Ez hl).trans ?_
  rw [if_pos q4, if_pos (by rw [o_0le _ (by omega)]; trivial), if_pos q3, Option.bind_some]
  have := key 10000 lo (Nat.le_refl _) h1 (by omega)
  rw [xf_0] at this
  rw [this]
  rfl
/-- what is kept of the method that calls -/
def xk (X : XS) (a ro pl hs d : Nat) : XS := if d = 0 then X else xw (xw (xw X ro (d - 1) (X.1 a 3)) pl (d - 1) (X.1 a 4)) hs (d - 1) (X.1 a 8)
theorem xk2 (X : XS) (a ro pl hs d : Nat) : (xk X a ro pl hs d).2 = X.2 := by
  unfold xk
  split <;> rfl
/-- a method entered -/
def xe (X : XS) (a va mk d : Nat) (y z : Int32) : XS := xw (xw (xw (xw (xw (xf (xf X va (22 * d) (22 * d + 22) 0) mk (22 * d) (22 * d + 22) 0) a 3 y) a 4 z) a 7 (Int32.ofNat (22 * d + 12))) a 8 0) a 2 (Int32.ofNat (d + 1))
set_option maxRecDepth 20000 in
set_option maxHeartbeats 4000000 in
theorem enter_eq {X : XS} {a va mk ro pl hs d : Nat} (s : SC X a va mk ro pl hs) (e2 : X.1 a 2 = Int32.ofNat d) (hd : d < 20) (y z : Int32) : f_Strand_enter a y z X = some (xe (xk X a ro pl hs d) a va mk d y z) := by
  have nro : ¬ a = ro := s.n1.2.2.1
  have npl : ¬ a = pl := s.n1.2.2.2.1
  have nhs : ¬ a = hs := s.n1.2.2.2.2
  have nva : ¬ a = va := s.n1.1
  have nmk : ¬ a = mk := s.n1.2.1
  have k2 : ∀ j, (xk X a ro pl hs d).1 a j = X.1 a j := by
    intro j
    unfold xk
    split
    · rfl
    · rw [xw1, if_neg (fun q => nhs q.1), xw1, if_neg (fun q => npl q.1), xw1, if_neg (fun q => nro q.1)]
  have sk : SC (xk X a ro pl hs d) a va mk ro pl hs := s.of2 (xk2 _ _ _ _ _ _)
  unfold f_Strand_enter
  rw [if_pos s.x, if_neg (by rw [e2, o_lt0 _ (by omega)]; exact fun q => q), if_pos (by rw [e2, o_ltR _ _ (by omega) (by decide)]; exact hd)]
  have first : (if X.1 a 2 ≤ 0 then some X else (ocz (X.2.1 a 9) none (fun a5 => (ocz (xL X 0 a5) none (fun n7 => (if ixo ((X.1 a 2) - 1) n7 then (lt (xw X a5 ((X.1 a 2) - 1).toNatClampNeg (X.1 a 3)) fun X10 => (ocz (X10.2.1 a 10) none (fun a11 => (ocz (xL X10 0 a11) none (fun n13 => (if ixo ((X10.1 a 2) - 1) n13 then (lt (xw X10 a11 ((X10.1 a 2) - 1).toNatClampNeg (X10.1 a 4)) fun X16 => (ocz (X16.2.1 a 11) none (fun a17 => (ocz (xL X16 0 a17) none (fun n19 => (if ixo ((X16.1 a 2) - 1) n19 then (lt (xw X16 a17 ((X16.1 a 2) - 1).toNatClampNeg (X16.1 a 8)) fun X22 => some X22) else none)))))) else none)))))) else none)))))) = some (xk X a ro pl hs d) := by
    unfold xk
    by_cases z0 : d = 0
    · rw [if_pos (by rw [e2, z0]; decide), if_pos z0]
    · have q1 : ¬ X.1 a 2 ≤ 0 := by rw [e2, o_leR _ _ (by omega) (by decide)]; omega
      have q2 : X.1 a 2 - 1 = Int32.ofNat (d - 1) := by rw [e2, o_subR d 1 (show 1 ≤ d by omega)]
      have i1 : ixo (Int32.ofNat (d - 1)) 20 := ixl (by omega) (by omega)
      rw [if_neg q1, if_neg z0]
      refine (Ez s.r9).trans ((Ez s.l9).trans ((if_pos (by rw [q2]; exact i1)).trans ?_))
      dsimp only [lt]
      rw [q2, o_cl _ (by omega)]
      have f1 : ∀ j, (xw X ro (d - 1) (X.1 a 3)).1 a j = X.1 a j := fun j => by rw [xw1, if_neg (fun q => nro q.1)]
      refine (Ez s.r10).trans ((Ez s.l10).trans ((if_pos (by rw [f1, q2]; exact i1)).trans ?_))
      rw [f1, f1, q2, o_cl _ (by omega)]
      have f2 : ∀ j, (xw (xw X ro (d - 1) (X.1 a 3)) pl (d - 1) (X.1 a 4)).1 a j = X.1 a j := fun j => by rw [xw1, if_neg (fun q => npl q.1), f1]
      refine (Ez s.r11).trans ((Ez s.l11).trans ((if_pos (by rw [f2, q2]; exact i1)).trans ?_))
      rw [f2, f2, q2, o_cl _ (by omega)]
  rw [first, Option.bind_some]
  have e2k : (xk X a ro pl hs d).1 a 2 = Int32.ofNat d := by rw [k2]; exact e2
  have m1 : Int32.ofNat d * 22 = Int32.ofNat (22 * d) := by rw [o_mulR, Nat.mul_comm]
  refine (if_pos sk.x).trans ((Ez sk.r5).trans ?_)
  rw [e2k, m1, o_addR, fill4_eq sk.l5 (by omega) (by omega) (by omega), Option.bind_some]
  refine (if_pos sk.x).trans ((Ez sk.r6).trans ?_)
  have e2f : (xf (xk X a ro pl hs d) va (22 * d) (22 * d + 22) 0).1 a 2 = Int32.ofNat d := by rw [xf1, if_neg (fun q => nva q.1)]; exact e2k
  have l6f : xL (xf (xk X a ro pl hs d) va (22 * d) (22 * d + 22) 0) 0 mk = some 440 := sk.l6
  rw [e2f, m1, o_addR, fill4_eq l6f (by omega) (by omega) (by omega), Option.bind_some]
  refine (if_pos sk.x).trans ?_
  have e2g : (xf (xf (xk X a ro pl hs d) va (22 * d) (22 * d + 22) 0) mk (22 * d) (22 * d + 22) 0).1 a 2 = Int32.ofNat d := by rw [xf1, if_neg (fun q => nmk q.1)]; exact e2f
  dsimp only [lt]
  rw [xw1, if_neg (by omega), xw1, if_neg (by omega), e2g, m1, o_addR]
  rw [xw1, if_neg (by omega), xw1, if_neg (by omega), xw1, if_neg (by omega), xw1, if_neg (by omega), e2g, o_addR]
  rfl
set_option maxRecDepth 20000 in
set_option maxHeartbeats 4000000 in
theorem start_eq {X : XS} {a va mk ro pl hs : Nat} (s : SC X a va mk ro pl hs) (y z u v : Int32) : f_Strand_start a y z u v X = some (xw (xw (xe (xw (xw (xw X a 0 0) a 1 0) a 2 0) a va mk 0 y z) va 0 u) mk 0 v) := by
  have s' : SC (xw (xw (xw X a 0 0) a 1 0) a 2 0) a va mk ro pl hs := s.of2 rfl
  have en := enter_eq s' (d := 0) (by rw [xw1, if_pos ⟨rfl, rfl⟩]; rfl) (by omega) y z
  unfold f_Strand_start
  rw [if_pos s.x]
  dsimp only [lt]
  rw [en, Option.bind_some]
  exact (if_pos s.x).trans ((Ez s.r5).trans ((Ez s.l5).trans ((if_pos (ixl (k := 0) (by omega) (by omega))).trans ((Ez s.r6).trans ((Ez s.l6).trans (if_pos (ixl (k := 0) (by omega) (by omega))))))))
set_option maxRecDepth 20000 in
set_option maxHeartbeats 4000000 in
theorem enterT_eq {X : XS} {a va mk ro pl hs d bo h u : Nat} (s : SC X a va mk ro pl hs) (e2 : X.1 a 2 = Int32.ofNat d) (h1 : 1 ≤ d) (hd : d < 20) (e7 : X.1 a 7 = Int32.ofNat bo) (e8 : X.1 a 8 = Int32.ofNat (h + u)) (hh : h + u ≤ 10) (hb : bo + 10 ≤ 440) (y z : Int32) : ∃ X1 X2 X3, X1 = xe (xk (xw X a 8 (Int32.ofNat h)) a ro pl hs d) a va mk d y z ∧ X2 = xc X1 (X1.1 va) va (bo + h) (22 * d) u ∧ X3 = xc X2 (X2.1 mk) mk (bo + h) (22 * d) u ∧ f_Strand_enterTaking a y z (Int32.ofNat u) X = some (true, xf X3 mk (bo + h) (bo + h + u) 0) := by
  refine ⟨_, _, _, rfl, rfl, rfl, ?_⟩
  have s' : SC (xw X a 8 (Int32.ofNat h)) a va mk ro pl hs := s.of2 rfl
  have en := enter_eq s' (d := d) (by rw [xw1, if_neg (by omega)]; exact e2) hd y z
  have sx : SC (xe (xk (xw X a 8 (Int32.ofNat h)) a ro pl hs d) a va mk d y z) a va mk ro pl hs := s.of2 (by unfold xe; exact xk2 _ _ _ _ _ _)
  have hmin : ¬ (10 : Int32) < Int32.ofNat (h + u) := by rw [o_ltL _ _ (by decide) (by omega)]; show ¬ 10 < h + u; omega
  unfold f_Strand_enterTaking
  rw [if_pos s.x, if_pos (by rw [e2, o_leL _ _ (by decide) (by omega), o_leR _ _ (by omega) (by decide)]; show 1 ≤ d ∧ d ≤ 19; omega), if_pos (by rw [e8, if_neg hmin, o_0le _ (by omega), o_le _ _ (by omega) (by omega)]; exact ⟨trivial, by omega⟩)]
  dsimp only [lt]
  have e7' : (xw X a 8 (Int32.ofNat h)).1 a 7 = Int32.ofNat bo := by rw [xw1, if_neg (by omega)]; exact e7
  have e2' : (xw X a 8 (Int32.ofNat h)).1 a 2 = Int32.ofNat d := by rw [xw1, if_neg (by omega)]; exact e2
  have e8' : (xw X a 8 (Int32.ofNat h)).1 a 8 = Int32.ofNat h := by rw [xw1, if_pos ⟨rfl, rfl⟩]
  have m1 : Int32.ofNat d * 22 = Int32.ofNat (22 * d) := by rw [o_mulR, Nat.mul_comm]
  have hs1 : X.1 a 8 - Int32.ofNat u = Int32.ofNat h := by rw [e8, o_sub _ _ (by omega), Nat.add_sub_cancel]
  simp only [hs1]
  rw [en, Option.bind_some]
  have cp : cpo (Int32.ofNat (bo + h)) (Int32.ofNat (22 * d)) (Int32.ofNat u) 440 440 := by rw [o_cpo _ _ _ _ _ (by omega) (by omega) (by omega)]; omega
  simp only [e7', e8', e2', m1, o_add]
  refine (if_pos sx.x).trans ((Ez sx.r5).trans ((Ez sx.r5).trans ((Ez sx.l5).trans ((Ez sx.l5).trans ((if_pos cp).trans ((Ez sx.r6).trans ((Ez sx.r6).trans ((Ez sx.l6).trans ((Ez sx.l6).trans ((if_pos cp).trans ((Ez sx.r6).trans ?_)))))))))))
  rw [o_cl _ (by omega), o_cl _ (by omega), o_cl _ (by omega)]
  have sx3 : ∀ X3 : XS, X3.2 = (xe (xk (xw X a 8 (Int32.ofNat h)) a ro pl hs d) a va mk d y z).2 → xL X3 0 mk = some 440 := fun X3 e => (sx.of2 e).l6
  generalize hX3 : xc (xc (xe (xk (xw X a 8 (Int32.ofNat h)) a ro pl hs d) a va mk d y z) _ va (bo + h) (22 * d) u) _ mk (bo + h) (22 * d) u = X3
  rw [fill4_eq (L := 440) (sx3 X3 (by rw [← hX3]; rfl)) (by omega) (by omega) (by omega)]
  rfl
theorem enterT_no {X : XS} {a va mk ro pl hs : Nat} (s : SC X a va mk ro pl hs) (e2 : X.1 a 2 = 20) (y z u : Int32) : f_Strand_enterTaking a y z u X = some (false, X) := by
  unfold f_Strand_enterTaking
  rw [if_pos s.x, if_neg (by rw [e2]; decide)]
set_option maxRecDepth 20000 in
set_option maxHeartbeats 4000000 in
theorem leave_eq {X : XS} {a va mk ro pl hs d : Nat} (s : SC X a va mk ro pl hs) (e2 : X.1 a 2 = Int32.ofNat (d + 2)) (hd : d + 2 ≤ 20) : f_Strand_leave a X = some (xw (xw (xw (xw (xw X a 2 (Int32.ofNat (d + 1))) a 3 (X.1 ro d)) a 4 (X.1 pl d)) a 8 (X.1 hs d)) a 7 (Int32.ofNat (22 * d + 12))) := by
  have nro : ¬ ro = a := fun q => s.n1.2.2.1 q.symm
  have npl : ¬ pl = a := fun q => s.n1.2.2.2.1 q.symm
  have nhs : ¬ hs = a := fun q => s.n1.2.2.2.2 q.symm
  have q0 : X.1 a 2 - 1 = Int32.ofNat (d + 1) := by rw [e2, o_subR (d + 2) 1 (show 1 ≤ d + 2 by omega)]; rfl
  have i1 : ixo (Int32.ofNat d) 20 := ixl (by omega) (by omega)
  unfold f_Strand_leave
  rw [if_pos s.x, q0]
  dsimp only [lt]
  have w2 : (xw X a 2 (Int32.ofNat (d + 1))).1 a 2 = Int32.ofNat (d + 1) := by rw [xw1, if_pos ⟨rfl, rfl⟩]
  have wd : Int32.ofNat (d + 1) - 1 = Int32.ofNat d := by rw [o_subR (d + 1) 1 (show 1 ≤ d + 1 by omega)]; rfl
  rw [if_neg (by rw [w2, o_ltR _ _ (by omega) (by decide)]; show ¬ d + 1 < 1; omega), if_neg (by rw [w2, o_ltL _ _ (by decide) (by omega)]; show ¬ 20 < d + 1; omega)]
  refine (Ez s.r9).trans ((Ez s.l9).trans ((if_pos (by rw [w2, wd]; exact i1)).trans ((Ez s.r10).trans ((Ez s.l10).trans ((if_pos (by rw [xw1, if_neg (by omega), w2, wd]; exact i1)).trans ((Ez s.r11).trans ((Ez s.l11).trans ((if_pos (by rw [xw1, if_neg (by omega), xw1, if_neg (by omega), w2, wd]; exact i1)).trans ?_))))))))
  simp only [w2, wd, xw1, nro, npl, nhs, false_and, if_false, eq_self, true_and, Nat.reduceEqDiff, if_true, o_cl _ (show d < 2147483648 by omega), ite_true, ite_false, o_mulR, o_addR, Nat.mul_comm d 22, reduceIte]
set_option maxRecDepth 20000 in
set_option maxHeartbeats 4000000 in
theorem leave_1 {X : XS} {a : Nat} (hx : xT X a = some (14, 0)) (e2 : X.1 a 2 = 1) : f_Strand_leave a X = some (xw X a 2 0) := by
  unfold f_Strand_leave
  rw [if_pos hx, e2]
  dsimp only [lt]
  rw [if_pos (by rw [xw1, if_pos ⟨rfl, rfl⟩]; decide)]
  rfl
theorem finish_eq {X : XS} {a : Nat} (hx : xT X a = some (14, 0)) (y z : Int32) : f_Strand_finish a y z X = some (xw (xw (xw X a 2 0) a 0 y) a 1 z) := by
  unfold f_Strand_finish
  rw [if_pos hx]
