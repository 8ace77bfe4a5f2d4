/-! J6 -/
def sumR (M : MS) (f : Nat → Nat) : Nat → Nat
  | 0 => 0
  | n + 1 => sumR M f n + (if M.1 75 n = 0 then 0 else f n)
def hbF (M : MS) (m : Nat) : Nat := 9 + 7 * tcN M m
def cdF (M : MS) (m : Nat) : Nat := off M m (sz M m)
def headsL (M : MS) (base : Nat) : Nat → List Int32 := cat (fun m => if M.1 75 m = 0 then [] else headL M m (base + sumR M (cdF M) m))
def codesL (M : MS) : Nat → List Int32 := cat (fun m => if M.1 75 m = 0 then [] else cat (insL M m) (sz M m))
set_option maxRecDepth 20000 in
set_option maxHeartbeats 4000000 in
theorem headsL_len (M : MS) (base : Nat) : ∀ n, (headsL M base n).length = sumR M (hbF M) n := by
  intro n
  induction n with
  | zero => rfl
  | succ n ih =>
    show (headsL M base n ++ (if M.1 75 n = 0 then [] else headL M n (base + sumR M (cdF M) n))).length = sumR M (hbF M) n + (if M.1 75 n = 0 then 0 else hbF M n)
    rw [List.length_append, ih]
    by_cases z : M.1 75 n = 0
    · rw [if_pos z, if_pos z]; rfl
    · rw [if_neg z, if_neg z, headL_len]; rfl
set_option maxRecDepth 20000 in
set_option maxHeartbeats 4000000 in
theorem codesL_len (M : MS) : ∀ n, (codesL M n).length = sumR M (cdF M) n := by
  intro n
  induction n with
  | zero => rfl
  | succ n ih =>
    show (codesL M n ++ (if M.1 75 n = 0 then [] else cat (insL M n) (sz M n))).length = sumR M (cdF M) n + (if M.1 75 n = 0 then 0 else cdF M n)
    rw [List.length_append, ih]
    by_cases z : M.1 75 n = 0
    · rw [if_pos z, if_pos z]; rfl
    · rw [if_neg z, if_neg z, cat_ins_len]; rfl
set_option maxRecDepth 20000 in
set_option maxHeartbeats 4000000 in
theorem sumR_le {M : MS} {f : Nat → Nat} {b : Nat} : ∀ n, (∀ m, m < n → fm M 75 m → f m ≤ b) → sumR M f n ≤ b * n := by
  intro n
  induction n with
  | zero => intro _; exact Nat.le_refl _
  | succ n ih =>
    intro h
    have := ih (fun m hm => h m (by omega))
    show sumR M f n + (if M.1 75 n = 0 then 0 else f n) ≤ b * (n + 1)
    rw [Nat.mul_succ]
    by_cases z : M.1 75 n = 0
    · rw [if_pos z]; omega
    · rw [if_neg z]
      have := h n (by omega) z
      omega
set_option maxRecDepth 20000 in
set_option maxHeartbeats 4000000 in
theorem hb_le {M : MS} {kc rc : Nat} (hT : LkT M kc rc) : ∀ n, n ≤ 24 → sumR M (hbF M) n ≤ 51 * n := by
  intro n hn
  refine sumR_le n ?_
  intro m hm hr
  obtain ⟨s, tc, mm, s1, s2, s3, s4, s5, _⟩ := ty_facts hT (by omega) hr
  unfold hbF tcN
  rw [s5, o_cl tc (by omega)]
  omega
set_option maxRecDepth 20000 in
set_option maxHeartbeats 4000000 in
theorem cd_le {M : MS} {kc rc : Nat} (hT : LkT M kc rc) : ∀ n, n ≤ 24 → sumR M (cdF M) n ≤ 180 * n := by
  intro n hn
  refine sumR_le n ?_
  intro m hm hr
  obtain ⟨s, tc, mm, s1, s2, s3, s4, s5, _⟩ := ty_facts hT (by omega) hr
  unfold cdF sz
  rw [s3, o_cl s (by omega)]
  have := off_le M m s
  omega
set_option maxRecDepth 20000 in
set_option maxHeartbeats 4000000 in
theorem sumR_ext {M : MS} {f : Nat → Nat} {n : Nat} : ∀ k, n ≤ k → (∀ m, n ≤ m → m < k → ¬ fm M 75 m) → sumR M f k = sumR M f n := by
  intro k
  induction k with
  | zero => intro h _; have : n = 0 := by omega
            rw [this]
  | succ k ih =>
    intro h hf
    by_cases e : n = k + 1
    · rw [e]
    · show sumR M f k + (if M.1 75 k = 0 then 0 else f k) = _
      rw [if_pos (Classical.not_not.mp (hf k (by omega) (by omega))), ih (by omega) (fun m h1 h2 => hf m h1 (by omega))]
      rfl
set_option maxRecDepth 20000 in
set_option maxHeartbeats 4000000 in
theorem headBytes_q {Mr : MS} {kc rc : Nat} {X0 X : XS} {T0 T : Nat → Nat} {l : List Int32} {o hd nm sk : Nat → Int32} (hT : LkT Mr kc rc) (h : QX Mr kc rc X0 T0 X T l o hd nm sk) (hX0 : ∀ m, m < rc → ∃ a, X0.2.1 2 m = some a) : f_Linker_headBytes X = some (Int32.ofNat (sumR Mr (hbF Mr) 24)) := by
  have hr24 := h.1.1.2.1
  have w : Wo (lp (b4_Linker_headBytes X) 10000 ((0 : Int32), (0 : Int32))) (fun p => p.1 = Int32.ofNat (sumR Mr (hbF Mr) 24)) := by
    refine W_lp (fun p => ∃ n, n ≤ 24 ∧ p.2 = Int32.ofNat n ∧ p.1 = Int32.ofNat (sumR Mr (hbF Mr) n)) (fun p => 24 - p.2.toNatClampNeg) ?_ 10000 _ ⟨0, by omega, rfl, rfl⟩ (by show 24 - 0 < 10000; omega)
    rintro ⟨p1, p2⟩ ⟨n, hn, e1, e2⟩
    dsimp only at e1 e2
    subst e1 e2
    unfold b4_Linker_headBytes
    dsimp only
    by_cases hl : n < 24
    · refine We (by simp (disch := omega) only [o_le, o_leL, o_leR, o_lt, o_ltL, o_ltR, o_eq, o_eqL, o_eqR, o_cl, o_add, o_addL, o_addR, o_mul, o_mulL, o_mulR, o_sub, o_subR, o_0le, o_lt0, o_ixo, n1_eq, n1_eq', n1_lt, n1_le, n1_ge, n1_gt, n2_eq, n2_eq', n2_lt, n2_le, n2_ge, n2_gt, ↓reduceIte, ite_self, Nat.reduceEqDiff, Nat.reduceAdd, Nat.reduceMul, Nat.reduceSub, Nat.reduceLT, Nat.reduceLeDiff, Nat.not_lt_zero, Nat.zero_le, if_true, if_false, ite_true, ite_false, true_and, and_true, false_and, and_false, true_implies, false_implies, implies_true, not_true_eq_false, not_false_eq_true, eq_self, true_or, or_true, false_or, or_false, and_self, reduceCtorEq, forall_const]; omega) ?_
      have nx : sumR Mr (hbF Mr) (n + 1) = sumR Mr (hbF Mr) n + (if Mr.1 75 n = 0 then 0 else hbF Mr n) := rfl
      by_cases hr : fm Mr 75 n
      · have hm := h.1.2.2.1.2.1 n hl hr
        obtain ⟨a, ha⟩ := hX0 n hm
        obtain ⟨f, ra, rv⟩ := rout_q h hm ha
        refine Wi ((hasR_q h.1 hl).mpr hr) (Wz (by rw [o_cl n (by omega)]; exact ra.1) (Wi ra.2.1 ?_))
        obtain ⟨s, tc, mm, s1, s2, s3, s4, s5, _⟩ := ty_facts hT hl hr
        rw [rv.2.2.2.2.2.2.2.1, s5, W_some]
        have et : tcN Mr n = tc := by unfold tcN; rw [s5, o_cl tc (by omega)]
        refine ⟨⟨n + 1, by omega, o_addR n 1, ?_⟩, by show 24 - (Int32.ofNat n + 1).toNatClampNeg < _; simp (disch := omega) only [o_le, o_leL, o_leR, o_lt, o_ltL, o_ltR, o_eq, o_eqL, o_eqR, o_cl, o_add, o_addL, o_addR, o_mul, o_mulL, o_mulR, o_sub, o_subR, o_0le, o_lt0, o_ixo, n1_eq, n1_eq', n1_lt, n1_le, n1_ge, n1_gt, n2_eq, n2_eq', n2_lt, n2_le, n2_ge, n2_gt, ↓reduceIte, ite_self, Nat.reduceEqDiff, Nat.reduceAdd, Nat.reduceMul, Nat.reduceSub, Nat.reduceLT, Nat.reduceLeDiff, Nat.not_lt_zero, Nat.zero_le, if_true, if_false, ite_true, ite_false, true_and, and_true, false_and, and_false, true_implies, false_implies, implies_true, not_true_eq_false, not_false_eq_true, eq_self, true_or, or_true, false_or, or_false, and_self, reduceCtorEq, forall_const]; omega⟩
        show Int32.ofNat (sumR Mr (hbF Mr) n) + (9 + 7 * Int32.ofNat tc) = _
        rw [nx, if_neg hr]
        unfold hbF
        rw [et]
        simp (disch := omega) only [o_le, o_leL, o_leR, o_lt, o_ltL, o_ltR, o_eq, o_eqL, o_eqR, o_cl, o_add, o_addL, o_addR, o_mul, o_mulL, o_mulR, o_sub, o_subR, o_0le, o_lt0, o_ixo, n1_eq, n1_eq', n1_lt, n1_le, n1_ge, n1_gt, n2_eq, n2_eq', n2_lt, n2_le, n2_ge, n2_gt, ↓reduceIte, ite_self, Nat.reduceEqDiff, Nat.reduceAdd, Nat.reduceMul, Nat.reduceSub, Nat.reduceLT, Nat.reduceLeDiff, Nat.not_lt_zero, Nat.zero_le, if_true, if_false, ite_true, ite_false, true_and, and_true, false_and, and_false, true_implies, false_implies, implies_true, not_true_eq_false, not_false_eq_true, eq_self, true_or, or_true, false_or, or_false, and_self, reduceCtorEq, forall_const]
      · refine We (fun x => hr ((hasR_q h.1 hl).mp x)) ?_
        rw [W_some]
        refine ⟨⟨n + 1, by omega, o_addR n 1, ?_⟩, by show 24 - (Int32.ofNat n + 1).toNatClampNeg < _; simp (disch := omega) only [o_le, o_leL, o_leR, o_lt, o_ltL, o_ltR, o_eq, o_eqL, o_eqR, o_cl, o_add, o_addL, o_addR, o_mul, o_mulL, o_mulR, o_sub, o_subR, o_0le, o_lt0, o_ixo, n1_eq, n1_eq', n1_lt, n1_le, n1_ge, n1_gt, n2_eq, n2_eq', n2_lt, n2_le, n2_ge, n2_gt, ↓reduceIte, ite_self, Nat.reduceEqDiff, Nat.reduceAdd, Nat.reduceMul, Nat.reduceSub, Nat.reduceLT, Nat.reduceLeDiff, Nat.not_lt_zero, Nat.zero_le, if_true, if_false, ite_true, ite_false, true_and, and_true, false_and, and_false, true_implies, false_implies, implies_true, not_true_eq_false, not_false_eq_true, eq_self, true_or, or_true, false_or, or_false, and_self, reduceCtorEq, forall_const]; omega⟩
        rw [nx, if_pos (Classical.not_not.mp hr)]
        rfl
    · have en : n = 24 := by omega
      subst en
      refine Wi (by decide) ?_
      rw [W_some]
  obtain ⟨p, e1, e2⟩ := w
  unfold f_Linker_headBytes
  rw [e1, ← e2]
  rfl
set_option maxRecDepth 20000 in
set_option maxHeartbeats 4000000 in
theorem headsX {Mr : MS} {kc rc main : Nat} {X0 X : XS} {T0 T : Nat → Nat} {l : List Int32} {o hd nm sk : Nat → Int32} (hT : LkT Mr kc rc) (hR : LkR Mr kc rc main) (h : QX Mr kc rc X0 T0 X T l o hd nm sk) (hX0 : ∀ m, m < rc → ∃ a, X0.2.1 2 m = some a) (hl : l.length ≤ 119) (base : Nat) {β : Type} {k : Int32 × Int32 × XS → Option β} {R : β → Prop} (hk : ∀ z z' X' T' o' hd', QX Mr kc rc X0 T0 X' T' (l ++ headsL Mr base 24) o' hd' nm sk → (∀ m, m < 24 → fm Mr 75 m → hd' (cnt (fmB Mr 75) m) = Int32.ofNat (l.length + sumR Mr (hbF Mr) m)) → Wo (k (z, z', X')) R) : Wo ((lp b118_Linker_write_30 10000 (Int32.ofNat base, (0 : Int32), X)).bind k) R := by
  have hr24 := h.1.1.2.1
  rw [W_bind]
  refine W_lp (fun p => ∃ n T' o' hd', n ≤ 24 ∧ p.2.1 = Int32.ofNat n ∧ p.1 = Int32.ofNat (base + sumR Mr (cdF Mr) n) ∧ QX Mr kc rc X0 T0 p.2.2 T' (l ++ headsL Mr base n) o' hd' nm sk ∧ ∀ m, m < n → fm Mr 75 m → hd' (cnt (fmB Mr 75) m) = Int32.ofNat (l.length + sumR Mr (hbF Mr) m)) (fun p => 24 - p.2.1.toNatClampNeg) ?_ 10000 _ ⟨0, T, o, hd, by omega, rfl, rfl, by show QX Mr kc rc X0 T0 X T (l ++ []) o hd nm sk; rw [List.append_nil]; exact h, fun c hc => absurd hc (Nat.not_lt_zero c)⟩ (by show 24 - 0 < 10000; omega)
  rintro ⟨p1, p2, X1⟩ ⟨n, T1, o1, hd1, hn, e1, e2, q1, hh⟩
  dsimp only at e1 e2 q1
  subst e1 e2
  unfold b118_Linker_write_30
  dsimp only
  by_cases hl' : n < 24
  · refine We (by simp (disch := omega) only [o_le, o_leL, o_leR, o_lt, o_ltL, o_ltR, o_eq, o_eqL, o_eqR, o_cl, o_add, o_addL, o_addR, o_mul, o_mulL, o_mulR, o_sub, o_subR, o_0le, o_lt0, o_ixo, n1_eq, n1_eq', n1_lt, n1_le, n1_ge, n1_gt, n2_eq, n2_eq', n2_lt, n2_le, n2_ge, n2_gt, ↓reduceIte, ite_self, Nat.reduceEqDiff, Nat.reduceAdd, Nat.reduceMul, Nat.reduceSub, Nat.reduceLT, Nat.reduceLeDiff, Nat.not_lt_zero, Nat.zero_le, if_true, if_false, ite_true, ite_false, true_and, and_true, false_and, and_false, true_implies, false_implies, implies_true, not_true_eq_false, not_false_eq_true, eq_self, true_or, or_true, false_or, or_false, and_self, reduceCtorEq, forall_const]; omega) ?_
    have nx : sumR Mr (cdF Mr) (n + 1) = sumR Mr (cdF Mr) n + (if Mr.1 75 n = 0 then 0 else cdF Mr n) := rfl
    have nh : headsL Mr base (n + 1) = headsL Mr base n ++ (if Mr.1 75 n = 0 then [] else headL Mr n (base + sumR Mr (cdF Mr) n)) := rfl
    by_cases hr : fm Mr 75 n
    · have hm := hR.2.2.1 n hl' hr
      obtain ⟨a, ha⟩ := hX0 n hm
      refine Wi ((hasR_q q1.1 hl').mpr hr) ?_
      rw [W_bind]
      have hb := hb_le hT n hn
      refine writeHead_q hT hR q1 hm hr ha (by rw [List.length_append, headsL_len]; omega) _ _ ?_
      intro X2 T2 o2 q2
      rw [W_some]
      refine ⟨⟨n + 1, T2, o2, _, by omega, o_addR n 1, ?_, by rw [nh, if_neg hr, ← List.append_assoc]; exact q2, ?_⟩, by show 24 - (Int32.ofNat n + 1).toNatClampNeg < _; simp (disch := omega) only [o_le, o_leL, o_leR, o_lt, o_ltL, o_ltR, o_eq, o_eqL, o_eqR, o_cl, o_add, o_addL, o_addR, o_mul, o_mulL, o_mulR, o_sub, o_subR, o_0le, o_lt0, o_ixo, n1_eq, n1_eq', n1_lt, n1_le, n1_ge, n1_gt, n2_eq, n2_eq', n2_lt, n2_le, n2_ge, n2_gt, ↓reduceIte, ite_self, Nat.reduceEqDiff, Nat.reduceAdd, Nat.reduceMul, Nat.reduceSub, Nat.reduceLT, Nat.reduceLeDiff, Nat.not_lt_zero, Nat.zero_le, if_true, if_false, ite_true, ite_false, true_and, and_true, false_and, and_false, true_implies, false_implies, implies_true, not_true_eq_false, not_false_eq_true, eq_self, true_or, or_true, false_or, or_false, and_self, reduceCtorEq, forall_const]; omega⟩
      · show Int32.ofNat (base + sumR Mr (cdF Mr) n) + Int32.ofNat (off Mr n (sz Mr n)) = _
        rw [nx, if_neg hr, o_add, Nat.add_assoc]
        rfl
      · intro m hm' hf
        unfold upd
        by_cases e : m = n
        · subst e
          rw [if_pos rfl, List.length_append, headsL_len]
        · rw [if_neg (fun q => e (cnt_inj (fmB_iff.mpr hf) (fmB_iff.mpr hr) q))]
          exact hh m (by omega) hf
    · refine We (fun x => hr ((hasR_q q1.1 hl').mp x)) ?_
      rw [W_some]
      have z := Classical.not_not.mp hr
      refine ⟨⟨n + 1, T1, o1, hd1, by omega, o_addR n 1, by rw [nx, if_pos z]; rfl, by rw [nh, if_pos z, List.append_nil]; exact q1, ?_⟩, by show 24 - (Int32.ofNat n + 1).toNatClampNeg < _; simp (disch := omega) only [o_le, o_leL, o_leR, o_lt, o_ltL, o_ltR, o_eq, o_eqL, o_eqR, o_cl, o_add, o_addL, o_addR, o_mul, o_mulL, o_mulR, o_sub, o_subR, o_0le, o_lt0, o_ixo, n1_eq, n1_eq', n1_lt, n1_le, n1_ge, n1_gt, n2_eq, n2_eq', n2_lt, n2_le, n2_ge, n2_gt, ↓reduceIte, ite_self, Nat.reduceEqDiff, Nat.reduceAdd, Nat.reduceMul, Nat.reduceSub, Nat.reduceLT, Nat.reduceLeDiff, Nat.not_lt_zero, Nat.zero_le, if_true, if_false, ite_true, ite_false, true_and, and_true, false_and, and_false, true_implies, false_implies, implies_true, not_true_eq_false, not_false_eq_true, eq_self, true_or, or_true, false_or, or_false, and_self, reduceCtorEq, forall_const]; omega⟩
      intro m hm' hf
      by_cases e : m = n
      · subst e; exact absurd hf hr
      · exact hh m (by omega) hf
  · have en : n = 24 := by omega
    subst en
    refine Wi (by decide) ?_
    rw [W_some]
    exact hk _ _ X1 T1 o1 hd1 q1 hh
set_option maxRecDepth 20000 in
set_option maxHeartbeats 4000000 in
theorem codesX {Mr : MS} {kc rc main : Nat} {X0 X : XS} {T0 T : Nat → Nat} {l : List Int32} {o hd nm sk : Nat → Int32} (hT : LkT Mr kc rc) (hR : LkR Mr kc rc main) (h : QX Mr kc rc X0 T0 X T l o hd nm sk) (hX0 : ∀ m, m < rc → ∃ a, X0.2.1 2 m = some a) (hl : l.length ≤ 1343) {β : Type} {k : Int32 × XS → Option β} {R : β → Prop} (hk : ∀ z X' T' o', QX Mr kc rc X0 T0 X' T' (l ++ codesL Mr 24) o' hd nm sk → Wo (k (z, X')) R) : Wo ((lp b157_Linker_write_30 10000 ((0 : Int32), X)).bind k) R := by
  have hr24 := h.1.1.2.1
  rw [W_bind]
  refine W_lp (fun p => ∃ n T' o', n ≤ 24 ∧ p.1 = Int32.ofNat n ∧ QX Mr kc rc X0 T0 p.2 T' (l ++ codesL Mr n) o' hd nm sk) (fun p => 24 - p.1.toNatClampNeg) ?_ 10000 _ ⟨0, T, o, by omega, rfl, by show QX Mr kc rc X0 T0 X T (l ++ []) o hd nm sk; rw [List.append_nil]; exact h⟩ (by show 24 - 0 < 10000; omega)
  rintro ⟨p1, X1⟩ ⟨n, T1, o1, hn, e1, q1⟩
  dsimp only at e1 q1
  subst e1
  unfold b157_Linker_write_30
  dsimp only
  by_cases hl' : n < 24
  · refine We (by simp (disch := omega) only [o_le, o_leL, o_leR, o_lt, o_ltL, o_ltR, o_eq, o_eqL, o_eqR, o_cl, o_add, o_addL, o_addR, o_mul, o_mulL, o_mulR, o_sub, o_subR, o_0le, o_lt0, o_ixo, n1_eq, n1_eq', n1_lt, n1_le, n1_ge, n1_gt, n2_eq, n2_eq', n2_lt, n2_le, n2_ge, n2_gt, ↓reduceIte, ite_self, Nat.reduceEqDiff, Nat.reduceAdd, Nat.reduceMul, Nat.reduceSub, Nat.reduceLT, Nat.reduceLeDiff, Nat.not_lt_zero, Nat.zero_le, if_true, if_false, ite_true, ite_false, true_and, and_true, false_and, and_false, true_implies, false_implies, implies_true, not_true_eq_false, not_false_eq_true, eq_self, true_or, or_true, false_or, or_false, and_self, reduceCtorEq, forall_const]; omega) ?_
    have nh : codesL Mr (n + 1) = codesL Mr n ++ (if Mr.1 75 n = 0 then [] else cat (insL Mr n) (sz Mr n)) := rfl
    by_cases hr : fm Mr 75 n
    · have hm := hR.2.2.1 n hl' hr
      obtain ⟨a, ha⟩ := hX0 n hm
      refine Wi ((hasR_q q1.1 hl').mpr hr) ?_
      have hb := cd_le hT n hn
      refine writeCode_q hT hR q1 hm hr ha (by rw [List.length_append, codesL_len]; omega) ?_
      intro X2 T2 o2 q2
      rw [W_some]
      exact ⟨⟨n + 1, T2, o2, by omega, o_addR n 1, by rw [nh, if_neg hr, ← List.append_assoc]; exact q2⟩, by show 24 - (Int32.ofNat n + 1).toNatClampNeg < _; simp (disch := omega) only [o_le, o_leL, o_leR, o_lt, o_ltL, o_ltR, o_eq, o_eqL, o_eqR, o_cl, o_add, o_addL, o_addR, o_mul, o_mulL, o_mulR, o_sub, o_subR, o_0le, o_lt0, o_ixo, n1_eq, n1_eq', n1_lt, n1_le, n1_ge, n1_gt, n2_eq, n2_eq', n2_lt, n2_le, n2_ge, n2_gt, ↓reduceIte, ite_self, Nat.reduceEqDiff, Nat.reduceAdd, Nat.reduceMul, Nat.reduceSub, Nat.reduceLT, Nat.reduceLeDiff, Nat.not_lt_zero, Nat.zero_le, if_true, if_false, ite_true, ite_false, true_and, and_true, false_and, and_false, true_implies, false_implies, implies_true, not_true_eq_false, not_false_eq_true, eq_self, true_or, or_true, false_or, or_false, and_self, reduceCtorEq, forall_const]; omega⟩
    · refine We (fun x => hr ((hasR_q q1.1 hl').mp x)) ?_
      rw [W_some]
      have z := Classical.not_not.mp hr
      exact ⟨⟨n + 1, T1, o1, by omega, o_addR n 1, by rw [nh, if_pos z, List.append_nil]; exact q1⟩, by show 24 - (Int32.ofNat n + 1).toNatClampNeg < _; simp (disch := omega) only [o_le, o_leL, o_leR, o_lt, o_ltL, o_ltR, o_eq, o_eqL, o_eqR, o_cl, o_add, o_addL, o_addR, o_mul, o_mulL, o_mulR, o_sub, o_subR, o_0le, o_lt0, o_ixo, n1_eq, n1_eq', n1_lt, n1_le, n1_ge, n1_gt, n2_eq, n2_eq', n2_lt, n2_le, n2_ge, n2_gt, ↓reduceIte, ite_self, Nat.reduceEqDiff, Nat.reduceAdd, Nat.reduceMul, Nat.reduceSub, Nat.reduceLT, Nat.reduceLeDiff, Nat.not_lt_zero, Nat.zero_le, if_true, if_false, ite_true, ite_false, true_and, and_true, false_and, and_false, true_implies, false_implies, implies_true, not_true_eq_false, not_false_eq_true, eq_self, true_or, or_true, false_or, or_false, and_self, reduceCtorEq, forall_const]; omega⟩
  · have en : n = 24 := by omega
    subst en
    refine Wi (by decide) ?_
    rw [W_some]
    exact hk _ X1 T1 o1 q1
