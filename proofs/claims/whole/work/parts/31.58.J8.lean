/-! J8 -/
set_option maxRecDepth 20000 in
set_option maxHeartbeats 4000000 in
theorem shr8 (a : Nat) (h : a < 2147483648) : Int32.ofNat a >>> ((8 : Int32) &&& 31) = Int32.ofNat (a / 256) := by
  have e0 : ((8 : Int32) &&& 31) = 8 := by decide
  rw [e0]
  apply Int32.toBitVec_inj.mp
  rw [Int32.toBitVec_shiftRight]
  show (BitVec.ofNat 32 a).sshiftRight' (BitVec.smod 8#32 32#32) = BitVec.ofNat 32 (a / 256)
  have e : BitVec.smod 8#32 32#32 = 8#32 := by decide
  have hm : (BitVec.ofNat 32 a).msb = false := by
    rw [BitVec.msb_eq_false_iff_two_mul_lt]
    simp only [BitVec.toNat_ofNat]
    rw [Nat.mod_eq_of_lt (by omega)]
    omega
  rw [e, BitVec.sshiftRight_eq', BitVec.sshiftRight_eq_of_msb_false hm]
  apply BitVec.eq_of_toNat_eq
  simp [BitVec.toNat_ushiftRight, Nat.shiftRight_eq_div_pow]
  omega
set_option maxRecDepth 20000 in
set_option maxHeartbeats 4000000 in
theorem andK (a : Nat) : Int32.ofNat a &&& 255 = Int32.ofNat (a % 256) ∧ Int32.ofNat a &&& 65535 = Int32.ofNat (a % 65536) := by
  constructor
  · rw [show (255 : Int32) = Int32.ofNat 255 from rfl, ofN_and]
    have := Nat.and_two_pow_sub_one_eq_mod a 8
    rw [show (255 : Nat) = 2 ^ 8 - 1 from rfl, this]
  · rw [show (65535 : Int32) = Int32.ofNat 65535 from rfl, ofN_and]
    have := Nat.and_two_pow_sub_one_eq_mod a 16
    rw [show (65535 : Nat) = 2 ^ 16 - 1 from rfl, this]
set_option maxRecDepth 20000 in
set_option maxHeartbeats 4000000 in
theorem sumB_nat {g : Nat → Int32} : ∀ n, (∀ j, j < n → ∃ k, k < 256 ∧ g j = Int32.ofNat k) → ∃ s, s ≤ 255 * n ∧ sumB g n = Int32.ofNat s := by
  intro n
  induction n with
  | zero => intro _; exact ⟨0, by omega, rfl⟩
  | succ n ih =>
    intro h
    obtain ⟨s, hs, es⟩ := ih (fun j hj => h j (by omega))
    obtain ⟨k, hk, ek⟩ := h n (by omega)
    show ∃ s, s ≤ 255 * (n + 1) ∧ sumB g n + (if n = 7 ∨ n = 8 then 0 else g n) = Int32.ofNat s
    by_cases c : n = 7 ∨ n = 8
    · rw [if_pos c]
      exact ⟨s, by omega, by rw [Int32.add_zero]; exact es⟩
    · rw [if_neg c, es, ek]
      exact ⟨s + k, by omega, o_add s k⟩
set_option maxRecDepth 20000 in
set_option maxHeartbeats 4000000 in
theorem sum_30 {X : XS} {T : Nat → Nat} {n b L : Nat} (h : IMG 30 1 X T n b L) (hn : n ≤ 6000) : f_Image_sum_30 X = some (sumB (X.1 b) n &&& 65535) := by
  have w : Wo (lp (b4_Image_sum_30 X) 10000 ((0 : Int32), (0 : Int32))) (fun r => r.1 = sumB (X.1 b) n) := by
    refine W_lp (fun s => ∃ k, k ≤ n ∧ s = (sumB (X.1 b) k, Int32.ofNat k)) (fun s => n - s.2.toNatClampNeg) ?_ 10000 _ ⟨0, Nat.zero_le _, rfl⟩ (by show n - 0 < 10000; omega)
    intro s ⟨k, hk, e⟩
    subst e
    unfold b4_Image_sum_30
    by_cases hl : k < n
    · obtain ⟨h1, h2, h3, h4, h5, h6⟩ := at_of h k hl
      have q : ¬ n ≤ k := by omega
      have st : sumB (X.1 b) (k + 1) = sumB (X.1 b) k + (if k = 7 ∨ k = 8 then 0 else X.1 b k) := rfl
      have lt' : n - (k + 1) < n - k := by omega
      by_cases e7 : k = 7
      · subst e7
        simp (disch := omega) only [W_some, W_none, W_bind, W_ite, W_ocz, W_lt, h1, h2, h3, h4, h5, q, o_le, o_leL, o_leR, o_lt, o_ltL, o_ltR, o_eq, o_eqL, o_eqR, o_cl, o_add, o_addL, o_addR, o_mul, o_mulL, o_mulR, o_sub, o_subR, o_0le, o_lt0, o_ixo, n1_eq, n1_eq', n1_lt, n1_le, n1_ge, n1_gt, n2_eq, n2_eq', n2_lt, n2_le, n2_ge, n2_gt, ↓reduceIte, ite_self, Nat.reduceEqDiff, Nat.reduceAdd, Nat.reduceMul, Nat.reduceSub, Nat.reduceLT, Nat.reduceLeDiff, Nat.not_lt_zero, Nat.zero_le, if_true, if_false, ite_true, ite_false, true_and, and_true, false_and, and_false, true_implies, false_implies, implies_true, not_true_eq_false, not_false_eq_true, eq_self, true_or, or_true, false_or, or_false, and_self, reduceCtorEq, forall_const]
        exact ⟨⟨8, by omega, by rw [st]; rfl⟩, by omega⟩
      · by_cases e8 : k = 8
        · subst e8
          simp (disch := omega) only [W_some, W_none, W_bind, W_ite, W_ocz, W_lt, h1, h2, h3, h4, h5, q, o_le, o_leL, o_leR, o_lt, o_ltL, o_ltR, o_eq, o_eqL, o_eqR, o_cl, o_add, o_addL, o_addR, o_mul, o_mulL, o_mulR, o_sub, o_subR, o_0le, o_lt0, o_ixo, n1_eq, n1_eq', n1_lt, n1_le, n1_ge, n1_gt, n2_eq, n2_eq', n2_lt, n2_le, n2_ge, n2_gt, ↓reduceIte, ite_self, Nat.reduceEqDiff, Nat.reduceAdd, Nat.reduceMul, Nat.reduceSub, Nat.reduceLT, Nat.reduceLeDiff, Nat.not_lt_zero, Nat.zero_le, if_true, if_false, ite_true, ite_false, true_and, and_true, false_and, and_false, true_implies, false_implies, implies_true, not_true_eq_false, not_false_eq_true, eq_self, true_or, or_true, false_or, or_false, and_self, reduceCtorEq, forall_const]
          exact ⟨⟨9, by omega, by rw [st]; rfl⟩, by omega⟩
        · simp (disch := omega) only [W_some, W_none, W_bind, W_ite, W_ocz, W_lt, h1, h2, h3, h4, h5, q, e7, e8, o_le, o_leL, o_leR, o_lt, o_ltL, o_ltR, o_eq, o_eqL, o_eqR, o_cl, o_add, o_addL, o_addR, o_mul, o_mulL, o_mulR, o_sub, o_subR, o_0le, o_lt0, o_ixo, n1_eq, n1_eq', n1_lt, n1_le, n1_ge, n1_gt, n2_eq, n2_eq', n2_lt, n2_le, n2_ge, n2_gt, ↓reduceIte, ite_self, Nat.reduceEqDiff, Nat.reduceAdd, Nat.reduceMul, Nat.reduceSub, Nat.reduceLT, Nat.reduceLeDiff, Nat.not_lt_zero, Nat.zero_le, if_true, if_false, ite_true, ite_false, true_and, and_true, false_and, and_false, true_implies, false_implies, implies_true, not_true_eq_false, not_false_eq_true, eq_self, true_or, or_true, false_or, or_false, and_self, reduceCtorEq, forall_const]
          exact ⟨⟨k + 1, by omega, by rw [st, if_neg (by omega)]⟩, by omega⟩
    · have e : k = n := by omega
      subst e
      have h1 := h.1
      simp (disch := omega) only [W_some, W_none, W_bind, W_ite, W_ocz, W_lt, h1, Nat.le_refl, o_le, o_leL, o_leR, o_lt, o_ltL, o_ltR, o_eq, o_eqL, o_eqR, o_cl, o_add, o_addL, o_addR, o_mul, o_mulL, o_mulR, o_sub, o_subR, o_0le, o_lt0, o_ixo, n1_eq, n1_eq', n1_lt, n1_le, n1_ge, n1_gt, n2_eq, n2_eq', n2_lt, n2_le, n2_ge, n2_gt, ↓reduceIte, ite_self, Nat.reduceEqDiff, Nat.reduceAdd, Nat.reduceMul, Nat.reduceSub, Nat.reduceLT, Nat.reduceLeDiff, Nat.not_lt_zero, Nat.zero_le, if_true, if_false, ite_true, ite_false, true_and, and_true, false_and, and_false, true_implies, false_implies, implies_true, not_true_eq_false, not_false_eq_true, eq_self, true_or, or_true, false_or, or_false, and_self, reduceCtorEq, forall_const]
  obtain ⟨r, e, hr⟩ := w
  unfold f_Image_sum_30
  rw [e]
  show some (r.1 &&& 65535) = _
  rw [hr]
set_option maxRecDepth 20000 in
set_option maxHeartbeats 4000000 in
theorem sum_W {M : MS} {n : Nat} (e : M.1 60 39 = Int32.ofNat n) (hn : n ≤ 6000) : Wo (lp (b381_M_write M) 10000 ((0 : Int32), (0 : Int32))) (fun r => r.1 = sumB (M.1 92) n) := by
  refine W_lp (fun s => ∃ k, k ≤ n ∧ s = (sumB (M.1 92) k, Int32.ofNat k)) (fun s => n - s.2.toNatClampNeg) ?_ 10000 _ ⟨0, Nat.zero_le _, rfl⟩ (by show n - 0 < 10000; omega)
  intro s ⟨k, hk, es⟩
  subst es
  unfold b381_M_write
  by_cases hl : k < n
  · have q : ¬ n ≤ k := by omega
    have q2 : k < 8000 := by omega
    have st : sumB (M.1 92) (k + 1) = sumB (M.1 92) k + (if k = 7 ∨ k = 8 then 0 else M.1 92 k) := rfl
    by_cases e7 : k = 7
    · subst e7
      simp (disch := omega) only [W_some, W_none, W_bind, W_ite, W_ocz, W_lt, e, q, o_le, o_leL, o_leR, o_lt, o_ltL, o_ltR, o_eq, o_eqL, o_eqR, o_cl, o_add, o_addL, o_addR, o_mul, o_mulL, o_mulR, o_sub, o_subR, o_0le, o_lt0, o_ixo, n1_eq, n1_eq', n1_lt, n1_le, n1_ge, n1_gt, n2_eq, n2_eq', n2_lt, n2_le, n2_ge, n2_gt, ↓reduceIte, ite_self, Nat.reduceEqDiff, Nat.reduceAdd, Nat.reduceMul, Nat.reduceSub, Nat.reduceLT, Nat.reduceLeDiff, Nat.not_lt_zero, Nat.zero_le, if_true, if_false, ite_true, ite_false, true_and, and_true, false_and, and_false, true_implies, false_implies, implies_true, not_true_eq_false, not_false_eq_true, eq_self, true_or, or_true, false_or, or_false, and_self, reduceCtorEq, forall_const]
      exact ⟨⟨8, by omega, by rw [st]; rfl⟩, by omega⟩
    · by_cases e8 : k = 8
      · subst e8
        simp (disch := omega) only [W_some, W_none, W_bind, W_ite, W_ocz, W_lt, e, q, o_le, o_leL, o_leR, o_lt, o_ltL, o_ltR, o_eq, o_eqL, o_eqR, o_cl, o_add, o_addL, o_addR, o_mul, o_mulL, o_mulR, o_sub, o_subR, o_0le, o_lt0, o_ixo, n1_eq, n1_eq', n1_lt, n1_le, n1_ge, n1_gt, n2_eq, n2_eq', n2_lt, n2_le, n2_ge, n2_gt, ↓reduceIte, ite_self, Nat.reduceEqDiff, Nat.reduceAdd, Nat.reduceMul, Nat.reduceSub, Nat.reduceLT, Nat.reduceLeDiff, Nat.not_lt_zero, Nat.zero_le, if_true, if_false, ite_true, ite_false, true_and, and_true, false_and, and_false, true_implies, false_implies, implies_true, not_true_eq_false, not_false_eq_true, eq_self, true_or, or_true, false_or, or_false, and_self, reduceCtorEq, forall_const]
        exact ⟨⟨9, by omega, by rw [st]; rfl⟩, by omega⟩
      · simp (disch := omega) only [W_some, W_none, W_bind, W_ite, W_ocz, W_lt, e, q, q2, e7, e8, o_le, o_leL, o_leR, o_lt, o_ltL, o_ltR, o_eq, o_eqL, o_eqR, o_cl, o_add, o_addL, o_addR, o_mul, o_mulL, o_mulR, o_sub, o_subR, o_0le, o_lt0, o_ixo, n1_eq, n1_eq', n1_lt, n1_le, n1_ge, n1_gt, n2_eq, n2_eq', n2_lt, n2_le, n2_ge, n2_gt, ↓reduceIte, ite_self, Nat.reduceEqDiff, Nat.reduceAdd, Nat.reduceMul, Nat.reduceSub, Nat.reduceLT, Nat.reduceLeDiff, Nat.not_lt_zero, Nat.zero_le, if_true, if_false, ite_true, ite_false, true_and, and_true, false_and, and_false, true_implies, false_implies, implies_true, not_true_eq_false, not_false_eq_true, eq_self, true_or, or_true, false_or, or_false, and_self, reduceCtorEq, forall_const]
        exact ⟨⟨k + 1, by omega, by rw [st, if_neg (by omega)]⟩, by omega⟩
  · have ek : k = n := by omega
    subst ek
    simp (disch := omega) only [W_some, W_none, W_bind, W_ite, W_ocz, W_lt, e, Nat.le_refl, o_le, o_leL, o_leR, o_lt, o_ltL, o_ltR, o_eq, o_eqL, o_eqR, o_cl, o_add, o_addL, o_addR, o_mul, o_mulL, o_mulR, o_sub, o_subR, o_0le, o_lt0, o_ixo, n1_eq, n1_eq', n1_lt, n1_le, n1_ge, n1_gt, n2_eq, n2_eq', n2_lt, n2_le, n2_ge, n2_gt, ↓reduceIte, ite_self, Nat.reduceEqDiff, Nat.reduceAdd, Nat.reduceMul, Nat.reduceSub, Nat.reduceLT, Nat.reduceLeDiff, Nat.not_lt_zero, Nat.zero_le, if_true, if_false, ite_true, ite_false, true_and, and_true, false_and, and_false, true_implies, false_implies, implies_true, not_true_eq_false, not_false_eq_true, eq_self, true_or, or_true, false_or, or_false, and_self, reduceCtorEq, forall_const]
/-- the bytes with their length and their sum -/
def seal1 (g : Nat → Int32) (n : Nat) : Nat → Int32 := upd (upd g 5 ((Int32.ofNat n >>> ((8 : Int32) &&& 31)) &&& 255)) 6 (Int32.ofNat n &&& 255)
def sealB (g : Nat → Int32) (n : Nat) : Nat → Int32 := upd (upd (seal1 g n) 7 ((sumB (seal1 g n) n >>> ((8 : Int32) &&& 31)) &&& 255)) 8 (sumB (seal1 g n) n &&& 255)
def bt (l : List Int32) (j : Nat) : Int32 := l.getD j 0 &&& 255
set_option maxRecDepth 20000 in
set_option maxHeartbeats 4000000 in
theorem seal1_byte {g : Nat → Int32} {n : Nat} (h : ∀ j, j < n → ∃ k, k < 256 ∧ g j = Int32.ofNat k) : ∀ j, j < n → ∃ k, k < 256 ∧ seal1 g n j = Int32.ofNat k := by
  intro j hj
  unfold seal1 upd
  by_cases e6 : j = 6
  · rw [if_pos e6]; exact byte_of _
  · rw [if_neg e6]
    by_cases e5 : j = 5
    · rw [if_pos e5]; exact byte_of _
    · rw [if_neg e5]; exact h j hj
set_option maxRecDepth 20000 in
set_option maxHeartbeats 4000000 in
theorem sealB_byte {g : Nat → Int32} {n : Nat} (h : ∀ j, j < n → ∃ k, k < 256 ∧ g j = Int32.ofNat k) : ∀ j, j < n → ∃ k, k < 256 ∧ sealB g n j = Int32.ofNat k := by
  intro j hj
  unfold sealB upd
  by_cases e6 : j = 8
  · rw [if_pos e6]; exact byte_of _
  · rw [if_neg e6]
    by_cases e5 : j = 7
    · rw [if_pos e5]; exact byte_of _
    · rw [if_neg e5]; exact seal1_byte h j hj
set_option maxRecDepth 20000 in
set_option maxHeartbeats 4000000 in
theorem sum_bits {g : Nat → Int32} {n : Nat} (hn : n ≤ 6000) (h : ∀ j, j < n → ∃ k, k < 256 ∧ g j = Int32.ofNat k) : ((sumB g n &&& 65535) >>> ((8 : Int32) &&& 31)) = (sumB g n >>> ((8 : Int32) &&& 31)) &&& 255 ∧ (sumB g n &&& 65535) &&& 255 = sumB g n &&& 255 := by
  obtain ⟨s, hs, es⟩ := sumB_nat n h
  rw [es, (andK s).2, shr8 _ (by omega), shr8 s (by omega), (andK _).1, (andK _).1, (andK _).1]
  constructor
  · congr 1; omega
  · congr 1; omega
theorem sumB_upd {g g' : Nat → Int32} {n : Nat} (h : ∀ j, j < n → g j = g' j) : sumB g n = sumB g' n := sumB_congr n h
set_option maxRecDepth 20000 in
set_option maxHeartbeats 4000000 in
theorem seal_q {X : XS} {T : Nat → Nat} {n b L : Nat} {g : Nat → Int32} (h : IMG 30 1 X T n b L) (ht : TG T) (hn : n ≤ 5663) (h9 : 9 ≤ n) (hg : ∀ j, j < n → X.1 b j = g j) (hb : ∀ j, j < n → ∃ k, k < 256 ∧ g j = Int32.ofNat k) : Wo (f_Image_seal_30 X) (fun X' => IMG 30 1 X' T n b L ∧ Only (fun a => a = b) X X' ∧ ∀ j, j < n → X'.1 b j = sealB g n j) := by
  obtain ⟨i1, i2, i3, i4, i5, i6⟩ := h
  have t30 := ht 30 (by omega) (by omega) (by omega) (by omega) (by omega) (by omega) (by omega)
  have nb : (30 : Nat) ≠ b := by
    intro e
    rw [← e, t30] at i6
    omega
  have L8 : L ≤ 8192 := by
    obtain ⟨k, hk, hL⟩ := i5
    rw [hL]
    have : 2 ^ k ≤ 2 ^ 7 := Nat.pow_le_pow_right (by omega) hk
    omega
  have xl := xL_iff.mpr i3
  have L9 : 9 ≤ L := by omega
  have im : ∀ {Y : XS}, Only (fun a => a = b) X Y → IMG 30 1 Y T n b L := by
    intro Y ho
    refine ⟨by rw [ho.2 30 nb]; exact i1, by rw [ho.1]; exact i2, ?_, i4, i5, i6⟩
    have : ∀ q, xT X b = some q → xT Y b = some q := (ho.mo (T := T)).2.2 b
    exact this _ i3
  generalize hX1 : xw (xw X b 5 ((Int32.ofNat n >>> ((8 : Int32) &&& 31)) &&& 255)) b 6 (Int32.ofNat n &&& 255) = X1
  have o1 : Only (fun a => a = b) X X1 := by rw [← hX1]; exact ((Only.refl (S := fun a => a = b) X).xw rfl _ _).xw rfl _ _
  have v1 : ∀ j, j < n → X1.1 b j = seal1 g n j := by
    intro j hj
    rw [← hX1, xw1, xw1, hg j hj]
    unfold seal1 upd
    simp
  have b1 := seal1_byte hb
  have sm : sumB (X1.1 b) n = sumB (seal1 g n) n := sumB_congr n v1
  obtain ⟨sb1, sb2⟩ := sum_bits (by omega) b1
  generalize hX2 : xw (xw X1 b 7 ((sumB (seal1 g n) n >>> ((8 : Int32) &&& 31)) &&& 255)) b 8 (sumB (seal1 g n) n &&& 255) = X2
  have o2 : Only (fun a => a = b) X X2 := by rw [← hX2]; exact (o1.xw rfl _ _).xw rfl _ _
  have v2 : ∀ j, j < n → X2.1 b j = sealB g n j := by
    intro j hj
    rw [← hX2, xw1, xw1, v1 j hj]
    unfold sealB upd
    simp
  have r2 : ∀ {Y : XS}, Only (fun a => a = b) X Y → Y.2.1 30 2 = some b ∧ xL Y 0 b = some L ∧ Y.1 30 0 = Int32.ofNat n := by
    intro Y ho
    have := im ho
    exact ⟨this.2.1, xL_iff.mpr this.2.2.1, this.1⟩
  have oa : Only (fun a => a = b) X (xw X b 5 ((Int32.ofNat n >>> ((8 : Int32) &&& 31)) &&& 255)) := (Only.refl (S := fun a => a = b) X).xw rfl _ _
  have ob : Only (fun a => a = b) X (xw X1 b 7 ((sumB (seal1 g n) n >>> ((8 : Int32) &&& 31)) &&& 255)) := o1.xw rfl _ _
  unfold f_Image_seal_30
  have ix : ∀ j, j < 9 → ixo (Int32.ofNat j) L := by
    intro j hj
    rw [o_ixo j L (by omega)]
    omega
  refine We (by rw [i1]; simp (disch := omega) only [o_le, o_leL, o_leR, o_lt, o_ltL, o_ltR, o_eq, o_eqL, o_eqR, o_cl, o_add, o_addL, o_addR, o_mul, o_mulL, o_mulR, o_sub, o_subR, o_0le, o_lt0, o_ixo, n1_eq, n1_eq', n1_lt, n1_le, n1_ge, n1_gt, n2_eq, n2_eq', n2_lt, n2_le, n2_ge, n2_gt, ↓reduceIte, ite_self, Nat.reduceEqDiff, Nat.reduceAdd, Nat.reduceMul, Nat.reduceSub, Nat.reduceLT, Nat.reduceLeDiff, Nat.not_lt_zero, Nat.zero_le, if_true, if_false, ite_true, ite_false, true_and, and_true, false_and, and_false, true_implies, false_implies, implies_true, not_true_eq_false, not_false_eq_true, eq_self, true_or, or_true, false_or, or_false, and_self, reduceCtorEq, forall_const]; omega) (Wz i2 (Wz xl (Wi (by simp (disch := omega) only [o_le, o_leL, o_leR, o_lt, o_ltL, o_ltR, o_eq, o_eqL, o_eqR, o_cl, o_add, o_addL, o_addR, o_mul, o_mulL, o_mulR, o_sub, o_subR, o_0le, o_lt0, o_ixo, n1_eq, n1_eq', n1_lt, n1_le, n1_ge, n1_gt, n2_eq, n2_eq', n2_lt, n2_le, n2_ge, n2_gt, ↓reduceIte, ite_self, Nat.reduceEqDiff, Nat.reduceAdd, Nat.reduceMul, Nat.reduceSub, Nat.reduceLT, Nat.reduceLeDiff, Nat.not_lt_zero, Nat.zero_le, if_true, if_false, ite_true, ite_false, true_and, and_true, false_and, and_false, true_implies, false_implies, implies_true, not_true_eq_false, not_false_eq_true, eq_self, true_or, or_true, false_or, or_false, and_self, reduceCtorEq, forall_const]; exact L9) (Wz i2 (Wz xl (Wi (ix 5 (by omega)) ?_))))))
  rw [W_lt, i1]
  refine Wz (r2 oa).1 (Wz (r2 oa).2.1 (Wi (ix 6 (by omega)) ?_))
  rw [W_lt, (r2 oa).2.2, hX1, sum_30 (im o1) (by omega)]
  simp only [Option.bind_some]
  refine Wz (r2 o1).1 (Wz (r2 o1).2.1 (Wi (ix 7 (by omega)) ?_))
  rw [W_lt, sm, sb1, sb2]
  refine Wz (r2 ob).1 (Wz (r2 ob).2.1 (Wi (ix 8 (by omega)) ?_))
  rw [W_lt, W_some, hX2]
  exact ⟨im o2, o2, v2⟩
