/-! K9 -/
set_option maxRecDepth 20000 in
set_option maxHeartbeats 4000000 in
theorem cw_eq (n : Nat) : vp_nar .char (((Int32.ofNat n).toUInt32 % 65536).toInt32) = Int32.ofNat (n % 65536) := by
  have e : (((Int32.ofNat n).toUInt32 % 65536).toInt32) = Int32.ofNat (n % 65536) := by
    apply Int32.toBitVec_inj.mp
    apply BitVec.eq_of_toNat_eq
    simp [Int32.toBitVec_ofNat']
    omega
  rw [pk_vc, e]
theorem nar0 : vp_nar .char 0 = 0 := by decide
set_option maxRecDepth 20000 in
set_option maxHeartbeats 4000000 in
theorem ofN_lt (x : Int32) : ∃ n, n < 4294967296 ∧ x = Int32.ofNat n := by
  refine ⟨x.toBitVec.toNat, x.toBitVec.isLt, ?_⟩
  apply Int32.toBitVec_inj.mp
  simp [Int32.toBitVec_ofNat']
set_option maxRecDepth 20000 in
set_option maxHeartbeats 4000000 in
theorem ush16 (n : Nat) (h : n < 4294967296) : ((Int32.ofNat n).toUInt32 >>> ((16 : Int32).toUInt32 &&& Int32.toUInt32 31)).toInt32 = Int32.ofNat (n / 65536) := by
  have e : ((16 : Int32).toUInt32 &&& Int32.toUInt32 31) = 16 := by decide
  rw [e]
  apply Int32.toBitVec_inj.mp
  apply BitVec.eq_of_toNat_eq
  simp [Int32.toBitVec_ofNat', Nat.shiftRight_eq_div_pow]
  omega
set_option maxRecDepth 20000 in
set_option maxHeartbeats 4000000 in
theorem two16 {a b : Nat} (hb : b < 65536) : (Int32.ofNat a <<< ((16 : Int32) &&& 31)) ||| Int32.ofNat b = Int32.ofNat (65536 * a + b) := by
  have h : ((16 : Int32) &&& 31) = 16 := by decide
  have sh : Int32.ofNat a <<< (16 : Int32) = Int32.ofNat (a * 65536) := by
    rw [← o_mul]
    apply Int32.toBitVec_inj.mp
    rw [Int32.toBitVec_shiftLeft, Int32.toBitVec_mul]
    show BitVec.ofNat 32 a <<< (BitVec.smod 16#32 32#32) = BitVec.ofNat 32 a * BitVec.ofNat 32 65536
    have e : BitVec.smod 16#32 32#32 = 16#32 := by decide
    rw [e]
    apply BitVec.eq_of_toNat_eq
    simp [BitVec.toNat_shiftLeft, BitVec.toNat_mul, Nat.shiftLeft_eq]
  rw [h, sh, ofN_or]
  congr 1
  have := Nat.shiftLeft_add_eq_or_of_lt (b := b) (i := 16) (by omega) a
  rw [Nat.shiftLeft_eq] at this
  rw [Nat.mul_comm 65536 a]
  exact this.symm
set_option maxRecDepth 20000 in
set_option maxHeartbeats 4000000 in
theorem word_eq {X0 : XS} {T0 : Nat → Nat} {X : XS} {T C : Nat → Nat} {n : Nat} {V : MS} (r : RV X0 T0 X T C n V) {j : Nat} (hj : j < 4001) : f_Memory_word (Int32.ofNat j) X = some (V.1 4 j) := by
  have l4 : Lv n 4 := Or.inl (by omega)
  have q : ¬ Int32.ofNat 4001 ≤ Int32.ofNat j := by rw [o_le _ _ (by omega) (by omega)]; omega
  unfold f_Memory_word
  rw [if_neg (by rw [o_lt0 _ (by omega)]; exact fun q => q)]
  refine (Ez r.m1.1).trans ((Ez r.m1.2).trans ((if_neg q).trans ((Ez r.m1.1).trans ((Ez r.m1.2).trans ((if_pos (ixl hj (by omega))).trans ?_)))))
  rw [o_cl _ (by omega), r.rd l4]
set_option maxRecDepth 20000 in
set_option maxHeartbeats 4000000 in
theorem setWord_eq {X0 : XS} {T0 : Nat → Nat} {X : XS} {T C : Nat → Nat} {n : Nat} {V : MS} (r : RV X0 T0 X T C n V) {j : Nat} (h1 : 1 ≤ j) (hj : j < 4001) (w : Nat) : ∃ X', f_Memory_setWord (Int32.ofNat j) (Int32.ofNat w) X = some X' ∧ RV X0 T0 X' T C n (mw V 4 j (Int32.ofNat (w % 65536))) := by
  have l4 : Lv n 4 := Or.inl (by omega)
  have q : ¬ Int32.ofNat 4001 ≤ Int32.ofNat j := by rw [o_le _ _ (by omega) (by omega)]; omega
  refine ⟨xw X (C 4) j (Int32.ofNat (w % 65536)), ?_, r.w l4 j _⟩
  unfold f_Memory_setWord
  rw [if_neg (by rw [o_ltR _ _ (by omega) (by decide)]; show ¬ j < 1; omega)]
  refine (Ez r.m1.1).trans ((Ez r.m1.2).trans ((if_neg q).trans ((Ez r.m1.1).trans ((Ez r.m1.2).trans ((if_pos (ixl hj (by omega))).trans ?_)))))
  rw [cw_eq, o_cl _ (by omega)]
set_option maxRecDepth 20000 in
set_option maxHeartbeats 4000000 in
theorem intAt_eq {X0 : XS} {T0 : Nat → Nat} {X : XS} {T C : Nat → Nat} {n : Nat} {V : MS} (r : RV X0 T0 X T C n V) {j : Nat} (hj : j + 1 < 4001) : f_Memory_intAt (Int32.ofNat j) X = some ((V.1 4 j <<< ((16 : Int32) &&& 31)) ||| V.1 4 (j + 1)) := by
  unfold f_Memory_intAt
  rw [word_eq r (by omega), o_addR, Option.bind_some, word_eq r hj]
  rfl
set_option maxRecDepth 20000 in
set_option maxHeartbeats 4000000 in
theorem setIntAt_eq {X0 : XS} {T0 : Nat → Nat} {X : XS} {T C : Nat → Nat} {n : Nat} {V : MS} (r : RV X0 T0 X T C n V) {j : Nat} (h1 : 1 ≤ j) (hj : j + 1 < 4001) {w : Nat} (hw : w < 4294967296) : ∃ X', f_Memory_setIntAt (Int32.ofNat j) (Int32.ofNat w) X = some X' ∧ RV X0 T0 X' T C n (mw (mw V 4 j (Int32.ofNat (w / 65536))) 4 (j + 1) (Int32.ofNat (w % 65536))) := by
  obtain ⟨X1, e1, r1⟩ := setWord_eq r h1 (by omega) (w / 65536)
  obtain ⟨X2, e2, r2⟩ := setWord_eq r1 (j := j + 1) (by omega) hj w
  rw [Nat.mod_eq_of_lt (by omega)] at r1 r2
  refine ⟨X2, ?_, r2⟩
  unfold f_Memory_setIntAt
  rw [ush16 w hw, e1, o_addR, Option.bind_some, e2]
  rfl
