/-! O4 -/
set_option maxRecDepth 20000 in
set_option maxHeartbeats 4000000 in
theorem at51_some {Mr : MS} {kc rc main : Nat} {X : XS} {T : Nat → Nat} (h : IM Mr rc main X T) (g : GP Mr kc rc main) {n : Nat} (hn : n < 2147483648) : ∃ v, f_Image_at_51 (Int32.ofNat n) X = some v := by
  obtain ⟨b, L, h1, _⟩ := h
  have := (imgL_le main g.2.1).1
  by_cases c : n < (imgL Mr rc main).length
  · exact ⟨_, at_51 h1 c (by omega)⟩
  · refine ⟨0, ?_⟩
    unfold f_Image_at_51
    rw [if_neg (by rw [o_lt0 _ hn]; exact fun q => q), if_pos (by rw [h1.1, o_le _ _ (by omega) hn]; omega)]
theorem bit255 : ∀ i : Fin 32, ¬ i.val < 8 → (255#32).getLsbD i.val = false := by decide
set_option maxRecDepth 20000 in
set_option maxHeartbeats 4000000 in
theorem sh8and (n : Nat) (hn : n < 4294967296) : (Int32.ofNat n >>> ((8 : Int32) &&& 31)) &&& 255 = Int32.ofNat (n / 256 % 256) := by
  have e0 : ((8 : Int32) &&& 31) = 8 := by decide
  rw [e0]
  apply Int32.toBitVec_inj.mp
  rw [Int32.toBitVec_and, Int32.toBitVec_shiftRight]
  show (BitVec.ofNat 32 n).sshiftRight' (BitVec.smod 8#32 32#32) &&& 255#32 = BitVec.ofNat 32 (n / 256 % 256)
  have e : BitVec.smod 8#32 32#32 = 8#32 := by decide
  rw [e, BitVec.sshiftRight_eq']
  have e2 : (BitVec.ofNat 32 n).sshiftRight (8#32).toNat &&& 255#32 = (BitVec.ofNat 32 n) >>> 8 &&& 255#32 := by
    ext i hi
    by_cases c : i < 8
    · simp [BitVec.getElem_sshiftRight, BitVec.getElem_ushiftRight]
      have : 8 + i < 32 := by omega
      simp [this]
    · have z : (255#32)[i] = false := by
        rw [← BitVec.getLsbD_eq_getElem hi]
        exact bit255 ⟨i, hi⟩ c
      simp [z]
  rw [e2]
  apply BitVec.eq_of_toNat_eq
  rw [BitVec.toNat_and]
  simp [BitVec.toNat_ushiftRight, Nat.shiftRight_eq_div_pow]
  rw [Nat.mod_eq_of_lt hn, show (255 : Nat) = 2 ^ 8 - 1 from rfl, Nat.and_two_pow_sub_one_eq_mod]
  omega
set_option maxRecDepth 20000 in
set_option maxHeartbeats 4000000 in
theorem toI_of (n : Nat) (hn : n < 4294967296) : (Int32.ofNat n).toInt = if n < 2147483648 then (n : Int) else (n : Int) - 4294967296 := by
  rw [Int32.toInt_ofNat']
  simp [Int.bmod]
  split <;> split <;> omega
set_option maxRecDepth 20000 in
set_option maxHeartbeats 4000000 in
/-- constants of one and of two bytes -/
theorem const1 {od : Int32} (h1 : -128 ≤ od) (h2 : od ≤ 127) : (od &&& 255).toInt8.toInt32 = od := by
  obtain ⟨n, hn, rfl⟩ := ofN_lt od
  have a1 := Int32.le_iff_toInt_le.mp h1
  have a2 := Int32.le_iff_toInt_le.mp h2
  have c1 : (-128 : Int32).toInt = -128 := by decide
  have c2 : (127 : Int32).toInt = 127 := by decide
  rw [c1] at a1
  rw [c2] at a2
  rw [(andK n).1]
  apply Int32.toInt_inj.mp
  rw [toI_of n hn] at *
  rw [Int8.toInt_toInt32, Int32.toInt_toInt8, oi _ (by omega)]
  simp [Int.bmod]
  split at a1 <;> split <;> split at a2 <;> omega
set_option maxRecDepth 20000 in
set_option maxHeartbeats 4000000 in
theorem const2 {od : Int32} (h1 : -32768 ≤ od) (h2 : od ≤ 32767) : ((((w2 od).getD 0 0 &&& 255) <<< ((8 : Int32) &&& 31)) ||| ((w2 od).getD 1 0 &&& 255)).toInt16.toInt32 = od := by
  obtain ⟨n, hn, rfl⟩ := ofN_lt od
  have a1 := Int32.le_iff_toInt_le.mp h1
  have a2 := Int32.le_iff_toInt_le.mp h2
  have c1 : (-32768 : Int32).toInt = -32768 := by decide
  have c2 : (32767 : Int32).toInt = 32767 := by decide
  rw [c1] at a1
  rw [c2] at a2
  have e1 : (w2 (Int32.ofNat n)).getD 0 0 = Int32.ofNat n >>> ((8 : Int32) &&& 31) := rfl
  have e2 : (w2 (Int32.ofNat n)).getD 1 0 = Int32.ofNat n := rfl
  rw [e1, e2, sh8and n hn, (andK n).1, two_eq (Nat.mod_lt _ (by omega))]
  apply Int32.toInt_inj.mp
  rw [toI_of n hn] at *
  rw [Int16.toInt_toInt32, Int32.toInt_toInt16, oi _ (by omega)]
  simp [Int.bmod]
  split at a1 <;> split <;> split at a2 <;> omega
