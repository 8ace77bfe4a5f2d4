/-! Memory: what it reads -/
def MmAt (h : MjH) (r : Nat) (coll tcn top lim : Int32) (wA tA bA iA rA n nt nb : Nat) (w td bg ints refs : Nat → Int32) : Prop := h[r]? = some (.inr (4, [.int coll, .ref wA, .ref tA, .ref bA, .ref iA, .ref rA, .int tcn, .int top, .int lim])) ∧ h[wA]? = some (.inl (2, n, .inl w)) ∧ h[tA]? = some (.inl (0, nt, .inl td)) ∧ h[bA]? = some (.inl (1, nb, .inl bg)) ∧ h[iA]? = some (.inl (0, 10, .inl ints)) ∧ h[rA]? = some (.inl (0, 10, .inl refs)) ∧ n < 2 ^ 31 ∧ nt < 2 ^ 31 ∧ nb < 2 ^ 31
theorem ge0_of1 {x : Int32} (h : 1 ≤ x) : 0 ≤ x := by
  rw [Int32.le_iff_toInt_le] at h ⊢
  have e0 : (0 : Int32).toInt = 0 := rfl
  have e1 : (1 : Int32).toInt = 1 := rfl
  omega
section
variable {o : MjO} {h : MjH} {r : Nat} {coll tcn top lim : Int32} {wA tA bA iA rA n nt nb : Nat} {w td bg ints refs : Nat → Int32}
def mm_word (n : Nat) (w : Nat → Int32) (x : Int32) : Int32 := (if x < 0 then 0 else (if Int32.ofNat n ≤ x then 0 else w x.toNatClampNeg))
set_option maxRecDepth 100000 in
set_option maxHeartbeats 4000000 in
theorem gm_word (H : MmAt h r coll tcn top lim wA tA bA iA rA n nt nb w td bg ints refs) (x : Int32) : Go o 201 0 [some (.ref r), some (.int x)] [] h (some (.int (mm_word n w x))) h := by
  unfold mm_word
  refine Go.step rfl rfl rfl rfl ?_
  refine Go.if1 rfl rfl rfl (fun e1 => ?_) (fun e1 => ?_)
  · rw [if_pos (show x < 0 from of_decide_eq_true e1)]
    refine Go.step rfl rfl rfl rfl ?_
    exact Go.iret rfl rfl rfl rfl
  · rw [if_neg (show ¬ (x < 0) from of_decide_eq_false e1)]
    refine Go.step rfl rfl rfl rfl ?_
    refine Go.step rfl rfl rfl rfl ?_
    refine Go.step rfl rfl rfl (go_get H.1 rfl rfl) ?_
    refine Go.step rfl rfl rfl (go_len H.2.1 (by decide)) ?_
    refine Go.if2 rfl rfl rfl (fun e2 => ?_) (fun e2 => ?_)
    · rw [if_pos (show Int32.ofNat n ≤ x from of_decide_eq_true e2)]
      refine Go.step rfl rfl rfl rfl ?_
      exact Go.iret rfl rfl rfl rfl
    · rw [if_neg (show ¬ (Int32.ofNat n ≤ x) from of_decide_eq_false e2)]
      refine Go.step rfl rfl rfl rfl ?_
      refine Go.step rfl rfl rfl (go_get H.1 rfl rfl) ?_
      refine Go.step rfl rfl rfl rfl ?_
      refine Go.step rfl rfl rfl (go_ld H.2.1 (ix_okN H.2.2.2.2.2.2.1 (Int32.not_lt.mp (of_decide_eq_false e1)) (Int32.not_le.mp (of_decide_eq_false e2)))) ?_
      refine Go.step rfl rfl rfl rfl ?_
      exact Go.iret rfl rfl rfl rfl
def mm_used (top : Int32)  : Int32 := 2 * (top - 1)
set_option maxRecDepth 100000 in
set_option maxHeartbeats 4000000 in
theorem gm_used (H : MmAt h r coll tcn top lim wA tA bA iA rA n nt nb w td bg ints refs)  : Go o 196 0 [some (.ref r)] [] h (some (.int (mm_used top))) h := by
  unfold mm_used
  refine Go.step rfl rfl rfl rfl ?_
  refine Go.step rfl rfl rfl rfl ?_
  refine Go.step rfl rfl rfl (go_get H.1 rfl rfl) ?_
  refine Go.step rfl rfl rfl rfl ?_
  refine Go.step rfl rfl rfl rfl ?_
  refine Go.step rfl rfl rfl rfl ?_
  exact Go.iret rfl rfl rfl rfl
def mm_wordsFor (ints : Nat → Int32) (refs : Nat → Int32) (x : Int32) (y : Int32) : Int32 := (if x < 0 then (if ¬ x = 254 then 5 + y else 5 + (2 * y)) else (if 10 ≤ x then (if ¬ x = 254 then 5 + y else 5 + (2 * y)) else (4 + (2 * (ints x.toNatClampNeg))) + (refs x.toNatClampNeg)))
set_option maxRecDepth 100000 in
set_option maxHeartbeats 4000000 in
theorem gm_wordsFor (H : MmAt h r coll tcn top lim wA tA bA iA rA n nt nb w td bg ints refs) (x : Int32) (y : Int32) : Go o 198 0 [some (.ref r), some (.int x), some (.int y)] [] h (some (.int (mm_wordsFor ints refs x y))) h := by
  unfold mm_wordsFor
  refine Go.step rfl rfl rfl rfl ?_
  refine Go.if1 rfl rfl rfl (fun e1 => ?_) (fun e1 => ?_)
  · rw [if_pos (show x < 0 from of_decide_eq_true e1)]
    refine Go.step rfl rfl rfl rfl ?_
    refine Go.step rfl rfl rfl rfl ?_
    refine Go.step rfl rfl rfl rfl ?_
    refine Go.if2 rfl rfl rfl (fun e2 => ?_) (fun e2 => ?_)
    · rw [if_pos (show ¬ x = 254 from of_decide_eq_true e2)]
      refine Go.step rfl rfl rfl rfl ?_
      refine Go.step rfl rfl rfl rfl ?_
      exact Go.iret rfl rfl rfl rfl
    · rw [if_neg (show ¬ (¬ x = 254) from of_decide_eq_false e2)]
      refine Go.step rfl rfl rfl rfl ?_
      refine Go.step rfl rfl rfl rfl ?_
      refine Go.step rfl rfl rfl rfl ?_
      refine Go.step rfl rfl rfl rfl ?_
      refine Go.step rfl rfl rfl rfl ?_
      exact Go.iret rfl rfl rfl rfl
  · rw [if_neg (show ¬ (x < 0) from of_decide_eq_false e1)]
    refine Go.step rfl rfl rfl rfl ?_
    refine Go.step rfl rfl rfl rfl ?_
    refine Go.if2 rfl rfl rfl (fun e3 => ?_) (fun e3 => ?_)
    · rw [if_pos (show 10 ≤ x from of_decide_eq_true e3)]
      refine Go.step rfl rfl rfl rfl ?_
      refine Go.step rfl rfl rfl rfl ?_
      refine Go.step rfl rfl rfl rfl ?_
      refine Go.if2 rfl rfl rfl (fun e4 => ?_) (fun e4 => ?_)
      · rw [if_pos (show ¬ x = 254 from of_decide_eq_true e4)]
        refine Go.step rfl rfl rfl rfl ?_
        refine Go.step rfl rfl rfl rfl ?_
        exact Go.iret rfl rfl rfl rfl
      · rw [if_neg (show ¬ (¬ x = 254) from of_decide_eq_false e4)]
        refine Go.step rfl rfl rfl rfl ?_
        refine Go.step rfl rfl rfl rfl ?_
        refine Go.step rfl rfl rfl rfl ?_
        refine Go.step rfl rfl rfl rfl ?_
        refine Go.step rfl rfl rfl rfl ?_
        exact Go.iret rfl rfl rfl rfl
    · rw [if_neg (show ¬ (10 ≤ x) from of_decide_eq_false e3)]
      refine Go.step rfl rfl rfl rfl ?_
      refine Go.step rfl rfl rfl rfl ?_
      refine Go.step rfl rfl rfl rfl ?_
      refine Go.step rfl rfl rfl (go_get H.1 rfl rfl) ?_
      refine Go.step rfl rfl rfl rfl ?_
      refine Go.step rfl rfl rfl (go_ld H.2.2.2.2.1 (ix_ok (N := 10) (n := 10) rfl (Int32.not_lt.mp (of_decide_eq_false e1)) (Int32.not_le.mp (of_decide_eq_false e3)))) ?_
      refine Go.step rfl rfl rfl rfl ?_
      refine Go.step rfl rfl rfl rfl ?_
      refine Go.step rfl rfl rfl rfl ?_
      refine Go.step rfl rfl rfl (go_get H.1 rfl rfl) ?_
      refine Go.step rfl rfl rfl rfl ?_
      refine Go.step rfl rfl rfl (go_ld H.2.2.2.2.2.1 (ix_ok (N := 10) (n := 10) rfl (Int32.not_lt.mp (of_decide_eq_false e1)) (Int32.not_le.mp (of_decide_eq_false e3)))) ?_
      refine Go.step rfl rfl rfl rfl ?_
      exact Go.iret rfl rfl rfl rfl
def mm_bytesFor (ints : Nat → Int32) (refs : Nat → Int32) (x : Int32) (y : Int32) : Int32 := 2 * (mm_wordsFor ints refs x y)
set_option maxRecDepth 100000 in
set_option maxHeartbeats 4000000 in
theorem gm_bytesFor (H : MmAt h r coll tcn top lim wA tA bA iA rA n nt nb w td bg ints refs) (x : Int32) (y : Int32) : Go o 197 0 [some (.ref r), some (.int x), some (.int y)] [] h (some (.int (mm_bytesFor ints refs x y))) h := by
  unfold mm_bytesFor
  refine Go.step rfl rfl rfl rfl ?_
  refine Go.step rfl rfl rfl rfl ?_
  refine Go.step rfl rfl rfl rfl ?_
  refine Go.step rfl rfl rfl rfl ?_
  refine Go.call rfl rfl rfl (go_recv (by decide) H.1 (by decide +kernel)) (gm_wordsFor H x y) ?_
  refine Go.step rfl rfl rfl rfl ?_
  exact Go.iret rfl rfl rfl rfl
def mm_hasRoomFor (top : Int32) (lim : Int32) (x : Int32) : Int32 := (if lim < (mm_used top) + x then 0 else 1)
set_option maxRecDepth 100000 in
set_option maxHeartbeats 4000000 in
theorem gm_hasRoomFor (H : MmAt h r coll tcn top lim wA tA bA iA rA n nt nb w td bg ints refs) (x : Int32) : Go o 199 0 [some (.ref r), some (.int x)] [] h (some (.int (mm_hasRoomFor top lim x))) h := by
  unfold mm_hasRoomFor
  refine Go.step rfl rfl rfl rfl ?_
  refine Go.call rfl rfl rfl (go_recv (by decide) H.1 (by decide +kernel)) (gm_used H) ?_
  refine Go.step rfl rfl rfl rfl ?_
  refine Go.step rfl rfl rfl rfl ?_
  refine Go.step rfl rfl rfl rfl ?_
  refine Go.step rfl rfl rfl (go_get H.1 rfl rfl) ?_
  refine Go.if2 rfl rfl rfl (fun e1 => ?_) (fun e1 => ?_)
  · rw [if_pos (show lim < (mm_used top) + x from of_decide_eq_true e1)]
    refine Go.step rfl rfl rfl rfl ?_
    exact Go.iret rfl rfl rfl rfl
  · rw [if_neg (show ¬ (lim < (mm_used top) + x) from of_decide_eq_false e1)]
    refine Go.step rfl rfl rfl rfl ?_
    refine Go.step rfl rfl rfl rfl ?_
    exact Go.iret rfl rfl rfl rfl
def mm_intAt (n : Nat) (w : Nat → Int32) (x : Int32) : Int32 := ((mm_word n w x) <<< ((16 : Int32) &&& 31)) ||| (mm_word n w (x + 1))
set_option maxRecDepth 100000 in
set_option maxHeartbeats 4000000 in
theorem gm_intAt (H : MmAt h r coll tcn top lim wA tA bA iA rA n nt nb w td bg ints refs) (x : Int32) : Go o 203 0 [some (.ref r), some (.int x)] [] h (some (.int (mm_intAt n w x))) h := by
  unfold mm_intAt
  refine Go.step rfl rfl rfl rfl ?_
  refine Go.step rfl rfl rfl rfl ?_
  refine Go.call rfl rfl rfl (go_recv (by decide) H.1 (by decide +kernel)) (gm_word H x) ?_
  refine Go.step rfl rfl rfl rfl ?_
  refine Go.step rfl rfl rfl rfl ?_
  refine Go.step rfl rfl rfl rfl ?_
  refine Go.step rfl rfl rfl rfl ?_
  refine Go.step rfl rfl rfl rfl ?_
  refine Go.step rfl rfl rfl rfl ?_
  refine Go.call rfl rfl rfl (go_recv (by decide) H.1 (by decide +kernel)) (gm_word H (x + 1)) ?_
  refine Go.step rfl rfl rfl rfl ?_
  exact Go.iret rfl rfl rfl rfl
def mm_kindOf (n : Nat) (w : Nat → Int32) (x : Int32) : Int32 := mm_word n w x
set_option maxRecDepth 100000 in
set_option maxHeartbeats 4000000 in
theorem gm_kindOf (H : MmAt h r coll tcn top lim wA tA bA iA rA n nt nb w td bg ints refs) (x : Int32) : Go o 205 0 [some (.ref r), some (.int x)] [] h (some (.int (mm_kindOf n w x))) h := by
  unfold mm_kindOf
  refine Go.step rfl rfl rfl rfl ?_
  refine Go.step rfl rfl rfl rfl ?_
  refine Go.call rfl rfl rfl (go_recv (by decide) H.1 (by decide +kernel)) (gm_word H x) ?_
  exact Go.iret rfl rfl rfl rfl
def mm_isArray (n : Nat) (w : Nat → Int32) (x : Int32) : Int32 := (if mm_word n w x = 254 then 1 else (if ¬ mm_word n w x = 255 then 0 else 1))
set_option maxRecDepth 100000 in
set_option maxHeartbeats 4000000 in
theorem gm_isArray (H : MmAt h r coll tcn top lim wA tA bA iA rA n nt nb w td bg ints refs) (x : Int32) : Go o 206 0 [some (.ref r), some (.int x), none] [] h (some (.int (mm_isArray n w x))) h := by
  unfold mm_isArray
  refine Go.step rfl rfl rfl rfl ?_
  refine Go.step rfl rfl rfl rfl ?_
  refine Go.call rfl rfl rfl (go_recv (by decide) H.1 (by decide +kernel)) (gm_word H x) ?_
  refine Go.step rfl rfl rfl rfl ?_
  refine Go.step rfl rfl rfl rfl ?_
  refine Go.step rfl rfl rfl rfl ?_
  refine Go.if2 rfl rfl rfl (fun e1 => ?_) (fun e1 => ?_)
  · rw [if_pos (show mm_word n w x = 254 from of_decide_eq_true e1)]
    refine Go.step rfl rfl rfl rfl ?_
    refine Go.step rfl rfl rfl rfl ?_
    exact Go.iret rfl rfl rfl rfl
  · rw [if_neg (show ¬ (mm_word n w x = 254) from of_decide_eq_false e1)]
    refine Go.step rfl rfl rfl rfl ?_
    refine Go.step rfl rfl rfl rfl ?_
    refine Go.if2 rfl rfl rfl (fun e2 => ?_) (fun e2 => ?_)
    · rw [if_pos (show ¬ mm_word n w x = 255 from of_decide_eq_true e2)]
      refine Go.step rfl rfl rfl rfl ?_
      exact Go.iret rfl rfl rfl rfl
    · rw [if_neg (show ¬ (¬ mm_word n w x = 255) from of_decide_eq_false e2)]
      refine Go.step rfl rfl rfl rfl ?_
      refine Go.step rfl rfl rfl rfl ?_
      exact Go.iret rfl rfl rfl rfl
def mm_lengthOf (n : Nat) (w : Nat → Int32) (x : Int32) : Int32 := (if mm_isArray n w x = 0 then 0 else mm_word n w (x + 4))
set_option maxRecDepth 100000 in
set_option maxHeartbeats 4000000 in
theorem gm_lengthOf (H : MmAt h r coll tcn top lim wA tA bA iA rA n nt nb w td bg ints refs) (x : Int32) : Go o 207 0 [some (.ref r), some (.int x)] [] h (some (.int (mm_lengthOf n w x))) h := by
  unfold mm_lengthOf
  refine Go.step rfl rfl rfl rfl ?_
  refine Go.step rfl rfl rfl rfl ?_
  refine Go.call rfl rfl rfl (go_recv (by decide) H.1 (by decide +kernel)) (gm_isArray H x) ?_
  refine Go.if1 rfl rfl rfl (fun e1 => ?_) (fun e1 => ?_)
  · rw [if_pos (show mm_isArray n w x = 0 from of_decide_eq_true e1)]
    refine Go.step rfl rfl rfl rfl ?_
    exact Go.iret rfl rfl rfl rfl
  · rw [if_neg (show ¬ (mm_isArray n w x = 0) from of_decide_eq_false e1)]
    refine Go.step rfl rfl rfl rfl ?_
    refine Go.step rfl rfl rfl rfl ?_
    refine Go.step rfl rfl rfl rfl ?_
    refine Go.step rfl rfl rfl rfl ?_
    refine Go.call rfl rfl rfl (go_recv (by decide) H.1 (by decide +kernel)) (gm_word H (x + 4)) ?_
    refine Go.step rfl rfl rfl rfl ?_
    exact Go.iret rfl rfl rfl rfl
def mm_intField (n : Nat) (w : Nat → Int32) (x : Int32) (y : Int32) : Int32 := mm_intAt n w ((x + 4) + (2 * y))
set_option maxRecDepth 100000 in
set_option maxHeartbeats 4000000 in
theorem gm_intField (H : MmAt h r coll tcn top lim wA tA bA iA rA n nt nb w td bg ints refs) (x : Int32) (y : Int32) : Go o 208 0 [some (.ref r), some (.int x), some (.int y)] [] h (some (.int (mm_intField n w x y))) h := by
  unfold mm_intField
  refine Go.step rfl rfl rfl rfl ?_
  refine Go.step rfl rfl rfl rfl ?_
  refine Go.step rfl rfl rfl rfl ?_
  refine Go.step rfl rfl rfl rfl ?_
  refine Go.step rfl rfl rfl rfl ?_
  refine Go.step rfl rfl rfl rfl ?_
  refine Go.step rfl rfl rfl rfl ?_
  refine Go.step rfl rfl rfl rfl ?_
  refine Go.call rfl rfl rfl (go_recv (by decide) H.1 (by decide +kernel)) (gm_intAt H ((x + 4) + (2 * y))) ?_
  exact Go.iret rfl rfl rfl rfl
def mm_firstRef (n : Nat) (w : Nat → Int32) (ints : Nat → Int32) (x : Int32) : Int32 := (if 0 ≤ mm_word n w x ∧ mm_word n w x ≤ 9 then (x + 4) + (2 * (ints (mm_word n w x).toNatClampNeg)) else x + 5)
set_option maxRecDepth 100000 in
set_option maxHeartbeats 4000000 in
theorem gm_firstRef (H : MmAt h r coll tcn top lim wA tA bA iA rA n nt nb w td bg ints refs) (x : Int32) : Go o 219 0 [some (.ref r), some (.int x), none] [] h (some (.int (mm_firstRef n w ints x))) h := by
  unfold mm_firstRef
  refine Go.step rfl rfl rfl rfl ?_
  refine Go.step rfl rfl rfl rfl ?_
  refine Go.call rfl rfl rfl (go_recv (by decide) H.1 (by decide +kernel)) (gm_word H x) ?_
  refine Go.step rfl rfl rfl rfl ?_
  refine Go.step rfl rfl rfl rfl ?_
  refine Go.step rfl rfl rfl rfl ?_
  refine Go.step rfl rfl rfl rfl ?_
  refine Go.callB rfl rfl rfl rfl (g_within (mm_word n w x) 0 9) (fun e1 => ?_) (fun e1 => ?_)
  · rw [if_pos (show 0 ≤ mm_word n w x ∧ mm_word n w x ≤ 9 from e1)]
    refine Go.step rfl rfl rfl rfl ?_
    refine Go.step rfl rfl rfl rfl ?_
    refine Go.step rfl rfl rfl rfl ?_
    refine Go.step rfl rfl rfl rfl ?_
    refine Go.step rfl rfl rfl rfl ?_
    refine Go.step rfl rfl rfl rfl ?_
    refine Go.step rfl rfl rfl (go_get H.1 rfl rfl) ?_
    refine Go.step rfl rfl rfl rfl ?_
    refine Go.step rfl rfl rfl (go_ld H.2.2.2.2.1 (ix_le (N := 9) rfl e1.1 e1.2)) ?_
    refine Go.step rfl rfl rfl rfl ?_
    refine Go.step rfl rfl rfl rfl ?_
    refine Go.step rfl rfl rfl rfl ?_
    exact Go.iret rfl rfl rfl rfl
  · rw [if_neg (show ¬ (0 ≤ mm_word n w x ∧ mm_word n w x ≤ 9) from e1)]
    refine Go.step rfl rfl rfl rfl ?_
    refine Go.step rfl rfl rfl rfl ?_
    refine Go.step rfl rfl rfl rfl ?_
    refine Go.step rfl rfl rfl rfl ?_
    exact Go.iret rfl rfl rfl rfl
def mm_refField (n : Nat) (w : Nat → Int32) (ints : Nat → Int32) (x : Int32) (y : Int32) : Int32 := mm_word n w ((mm_firstRef n w ints x) + y)
set_option maxRecDepth 100000 in
set_option maxHeartbeats 4000000 in
theorem gm_refField (H : MmAt h r coll tcn top lim wA tA bA iA rA n nt nb w td bg ints refs) (x : Int32) (y : Int32) : Go o 210 0 [some (.ref r), some (.int x), some (.int y)] [] h (some (.int (mm_refField n w ints x y))) h := by
  unfold mm_refField
  refine Go.step rfl rfl rfl rfl ?_
  refine Go.step rfl rfl rfl rfl ?_
  refine Go.step rfl rfl rfl rfl ?_
  refine Go.call rfl rfl rfl (go_recv (by decide) H.1 (by decide +kernel)) (gm_firstRef H x) ?_
  refine Go.step rfl rfl rfl rfl ?_
  refine Go.step rfl rfl rfl rfl ?_
  refine Go.call rfl rfl rfl (go_recv (by decide) H.1 (by decide +kernel)) (gm_word H ((mm_firstRef n w ints x) + y)) ?_
  exact Go.iret rfl rfl rfl rfl
def mm_intPlace (n : Nat) (w : Nat → Int32) (x : Int32) (y : Int32) : Int32 := mm_intAt n w ((x + 5) + (2 * y))
set_option maxRecDepth 100000 in
set_option maxHeartbeats 4000000 in
theorem gm_intPlace (H : MmAt h r coll tcn top lim wA tA bA iA rA n nt nb w td bg ints refs) (x : Int32) (y : Int32) : Go o 212 0 [some (.ref r), some (.int x), some (.int y)] [] h (some (.int (mm_intPlace n w x y))) h := by
  unfold mm_intPlace
  refine Go.step rfl rfl rfl rfl ?_
  refine Go.step rfl rfl rfl rfl ?_
  refine Go.step rfl rfl rfl rfl ?_
  refine Go.step rfl rfl rfl rfl ?_
  refine Go.step rfl rfl rfl rfl ?_
  refine Go.step rfl rfl rfl rfl ?_
  refine Go.step rfl rfl rfl rfl ?_
  refine Go.step rfl rfl rfl rfl ?_
  refine Go.call rfl rfl rfl (go_recv (by decide) H.1 (by decide +kernel)) (gm_intAt H ((x + 5) + (2 * y))) ?_
  exact Go.iret rfl rfl rfl rfl
def mm_refPlace (n : Nat) (w : Nat → Int32) (x : Int32) (y : Int32) : Int32 := mm_word n w ((x + 5) + y)
set_option maxRecDepth 100000 in
set_option maxHeartbeats 4000000 in
theorem gm_refPlace (H : MmAt h r coll tcn top lim wA tA bA iA rA n nt nb w td bg ints refs) (x : Int32) (y : Int32) : Go o 214 0 [some (.ref r), some (.int x), some (.int y)] [] h (some (.int (mm_refPlace n w x y))) h := by
  unfold mm_refPlace
  refine Go.step rfl rfl rfl rfl ?_
  refine Go.step rfl rfl rfl rfl ?_
  refine Go.step rfl rfl rfl rfl ?_
  refine Go.step rfl rfl rfl rfl ?_
  refine Go.step rfl rfl rfl rfl ?_
  refine Go.step rfl rfl rfl rfl ?_
  refine Go.call rfl rfl rfl (go_recv (by decide) H.1 (by decide +kernel)) (gm_word H ((x + 5) + y)) ?_
  exact Go.iret rfl rfl rfl rfl
def mm_ownerOf (n : Nat) (w : Nat → Int32) (x : Int32) : Int32 := mm_word n w (x + 1)
set_option maxRecDepth 100000 in
set_option maxHeartbeats 4000000 in
theorem gm_ownerOf (H : MmAt h r coll tcn top lim wA tA bA iA rA n nt nb w td bg ints refs) (x : Int32) : Go o 216 0 [some (.ref r), some (.int x)] [] h (some (.int (mm_ownerOf n w x))) h := by
  unfold mm_ownerOf
  refine Go.step rfl rfl rfl rfl ?_
  refine Go.step rfl rfl rfl rfl ?_
  refine Go.step rfl rfl rfl rfl ?_
  refine Go.step rfl rfl rfl rfl ?_
  refine Go.call rfl rfl rfl (go_recv (by decide) H.1 (by decide +kernel)) (gm_word H (x + 1)) ?_
  exact Go.iret rfl rfl rfl rfl
def mm_entriesOf (n : Nat) (w : Nat → Int32) (x : Int32) : Int32 := mm_word n w (x + 2)
set_option maxRecDepth 100000 in
set_option maxHeartbeats 4000000 in
theorem gm_entriesOf (H : MmAt h r coll tcn top lim wA tA bA iA rA n nt nb w td bg ints refs) (x : Int32) : Go o 217 0 [some (.ref r), some (.int x)] [] h (some (.int (mm_entriesOf n w x))) h := by
  unfold mm_entriesOf
  refine Go.step rfl rfl rfl rfl ?_
  refine Go.step rfl rfl rfl rfl ?_
  refine Go.step rfl rfl rfl rfl ?_
  refine Go.step rfl rfl rfl rfl ?_
  refine Go.call rfl rfl rfl (go_recv (by decide) H.1 (by decide +kernel)) (gm_word H (x + 2)) ?_
  exact Go.iret rfl rfl rfl rfl
def mm_refsIn (n : Nat) (w : Nat → Int32) (refs : Nat → Int32) (x : Int32) : Int32 := (if 0 ≤ mm_word n w x ∧ mm_word n w x ≤ 9 then refs (mm_word n w x).toNatClampNeg else (if ¬ mm_word n w x = 255 then 0 else mm_word n w (x + 4)))
set_option maxRecDepth 100000 in
set_option maxHeartbeats 4000000 in
theorem gm_refsIn (H : MmAt h r coll tcn top lim wA tA bA iA rA n nt nb w td bg ints refs) (x : Int32) : Go o 220 0 [some (.ref r), some (.int x), none] [] h (some (.int (mm_refsIn n w refs x))) h := by
  unfold mm_refsIn
  refine Go.step rfl rfl rfl rfl ?_
  refine Go.step rfl rfl rfl rfl ?_
  refine Go.call rfl rfl rfl (go_recv (by decide) H.1 (by decide +kernel)) (gm_word H x) ?_
  refine Go.step rfl rfl rfl rfl ?_
  refine Go.step rfl rfl rfl rfl ?_
  refine Go.step rfl rfl rfl rfl ?_
  refine Go.step rfl rfl rfl rfl ?_
  refine Go.callB rfl rfl rfl rfl (g_within (mm_word n w x) 0 9) (fun e1 => ?_) (fun e1 => ?_)
  · rw [if_pos (show 0 ≤ mm_word n w x ∧ mm_word n w x ≤ 9 from e1)]
    refine Go.step rfl rfl rfl rfl ?_
    refine Go.step rfl rfl rfl rfl ?_
    refine Go.step rfl rfl rfl (go_get H.1 rfl rfl) ?_
    refine Go.step rfl rfl rfl rfl ?_
    refine Go.step rfl rfl rfl (go_ld H.2.2.2.2.2.1 (ix_le (N := 9) rfl e1.1 e1.2)) ?_
    exact Go.iret rfl rfl rfl rfl
  · rw [if_neg (show ¬ (0 ≤ mm_word n w x ∧ mm_word n w x ≤ 9) from e1)]
    refine Go.step rfl rfl rfl rfl ?_
    refine Go.step rfl rfl rfl rfl ?_
    refine Go.step rfl rfl rfl rfl ?_
    refine Go.if2 rfl rfl rfl (fun e4 => ?_) (fun e4 => ?_)
    · rw [if_pos (show ¬ mm_word n w x = 255 from of_decide_eq_true e4)]
      refine Go.step rfl rfl rfl rfl ?_
      exact Go.iret rfl rfl rfl rfl
    · rw [if_neg (show ¬ (¬ mm_word n w x = 255) from of_decide_eq_false e4)]
      refine Go.step rfl rfl rfl rfl ?_
      refine Go.step rfl rfl rfl rfl ?_
      refine Go.step rfl rfl rfl rfl ?_
      refine Go.step rfl rfl rfl rfl ?_
      refine Go.call rfl rfl rfl (go_recv (by decide) H.1 (by decide +kernel)) (gm_word H (x + 4)) ?_
      refine Go.step rfl rfl rfl rfl ?_
      exact Go.iret rfl rfl rfl rfl
def mm_sizeAt (n : Nat) (w : Nat → Int32) (ints : Nat → Int32) (refs : Nat → Int32) (x : Int32) : Int32 := mm_wordsFor ints refs (mm_word n w x) (mm_word n w (x + 4))
set_option maxRecDepth 100000 in
set_option maxHeartbeats 4000000 in
theorem gm_sizeAt (H : MmAt h r coll tcn top lim wA tA bA iA rA n nt nb w td bg ints refs) (x : Int32) : Go o 221 0 [some (.ref r), some (.int x)] [] h (some (.int (mm_sizeAt n w ints refs x))) h := by
  unfold mm_sizeAt
  refine Go.step rfl rfl rfl rfl ?_
  refine Go.step rfl rfl rfl rfl ?_
  refine Go.step rfl rfl rfl rfl ?_
  refine Go.call rfl rfl rfl (go_recv (by decide) H.1 (by decide +kernel)) (gm_word H x) ?_
  refine Go.step rfl rfl rfl rfl ?_
  refine Go.step rfl rfl rfl rfl ?_
  refine Go.step rfl rfl rfl rfl ?_
  refine Go.step rfl rfl rfl rfl ?_
  refine Go.call rfl rfl rfl (go_recv (by decide) H.1 (by decide +kernel)) (gm_word H (x + 4)) ?_
  refine Go.call rfl rfl rfl (go_recv (by decide) H.1 (by decide +kernel)) (gm_wordsFor H (mm_word n w x) (mm_word n w (x + 4))) ?_
  exact Go.iret rfl rfl rfl rfl
def mm_forwarded (n : Nat) (w : Nat → Int32) (x : Int32) : Int32 := (if ¬ x = 0 then mm_word n w (x + 3) else 0)
set_option maxRecDepth 100000 in
set_option maxHeartbeats 4000000 in
theorem gm_forwarded (H : MmAt h r coll tcn top lim wA tA bA iA rA n nt nb w td bg ints refs) (x : Int32) : Go o 227 0 [some (.ref r), some (.int x)] [] h (some (.int (mm_forwarded n w x))) h := by
  unfold mm_forwarded
  refine Go.step rfl rfl rfl rfl ?_
  refine Go.if1 rfl rfl rfl (fun e1 => ?_) (fun e1 => ?_)
  · rw [if_pos (show ¬ x = 0 from of_decide_eq_true e1)]
    refine Go.step rfl rfl rfl rfl ?_
    refine Go.step rfl rfl rfl rfl ?_
    refine Go.step rfl rfl rfl rfl ?_
    refine Go.step rfl rfl rfl rfl ?_
    refine Go.call rfl rfl rfl (go_recv (by decide) H.1 (by decide +kernel)) (gm_word H (x + 3)) ?_
    exact Go.iret rfl rfl rfl rfl
  · rw [if_neg (show ¬ (¬ x = 0) from of_decide_eq_false e1)]
    refine Go.step rfl rfl rfl rfl ?_
    refine Go.step rfl rfl rfl rfl ?_
    exact Go.iret rfl rfl rfl rfl
def mm_leadsWell (nb : Nat) (bg : Nat → Int32) (x : Int32) : Int32 := (if x = 0 then 1 else (if x < 1 then 0 else (if Int32.ofNat nb ≤ x then 0 else (if bg x.toNatClampNeg = 0 then 0 else 1))))
set_option maxRecDepth 100000 in
set_option maxHeartbeats 4000000 in
theorem gm_leadsWell (H : MmAt h r coll tcn top lim wA tA bA iA rA n nt nb w td bg ints refs) (x : Int32) : Go o 232 0 [some (.ref r), some (.int x)] [] h (some (.int (mm_leadsWell nb bg x))) h := by
  unfold mm_leadsWell
  refine Go.step rfl rfl rfl rfl ?_
  refine Go.if1 rfl rfl rfl (fun e1 => ?_) (fun e1 => ?_)
  · rw [if_pos (show x = 0 from of_decide_eq_true e1)]
    refine Go.step rfl rfl rfl rfl ?_
    refine Go.step rfl rfl rfl rfl ?_
    exact Go.iret rfl rfl rfl rfl
  · rw [if_neg (show ¬ (x = 0) from of_decide_eq_false e1)]
    refine Go.step rfl rfl rfl rfl ?_
    refine Go.step rfl rfl rfl rfl ?_
    refine Go.if2 rfl rfl rfl (fun e2 => ?_) (fun e2 => ?_)
    · rw [if_pos (show x < 1 from of_decide_eq_true e2)]
      refine Go.step rfl rfl rfl rfl ?_
      exact Go.iret rfl rfl rfl rfl
    · rw [if_neg (show ¬ (x < 1) from of_decide_eq_false e2)]
      refine Go.step rfl rfl rfl rfl ?_
      refine Go.step rfl rfl rfl rfl ?_
      refine Go.step rfl rfl rfl (go_get H.1 rfl rfl) ?_
      refine Go.step rfl rfl rfl (go_len H.2.2.2.1 (by decide)) ?_
      refine Go.if2 rfl rfl rfl (fun e3 => ?_) (fun e3 => ?_)
      · rw [if_pos (show Int32.ofNat nb ≤ x from of_decide_eq_true e3)]
        refine Go.step rfl rfl rfl rfl ?_
        exact Go.iret rfl rfl rfl rfl
      · rw [if_neg (show ¬ (Int32.ofNat nb ≤ x) from of_decide_eq_false e3)]
        refine Go.step rfl rfl rfl rfl ?_
        refine Go.step rfl rfl rfl (go_get H.1 rfl rfl) ?_
        refine Go.step rfl rfl rfl rfl ?_
        refine Go.step rfl rfl rfl (go_ld H.2.2.2.1 (ix_okN H.2.2.2.2.2.2.2.2 (ge0_of1 (Int32.not_lt.mp (of_decide_eq_false e2))) (Int32.not_le.mp (of_decide_eq_false e3)))) ?_
        refine Go.if1 rfl rfl rfl (fun e4 => ?_) (fun e4 => ?_)
        · rw [if_pos (show bg x.toNatClampNeg = 0 from of_decide_eq_true e4)]
          refine Go.step rfl rfl rfl rfl ?_
          exact Go.iret rfl rfl rfl rfl
        · rw [if_neg (show ¬ (bg x.toNatClampNeg = 0) from of_decide_eq_false e4)]
          refine Go.step rfl rfl rfl rfl ?_
          refine Go.step rfl rfl rfl rfl ?_
          exact Go.iret rfl rfl rfl rfl
end
