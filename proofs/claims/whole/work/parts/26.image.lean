/-! Image: what it reads, wherever it lies -/
def ImAt (h : MjH) (r : Nat) (len room : Int32) (b n : Nat) (f hd tk sk : Nat → Int32) (a1 a2 a3 : Nat) : Prop := h[r]? = some (.inr (2, [.int len, .int room, .ref b, .ref a1, .ref a2, .ref a3])) ∧ h[b]? = some (.inl (0, n, .inl f)) ∧ h[a1]? = some (.inl (0, 24, .inl hd)) ∧ h[a2]? = some (.inl (0, 8, .inl tk)) ∧ h[a3]? = some (.inl (0, 10, .inl sk)) ∧ n < 2 ^ 31
theorem go_len {o : MjO} {q : MjIns} {pc : Nat} {ml : MjL} {st : List Value} {h : MjH} {r n t : Nat} {a : (Nat → Int32) ⊕ (Nat → Int64) ⊕ (Nat → UInt32) ⊕ (Nat → UInt64) ⊕ (Nat → Option Nat)} (hh : h[r]? = some (.inl (t, n, a))) (ht : t < 5) : mjLen o q pc ml (.ref r :: st) h = some (pc + 1, ml, .int (Int32.ofNat n) :: st, h) := by
  unfold mjLen
  dsimp only
  rw [hh]
  dsimp only
  rw [if_pos ht]
theorem ix_okN {i : Int32} {n : Nat} (hn : n < 2 ^ 31) (h0 : 0 ≤ i) (h1 : i < Int32.ofNat n) : ¬ (i < 0 ∨ n ≤ i.toNatClampNeg) := ix_ok (N := Int32.ofNat n) (nI_toInt hn) h0 h1
theorem ix_le {i N : Int32} {n : Nat} (hN : N.toInt + 1 = n) (h0 : 0 ≤ i) (h1 : i ≤ N) : ¬ (i < 0 ∨ n ≤ i.toNatClampNeg) := by
  rw [Int32.le_iff_toInt_le] at h0 h1
  have e0 : (0 : Int32).toInt = 0 := rfl
  rw [e0] at h0
  intro e
  rcases e with e | e
  · rw [Int32.lt_iff_toInt_lt, e0] at e
    omega
  · have e : n ≤ i.toInt.toNat := e
    omega
/-- a byte, or 0 -/
def iAt (len : Int32) (n : Nat) (f : Nat → Int32) (i : Int32) : Int32 := if 0 ≤ i ∧ i < len ∧ i < Int32.ofNat n then f i.toNatClampNeg else 0
def iTwo (len : Int32) (n : Nat) (f : Nat → Int32) (i : Int32) : Int32 := (iAt len n f i <<< ((8 : Int32) &&& 31)) ||| iAt len n f (i + 1)
def iHead (hd : Nat → Int32) (m : Int32) : Int32 := if 0 ≤ m ∧ m ≤ 23 then hd m.toNatClampNeg else 0
def iTk (tk : Nat → Int32) (m : Int32) : Int32 := if 0 ≤ m ∧ m ≤ 7 then tk m.toNatClampNeg else 1
def iSk (sk : Nat → Int32) (m : Int32) : Int32 := if 0 ≤ m ∧ m ≤ 9 then sk m.toNatClampNeg else 0
section
variable {o : MjO} {h : MjH} {r : Nat} {len room : Int32} {b n : Nat} {f hd tk sk : Nat → Int32} {a1 a2 a3 : Nat}
set_option maxRecDepth 100000 in
set_option maxHeartbeats 4000000 in
theorem gi_at (H : ImAt h r len room b n f hd tk sk a1 a2 a3) (i : Int32) : Go o 166 0 [some (.ref r), some (.int i)] [] h (some (.int (iAt len n f i))) h := by
  obtain ⟨H1, H2, -, -, -, hn⟩ := H
  unfold iAt
  by_cases hP : 0 ≤ i ∧ i < len ∧ i < Int32.ofNat n
  · rw [if_pos hP]
    refine Go.step rfl rfl rfl rfl ?_
    refine Go.step rfl rfl rfl (go_iff (decide_eq_false (Int32.not_lt.mpr hP.1))) ?_
    iterate 2 refine Go.step rfl rfl rfl rfl ?_
    refine Go.step rfl rfl rfl (go_get H1 rfl rfl) ?_
    refine Go.step rfl rfl rfl (go_if2f (decide_eq_false (Int32.not_le.mpr hP.2.1))) ?_
    iterate 2 refine Go.step rfl rfl rfl rfl ?_
    refine Go.step rfl rfl rfl (go_get H1 rfl rfl) ?_
    refine Go.step rfl rfl rfl (go_len H2 (by decide)) ?_
    refine Go.step rfl rfl rfl (go_if2f (decide_eq_false (Int32.not_le.mpr hP.2.2))) ?_
    refine Go.step rfl rfl rfl rfl ?_
    refine Go.step rfl rfl rfl (go_get H1 rfl rfl) ?_
    refine Go.step rfl rfl rfl rfl ?_
    refine Go.step rfl rfl rfl (go_ld H2 (ix_okN hn hP.1 hP.2.2)) ?_
    refine Go.step rfl rfl rfl rfl ?_
    exact Go.iret rfl rfl rfl rfl
  · rw [if_neg hP]
    refine Go.step rfl rfl rfl rfl ?_
    refine Go.if1 rfl rfl rfl (fun hc => ?_) (fun h1 => ?_)
    · refine Go.step rfl rfl rfl rfl ?_
      exact Go.iret rfl rfl rfl rfl
    iterate 2 refine Go.step rfl rfl rfl rfl ?_
    refine Go.step rfl rfl rfl (go_get H1 rfl rfl) ?_
    refine Go.if2 rfl rfl rfl (fun hc => ?_) (fun h2 => ?_)
    · refine Go.step rfl rfl rfl rfl ?_
      exact Go.iret rfl rfl rfl rfl
    iterate 2 refine Go.step rfl rfl rfl rfl ?_
    refine Go.step rfl rfl rfl (go_get H1 rfl rfl) ?_
    refine Go.step rfl rfl rfl (go_len H2 (by decide)) ?_
    refine Go.if2 rfl rfl rfl (fun hc => ?_) (fun h3 => ?_)
    · refine Go.step rfl rfl rfl rfl ?_
      exact Go.iret rfl rfl rfl rfl
    exact absurd ⟨Int32.not_lt.mp (of_decide_eq_false h1), Int32.not_le.mp (of_decide_eq_false h2), Int32.not_le.mp (of_decide_eq_false h3)⟩ hP
set_option maxRecDepth 100000 in
set_option maxHeartbeats 4000000 in
theorem gi_two (H : ImAt h r len room b n f hd tk sk a1 a2 a3) (i : Int32) : Go o 167 0 [some (.ref r), some (.int i)] [] h (some (.int (iTwo len n f i))) h := by
  iterate 2 refine Go.step rfl rfl rfl rfl ?_
  refine Go.call rfl rfl rfl (go_recv (by decide) H.1 (by decide +kernel)) (gi_at H i) ?_
  iterate 6 refine Go.step rfl rfl rfl rfl ?_
  refine Go.call rfl rfl rfl (go_recv (by decide) H.1 (by decide +kernel)) (gi_at H (i + 1)) ?_
  refine Go.step rfl rfl rfl rfl ?_
  exact Go.iret rfl rfl rfl rfl
set_option maxRecDepth 100000 in
set_option maxHeartbeats 4000000 in
theorem gi_kinds (H : ImAt h r len room b n f hd tk sk a1 a2 a3) : Go o 168 0 [some (.ref r)] [] h (some (.int (iAt len n f 2))) h := by
  iterate 2 refine Go.step rfl rfl rfl rfl ?_
  refine Go.call rfl rfl rfl (go_recv (by decide) H.1 (by decide +kernel)) (gi_at H 2) ?_
  exact Go.iret rfl rfl rfl rfl
set_option maxRecDepth 100000 in
set_option maxHeartbeats 4000000 in
theorem gi_main (H : ImAt h r len room b n f hd tk sk a1 a2 a3) : Go o 169 0 [some (.ref r)] [] h (some (.int (iAt len n f 4))) h := by
  iterate 2 refine Go.step rfl rfl rfl rfl ?_
  refine Go.call rfl rfl rfl (go_recv (by decide) H.1 (by decide +kernel)) (gi_at H 4) ?_
  exact Go.iret rfl rfl rfl rfl
set_option maxRecDepth 100000 in
set_option maxHeartbeats 4000000 in
theorem gi_headAt (H : ImAt h r len room b n f hd tk sk a1 a2 a3) (m : Int32) : Go o 170 0 [some (.ref r), some (.int m)] [] h (some (.int (iHead hd m))) h := by
  unfold iHead
  iterate 3 refine Go.step rfl rfl rfl rfl ?_
  refine Go.callB rfl rfl rfl rfl (g_within m 0 23) (fun hP => ?_) (fun hP => ?_)
  · rw [if_pos hP]
    iterate 2 refine Go.step rfl rfl rfl rfl ?_
    refine Go.step rfl rfl rfl (go_get H.1 rfl rfl) ?_
    refine Go.step rfl rfl rfl rfl ?_
    refine Go.step rfl rfl rfl (go_ld H.2.2.1 (ix_le (N := 23) rfl hP.1 hP.2)) ?_
    refine Go.step rfl rfl rfl rfl ?_
    exact Go.iret rfl rfl rfl rfl
  · rw [if_neg hP]
    iterate 2 refine Go.step rfl rfl rfl rfl ?_
    exact Go.iret rfl rfl rfl rfl
set_option maxRecDepth 100000 in
set_option maxHeartbeats 4000000 in
theorem gi_takenByName (H : ImAt h r len room b n f hd tk sk a1 a2 a3) (m : Int32) : Go o 173 0 [some (.ref r), some (.int m)] [] h (some (.int (iTk tk m))) h := by
  unfold iTk
  iterate 3 refine Go.step rfl rfl rfl rfl ?_
  refine Go.callB rfl rfl rfl rfl (g_within m 0 7) (fun hP => ?_) (fun hP => ?_)
  · rw [if_pos hP]
    iterate 2 refine Go.step rfl rfl rfl rfl ?_
    refine Go.step rfl rfl rfl (go_get H.1 rfl rfl) ?_
    refine Go.step rfl rfl rfl rfl ?_
    refine Go.step rfl rfl rfl (go_ld H.2.2.2.1 (ix_le (N := 7) rfl hP.1 hP.2)) ?_
    refine Go.step rfl rfl rfl rfl ?_
    exact Go.iret rfl rfl rfl rfl
  · rw [if_neg hP]
    iterate 2 refine Go.step rfl rfl rfl rfl ?_
    exact Go.iret rfl rfl rfl rfl
set_option maxRecDepth 100000 in
set_option maxHeartbeats 4000000 in
theorem gi_sourceKind (H : ImAt h r len room b n f hd tk sk a1 a2 a3) (m : Int32) : Go o 174 0 [some (.ref r), some (.int m)] [] h (some (.int (iSk sk m))) h := by
  unfold iSk
  iterate 3 refine Go.step rfl rfl rfl rfl ?_
  refine Go.callB rfl rfl rfl rfl (g_within m 0 9) (fun hP => ?_) (fun hP => ?_)
  · rw [if_pos hP]
    iterate 2 refine Go.step rfl rfl rfl rfl ?_
    refine Go.step rfl rfl rfl (go_get H.1 rfl rfl) ?_
    refine Go.step rfl rfl rfl rfl ?_
    refine Go.step rfl rfl rfl (go_ld H.2.2.2.2.1 (ix_le (N := 9) rfl hP.1 hP.2)) ?_
    refine Go.step rfl rfl rfl rfl ?_
    exact Go.iret rfl rfl rfl rfl
  · rw [if_neg hP]
    iterate 2 refine Go.step rfl rfl rfl rfl ?_
    exact Go.iret rfl rfl rfl rfl
set_option maxRecDepth 100000 in
set_option maxHeartbeats 4000000 in
theorem gi_codeAt (H : ImAt h r len room b n f hd tk sk a1 a2 a3) (m : Int32) : Go o 171 0 [some (.ref r), some (.int m)] [] h (some (.int (iTwo len n f (iHead hd m)))) h := by
  iterate 3 refine Go.step rfl rfl rfl rfl ?_
  refine Go.call rfl rfl rfl (go_recv (by decide) H.1 (by decide +kernel)) (gi_headAt H m) ?_
  refine Go.call rfl rfl rfl (go_recv (by decide) H.1 (by decide +kernel)) (gi_two H (iHead hd m)) ?_
  exact Go.iret rfl rfl rfl rfl
set_option maxRecDepth 100000 in
set_option maxHeartbeats 4000000 in
theorem gi_takenBy (H : ImAt h r len room b n f hd tk sk a1 a2 a3) (m : Int32) : Go o 172 0 [some (.ref r), some (.int m)] [] h (some (.int (iAt len n f (iHead hd m + 4)))) h := by
  iterate 3 refine Go.step rfl rfl rfl rfl ?_
  refine Go.call rfl rfl rfl (go_recv (by decide) H.1 (by decide +kernel)) (gi_headAt H m) ?_
  iterate 2 refine Go.step rfl rfl rfl rfl ?_
  refine Go.call rfl rfl rfl (go_recv (by decide) H.1 (by decide +kernel)) (gi_at H (iHead hd m + 4)) ?_
  exact Go.iret rfl rfl rfl rfl
set_option maxRecDepth 100000 in
set_option maxHeartbeats 4000000 in
theorem gi_kindAt (c : Int32) : Go o 175 0 [some (.ref r), some (.int c)] [] h (some (.int (9 + c * 11))) h := by
  iterate 5 refine Go.step rfl rfl rfl rfl ?_
  exact Go.iret rfl rfl rfl rfl
set_option maxRecDepth 100000 in
set_option maxHeartbeats 4000000 in
theorem gi_allInts (H : ImAt h r len room b n f hd tk sk a1 a2 a3) (c : Int32) : Go o 176 0 [some (.ref r), some (.int c)] [] h (some (.int (iAt len n f (9 + c * 11 + 1)))) h := by
  iterate 3 refine Go.step rfl rfl rfl rfl ?_
  refine Go.call rfl rfl rfl (go_recv (by decide) H.1 (by decide +kernel)) (gi_kindAt c) ?_
  iterate 2 refine Go.step rfl rfl rfl rfl ?_
  refine Go.call rfl rfl rfl (go_recv (by decide) H.1 (by decide +kernel)) (gi_at H (9 + c * 11 + 1)) ?_
  exact Go.iret rfl rfl rfl rfl
set_option maxRecDepth 100000 in
set_option maxHeartbeats 4000000 in
theorem gi_allRefs (H : ImAt h r len room b n f hd tk sk a1 a2 a3) (c : Int32) : Go o 177 0 [some (.ref r), some (.int c)] [] h (some (.int (iAt len n f (9 + c * 11 + 2)))) h := by
  iterate 3 refine Go.step rfl rfl rfl rfl ?_
  refine Go.call rfl rfl rfl (go_recv (by decide) H.1 (by decide +kernel)) (gi_kindAt c) ?_
  iterate 2 refine Go.step rfl rfl rfl rfl ?_
  refine Go.call rfl rfl rfl (go_recv (by decide) H.1 (by decide +kernel)) (gi_at H (9 + c * 11 + 2)) ?_
  exact Go.iret rfl rfl rfl rfl
set_option maxRecDepth 100000 in
set_option maxHeartbeats 4000000 in
theorem gi_routineFor (H : ImAt h r len room b n f hd tk sk a1 a2 a3) (c x : Int32) : Go o 178 0 [some (.ref r), some (.int c), some (.int x)] [] h (some (.int (iAt len n f (9 + c * 11 + 3 + x)))) h := by
  iterate 3 refine Go.step rfl rfl rfl rfl ?_
  refine Go.call rfl rfl rfl (go_recv (by decide) H.1 (by decide +kernel)) (gi_kindAt c) ?_
  iterate 4 refine Go.step rfl rfl rfl rfl ?_
  refine Go.call rfl rfl rfl (go_recv (by decide) H.1 (by decide +kernel)) (gi_at H (9 + c * 11 + 3 + x)) ?_
  exact Go.iret rfl rfl rfl rfl
end
