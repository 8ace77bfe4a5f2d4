/-! methods as functions, by program -/
def f_Turns_start (x : Int32) (X : XS) : Option XS := (lt (xw X 59 4 x) fun X1 => (lt (xw X1 59 3 x) fun X2 => (lt (xw X2 59 2 0) fun X3 => (lt (xw X3 59 0 0) fun X4 => some X4))))
set_option maxRecDepth 100000 in
set_option maxHeartbeats 4000000 in
theorem s_Turns_start {L : Nat} {xs : Nat → Int32} {X : XS} {M : MS} {x : Int32} : Sp (mjOO L xs) 301 0 [some (.ref 59), some (.int x)] [] (hS X M) (f_Turns_start x X) (KVX M) := by
  unfold f_Turns_start
  refine Sp.step rfl rfl rfl rfl ?_
  refine Sp.step rfl rfl rfl rfl ?_
  refine Sp.step rfl rfl rfl (xp_I (c := 10) (f := 4) rfl rfl rfl rfl rfl) ?_
  refine Sp.step rfl rfl rfl rfl ?_
  refine Sp.step rfl rfl rfl rfl ?_
  refine Sp.step rfl rfl rfl (xp_I (c := 10) (f := 3) rfl rfl rfl rfl rfl) ?_
  refine Sp.step rfl rfl rfl rfl ?_
  refine Sp.step rfl rfl rfl rfl ?_
  refine Sp.step rfl rfl rfl (xp_I (c := 10) (f := 2) rfl rfl rfl rfl rfl) ?_
  refine Sp.step rfl rfl rfl rfl ?_
  refine Sp.step rfl rfl rfl rfl ?_
  refine Sp.step rfl rfl rfl (xp_I (c := 10) (f := 0) rfl rfl rfl rfl rfl) ?_
  exact Sp.vret rfl rfl rfl (fun _ _ h => h)
def f_P_boot (x : Int32) (y : Int32) (X : XS) : Option (Bool × XS) := (if X.1 30 0 = 0 then some (false, X) else (if 1 ≤ x ∧ x ≤ 50 then (if 50 ≤ y ∧ y ≤ 8000 then ((f_Engine_start_30 y X).bind fun x6 => ((f_Turns_start x x6).bind fun x7 => some (true, x7))) else some (false, X)) else some (false, X)))
set_option maxRecDepth 100000 in
set_option maxHeartbeats 4000000 in
theorem s_P_boot {L : Nat} {xs : Nat → Int32} {X : XS} {M : MS} {x : Int32} {y : Int32} : Sp (mjOO L xs) 9 0 [some (.ref 0), some (.int x), some (.int y)] [] (hS X M) (f_P_boot x y X) (KBX M) := by
  unfold f_P_boot
  refine Sp.step rfl rfl rfl rfl ?_
  refine Sp.step rfl rfl rfl (xg_F (c := 11) (f := 2) rfl rfl rfl rfl rfl) ?_
  refine Sp.step rfl rfl rfl (xg_I (c := 2) (f := 0) rfl rfl rfl rfl) ?_
  refine Sp.if1 rfl rfl rfl rfl (fun e1 => ?_) (fun e1 => ?_)
  · refine Sp.step rfl rfl rfl rfl ?_
    exact Sp.iret rfl rfl rfl rfl (fun _ _ h => h)
  · refine Sp.step rfl rfl rfl rfl ?_
    refine Sp.step rfl rfl rfl rfl ?_
    refine Sp.step rfl rfl rfl rfl ?_
    refine Sp.callP rfl rfl rfl rfl s_within (fun e2 => ?_) (fun e2 => ?_)
    · refine Sp.step rfl rfl rfl rfl ?_
      refine Sp.step rfl rfl rfl rfl ?_
      refine Sp.step rfl rfl rfl rfl ?_
      refine Sp.step rfl rfl rfl rfl ?_
      refine Sp.callP rfl rfl rfl rfl s_within (fun e4 => ?_) (fun e4 => ?_)
      · refine Sp.step rfl rfl rfl rfl ?_
        refine Sp.step rfl rfl rfl rfl ?_
        refine Sp.step rfl rfl rfl (xg_F (c := 11) (f := 4) rfl rfl rfl rfl rfl) ?_
        refine Sp.step rfl rfl rfl rfl ?_
        refine Sp.step rfl rfl rfl (xg_F (c := 11) (f := 2) rfl rfl rfl rfl rfl) ?_
        refine Sp.step rfl rfl rfl rfl ?_
        refine Sp.call rfl rfl rfl (xrecv (c := 0) (by decide) rfl (by decide +kernel)) s_Engine_start_30 (fun x6 => ⟨_, _, ⟨rfl, rfl⟩, ?_⟩)
        refine Sp.step rfl rfl rfl rfl ?_
        refine Sp.step rfl rfl rfl (xg_F (c := 11) (f := 5) rfl rfl rfl rfl rfl) ?_
        refine Sp.step rfl rfl rfl rfl ?_
        refine Sp.call rfl rfl rfl (xrecv (c := 10) (by decide) rfl (by decide +kernel)) s_Turns_start (fun x7 => ⟨_, _, ⟨rfl, rfl⟩, ?_⟩)
        refine Sp.step rfl rfl rfl rfl ?_
        exact Sp.iret rfl rfl rfl rfl (fun _ _ h => h)
      · refine Sp.step rfl rfl rfl rfl ?_
        refine Sp.step rfl rfl rfl rfl ?_
        exact Sp.iret rfl rfl rfl rfl (fun _ _ h => h)
    · refine Sp.step rfl rfl rfl rfl ?_
      refine Sp.step rfl rfl rfl rfl ?_
      exact Sp.iret rfl rfl rfl rfl (fun _ _ h => h)
def f_Ports_offer (x : Int32) (X : XS) : Option (Bool × XS) := (if X.1 47 0 < 100 then (((if 100 ≤ (X.1 47 2) + (X.1 47 0) then some (((X.1 47 2) + (X.1 47 0)) - 100) else some ((X.1 47 2) + (X.1 47 0))) : Option (Int32)).bind fun x3 => (if 0 ≤ x3 ∧ x3 ≤ 99 then (lt (xw X 48 x3.toNatClampNeg x) fun X6 => (lt (xw X6 47 0 ((X6.1 47 0) + 1)) fun X7 => some (true, X7))) else (lt (xw X 47 0 ((X.1 47 0) + 1)) fun X9 => some (true, X9)))) else some (false, X))
set_option maxRecDepth 100000 in
set_option maxHeartbeats 4000000 in
theorem s_Ports_offer {L : Nat} {xs : Nat → Int32} {X : XS} {M : MS} {x : Int32} : Sp (mjOO L xs) 236 0 [some (.ref 47), some (.int x), none] [] (hS X M) (f_Ports_offer x X) (KBX M) := by
  unfold f_Ports_offer
  refine Sp.step rfl rfl rfl rfl ?_
  refine Sp.step rfl rfl rfl (xg_I (c := 5) (f := 0) rfl rfl rfl rfl) ?_
  refine Sp.step rfl rfl rfl rfl ?_
  refine Sp.if2 rfl rfl rfl rfl (fun e1 => ?_) (fun e1 => ?_)
  · refine Sp.step rfl rfl rfl rfl ?_
    refine Sp.step rfl rfl rfl (xg_I (c := 5) (f := 2) rfl rfl rfl rfl) ?_
    refine Sp.step rfl rfl rfl rfl ?_
    refine Sp.step rfl rfl rfl (xg_I (c := 5) (f := 0) rfl rfl rfl rfl) ?_
    refine Sp.step rfl rfl rfl rfl ?_
    refine Sp.step rfl rfl rfl rfl ?_
    refine Sp.step rfl rfl rfl rfl ?_
    refine Sp.step rfl rfl rfl rfl ?_
    refine Sp.piece (pe := 35) (mf := (fun (x3 : Int32) => [some (.ref 47), some (.int x), none])) (sf := (fun (x3 : Int32) => [.int x3])) (hf := (fun (x3 : Int32) => hS X M)) ?_ (fun x3 => ?_)
    · refine Sp.if2 rfl rfl rfl rfl (fun e2 => ?_) (fun e2 => ?_)
      · refine Sp.step rfl rfl rfl rfl ?_
        refine Sp.step rfl rfl rfl rfl ?_
        refine Sp.step rfl rfl rfl rfl ?_
        exact Sp.jmp (l0 := [some (.ref 47), some (.int x), none]) ⟨rfl, rfl, trivial⟩ (fun _ _ h => h)
      · refine Sp.step rfl rfl rfl rfl ?_
        refine Sp.step rfl rfl rfl rfl ?_
        exact Sp.jmp (l0 := [some (.ref 47), some (.int x), none]) ⟨rfl, rfl, trivial⟩ (fun _ _ h => h)
    · refine Sp.step rfl rfl rfl rfl ?_
      refine Sp.step rfl rfl rfl rfl ?_
      refine Sp.step rfl rfl rfl rfl ?_
      refine Sp.step rfl rfl rfl rfl ?_
      refine Sp.callP rfl rfl rfl rfl s_within (fun e4 => ?_) (fun e4 => ?_)
      · refine Sp.step rfl rfl rfl rfl ?_
        refine Sp.step rfl rfl rfl rfl ?_
        refine Sp.step rfl rfl rfl (xg_F (c := 5) (f := 3) rfl rfl rfl rfl rfl) ?_
        refine Sp.step rfl rfl rfl rfl ?_
        refine Sp.step rfl rfl rfl rfl ?_
        refine Sp.step rfl rfl rfl (xst rfl (by decide) (ix_le (N := 99) rfl e4.1 e4.2)) ?_
        refine Sp.step rfl rfl rfl rfl ?_
        refine Sp.step rfl rfl rfl rfl ?_
        refine Sp.step rfl rfl rfl (xg_I (c := 5) (f := 0) rfl rfl rfl rfl) ?_
        refine Sp.step rfl rfl rfl rfl ?_
        refine Sp.step rfl rfl rfl rfl ?_
        refine Sp.step rfl rfl rfl (xp_I (c := 5) (f := 0) rfl rfl rfl rfl rfl) ?_
        refine Sp.step rfl rfl rfl rfl ?_
        exact Sp.iret rfl rfl rfl rfl (fun _ _ h => h)
      · refine Sp.step rfl rfl rfl rfl ?_
        refine Sp.step rfl rfl rfl rfl ?_
        refine Sp.step rfl rfl rfl rfl ?_
        refine Sp.step rfl rfl rfl (xg_I (c := 5) (f := 0) rfl rfl rfl rfl) ?_
        refine Sp.step rfl rfl rfl rfl ?_
        refine Sp.step rfl rfl rfl rfl ?_
        refine Sp.step rfl rfl rfl (xp_I (c := 5) (f := 0) rfl rfl rfl rfl rfl) ?_
        refine Sp.step rfl rfl rfl rfl ?_
        exact Sp.iret rfl rfl rfl rfl (fun _ _ h => h)
  · refine Sp.step rfl rfl rfl rfl ?_
    exact Sp.iret rfl rfl rfl rfl (fun _ _ h => h)
def f_P_input (x : Int32) (X : XS) : Option (Bool × XS) := (if X.1 40 0 = 0 then some (false, X) else ((f_Ports_offer x X).bind fun x2 => (if x2.1 = true then some (true, x2.2) else some (false, x2.2))))
set_option maxRecDepth 100000 in
set_option maxHeartbeats 4000000 in
theorem s_P_input {L : Nat} {xs : Nat → Int32} {X : XS} {M : MS} {x : Int32} : Sp (mjOO L xs) 10 0 [some (.ref 0), some (.int x)] [] (hS X M) (f_P_input x X) (KBX M) := by
  unfold f_P_input
  refine Sp.step rfl rfl rfl rfl ?_
  refine Sp.step rfl rfl rfl (xg_F (c := 11) (f := 4) rfl rfl rfl rfl rfl) ?_
  refine Sp.step rfl rfl rfl (xg_I (c := 0) (f := 0) rfl rfl rfl rfl) ?_
  refine Sp.if1 rfl rfl rfl rfl (fun e1 => ?_) (fun e1 => ?_)
  · refine Sp.step rfl rfl rfl rfl ?_
    exact Sp.iret rfl rfl rfl rfl (fun _ _ h => h)
  · refine Sp.step rfl rfl rfl rfl ?_
    refine Sp.step rfl rfl rfl (xg_F (c := 11) (f := 4) rfl rfl rfl rfl rfl) ?_
    refine Sp.step rfl rfl rfl (xg_F (c := 0) (f := 4) rfl rfl rfl rfl rfl) ?_
    refine Sp.step rfl rfl rfl rfl ?_
    refine Sp.call rfl rfl rfl (xrecv (c := 5) (by decide) rfl (by decide +kernel)) s_Ports_offer (fun x2 => ⟨_, _, ⟨rfl, rfl⟩, ?_⟩)
    refine Sp.bool (fun e3 => ?_) (fun e3 => ?_)
    · refine Sp.step rfl rfl rfl rfl ?_
      refine Sp.step rfl rfl rfl rfl ?_
      refine Sp.step rfl rfl rfl rfl ?_
      exact Sp.iret rfl rfl rfl rfl (fun _ _ h => h)
    · refine Sp.step rfl rfl rfl rfl ?_
      refine Sp.step rfl rfl rfl rfl ?_
      exact Sp.iret rfl rfl rfl rfl (fun _ _ h => h)
def f_Engine_isStrand (x : Int32) (X : XS) : Bool := (if x < 0 then false else (if X.1 40 2 ≤ x then false else (if 6 ≤ x then false else (ocz (X.2.1 50 x.toNatClampNeg) false (fun a4 => true)))))
set_option maxRecDepth 100000 in
set_option maxHeartbeats 4000000 in
theorem s_Engine_isStrand {L : Nat} {xs : Nat → Int32} {X : XS} {M : MS} {x : Int32} : Sp (mjOO L xs) 106 0 [some (.ref 40), some (.int x)] [] (hS X M) (some (f_Engine_isStrand x X)) (KB (hS X M)) := by
  unfold f_Engine_isStrand
  refine Sp.step rfl rfl rfl rfl ?_
  refine Sp.if1V rfl rfl rfl rfl (fun e1 => ?_) (fun e1 => ?_)
  · refine Sp.step rfl rfl rfl rfl ?_
    exact Sp.iret rfl rfl rfl rfl (fun _ _ h => h)
  · refine Sp.step rfl rfl rfl rfl ?_
    refine Sp.step rfl rfl rfl rfl ?_
    refine Sp.step rfl rfl rfl (xg_I (c := 0) (f := 2) rfl rfl rfl rfl) ?_
    refine Sp.if2V rfl rfl rfl rfl (fun e2 => ?_) (fun e2 => ?_)
    · refine Sp.step rfl rfl rfl rfl ?_
      exact Sp.iret rfl rfl rfl rfl (fun _ _ h => h)
    · refine Sp.step rfl rfl rfl rfl ?_
      refine Sp.step rfl rfl rfl rfl ?_
      refine Sp.if2V rfl rfl rfl rfl (fun e3 => ?_) (fun e3 => ?_)
      · refine Sp.step rfl rfl rfl rfl ?_
        exact Sp.iret rfl rfl rfl rfl (fun _ _ h => h)
      · refine Sp.step rfl rfl rfl rfl ?_
        refine Sp.step rfl rfl rfl (xg_F (c := 0) (f := 5) rfl rfl rfl rfl rfl) ?_
        refine Sp.step rfl rfl rfl rfl ?_
        refine Sp.step rfl rfl rfl (xald (t := 4) rfl (by decide) (fun _ => rfl) (ix_ok (N := 6) (n := 6) rfl (Int32.not_lt.mp e1) (Int32.not_le.mp e3))) ?_
        refine Sp.ocrV (fun e5 => ?_) (fun a4 e5 => ?_)
        · refine Sp.step rfl rfl rfl rfl ?_
          refine Sp.step rfl rfl rfl rfl ?_
          exact Sp.iret rfl rfl rfl rfl (fun _ _ h => h)
        · refine Sp.step rfl rfl rfl rfl ?_
          refine Sp.step rfl rfl rfl rfl ?_
          refine Sp.step rfl rfl rfl rfl ?_
          exact Sp.iret rfl rfl rfl rfl (fun _ _ h => h)
theorem isStrand_ix {x : Int32} {X : XS} (h : f_Engine_isStrand x X = true) : ixo x 6 := by
  unfold f_Engine_isStrand at h
  by_cases c0 : x < 0
  · rw [if_pos c0] at h; cases h
  · rw [if_neg c0] at h
    by_cases c1 : X.1 40 2 ≤ x
    · rw [if_pos c1] at h; cases h
    · rw [if_neg c1] at h
      by_cases c2 : 6 ≤ x
      · rw [if_pos c2] at h; cases h
      · exact ix_ok (N := 6) (n := 6) rfl (Int32.not_lt.mp c0) (Int32.not_le.mp c2)
def f_Strand_slotUnder (x : Nat) (y : Int32) (X : XS) : Option Int32 := (if (xT X x = some (14, 0)) then (if y < 0 then some (-1) else (if X.1 x 8 ≤ y then some (-1) else (if 440 ≤ (((X.1 x 7) + (X.1 x 8)) - 1) - y then some (-1) else some ((((X.1 x 7) + (X.1 x 8)) - 1) - y)))) else none)
set_option maxRecDepth 100000 in
set_option maxHeartbeats 4000000 in
theorem s_Strand_slotUnder {L : Nat} {xs : Nat → Int32} {X : XS} {M : MS} {x : Nat} {y : Int32} : Sp (mjOO L xs) 288 0 [some (.ref x), some (.int y), none] [] (hS X M) (f_Strand_slotUnder x y X) (KQ (hS X M)) := by
  unfold f_Strand_slotUnder
  refine Sp.step rfl rfl rfl rfl ?_
  refine Sp.guard (fun e1 => ?_)
  refine Sp.step rfl rfl rfl (xg_I (c := 9) (f := 7) rfl rfl e1 rfl) ?_
  refine Sp.step rfl rfl rfl rfl ?_
  refine Sp.step rfl rfl rfl (xg_I (c := 9) (f := 8) rfl rfl e1 rfl) ?_
  refine Sp.step rfl rfl rfl rfl ?_
  refine Sp.step rfl rfl rfl rfl ?_
  refine Sp.step rfl rfl rfl rfl ?_
  refine Sp.step rfl rfl rfl rfl ?_
  refine Sp.step rfl rfl rfl rfl ?_
  refine Sp.step rfl rfl rfl rfl ?_
  refine Sp.step rfl rfl rfl rfl ?_
  refine Sp.if1 rfl rfl rfl rfl (fun e2 => ?_) (fun e2 => ?_)
  · refine Sp.step rfl rfl rfl rfl ?_
    exact Sp.iret rfl rfl rfl rfl (fun _ _ h => h)
  · refine Sp.step rfl rfl rfl rfl ?_
    refine Sp.step rfl rfl rfl rfl ?_
    refine Sp.step rfl rfl rfl (xg_I (c := 9) (f := 8) rfl rfl e1 rfl) ?_
    refine Sp.if2 rfl rfl rfl rfl (fun e3 => ?_) (fun e3 => ?_)
    · refine Sp.step rfl rfl rfl rfl ?_
      exact Sp.iret rfl rfl rfl rfl (fun _ _ h => h)
    · refine Sp.step rfl rfl rfl rfl ?_
      refine Sp.step rfl rfl rfl rfl ?_
      refine Sp.if2 rfl rfl rfl rfl (fun e4 => ?_) (fun e4 => ?_)
      · refine Sp.step rfl rfl rfl rfl ?_
        exact Sp.iret rfl rfl rfl rfl (fun _ _ h => h)
      · refine Sp.step rfl rfl rfl rfl ?_
        refine Sp.step rfl rfl rfl rfl ?_
        exact Sp.iret rfl rfl rfl rfl (fun _ _ h => h)
def f_Strand_peek (x : Nat) (y : Int32) (X : XS) : Option Int32 := (if (xT X x = some (14, 0)) then ((f_Strand_slotUnder x y X).bind fun x2 => (if 0 ≤ x2 then (ocz (X.2.1 x 5) none (fun a4 => (ocz (xL X 0 a4) none (fun n6 => (if ixo x2 n6 then some (X.1 a4 x2.toNatClampNeg) else none))))) else some 0)) else none)
set_option maxRecDepth 100000 in
set_option maxHeartbeats 4000000 in
theorem s_Strand_peek {L : Nat} {xs : Nat → Int32} {X : XS} {M : MS} {x : Nat} {y : Int32} : Sp (mjOO L xs) 290 0 [some (.ref x), some (.int y), none] [] (hS X M) (f_Strand_peek x y X) (KQ (hS X M)) := by
  unfold f_Strand_peek
  refine Sp.step rfl rfl rfl rfl ?_
  refine Sp.step rfl rfl rfl rfl ?_
  refine Sp.guard (fun e1 => ?_)
  refine Sp.call rfl rfl rfl (xrecv (c := 9) (by decide) e1 (by decide +kernel)) s_Strand_slotUnder (fun x2 => ⟨_, _, ⟨rfl, rfl⟩, ?_⟩)
  refine Sp.step rfl rfl rfl rfl ?_
  refine Sp.step rfl rfl rfl rfl ?_
  refine Sp.if1 rfl rfl rfl rfl (fun e3 => ?_) (fun e3 => ?_)
  · refine Sp.step rfl rfl rfl rfl ?_
    refine Sp.step rfl rfl rfl (xg_D (c := 9) (f := 5) rfl rfl e1 rfl (fxP_big (dyn_of (c := 9) e1 rfl))) ?_
    refine Sp.ocrn (fun a4 e5 => ?_)
    refine Sp.step rfl rfl rfl rfl ?_
    refine Sp.ocn (fun n6 e7 => ?_)
    refine Sp.guard (fun e8 => ?_)
    refine Sp.step rfl rfl rfl (xld (xL_ok e7) (by decide) e8) ?_
    exact Sp.iret rfl rfl rfl rfl (fun _ _ h => h)
  · refine Sp.step rfl rfl rfl rfl ?_
    refine Sp.step rfl rfl rfl rfl ?_
    exact Sp.iret rfl rfl rfl rfl (fun _ _ h => h)
def f_Memory_word (x : Int32) (X : XS) : Option Int32 := (if x < 0 then some 0 else (ocz (X.2.1 41 1) none (fun a2 => (ocz (xL X 0 a2) none (fun n4 => (if Int32.ofNat n4 ≤ x then some 0 else (ocz (X.2.1 41 1) none (fun a7 => (ocz (xL X 2 a7) none (fun n9 => (if ixo x n9 then some (X.1 a7 x.toNatClampNeg) else none)))))))))))
set_option maxRecDepth 100000 in
set_option maxHeartbeats 4000000 in
theorem s_Memory_word {L : Nat} {xs : Nat → Int32} {X : XS} {M : MS} {x : Int32} : Sp (mjOO L xs) 201 0 [some (.ref 41), some (.int x)] [] (hS X M) (f_Memory_word x X) (KQ (hS X M)) := by
  unfold f_Memory_word
  refine Sp.step rfl rfl rfl rfl ?_
  refine Sp.if1 rfl rfl rfl rfl (fun e1 => ?_) (fun e1 => ?_)
  · refine Sp.step rfl rfl rfl rfl ?_
    exact Sp.iret rfl rfl rfl rfl (fun _ _ h => h)
  · refine Sp.step rfl rfl rfl rfl ?_
    refine Sp.step rfl rfl rfl rfl ?_
    refine Sp.step rfl rfl rfl (xg_D (c := 4) (f := 1) rfl rfl rfl rfl rfl) ?_
    refine Sp.ocrn (fun a2 e3 => ?_)
    refine Sp.ocn (fun n4 e5 => ?_)
    refine Sp.step rfl rfl rfl (xlen (xL_ok e5) (by decide)) ?_
    refine Sp.if2 rfl rfl rfl rfl (fun e6 => ?_) (fun e6 => ?_)
    · refine Sp.step rfl rfl rfl rfl ?_
      exact Sp.iret rfl rfl rfl rfl (fun _ _ h => h)
    · refine Sp.step rfl rfl rfl rfl ?_
      refine Sp.step rfl rfl rfl (xg_D (c := 4) (f := 1) rfl rfl rfl rfl rfl) ?_
      refine Sp.ocrn (fun a7 e8 => ?_)
      refine Sp.step rfl rfl rfl rfl ?_
      refine Sp.ocn (fun n9 e10 => ?_)
      refine Sp.guard (fun e11 => ?_)
      refine Sp.step rfl rfl rfl (xld (xL_ok e10) (by decide) e11) ?_
      refine Sp.step rfl rfl rfl rfl ?_
      exact Sp.iret rfl rfl rfl rfl (fun _ _ h => h)
def f_Memory_ownerOf (x : Int32) (X : XS) : Option Int32 := ((f_Memory_word (x + 1) X).bind fun x1 => some x1)
set_option maxRecDepth 100000 in
set_option maxHeartbeats 4000000 in
theorem s_Memory_ownerOf {L : Nat} {xs : Nat → Int32} {X : XS} {M : MS} {x : Int32} : Sp (mjOO L xs) 216 0 [some (.ref 41), some (.int x)] [] (hS X M) (f_Memory_ownerOf x X) (KQ (hS X M)) := by
  unfold f_Memory_ownerOf
  refine Sp.step rfl rfl rfl rfl ?_
  refine Sp.step rfl rfl rfl rfl ?_
  refine Sp.step rfl rfl rfl rfl ?_
  refine Sp.step rfl rfl rfl rfl ?_
  refine Sp.call rfl rfl rfl (xrecv (c := 4) (by decide) rfl (by decide +kernel)) s_Memory_word (fun x1 => ⟨_, _, ⟨rfl, rfl⟩, ?_⟩)
  exact Sp.iret rfl rfl rfl rfl (fun _ _ h => h)
def f_Engine_waits (x : Nat) (y : Int32) (X : XS) : Option Bool := (if (xT X x = some (14, 0)) then ((f_Image_at_51 (X.1 x 4) X).bind fun x2 => (if x2 = 49 then ((f_Strand_peek x 0 X).bind fun x4 => (if ¬ x4 = 0 then ((f_Memory_ownerOf x4 X).bind fun x6 => (if x6 = 0 then some false else (if x6 = y then some false else some true))) else some false)) else some false)) else none)
set_option maxRecDepth 100000 in
set_option maxHeartbeats 4000000 in
theorem s_Engine_waits {L : Nat} {xs : Nat → Int32} {X : XS} {M : MS} {x : Nat} {y : Int32} : Sp (mjOO L xs) 108 0 [some (.ref 40), some (.ref x), some (.int y), none, none] [] (hS X M) (f_Engine_waits x y X) (KB (hS X M)) := by
  unfold f_Engine_waits
  refine Sp.step rfl rfl rfl rfl ?_
  refine Sp.step rfl rfl rfl (xg_F (c := 0) (f := 6) rfl rfl rfl rfl rfl) ?_
  refine Sp.step rfl rfl rfl rfl ?_
  refine Sp.guard (fun e1 => ?_)
  refine Sp.step rfl rfl rfl (xg_I (c := 9) (f := 4) rfl rfl e1 rfl) ?_
  refine Sp.call rfl rfl rfl (xrecv (c := 2) (by decide) rfl (by decide +kernel)) s_Image_at_51 (fun x2 => ⟨_, _, ⟨rfl, rfl⟩, ?_⟩)
  refine Sp.step rfl rfl rfl rfl ?_
  refine Sp.if2 rfl rfl rfl rfl (fun e3 => ?_) (fun e3 => ?_)
  · refine Sp.step rfl rfl rfl rfl ?_
    refine Sp.step rfl rfl rfl rfl ?_
    refine Sp.call rfl rfl rfl (xrecv (c := 9) (by decide) e1 (by decide +kernel)) s_Strand_peek (fun x4 => ⟨_, _, ⟨rfl, rfl⟩, ?_⟩)
    refine Sp.step rfl rfl rfl rfl ?_
    refine Sp.step rfl rfl rfl rfl ?_
    refine Sp.if1 rfl rfl rfl rfl (fun e5 => ?_) (fun e5 => ?_)
    · refine Sp.step rfl rfl rfl rfl ?_
      refine Sp.step rfl rfl rfl (xg_F (c := 0) (f := 3) rfl rfl rfl rfl rfl) ?_
      refine Sp.step rfl rfl rfl rfl ?_
      refine Sp.call rfl rfl rfl (xrecv (c := 4) (by decide) rfl (by decide +kernel)) s_Memory_ownerOf (fun x6 => ⟨_, _, ⟨rfl, rfl⟩, ?_⟩)
      refine Sp.step rfl rfl rfl rfl ?_
      refine Sp.step rfl rfl rfl rfl ?_
      refine Sp.if1 rfl rfl rfl rfl (fun e7 => ?_) (fun e7 => ?_)
      · refine Sp.step rfl rfl rfl rfl ?_
        exact Sp.iret rfl rfl rfl rfl (fun _ _ h => h)
      · refine Sp.step rfl rfl rfl rfl ?_
        refine Sp.step rfl rfl rfl rfl ?_
        refine Sp.if2 rfl rfl rfl rfl (fun e8 => ?_) (fun e8 => ?_)
        · refine Sp.step rfl rfl rfl rfl ?_
          exact Sp.iret rfl rfl rfl rfl (fun _ _ h => h)
        · refine Sp.step rfl rfl rfl rfl ?_
          refine Sp.step rfl rfl rfl rfl ?_
          exact Sp.iret rfl rfl rfl rfl (fun _ _ h => h)
    · refine Sp.step rfl rfl rfl rfl ?_
      refine Sp.step rfl rfl rfl rfl ?_
      refine Sp.step rfl rfl rfl rfl ?_
      refine Sp.step rfl rfl rfl rfl ?_
      refine Sp.step rfl rfl rfl rfl ?_
      refine Sp.step rfl rfl rfl rfl ?_
      exact Sp.iret rfl rfl rfl rfl (fun _ _ h => h)
  · refine Sp.step rfl rfl rfl rfl ?_
    exact Sp.iret rfl rfl rfl rfl (fun _ _ h => h)
def f_Engine_canGo (x : Int32) (X : XS) : Option Bool := (if f_Engine_isStrand x X = true then (ocz (X.2.1 50 x.toNatClampNeg) none (fun a3 => (if (xT X a3 = some (14, 0)) then (if ¬ X.1 a3 0 = 0 then some false else (ocz (X.2.1 50 x.toNatClampNeg) none (fun a7 => ((f_Engine_waits a7 (x + 1) X).bind fun x9 => (if x9 = true then some false else some true))))) else none))) else some false)
set_option maxRecDepth 100000 in
set_option maxHeartbeats 4000000 in
theorem s_Engine_canGo {L : Nat} {xs : Nat → Int32} {X : XS} {M : MS} {x : Int32} : Sp (mjOO L xs) 107 0 [some (.ref 40), some (.int x)] [] (hS X M) (f_Engine_canGo x X) (KB (hS X M)) := by
  unfold f_Engine_canGo
  refine Sp.step rfl rfl rfl rfl ?_
  refine Sp.step rfl rfl rfl rfl ?_
  refine Sp.callS rfl rfl rfl (xrecv (c := 0) (by decide) rfl (by decide +kernel)) s_Engine_isStrand ⟨rfl, rfl⟩ ?_
  refine Sp.bool (fun e1 => ?_) (fun e1 => ?_)
  · refine Sp.step rfl rfl rfl rfl ?_
    refine Sp.step rfl rfl rfl rfl ?_
    refine Sp.step rfl rfl rfl (xg_F (c := 0) (f := 5) rfl rfl rfl rfl rfl) ?_
    refine Sp.step rfl rfl rfl rfl ?_
    refine Sp.step rfl rfl rfl (xald (t := 4) rfl (by decide) (fun _ => rfl) (isStrand_ix e1)) ?_
    refine Sp.ocrn (fun a3 e4 => ?_)
    refine Sp.guard (fun e5 => ?_)
    refine Sp.step rfl rfl rfl (xg_I (c := 9) (f := 0) rfl rfl e5 rfl) ?_
    refine Sp.if1 rfl rfl rfl rfl (fun e6 => ?_) (fun e6 => ?_)
    · refine Sp.step rfl rfl rfl rfl ?_
      exact Sp.iret rfl rfl rfl rfl (fun _ _ h => h)
    · refine Sp.step rfl rfl rfl rfl ?_
      refine Sp.step rfl rfl rfl rfl ?_
      refine Sp.step rfl rfl rfl (xg_F (c := 0) (f := 5) rfl rfl rfl rfl rfl) ?_
      refine Sp.step rfl rfl rfl rfl ?_
      refine Sp.step rfl rfl rfl (xald (t := 4) rfl (by decide) (fun _ => rfl) (isStrand_ix e1)) ?_
      refine Sp.ocrn (fun a7 e8 => ?_)
      refine Sp.step rfl rfl rfl rfl ?_
      refine Sp.step rfl rfl rfl rfl ?_
      refine Sp.step rfl rfl rfl rfl ?_
      refine Sp.call rfl rfl rfl (xrecv (c := 0) (by decide) rfl (by decide +kernel)) s_Engine_waits (fun x9 => ⟨_, _, ⟨rfl, rfl⟩, ?_⟩)
      refine Sp.bool (fun e10 => ?_) (fun e10 => ?_)
      · refine Sp.step rfl rfl rfl rfl ?_
        refine Sp.step rfl rfl rfl rfl ?_
        exact Sp.iret rfl rfl rfl rfl (fun _ _ h => h)
      · refine Sp.step rfl rfl rfl rfl ?_
        refine Sp.step rfl rfl rfl rfl ?_
        refine Sp.step rfl rfl rfl rfl ?_
        exact Sp.iret rfl rfl rfl rfl (fun _ _ h => h)
  · refine Sp.step rfl rfl rfl rfl ?_
    refine Sp.step rfl rfl rfl rfl ?_
    exact Sp.iret rfl rfl rfl rfl (fun _ _ h => h)
def f_Turns_goesOn (X : XS) : Option Bool := (if X.1 59 3 ≤ 0 then some false else ((f_Engine_canGo (X.1 59 2) X).bind fun x2 => (if x2 = true then some true else some false)))
set_option maxRecDepth 100000 in
set_option maxHeartbeats 4000000 in
theorem s_Turns_goesOn {L : Nat} {xs : Nat → Int32} {X : XS} {M : MS} : Sp (mjOO L xs) 303 0 [some (.ref 59)] [] (hS X M) (f_Turns_goesOn X) (KB (hS X M)) := by
  unfold f_Turns_goesOn
  refine Sp.step rfl rfl rfl rfl ?_
  refine Sp.step rfl rfl rfl (xg_I (c := 10) (f := 3) rfl rfl rfl rfl) ?_
  refine Sp.if1 rfl rfl rfl rfl (fun e1 => ?_) (fun e1 => ?_)
  · refine Sp.step rfl rfl rfl rfl ?_
    exact Sp.iret rfl rfl rfl rfl (fun _ _ h => h)
  · refine Sp.step rfl rfl rfl rfl ?_
    refine Sp.step rfl rfl rfl (xg_F (c := 10) (f := 1) rfl rfl rfl rfl rfl) ?_
    refine Sp.step rfl rfl rfl rfl ?_
    refine Sp.step rfl rfl rfl (xg_I (c := 10) (f := 2) rfl rfl rfl rfl) ?_
    refine Sp.call rfl rfl rfl (xrecv (c := 0) (by decide) rfl (by decide +kernel)) s_Engine_canGo (fun x2 => ⟨_, _, ⟨rfl, rfl⟩, ?_⟩)
    refine Sp.bool (fun e3 => ?_) (fun e3 => ?_)
    · refine Sp.step rfl rfl rfl rfl ?_
      refine Sp.step rfl rfl rfl rfl ?_
      refine Sp.step rfl rfl rfl rfl ?_
      exact Sp.iret rfl rfl rfl rfl (fun _ _ h => h)
    · refine Sp.step rfl rfl rfl rfl ?_
      refine Sp.step rfl rfl rfl rfl ?_
      exact Sp.iret rfl rfl rfl rfl (fun _ _ h => h)
def f_Strand_pop (x : Nat) (X : XS) : Option (Int32 × XS) := (if (xT X x = some (14, 0)) then ((f_Strand_slotUnder x 0 X).bind fun x2 => (if 0 ≤ x2 then (lt (xw X x 8 ((X.1 x 8) - 1)) fun X4 => (ocz (X4.2.1 x 6) none (fun a5 => (ocz (xL X4 0 a5) none (fun n7 => (if ixo x2 n7 then (lt (xw X4 a5 x2.toNatClampNeg 0) fun X10 => (ocz (X10.2.1 x 5) none (fun a11 => (ocz (xL X10 0 a11) none (fun n13 => (if ixo x2 n13 then some (X10.1 a11 x2.toNatClampNeg, X10) else none)))))) else none)))))) else some (0, X))) else none)
set_option maxRecDepth 100000 in
set_option maxHeartbeats 4000000 in
theorem s_Strand_pop {L : Nat} {xs : Nat → Int32} {X : XS} {M : MS} {x : Nat} : Sp (mjOO L xs) 291 0 [some (.ref x), none] [] (hS X M) (f_Strand_pop x X) (KEX M) := by
  unfold f_Strand_pop
  refine Sp.step rfl rfl rfl rfl ?_
  refine Sp.step rfl rfl rfl rfl ?_
  refine Sp.guard (fun e1 => ?_)
  refine Sp.call rfl rfl rfl (xrecv (c := 9) (by decide) e1 (by decide +kernel)) s_Strand_slotUnder (fun x2 => ⟨_, _, ⟨rfl, rfl⟩, ?_⟩)
  refine Sp.step rfl rfl rfl rfl ?_
  refine Sp.step rfl rfl rfl rfl ?_
  refine Sp.if1 rfl rfl rfl rfl (fun e3 => ?_) (fun e3 => ?_)
  · refine Sp.step rfl rfl rfl rfl ?_
    refine Sp.step rfl rfl rfl rfl ?_
    refine Sp.step rfl rfl rfl (xg_I (c := 9) (f := 8) rfl rfl e1 rfl) ?_
    refine Sp.step rfl rfl rfl rfl ?_
    refine Sp.step rfl rfl rfl rfl ?_
    refine Sp.step rfl rfl rfl (xp_I (c := 9) (f := 8) rfl rfl e1 rfl rfl) ?_
    refine Sp.step rfl rfl rfl rfl ?_
    refine Sp.step rfl rfl rfl (xg_D (c := 9) (f := 6) rfl rfl e1 rfl (fxP_big (dyn_of (c := 9) e1 rfl))) ?_
    refine Sp.ocrn (fun a5 e6 => ?_)
    refine Sp.step rfl rfl rfl rfl ?_
    refine Sp.step rfl rfl rfl rfl ?_
    refine Sp.ocn (fun n7 e8 => ?_)
    refine Sp.guard (fun e9 => ?_)
    refine Sp.step rfl rfl rfl (xst (xL_ok e8) (by decide) e9) ?_
    refine Sp.step rfl rfl rfl rfl ?_
    refine Sp.step rfl rfl rfl (xg_D (c := 9) (f := 5) rfl rfl e1 rfl (fxP_big (dyn_of (c := 9) e1 rfl))) ?_
    refine Sp.ocrn (fun a11 e12 => ?_)
    refine Sp.step rfl rfl rfl rfl ?_
    refine Sp.ocn (fun n13 e14 => ?_)
    refine Sp.guard (fun e15 => ?_)
    refine Sp.step rfl rfl rfl (xld (xL_ok e14) (by decide) e15) ?_
    exact Sp.iret rfl rfl rfl rfl (fun _ _ h => h)
  · refine Sp.step rfl rfl rfl rfl ?_
    exact Sp.iret rfl rfl rfl rfl (fun _ _ h => h)
def f_Engine_jumpsNow (x : Nat) (y : Int32) (X : XS) : Option (Bool × XS) := (if ¬ y = 19 then (if (xT X x = some (14, 0)) then ((f_Strand_pop x X).bind fun x3 => (if y = 20 then (if ¬ x3.1 = 0 then some (false, x3.2) else some (true, x3.2)) else (if y = 21 then (if 0 ≤ x3.1 then some (false, x3.2) else some (true, x3.2)) else (if y = 22 then (if x3.1 ≤ 0 then some (false, x3.2) else some (true, x3.2)) else (if y = 23 then (if ¬ x3.1 = 0 then some (false, x3.2) else some (true, x3.2)) else (if y = 24 then (if (xT x3.2 x = some (14, 0)) then ((f_Strand_pop x x3.2).bind fun x14 => (if ¬ x14.1 = x3.1 then some (false, x14.2) else some (true, x14.2))) else none) else (if y = 25 then (if (xT x3.2 x = some (14, 0)) then ((f_Strand_pop x x3.2).bind fun x18 => (if x3.1 ≤ x18.1 then some (false, x18.2) else some (true, x18.2))) else none) else some (false, x3.2)))))))) else none) else some (true, X))
set_option maxRecDepth 100000 in
set_option maxHeartbeats 4000000 in
theorem s_Engine_jumpsNow {L : Nat} {xs : Nat → Int32} {X : XS} {M : MS} {x : Nat} {y : Int32} : Sp (mjOO L xs) 114 0 [some (.ref 40), some (.ref x), some (.int y), none] [] (hS X M) (f_Engine_jumpsNow x y X) (KBX M) := by
  unfold f_Engine_jumpsNow
  refine Sp.step rfl rfl rfl rfl ?_
  refine Sp.step rfl rfl rfl rfl ?_
  refine Sp.if2 rfl rfl rfl rfl (fun e1 => ?_) (fun e1 => ?_)
  · refine Sp.step rfl rfl rfl rfl ?_
    refine Sp.guard (fun e2 => ?_)
    refine Sp.call rfl rfl rfl (xrecv (c := 9) (by decide) e2 (by decide +kernel)) s_Strand_pop (fun x3 => ⟨_, _, ⟨rfl, rfl⟩, ?_⟩)
    refine Sp.step rfl rfl rfl rfl ?_
    refine Sp.step rfl rfl rfl rfl ?_
    refine Sp.ite (fun e4 => ?_) (fun e4 => ?_)
    · refine Sp.step rfl rfl rfl (go_sw (t := 52) (sw_of e4 rfl)) ?_
      refine Sp.step rfl rfl rfl rfl ?_
      refine Sp.if1 rfl rfl rfl rfl (fun e5 => ?_) (fun e5 => ?_)
      · refine Sp.step rfl rfl rfl rfl ?_
        exact Sp.iret rfl rfl rfl rfl (fun _ _ h => h)
      · refine Sp.step rfl rfl rfl rfl ?_
        refine Sp.step rfl rfl rfl rfl ?_
        exact Sp.iret rfl rfl rfl rfl (fun _ _ h => h)
    · refine Sp.ite (fun e6 => ?_) (fun e6 => ?_)
      · refine Sp.step rfl rfl rfl (go_sw (t := 62) (sw_of e6 rfl)) ?_
        refine Sp.step rfl rfl rfl rfl ?_
        refine Sp.if1 rfl rfl rfl rfl (fun e7 => ?_) (fun e7 => ?_)
        · refine Sp.step rfl rfl rfl rfl ?_
          exact Sp.iret rfl rfl rfl rfl (fun _ _ h => h)
        · refine Sp.step rfl rfl rfl rfl ?_
          refine Sp.step rfl rfl rfl rfl ?_
          exact Sp.iret rfl rfl rfl rfl (fun _ _ h => h)
      · refine Sp.ite (fun e8 => ?_) (fun e8 => ?_)
        · refine Sp.step rfl rfl rfl (go_sw (t := 72) (sw_of e8 rfl)) ?_
          refine Sp.step rfl rfl rfl rfl ?_
          refine Sp.if1 rfl rfl rfl rfl (fun e9 => ?_) (fun e9 => ?_)
          · refine Sp.step rfl rfl rfl rfl ?_
            exact Sp.iret rfl rfl rfl rfl (fun _ _ h => h)
          · refine Sp.step rfl rfl rfl rfl ?_
            refine Sp.step rfl rfl rfl rfl ?_
            exact Sp.iret rfl rfl rfl rfl (fun _ _ h => h)
        · refine Sp.ite (fun e10 => ?_) (fun e10 => ?_)
          · refine Sp.step rfl rfl rfl (go_sw (t := 52) (sw_of e10 rfl)) ?_
            refine Sp.step rfl rfl rfl rfl ?_
            refine Sp.if1 rfl rfl rfl rfl (fun e11 => ?_) (fun e11 => ?_)
            · refine Sp.step rfl rfl rfl rfl ?_
              exact Sp.iret rfl rfl rfl rfl (fun _ _ h => h)
            · refine Sp.step rfl rfl rfl rfl ?_
              refine Sp.step rfl rfl rfl rfl ?_
              exact Sp.iret rfl rfl rfl rfl (fun _ _ h => h)
          · refine Sp.ite (fun e12 => ?_) (fun e12 => ?_)
            · refine Sp.step rfl rfl rfl (go_sw (t := 82) (sw_of e12 rfl)) ?_
              refine Sp.step rfl rfl rfl rfl ?_
              refine Sp.guard (fun e13 => ?_)
              refine Sp.call rfl rfl rfl (xrecv (c := 9) (by decide) e13 (by decide +kernel)) s_Strand_pop (fun x14 => ⟨_, _, ⟨rfl, rfl⟩, ?_⟩)
              refine Sp.step rfl rfl rfl rfl ?_
              refine Sp.if2 rfl rfl rfl rfl (fun e15 => ?_) (fun e15 => ?_)
              · refine Sp.step rfl rfl rfl rfl ?_
                exact Sp.iret rfl rfl rfl rfl (fun _ _ h => h)
              · refine Sp.step rfl rfl rfl rfl ?_
                refine Sp.step rfl rfl rfl rfl ?_
                exact Sp.iret rfl rfl rfl rfl (fun _ _ h => h)
            · refine Sp.ite (fun e16 => ?_) (fun e16 => ?_)
              · refine Sp.step rfl rfl rfl (go_sw (t := 96) (sw_of e16 rfl)) ?_
                refine Sp.step rfl rfl rfl rfl ?_
                refine Sp.guard (fun e17 => ?_)
                refine Sp.call rfl rfl rfl (xrecv (c := 9) (by decide) e17 (by decide +kernel)) s_Strand_pop (fun x18 => ⟨_, _, ⟨rfl, rfl⟩, ?_⟩)
                refine Sp.step rfl rfl rfl rfl ?_
                refine Sp.if2 rfl rfl rfl rfl (fun e19 => ?_) (fun e19 => ?_)
                · refine Sp.step rfl rfl rfl rfl ?_
                  exact Sp.iret rfl rfl rfl rfl (fun _ _ h => h)
                · refine Sp.step rfl rfl rfl rfl ?_
                  refine Sp.step rfl rfl rfl rfl ?_
                  exact Sp.iret rfl rfl rfl rfl (fun _ _ h => h)
              · refine Sp.step rfl rfl rfl (go_sw (t := 110) (mjSw_out _ (by
                  intro q hq
                  simp only [List.mem_cons, List.not_mem_nil, or_false] at hq
                  rcases hq with rfl | rfl | rfl | rfl | rfl | rfl
                  · exact e4
                  · exact e6
                  · exact e8
                  · exact e10
                  · exact e12
                  · exact e16))) ?_
                refine Sp.step rfl rfl rfl rfl ?_
                exact Sp.iret rfl rfl rfl rfl (fun _ _ h => h)
  · refine Sp.step rfl rfl rfl rfl ?_
    exact Sp.iret rfl rfl rfl rfl (fun _ _ h => h)
def f_Engine_doJump (x : Nat) (y : Int32) (z : Int32) (X : XS) : Option (Int32 × XS) := ((f_Engine_jumpsNow x y X).bind fun x1 => (if x1.1 = true then (if (xT x1.2 x = some (14, 0)) then ((f_Image_codeAt_51 (x1.2.1 x 3) x1.2).bind fun x5 => ((f_Image_two_51 (z + 1) x1.2).bind fun x6 => (lt (xw x1.2 x 4 (x5 + x6)) fun X7 => some ((-1), X7)))) else none) else some (0, x1.2)))
set_option maxRecDepth 100000 in
set_option maxHeartbeats 4000000 in
theorem s_Engine_doJump {L : Nat} {xs : Nat → Int32} {X : XS} {M : MS} {x : Nat} {y : Int32} {z : Int32} : Sp (mjOO L xs) 113 0 [some (.ref 40), some (.ref x), some (.int y), some (.int z)] [] (hS X M) (f_Engine_doJump x y z X) (KEX M) := by
  unfold f_Engine_doJump
  refine Sp.step rfl rfl rfl rfl ?_
  refine Sp.step rfl rfl rfl rfl ?_
  refine Sp.step rfl rfl rfl rfl ?_
  refine Sp.call rfl rfl rfl (xrecv (c := 0) (by decide) rfl (by decide +kernel)) s_Engine_jumpsNow (fun x1 => ⟨_, _, ⟨rfl, rfl⟩, ?_⟩)
  refine Sp.bool (fun e2 => ?_) (fun e2 => ?_)
  · refine Sp.step rfl rfl rfl rfl ?_
    refine Sp.step rfl rfl rfl rfl ?_
    refine Sp.step rfl rfl rfl rfl ?_
    refine Sp.step rfl rfl rfl (xg_F (c := 0) (f := 6) rfl rfl rfl rfl rfl) ?_
    refine Sp.step rfl rfl rfl rfl ?_
    refine Sp.guard (fun e4 => ?_)
    refine Sp.step rfl rfl rfl (xg_I (c := 9) (f := 3) rfl rfl e4 rfl) ?_
    refine Sp.call rfl rfl rfl (xrecv (c := 2) (by decide) rfl (by decide +kernel)) s_Image_codeAt_51 (fun x5 => ⟨_, _, ⟨rfl, rfl⟩, ?_⟩)
    refine Sp.step rfl rfl rfl rfl ?_
    refine Sp.step rfl rfl rfl (xg_F (c := 0) (f := 6) rfl rfl rfl rfl rfl) ?_
    refine Sp.step rfl rfl rfl rfl ?_
    refine Sp.step rfl rfl rfl rfl ?_
    refine Sp.step rfl rfl rfl rfl ?_
    refine Sp.call rfl rfl rfl (xrecv (c := 2) (by decide) rfl (by decide +kernel)) s_Image_two_51 (fun x6 => ⟨_, _, ⟨rfl, rfl⟩, ?_⟩)
    refine Sp.step rfl rfl rfl rfl ?_
    refine Sp.step rfl rfl rfl (xp_I (c := 9) (f := 4) rfl rfl e4 rfl rfl) ?_
    refine Sp.step rfl rfl rfl rfl ?_
    exact Sp.iret rfl rfl rfl rfl (fun _ _ h => h)
  · refine Sp.step rfl rfl rfl rfl ?_
    refine Sp.step rfl rfl rfl rfl ?_
    exact Sp.iret rfl rfl rfl rfl (fun _ _ h => h)
def f_Memory_wordsFor (x : Int32) (y : Int32) (X : XS) : Int32 := (if x < 0 then (if ¬ x = 254 then 5 + y else 5 + (2 * y)) else (if 10 ≤ x then (if ¬ x = 254 then 5 + y else 5 + (2 * y)) else (4 + (2 * (X.1 45 x.toNatClampNeg))) + (X.1 46 x.toNatClampNeg)))
set_option maxRecDepth 100000 in
set_option maxHeartbeats 4000000 in
theorem s_Memory_wordsFor {L : Nat} {xs : Nat → Int32} {X : XS} {M : MS} {x : Int32} {y : Int32} : Sp (mjOO L xs) 198 0 [some (.ref 41), some (.int x), some (.int y)] [] (hS X M) (some (f_Memory_wordsFor x y X)) (KQ (hS X M)) := by
  unfold f_Memory_wordsFor
  refine Sp.step rfl rfl rfl rfl ?_
  refine Sp.if1V rfl rfl rfl rfl (fun e1 => ?_) (fun e1 => ?_)
  · refine Sp.step rfl rfl rfl rfl ?_
    refine Sp.step rfl rfl rfl rfl ?_
    refine Sp.step rfl rfl rfl rfl ?_
    refine Sp.if2V rfl rfl rfl rfl (fun e2 => ?_) (fun e2 => ?_)
    · refine Sp.step rfl rfl rfl rfl ?_
      refine Sp.step rfl rfl rfl rfl ?_
      exact Sp.iret rfl rfl rfl rfl (fun _ _ h => h)
    · refine Sp.step rfl rfl rfl rfl ?_
      refine Sp.step rfl rfl rfl rfl ?_
      refine Sp.step rfl rfl rfl rfl ?_
      refine Sp.step rfl rfl rfl rfl ?_
      refine Sp.step rfl rfl rfl rfl ?_
      exact Sp.iret rfl rfl rfl rfl (fun _ _ h => h)
  · refine Sp.step rfl rfl rfl rfl ?_
    refine Sp.step rfl rfl rfl rfl ?_
    refine Sp.if2V rfl rfl rfl rfl (fun e3 => ?_) (fun e3 => ?_)
    · refine Sp.step rfl rfl rfl rfl ?_
      refine Sp.step rfl rfl rfl rfl ?_
      refine Sp.step rfl rfl rfl rfl ?_
      refine Sp.if2V rfl rfl rfl rfl (fun e4 => ?_) (fun e4 => ?_)
      · refine Sp.step rfl rfl rfl rfl ?_
        refine Sp.step rfl rfl rfl rfl ?_
        exact Sp.iret rfl rfl rfl rfl (fun _ _ h => h)
      · refine Sp.step rfl rfl rfl rfl ?_
        refine Sp.step rfl rfl rfl rfl ?_
        refine Sp.step rfl rfl rfl rfl ?_
        refine Sp.step rfl rfl rfl rfl ?_
        refine Sp.step rfl rfl rfl rfl ?_
        exact Sp.iret rfl rfl rfl rfl (fun _ _ h => h)
    · refine Sp.step rfl rfl rfl rfl ?_
      refine Sp.step rfl rfl rfl rfl ?_
      refine Sp.step rfl rfl rfl rfl ?_
      refine Sp.step rfl rfl rfl (xg_F (c := 4) (f := 4) rfl rfl rfl rfl rfl) ?_
      refine Sp.step rfl rfl rfl rfl ?_
      refine Sp.step rfl rfl rfl (xld rfl (by decide) (ix_ok (N := 10) (n := 10) rfl (Int32.not_lt.mp e1) (Int32.not_le.mp e3))) ?_
      refine Sp.step rfl rfl rfl rfl ?_
      refine Sp.step rfl rfl rfl rfl ?_
      refine Sp.step rfl rfl rfl rfl ?_
      refine Sp.step rfl rfl rfl (xg_F (c := 4) (f := 5) rfl rfl rfl rfl rfl) ?_
      refine Sp.step rfl rfl rfl rfl ?_
      refine Sp.step rfl rfl rfl (xld rfl (by decide) (ix_ok (N := 10) (n := 10) rfl (Int32.not_lt.mp e1) (Int32.not_le.mp e3))) ?_
      refine Sp.step rfl rfl rfl rfl ?_
      exact Sp.iret rfl rfl rfl rfl (fun _ _ h => h)
def f_Memory_bytesFor (x : Int32) (y : Int32) (X : XS) : Int32 := 2 * (f_Memory_wordsFor x y X)
set_option maxRecDepth 100000 in
set_option maxHeartbeats 4000000 in
theorem s_Memory_bytesFor {L : Nat} {xs : Nat → Int32} {X : XS} {M : MS} {x : Int32} {y : Int32} : Sp (mjOO L xs) 197 0 [some (.ref 41), some (.int x), some (.int y)] [] (hS X M) (some (f_Memory_bytesFor x y X)) (KQ (hS X M)) := by
  unfold f_Memory_bytesFor
  refine Sp.step rfl rfl rfl rfl ?_
  refine Sp.step rfl rfl rfl rfl ?_
  refine Sp.step rfl rfl rfl rfl ?_
  refine Sp.step rfl rfl rfl rfl ?_
  refine Sp.callS rfl rfl rfl (xrecv (c := 4) (by decide) rfl (by decide +kernel)) s_Memory_wordsFor ⟨rfl, rfl⟩ ?_
  refine Sp.step rfl rfl rfl rfl ?_
  exact Sp.iret rfl rfl rfl rfl (fun _ _ h => h)
def f_Memory_used (X : XS) : Int32 := 2 * ((X.1 41 7) - 1)
set_option maxRecDepth 100000 in
set_option maxHeartbeats 4000000 in
theorem s_Memory_used {L : Nat} {xs : Nat → Int32} {X : XS} {M : MS} : Sp (mjOO L xs) 196 0 [some (.ref 41)] [] (hS X M) (some (f_Memory_used X)) (KQ (hS X M)) := by
  unfold f_Memory_used
  refine Sp.step rfl rfl rfl rfl ?_
  refine Sp.step rfl rfl rfl rfl ?_
  refine Sp.step rfl rfl rfl (xg_I (c := 4) (f := 7) rfl rfl rfl rfl) ?_
  refine Sp.step rfl rfl rfl rfl ?_
  refine Sp.step rfl rfl rfl rfl ?_
  refine Sp.step rfl rfl rfl rfl ?_
  exact Sp.iret rfl rfl rfl rfl (fun _ _ h => h)
def f_Memory_hasRoomFor (x : Int32) (X : XS) : Bool := (if X.1 41 8 < (f_Memory_used X) + x then false else true)
set_option maxRecDepth 100000 in
set_option maxHeartbeats 4000000 in
theorem s_Memory_hasRoomFor {L : Nat} {xs : Nat → Int32} {X : XS} {M : MS} {x : Int32} : Sp (mjOO L xs) 199 0 [some (.ref 41), some (.int x)] [] (hS X M) (some (f_Memory_hasRoomFor x X)) (KB (hS X M)) := by
  unfold f_Memory_hasRoomFor
  refine Sp.step rfl rfl rfl rfl ?_
  refine Sp.callS rfl rfl rfl (xrecv (c := 4) (by decide) rfl (by decide +kernel)) s_Memory_used ⟨rfl, rfl⟩ ?_
  refine Sp.step rfl rfl rfl rfl ?_
  refine Sp.step rfl rfl rfl rfl ?_
  refine Sp.step rfl rfl rfl rfl ?_
  refine Sp.step rfl rfl rfl (xg_I (c := 4) (f := 8) rfl rfl rfl rfl) ?_
  refine Sp.if2V rfl rfl rfl rfl (fun e1 => ?_) (fun e1 => ?_)
  · refine Sp.step rfl rfl rfl rfl ?_
    exact Sp.iret rfl rfl rfl rfl (fun _ _ h => h)
  · refine Sp.step rfl rfl rfl rfl ?_
    refine Sp.step rfl rfl rfl rfl ?_
    exact Sp.iret rfl rfl rfl rfl (fun _ _ h => h)
def f_Memory_setWord (x : Int32) (y : Int32) (X : XS) : Option XS := (if x < 1 then some X else (ocz (X.2.1 41 1) none (fun a2 => (ocz (xL X 0 a2) none (fun n4 => (if Int32.ofNat n4 ≤ x then some X else (ocz (X.2.1 41 1) none (fun a7 => (ocz (xL X 2 a7) none (fun n9 => (if ixo x n9 then (lt (xw X a7 x.toNatClampNeg (vp_nar .char (((y : Int32).toUInt32 % 65536).toInt32))) fun X12 => some X12) else none)))))))))))
set_option maxRecDepth 100000 in
set_option maxHeartbeats 4000000 in
theorem s_Memory_setWord {L : Nat} {xs : Nat → Int32} {X : XS} {M : MS} {x : Int32} {y : Int32} : Sp (mjOO L xs) 202 0 [some (.ref 41), some (.int x), some (.int y)] [] (hS X M) (f_Memory_setWord x y X) (KVX M) := by
  unfold f_Memory_setWord
  refine Sp.step rfl rfl rfl rfl ?_
  refine Sp.step rfl rfl rfl rfl ?_
  refine Sp.if2 rfl rfl rfl rfl (fun e1 => ?_) (fun e1 => ?_)
  · exact Sp.vret rfl rfl rfl (fun _ _ h => h)
  · refine Sp.step rfl rfl rfl rfl ?_
    refine Sp.step rfl rfl rfl rfl ?_
    refine Sp.step rfl rfl rfl (xg_D (c := 4) (f := 1) rfl rfl rfl rfl rfl) ?_
    refine Sp.ocrn (fun a2 e3 => ?_)
    refine Sp.ocn (fun n4 e5 => ?_)
    refine Sp.step rfl rfl rfl (xlen (xL_ok e5) (by decide)) ?_
    refine Sp.if2 rfl rfl rfl rfl (fun e6 => ?_) (fun e6 => ?_)
    · exact Sp.vret rfl rfl rfl (fun _ _ h => h)
    · refine Sp.step rfl rfl rfl rfl ?_
      refine Sp.step rfl rfl rfl (xg_D (c := 4) (f := 1) rfl rfl rfl rfl rfl) ?_
      refine Sp.ocrn (fun a7 e8 => ?_)
      refine Sp.step rfl rfl rfl rfl ?_
      refine Sp.step rfl rfl rfl rfl ?_
      refine Sp.step rfl rfl rfl rfl ?_
      refine Sp.ocn (fun n9 e10 => ?_)
      refine Sp.guard (fun e11 => ?_)
      refine Sp.step rfl rfl rfl (xst (xL_ok e10) (by decide) e11) ?_
      exact Sp.vret rfl rfl rfl (fun _ _ h => h)
def b38_Memory_place (x : Int32) (y : Int32) (X : XS) (x15 : (Int32 × XS)) : Option ((Int32 × XS) ⊕ (Int32 × XS)) := (if (X.1 41 7) + (f_Memory_wordsFor x y X) ≤ x15.1 then some (.inr (x15.1, x15.2)) else (ocz (x15.2.2.1 41 1) none (fun a17 => (ocz (xL x15.2 2 a17) none (fun n19 => (if ixo x15.1 n19 then (lt (xw x15.2 a17 x15.1.toNatClampNeg (vp_nar .char 0)) fun X22 => some (.inl (x15.1 + 1, X22))) else none))))))
def f_Memory_place (x : Int32) (y : Int32) (X : XS) : Option (Int32 × XS) := (if f_Memory_wordsFor x y X < 4 then some (0, X) else (ocz (X.2.1 41 1) none (fun a2 => (ocz (xL X 0 a2) none (fun n4 => (if (X.1 41 7) + (f_Memory_wordsFor x y X) ≤ Int32.ofNat n4 then ((lp (b38_Memory_place x y X) 10000 (X.1 41 7, X)).bind fun x23 => (ocz (x23.2.2.1 41 1) none (fun a24 => (ocz (xL x23.2 2 a24) none (fun n26 => (if ixo (X.1 41 7) n26 then (lt (xw x23.2 a24 (X.1 41 7).toNatClampNeg (vp_nar .char (((x : Int32).toUInt32 % 65536).toInt32))) fun X29 => (if x = 254 then ((f_Memory_setWord ((X.1 41 7) + 4) y X29).bind fun x31 => (lt (xw x31 41 7 ((x31.1 41 7) + (f_Memory_wordsFor x y X))) fun X32 => some (X.1 41 7, X32))) else (if ¬ x = 255 then (lt (xw X29 41 7 ((X29.1 41 7) + (f_Memory_wordsFor x y X))) fun X34 => some (X.1 41 7, X34)) else ((f_Memory_setWord ((X.1 41 7) + 4) y X29).bind fun x35 => (lt (xw x35 41 7 ((x35.1 41 7) + (f_Memory_wordsFor x y X))) fun X36 => some (X.1 41 7, X36)))))) else none)))))) else some (0, X)))))))
set_option maxRecDepth 100000 in
set_option maxHeartbeats 4000000 in
theorem s_Memory_place {L : Nat} {xs : Nat → Int32} {X : XS} {M : MS} {x : Int32} {y : Int32} : Sp (mjOO L xs) 200 0 [some (.ref 41), some (.int x), some (.int y), none, none, none] [] (hS X M) (f_Memory_place x y X) (KEX M) := by
  unfold f_Memory_place
  refine Sp.step rfl rfl rfl rfl ?_
  refine Sp.step rfl rfl rfl rfl ?_
  refine Sp.step rfl rfl rfl rfl ?_
  refine Sp.callS rfl rfl rfl (xrecv (c := 4) (by decide) rfl (by decide +kernel)) s_Memory_wordsFor ⟨rfl, rfl⟩ ?_
  refine Sp.step rfl rfl rfl rfl ?_
  refine Sp.step rfl rfl rfl rfl ?_
  refine Sp.step rfl rfl rfl rfl ?_
  refine Sp.if2 rfl rfl rfl rfl (fun e1 => ?_) (fun e1 => ?_)
  · refine Sp.step rfl rfl rfl rfl ?_
    exact Sp.iret rfl rfl rfl rfl (fun _ _ h => h)
  · refine Sp.step rfl rfl rfl rfl ?_
    refine Sp.step rfl rfl rfl (xg_I (c := 4) (f := 7) rfl rfl rfl rfl) ?_
    refine Sp.step rfl rfl rfl rfl ?_
    refine Sp.step rfl rfl rfl rfl ?_
    refine Sp.step rfl rfl rfl rfl ?_
    refine Sp.step rfl rfl rfl (xg_D (c := 4) (f := 1) rfl rfl rfl rfl rfl) ?_
    refine Sp.ocrn (fun a2 e3 => ?_)
    refine Sp.ocn (fun n4 e5 => ?_)
    refine Sp.step rfl rfl rfl (xlen (xL_ok e5) (by decide)) ?_
    refine Sp.if2 rfl rfl rfl rfl (fun e6 => ?_) (fun e6 => ?_)
    · refine Sp.step rfl rfl rfl rfl ?_
      refine Sp.step rfl rfl rfl (xg_I (c := 4) (f := 7) rfl rfl rfl rfl) ?_
      refine Sp.step rfl rfl rfl rfl ?_
      refine Sp.step rfl rfl rfl rfl ?_
      refine Sp.step rfl rfl rfl rfl ?_
      refine Sp.weak (l0 := [some (.ref 41), some (.int x), some (.int y), some (.int (f_Memory_wordsFor x y X)), some (.int (X.1 41 7)), some (.int (X.1 41 7))]) ⟨rfl, rfl, rfl, rfl, rfl, rfl, trivial⟩ ?_
      refine Sp.loopX (pe := 61) (mf := (fun (x15 : (Int32 × XS)) => [some (.ref 41), some (.int x), some (.int y), some (.int (f_Memory_wordsFor x y X)), some (.int (X.1 41 7)), some (.int x15.1)])) (hf := (fun (x15 : (Int32 × XS)) => hS x15.2 M)) (fun x15 => ?_) (fun x23 => ?_) _ _
      · unfold b38_Memory_place
        refine Sp.step rfl rfl rfl rfl ?_
        refine Sp.step rfl rfl rfl rfl ?_
        refine Sp.step rfl rfl rfl rfl ?_
        refine Sp.step rfl rfl rfl rfl ?_
        refine Sp.if2 rfl rfl rfl rfl (fun e16 => ?_) (fun e16 => ?_)
        · exact Sp.jmp (l0 := [some (.ref 41), some (.int x), some (.int y), some (.int (f_Memory_wordsFor x y X)), some (.int (X.1 41 7)), some (.int x15.1)]) ⟨rfl, rfl, rfl, rfl, rfl, rfl, trivial⟩ (fun _ _ h => h)
        · refine Sp.step rfl rfl rfl rfl ?_
          refine Sp.step rfl rfl rfl (xg_D (c := 4) (f := 1) rfl rfl rfl rfl rfl) ?_
          refine Sp.ocrn (fun a17 e18 => ?_)
          refine Sp.step rfl rfl rfl rfl ?_
          refine Sp.step rfl rfl rfl rfl ?_
          refine Sp.ocn (fun n19 e20 => ?_)
          refine Sp.guard (fun e21 => ?_)
          refine Sp.step rfl rfl rfl (xst (xL_ok e20) (by decide) e21) ?_
          refine Sp.step rfl rfl rfl rfl ?_
          refine Sp.step rfl rfl rfl rfl ?_
          exact Sp.jmp (l0 := [some (.ref 41), some (.int x), some (.int y), some (.int (f_Memory_wordsFor x y X)), some (.int (X.1 41 7)), some (.int (x15.1 + 1))]) ⟨rfl, rfl, rfl, rfl, rfl, rfl, trivial⟩ (fun _ _ h => h)
      · refine Sp.step rfl rfl rfl rfl ?_
        refine Sp.step rfl rfl rfl (xg_D (c := 4) (f := 1) rfl rfl rfl rfl rfl) ?_
        refine Sp.ocrn (fun a24 e25 => ?_)
        refine Sp.step rfl rfl rfl rfl ?_
        refine Sp.step rfl rfl rfl rfl ?_
        refine Sp.step rfl rfl rfl rfl ?_
        refine Sp.ocn (fun n26 e27 => ?_)
        refine Sp.guard (fun e28 => ?_)
        refine Sp.step rfl rfl rfl (xst (xL_ok e27) (by decide) e28) ?_
        refine Sp.step rfl rfl rfl rfl ?_
        refine Sp.step rfl rfl rfl rfl ?_
        refine Sp.if2 rfl rfl rfl rfl (fun e30 => ?_) (fun e30 => ?_)
        · refine Sp.step rfl rfl rfl rfl ?_
          refine Sp.step rfl rfl rfl rfl ?_
          refine Sp.step rfl rfl rfl rfl ?_
          refine Sp.step rfl rfl rfl rfl ?_
          refine Sp.step rfl rfl rfl rfl ?_
          refine Sp.call rfl rfl rfl (xrecv (c := 4) (by decide) rfl (by decide +kernel)) s_Memory_setWord (fun x31 => ⟨_, _, ⟨rfl, rfl⟩, ?_⟩)
          refine Sp.step rfl rfl rfl rfl ?_
          refine Sp.step rfl rfl rfl rfl ?_
          refine Sp.step rfl rfl rfl (xg_I (c := 4) (f := 7) rfl rfl rfl rfl) ?_
          refine Sp.step rfl rfl rfl rfl ?_
          refine Sp.step rfl rfl rfl rfl ?_
          refine Sp.step rfl rfl rfl (xp_I (c := 4) (f := 7) rfl rfl rfl rfl rfl) ?_
          refine Sp.step rfl rfl rfl rfl ?_
          exact Sp.iret rfl rfl rfl rfl (fun _ _ h => h)
        · refine Sp.step rfl rfl rfl rfl ?_
          refine Sp.step rfl rfl rfl rfl ?_
          refine Sp.if2 rfl rfl rfl rfl (fun e33 => ?_) (fun e33 => ?_)
          · refine Sp.step rfl rfl rfl rfl ?_
            refine Sp.step rfl rfl rfl rfl ?_
            refine Sp.step rfl rfl rfl (xg_I (c := 4) (f := 7) rfl rfl rfl rfl) ?_
            refine Sp.step rfl rfl rfl rfl ?_
            refine Sp.step rfl rfl rfl rfl ?_
            refine Sp.step rfl rfl rfl (xp_I (c := 4) (f := 7) rfl rfl rfl rfl rfl) ?_
            refine Sp.step rfl rfl rfl rfl ?_
            exact Sp.iret rfl rfl rfl rfl (fun _ _ h => h)
          · refine Sp.step rfl rfl rfl rfl ?_
            refine Sp.step rfl rfl rfl rfl ?_
            refine Sp.step rfl rfl rfl rfl ?_
            refine Sp.step rfl rfl rfl rfl ?_
            refine Sp.step rfl rfl rfl rfl ?_
            refine Sp.call rfl rfl rfl (xrecv (c := 4) (by decide) rfl (by decide +kernel)) s_Memory_setWord (fun x35 => ⟨_, _, ⟨rfl, rfl⟩, ?_⟩)
            refine Sp.step rfl rfl rfl rfl ?_
            refine Sp.step rfl rfl rfl rfl ?_
            refine Sp.step rfl rfl rfl (xg_I (c := 4) (f := 7) rfl rfl rfl rfl) ?_
            refine Sp.step rfl rfl rfl rfl ?_
            refine Sp.step rfl rfl rfl rfl ?_
            refine Sp.step rfl rfl rfl (xp_I (c := 4) (f := 7) rfl rfl rfl rfl rfl) ?_
            refine Sp.step rfl rfl rfl rfl ?_
            exact Sp.iret rfl rfl rfl rfl (fun _ _ h => h)
    · refine Sp.step rfl rfl rfl rfl ?_
      exact Sp.iret rfl rfl rfl rfl (fun _ _ h => h)
def f_Strand_pushMarked (x : Nat) (y : Int32) (z : Int32) (X : XS) : Option XS := (if (xT X x = some (14, 0)) then (if X.1 x 8 < 0 then some X else (if 10 ≤ X.1 x 8 then some X else (if 440 ≤ (X.1 x 7) + (X.1 x 8) then some X else (ocz (X.2.1 x 5) none (fun a5 => (ocz (xL X 0 a5) none (fun n7 => (if ixo ((X.1 x 7) + (X.1 x 8)) n7 then (lt (xw X a5 ((X.1 x 7) + (X.1 x 8)).toNatClampNeg y) fun X10 => (ocz (X10.2.1 x 6) none (fun a11 => (ocz (xL X10 0 a11) none (fun n13 => (if ixo ((X.1 x 7) + (X.1 x 8)) n13 then (lt (xw X10 a11 ((X.1 x 7) + (X.1 x 8)).toNatClampNeg z) fun X16 => (lt (xw X16 x 8 ((X16.1 x 8) + 1)) fun X17 => some X17)) else none)))))) else none)))))))) else none)
set_option maxRecDepth 100000 in
set_option maxHeartbeats 4000000 in
theorem s_Strand_pushMarked {L : Nat} {xs : Nat → Int32} {X : XS} {M : MS} {x : Nat} {y : Int32} {z : Int32} : Sp (mjOO L xs) 294 0 [some (.ref x), some (.int y), some (.int z), none] [] (hS X M) (f_Strand_pushMarked x y z X) (KVX M) := by
  unfold f_Strand_pushMarked
  refine Sp.step rfl rfl rfl rfl ?_
  refine Sp.guard (fun e1 => ?_)
  refine Sp.step rfl rfl rfl (xg_I (c := 9) (f := 7) rfl rfl e1 rfl) ?_
  refine Sp.step rfl rfl rfl rfl ?_
  refine Sp.step rfl rfl rfl (xg_I (c := 9) (f := 8) rfl rfl e1 rfl) ?_
  refine Sp.step rfl rfl rfl rfl ?_
  refine Sp.step rfl rfl rfl rfl ?_
  refine Sp.step rfl rfl rfl rfl ?_
  refine Sp.step rfl rfl rfl (xg_I (c := 9) (f := 8) rfl rfl e1 rfl) ?_
  refine Sp.if1 rfl rfl rfl rfl (fun e2 => ?_) (fun e2 => ?_)
  · exact Sp.vret rfl rfl rfl (fun _ _ h => h)
  · refine Sp.step rfl rfl rfl rfl ?_
    refine Sp.step rfl rfl rfl (xg_I (c := 9) (f := 8) rfl rfl e1 rfl) ?_
    refine Sp.step rfl rfl rfl rfl ?_
    refine Sp.if2 rfl rfl rfl rfl (fun e3 => ?_) (fun e3 => ?_)
    · exact Sp.vret rfl rfl rfl (fun _ _ h => h)
    · refine Sp.step rfl rfl rfl rfl ?_
      refine Sp.step rfl rfl rfl rfl ?_
      refine Sp.if2 rfl rfl rfl rfl (fun e4 => ?_) (fun e4 => ?_)
      · exact Sp.vret rfl rfl rfl (fun _ _ h => h)
      · refine Sp.step rfl rfl rfl rfl ?_
        refine Sp.step rfl rfl rfl (xg_D (c := 9) (f := 5) rfl rfl e1 rfl (fxP_big (dyn_of (c := 9) e1 rfl))) ?_
        refine Sp.ocrn (fun a5 e6 => ?_)
        refine Sp.step rfl rfl rfl rfl ?_
        refine Sp.step rfl rfl rfl rfl ?_
        refine Sp.ocn (fun n7 e8 => ?_)
        refine Sp.guard (fun e9 => ?_)
        refine Sp.step rfl rfl rfl (xst (xL_ok e8) (by decide) e9) ?_
        refine Sp.step rfl rfl rfl rfl ?_
        refine Sp.step rfl rfl rfl (xg_D (c := 9) (f := 6) rfl rfl e1 rfl (fxP_big (dyn_of (c := 9) e1 rfl))) ?_
        refine Sp.ocrn (fun a11 e12 => ?_)
        refine Sp.step rfl rfl rfl rfl ?_
        refine Sp.step rfl rfl rfl rfl ?_
        refine Sp.ocn (fun n13 e14 => ?_)
        refine Sp.guard (fun e15 => ?_)
        refine Sp.step rfl rfl rfl (xst (xL_ok e14) (by decide) e15) ?_
        refine Sp.step rfl rfl rfl rfl ?_
        refine Sp.step rfl rfl rfl rfl ?_
        refine Sp.step rfl rfl rfl (xg_I (c := 9) (f := 8) rfl rfl e1 rfl) ?_
        refine Sp.step rfl rfl rfl rfl ?_
        refine Sp.step rfl rfl rfl rfl ?_
        refine Sp.step rfl rfl rfl (xp_I (c := 9) (f := 8) rfl rfl e1 rfl rfl) ?_
        exact Sp.vret rfl rfl rfl (fun _ _ h => h)
def f_Strand_pushRef (x : Nat) (y : Int32) (X : XS) : Option XS := (if (xT X x = some (14, 0)) then ((f_Strand_pushMarked x y 1 X).bind fun x2 => some x2) else none)
set_option maxRecDepth 100000 in
set_option maxHeartbeats 4000000 in
theorem s_Strand_pushRef {L : Nat} {xs : Nat → Int32} {X : XS} {M : MS} {x : Nat} {y : Int32} : Sp (mjOO L xs) 293 0 [some (.ref x), some (.int y)] [] (hS X M) (f_Strand_pushRef x y X) (KVX M) := by
  unfold f_Strand_pushRef
  refine Sp.step rfl rfl rfl rfl ?_
  refine Sp.step rfl rfl rfl rfl ?_
  refine Sp.step rfl rfl rfl rfl ?_
  refine Sp.guard (fun e1 => ?_)
  refine Sp.call rfl rfl rfl (xrecv (c := 9) (by decide) e1 (by decide +kernel)) s_Strand_pushMarked (fun x2 => ⟨_, _, ⟨rfl, rfl⟩, ?_⟩)
  exact Sp.vret rfl rfl rfl (fun _ _ h => h)
def f_Memory_beginMarking (X : XS) : Option XS := (lt (xw X 41 6 0) fun X1 => some X1)
set_option maxRecDepth 100000 in
set_option maxHeartbeats 4000000 in
theorem s_Memory_beginMarking {L : Nat} {xs : Nat → Int32} {X : XS} {M : MS} : Sp (mjOO L xs) 222 0 [some (.ref 41)] [] (hS X M) (f_Memory_beginMarking X) (KVX M) := by
  unfold f_Memory_beginMarking
  refine Sp.step rfl rfl rfl rfl ?_
  refine Sp.step rfl rfl rfl rfl ?_
  refine Sp.step rfl rfl rfl (xp_I (c := 4) (f := 6) rfl rfl rfl rfl rfl) ?_
  exact Sp.vret rfl rfl rfl (fun _ _ h => h)
def f_Memory_mark (x : Int32) (X : XS) : Option XS := (if x < 1 then some X else (if X.1 41 7 < x + 4 then some X else ((f_Memory_word (x + 3) X).bind fun x3 => (if ¬ x3 = 0 then some X else (ocz (X.2.1 41 2) none (fun a5 => (ocz (xL X 0 a5) none (fun n7 => (if X.1 41 6 < Int32.ofNat n7 then ((f_Memory_setWord (x + 3) 1 X).bind fun x10 => (ocz (x10.2.1 41 2) none (fun a11 => (ocz (xL x10 0 a11) none (fun n13 => (if ixo (x10.1 41 6) n13 then (lt (xw x10 a11 (x10.1 41 6).toNatClampNeg x) fun X16 => (lt (xw X16 41 6 ((X16.1 41 6) + 1)) fun X17 => some X17)) else none)))))) else some X)))))))))
set_option maxRecDepth 100000 in
set_option maxHeartbeats 4000000 in
theorem s_Memory_mark {L : Nat} {xs : Nat → Int32} {X : XS} {M : MS} {x : Int32} : Sp (mjOO L xs) 224 0 [some (.ref 41), some (.int x)] [] (hS X M) (f_Memory_mark x X) (KVX M) := by
  unfold f_Memory_mark
  refine Sp.step rfl rfl rfl rfl ?_
  refine Sp.step rfl rfl rfl rfl ?_
  refine Sp.if2 rfl rfl rfl rfl (fun e1 => ?_) (fun e1 => ?_)
  · exact Sp.vret rfl rfl rfl (fun _ _ h => h)
  · refine Sp.step rfl rfl rfl rfl ?_
    refine Sp.step rfl rfl rfl rfl ?_
    refine Sp.step rfl rfl rfl rfl ?_
    refine Sp.step rfl rfl rfl rfl ?_
    refine Sp.step rfl rfl rfl (xg_I (c := 4) (f := 7) rfl rfl rfl rfl) ?_
    refine Sp.if2 rfl rfl rfl rfl (fun e2 => ?_) (fun e2 => ?_)
    · exact Sp.vret rfl rfl rfl (fun _ _ h => h)
    · refine Sp.step rfl rfl rfl rfl ?_
      refine Sp.step rfl rfl rfl rfl ?_
      refine Sp.step rfl rfl rfl rfl ?_
      refine Sp.step rfl rfl rfl rfl ?_
      refine Sp.call rfl rfl rfl (xrecv (c := 4) (by decide) rfl (by decide +kernel)) s_Memory_word (fun x3 => ⟨_, _, ⟨rfl, rfl⟩, ?_⟩)
      refine Sp.if1 rfl rfl rfl rfl (fun e4 => ?_) (fun e4 => ?_)
      · exact Sp.vret rfl rfl rfl (fun _ _ h => h)
      · refine Sp.step rfl rfl rfl rfl ?_
        refine Sp.step rfl rfl rfl (xg_I (c := 4) (f := 6) rfl rfl rfl rfl) ?_
        refine Sp.step rfl rfl rfl rfl ?_
        refine Sp.step rfl rfl rfl (xg_D (c := 4) (f := 2) rfl rfl rfl rfl rfl) ?_
        refine Sp.ocrn (fun a5 e6 => ?_)
        refine Sp.ocn (fun n7 e8 => ?_)
        refine Sp.step rfl rfl rfl (xlen (xL_ok e8) (by decide)) ?_
        refine Sp.if2 rfl rfl rfl rfl (fun e9 => ?_) (fun e9 => ?_)
        · refine Sp.step rfl rfl rfl rfl ?_
          refine Sp.step rfl rfl rfl rfl ?_
          refine Sp.step rfl rfl rfl rfl ?_
          refine Sp.step rfl rfl rfl rfl ?_
          refine Sp.step rfl rfl rfl rfl ?_
          refine Sp.call rfl rfl rfl (xrecv (c := 4) (by decide) rfl (by decide +kernel)) s_Memory_setWord (fun x10 => ⟨_, _, ⟨rfl, rfl⟩, ?_⟩)
          refine Sp.step rfl rfl rfl rfl ?_
          refine Sp.step rfl rfl rfl (xg_D (c := 4) (f := 2) rfl rfl rfl rfl rfl) ?_
          refine Sp.ocrn (fun a11 e12 => ?_)
          refine Sp.step rfl rfl rfl rfl ?_
          refine Sp.step rfl rfl rfl (xg_I (c := 4) (f := 6) rfl rfl rfl rfl) ?_
          refine Sp.step rfl rfl rfl rfl ?_
          refine Sp.ocn (fun n13 e14 => ?_)
          refine Sp.guard (fun e15 => ?_)
          refine Sp.step rfl rfl rfl (xst (xL_ok e14) (by decide) e15) ?_
          refine Sp.step rfl rfl rfl rfl ?_
          refine Sp.step rfl rfl rfl rfl ?_
          refine Sp.step rfl rfl rfl (xg_I (c := 4) (f := 6) rfl rfl rfl rfl) ?_
          refine Sp.step rfl rfl rfl rfl ?_
          refine Sp.step rfl rfl rfl rfl ?_
          refine Sp.step rfl rfl rfl (xp_I (c := 4) (f := 6) rfl rfl rfl rfl rfl) ?_
          exact Sp.vret rfl rfl rfl (fun _ _ h => h)
        · exact Sp.vret rfl rfl rfl (fun _ _ h => h)
def b3_Memory_markRow_57_58 (x : Int32) (x8 : (Int32 × XS)) : Option ((Int32 × XS) ⊕ (Int32 × XS)) := (if x ≤ x8.1 then some (.inr (x8.1, x8.2)) else (if 8 ≤ x8.1 then some (.inr (x8.1, x8.2)) else (if 8 ≤ x8.1 then some (.inr (x8.1, x8.2)) else (if ixo x8.1 8 then (if x8.2.1 58 x8.1.toNatClampNeg = 0 then some (.inl (x8.1 + 1, x8.2)) else ((f_Memory_mark (x8.2.1 57 x8.1.toNatClampNeg) x8.2).bind fun x14 => some (.inl (x8.1 + 1, x14)))) else none))))
def f_Memory_markRow_57_58 (x : Int32) (X : XS) : Option XS := ((lp (b3_Memory_markRow_57_58 x) 10000 ((0 : Int32), X)).bind fun x15 => some x15.2)
set_option maxRecDepth 100000 in
set_option maxHeartbeats 4000000 in
theorem s_Memory_markRow_57_58 {L : Nat} {xs : Nat → Int32} {X : XS} {M : MS} {x : Int32} : Sp (mjOO L xs) 223 0 [some (.ref 41), some (.ref 57), some (.ref 58), some (.int x), none] [] (hS X M) (f_Memory_markRow_57_58 x X) (KVX M) := by
  unfold f_Memory_markRow_57_58
  refine Sp.step rfl rfl rfl rfl ?_
  refine Sp.step rfl rfl rfl rfl ?_
  refine Sp.weak (l0 := [some (.ref 41), some (.ref 57), some (.ref 58), some (.int x), some (.int 0)]) ⟨rfl, rfl, rfl, rfl, rfl, trivial⟩ ?_
  refine Sp.loopX (pe := 44) (mf := (fun (x8 : (Int32 × XS)) => [some (.ref 41), some (.ref 57), some (.ref 58), some (.int x), some (.int x8.1)])) (hf := (fun (x8 : (Int32 × XS)) => hS x8.2 M)) (fun x8 => ?_) (fun x15 => ?_) _ _
  · unfold b3_Memory_markRow_57_58
    refine Sp.step rfl rfl rfl rfl ?_
    refine Sp.step rfl rfl rfl rfl ?_
    refine Sp.if2 rfl rfl rfl rfl (fun e9 => ?_) (fun e9 => ?_)
    · exact Sp.jmp (l0 := [some (.ref 41), some (.ref 57), some (.ref 58), some (.int x), some (.int x8.1)]) ⟨rfl, rfl, rfl, rfl, rfl, trivial⟩ (fun _ _ h => h)
    · refine Sp.step rfl rfl rfl rfl ?_
      refine Sp.step rfl rfl rfl rfl ?_
      refine Sp.step rfl rfl rfl (xlen rfl (by decide)) ?_
      refine Sp.if2 rfl rfl rfl rfl (fun e10 => ?_) (fun e10 => ?_)
      · exact Sp.jmp (l0 := [some (.ref 41), some (.ref 57), some (.ref 58), some (.int x), some (.int x8.1)]) ⟨rfl, rfl, rfl, rfl, rfl, trivial⟩ (fun _ _ h => h)
      · refine Sp.step rfl rfl rfl rfl ?_
        refine Sp.step rfl rfl rfl rfl ?_
        refine Sp.step rfl rfl rfl (xlen rfl (by decide)) ?_
        refine Sp.if2 rfl rfl rfl rfl (fun e11 => ?_) (fun e11 => ?_)
        · exact Sp.jmp (l0 := [some (.ref 41), some (.ref 57), some (.ref 58), some (.int x), some (.int x8.1)]) ⟨rfl, rfl, rfl, rfl, rfl, trivial⟩ (fun _ _ h => h)
        · refine Sp.step rfl rfl rfl rfl ?_
          refine Sp.step rfl rfl rfl rfl ?_
          refine Sp.guard (fun e12 => ?_)
          refine Sp.step rfl rfl rfl (xld rfl (by decide) e12) ?_
          refine Sp.if1 rfl rfl rfl rfl (fun e13 => ?_) (fun e13 => ?_)
          · refine Sp.step rfl rfl rfl rfl ?_
            refine Sp.step rfl rfl rfl rfl ?_
            exact Sp.jmp (l0 := [some (.ref 41), some (.ref 57), some (.ref 58), some (.int x), some (.int (x8.1 + 1))]) ⟨rfl, rfl, rfl, rfl, rfl, trivial⟩ (fun _ _ h => h)
          · refine Sp.step rfl rfl rfl rfl ?_
            refine Sp.step rfl rfl rfl rfl ?_
            refine Sp.step rfl rfl rfl rfl ?_
            refine Sp.step rfl rfl rfl (xld rfl (by decide) e12) ?_
            refine Sp.call rfl rfl rfl (xrecv (c := 4) (by decide) rfl (by decide +kernel)) s_Memory_mark (fun x14 => ⟨_, _, ⟨rfl, rfl⟩, ?_⟩)
            refine Sp.step rfl rfl rfl rfl ?_
            refine Sp.step rfl rfl rfl rfl ?_
            exact Sp.jmp (l0 := [some (.ref 41), some (.ref 57), some (.ref 58), some (.int x), some (.int (x8.1 + 1))]) ⟨rfl, rfl, rfl, rfl, rfl, trivial⟩ (fun _ _ h => h)
  · exact Sp.vret rfl rfl rfl (fun _ _ h => h)
def f_Strand_slots (x : Nat) (X : XS) : Option Int32 := (if (xT X x = some (14, 0)) then some ((X.1 x 2) * 22) else none)
set_option maxRecDepth 100000 in
set_option maxHeartbeats 4000000 in
theorem s_Strand_slots {L : Nat} {xs : Nat → Int32} {X : XS} {M : MS} {x : Nat} : Sp (mjOO L xs) 283 0 [some (.ref x)] [] (hS X M) (f_Strand_slots x X) (KQ (hS X M)) := by
  unfold f_Strand_slots
  refine Sp.step rfl rfl rfl rfl ?_
  refine Sp.guard (fun e1 => ?_)
  refine Sp.step rfl rfl rfl (xg_I (c := 9) (f := 2) rfl rfl e1 rfl) ?_
  refine Sp.step rfl rfl rfl rfl ?_
  refine Sp.step rfl rfl rfl rfl ?_
  exact Sp.iret rfl rfl rfl rfl (fun _ _ h => h)
def b3_Memory_markRow (x : Nat) (y : Nat) (z : Int32) (x13 : (Int32 × XS)) : Option ((Int32 × XS) ⊕ (Int32 × XS)) := (if z ≤ x13.1 then some (.inr (x13.1, x13.2)) else (ocz (xL x13.2 0 x) none (fun n15 => (if Int32.ofNat n15 ≤ x13.1 then some (.inr (x13.1, x13.2)) else (ocz (xL x13.2 0 y) none (fun n18 => (if Int32.ofNat n18 ≤ x13.1 then some (.inr (x13.1, x13.2)) else (if ixo x13.1 n18 then (if x13.2.1 y x13.1.toNatClampNeg = 0 then some (.inl (x13.1 + 1, x13.2)) else (if ixo x13.1 n15 then ((f_Memory_mark (x13.2.1 x x13.1.toNatClampNeg) x13.2).bind fun x24 => some (.inl (x13.1 + 1, x24))) else none)) else none))))))))
def f_Memory_markRow (x : Nat) (y : Nat) (z : Int32) (X : XS) : Option XS := ((lp (b3_Memory_markRow x y z) 10000 ((0 : Int32), X)).bind fun x25 => some x25.2)
set_option maxRecDepth 100000 in
set_option maxHeartbeats 4000000 in
theorem s_Memory_markRow {L : Nat} {xs : Nat → Int32} {X : XS} {M : MS} {x : Nat} {y : Nat} {z : Int32} : Sp (mjOO L xs) 223 0 [some (.ref 41), some (.ref x), some (.ref y), some (.int z), none] [] (hS X M) (f_Memory_markRow x y z X) (KVX M) := by
  unfold f_Memory_markRow
  refine Sp.step rfl rfl rfl rfl ?_
  refine Sp.step rfl rfl rfl rfl ?_
  refine Sp.weak (l0 := [some (.ref 41), some (.ref x), some (.ref y), some (.int z), some (.int 0)]) ⟨rfl, rfl, rfl, rfl, rfl, trivial⟩ ?_
  refine Sp.loopX (pe := 44) (mf := (fun (x13 : (Int32 × XS)) => [some (.ref 41), some (.ref x), some (.ref y), some (.int z), some (.int x13.1)])) (hf := (fun (x13 : (Int32 × XS)) => hS x13.2 M)) (fun x13 => ?_) (fun x25 => ?_) _ _
  · unfold b3_Memory_markRow
    refine Sp.step rfl rfl rfl rfl ?_
    refine Sp.step rfl rfl rfl rfl ?_
    refine Sp.if2 rfl rfl rfl rfl (fun e14 => ?_) (fun e14 => ?_)
    · exact Sp.jmp (l0 := [some (.ref 41), some (.ref x), some (.ref y), some (.int z), some (.int x13.1)]) ⟨rfl, rfl, rfl, rfl, rfl, trivial⟩ (fun _ _ h => h)
    · refine Sp.step rfl rfl rfl rfl ?_
      refine Sp.step rfl rfl rfl rfl ?_
      refine Sp.ocn (fun n15 e16 => ?_)
      refine Sp.step rfl rfl rfl (xlen (xL_ok e16) (by decide)) ?_
      refine Sp.if2 rfl rfl rfl rfl (fun e17 => ?_) (fun e17 => ?_)
      · exact Sp.jmp (l0 := [some (.ref 41), some (.ref x), some (.ref y), some (.int z), some (.int x13.1)]) ⟨rfl, rfl, rfl, rfl, rfl, trivial⟩ (fun _ _ h => h)
      · refine Sp.step rfl rfl rfl rfl ?_
        refine Sp.step rfl rfl rfl rfl ?_
        refine Sp.ocn (fun n18 e19 => ?_)
        refine Sp.step rfl rfl rfl (xlen (xL_ok e19) (by decide)) ?_
        refine Sp.if2 rfl rfl rfl rfl (fun e20 => ?_) (fun e20 => ?_)
        · exact Sp.jmp (l0 := [some (.ref 41), some (.ref x), some (.ref y), some (.int z), some (.int x13.1)]) ⟨rfl, rfl, rfl, rfl, rfl, trivial⟩ (fun _ _ h => h)
        · refine Sp.step rfl rfl rfl rfl ?_
          refine Sp.step rfl rfl rfl rfl ?_
          refine Sp.guard (fun e21 => ?_)
          refine Sp.step rfl rfl rfl (xld (xL_ok e19) (by decide) e21) ?_
          refine Sp.if1 rfl rfl rfl rfl (fun e22 => ?_) (fun e22 => ?_)
          · refine Sp.step rfl rfl rfl rfl ?_
            refine Sp.step rfl rfl rfl rfl ?_
            exact Sp.jmp (l0 := [some (.ref 41), some (.ref x), some (.ref y), some (.int z), some (.int (x13.1 + 1))]) ⟨rfl, rfl, rfl, rfl, rfl, trivial⟩ (fun _ _ h => h)
          · refine Sp.step rfl rfl rfl rfl ?_
            refine Sp.step rfl rfl rfl rfl ?_
            refine Sp.step rfl rfl rfl rfl ?_
            refine Sp.guard (fun e23 => ?_)
            refine Sp.step rfl rfl rfl (xld (xL_ok e16) (by decide) e23) ?_
            refine Sp.call rfl rfl rfl (xrecv (c := 4) (by decide) rfl (by decide +kernel)) s_Memory_mark (fun x24 => ⟨_, _, ⟨rfl, rfl⟩, ?_⟩)
            refine Sp.step rfl rfl rfl rfl ?_
            refine Sp.step rfl rfl rfl rfl ?_
            exact Sp.jmp (l0 := [some (.ref 41), some (.ref x), some (.ref y), some (.int z), some (.int (x13.1 + 1))]) ⟨rfl, rfl, rfl, rfl, rfl, trivial⟩ (fun _ _ h => h)
  · exact Sp.vret rfl rfl rfl (fun _ _ h => h)
def f_Memory_firstRef (x : Int32) (X : XS) : Option Int32 := ((f_Memory_word x X).bind fun x1 => (if 0 ≤ x1 ∧ x1 ≤ 9 then some ((x + 4) + (2 * (X.1 45 x1.toNatClampNeg))) else some (x + 5)))
set_option maxRecDepth 100000 in
set_option maxHeartbeats 4000000 in
theorem s_Memory_firstRef {L : Nat} {xs : Nat → Int32} {X : XS} {M : MS} {x : Int32} : Sp (mjOO L xs) 219 0 [some (.ref 41), some (.int x), none] [] (hS X M) (f_Memory_firstRef x X) (KQ (hS X M)) := by
  unfold f_Memory_firstRef
  refine Sp.step rfl rfl rfl rfl ?_
  refine Sp.step rfl rfl rfl rfl ?_
  refine Sp.call rfl rfl rfl (xrecv (c := 4) (by decide) rfl (by decide +kernel)) s_Memory_word (fun x1 => ⟨_, _, ⟨rfl, rfl⟩, ?_⟩)
  refine Sp.step rfl rfl rfl rfl ?_
  refine Sp.step rfl rfl rfl rfl ?_
  refine Sp.step rfl rfl rfl rfl ?_
  refine Sp.step rfl rfl rfl rfl ?_
  refine Sp.callP rfl rfl rfl rfl s_within (fun e2 => ?_) (fun e2 => ?_)
  · refine Sp.step rfl rfl rfl rfl ?_
    refine Sp.step rfl rfl rfl rfl ?_
    refine Sp.step rfl rfl rfl rfl ?_
    refine Sp.step rfl rfl rfl rfl ?_
    refine Sp.step rfl rfl rfl rfl ?_
    refine Sp.step rfl rfl rfl rfl ?_
    refine Sp.step rfl rfl rfl (xg_F (c := 4) (f := 4) rfl rfl rfl rfl rfl) ?_
    refine Sp.step rfl rfl rfl rfl ?_
    refine Sp.step rfl rfl rfl (xld rfl (by decide) (ix_le (N := 9) rfl e2.1 e2.2)) ?_
    refine Sp.step rfl rfl rfl rfl ?_
    refine Sp.step rfl rfl rfl rfl ?_
    refine Sp.step rfl rfl rfl rfl ?_
    exact Sp.iret rfl rfl rfl rfl (fun _ _ h => h)
  · refine Sp.step rfl rfl rfl rfl ?_
    refine Sp.step rfl rfl rfl rfl ?_
    refine Sp.step rfl rfl rfl rfl ?_
    refine Sp.step rfl rfl rfl rfl ?_
    exact Sp.iret rfl rfl rfl rfl (fun _ _ h => h)
def f_Memory_refsIn (x : Int32) (X : XS) : Option Int32 := ((f_Memory_word x X).bind fun x1 => (if 0 ≤ x1 ∧ x1 ≤ 9 then some (X.1 46 x1.toNatClampNeg) else (if ¬ x1 = 255 then some 0 else ((f_Memory_word (x + 4) X).bind fun x6 => some x6))))
set_option maxRecDepth 100000 in
set_option maxHeartbeats 4000000 in
theorem s_Memory_refsIn {L : Nat} {xs : Nat → Int32} {X : XS} {M : MS} {x : Int32} : Sp (mjOO L xs) 220 0 [some (.ref 41), some (.int x), none] [] (hS X M) (f_Memory_refsIn x X) (KQ (hS X M)) := by
  unfold f_Memory_refsIn
  refine Sp.step rfl rfl rfl rfl ?_
  refine Sp.step rfl rfl rfl rfl ?_
  refine Sp.call rfl rfl rfl (xrecv (c := 4) (by decide) rfl (by decide +kernel)) s_Memory_word (fun x1 => ⟨_, _, ⟨rfl, rfl⟩, ?_⟩)
  refine Sp.step rfl rfl rfl rfl ?_
  refine Sp.step rfl rfl rfl rfl ?_
  refine Sp.step rfl rfl rfl rfl ?_
  refine Sp.step rfl rfl rfl rfl ?_
  refine Sp.callP rfl rfl rfl rfl s_within (fun e2 => ?_) (fun e2 => ?_)
  · refine Sp.step rfl rfl rfl rfl ?_
    refine Sp.step rfl rfl rfl rfl ?_
    refine Sp.step rfl rfl rfl (xg_F (c := 4) (f := 5) rfl rfl rfl rfl rfl) ?_
    refine Sp.step rfl rfl rfl rfl ?_
    refine Sp.step rfl rfl rfl (xld rfl (by decide) (ix_le (N := 9) rfl e2.1 e2.2)) ?_
    exact Sp.iret rfl rfl rfl rfl (fun _ _ h => h)
  · refine Sp.step rfl rfl rfl rfl ?_
    refine Sp.step rfl rfl rfl rfl ?_
    refine Sp.step rfl rfl rfl rfl ?_
    refine Sp.if2 rfl rfl rfl rfl (fun e5 => ?_) (fun e5 => ?_)
    · refine Sp.step rfl rfl rfl rfl ?_
      exact Sp.iret rfl rfl rfl rfl (fun _ _ h => h)
    · refine Sp.step rfl rfl rfl rfl ?_
      refine Sp.step rfl rfl rfl rfl ?_
      refine Sp.step rfl rfl rfl rfl ?_
      refine Sp.step rfl rfl rfl rfl ?_
      refine Sp.call rfl rfl rfl (xrecv (c := 4) (by decide) rfl (by decide +kernel)) s_Memory_word (fun x6 => ⟨_, _, ⟨rfl, rfl⟩, ?_⟩)
      refine Sp.step rfl rfl rfl rfl ?_
      exact Sp.iret rfl rfl rfl rfl (fun _ _ h => h)
def f_Memory_sizeAt (x : Int32) (X : XS) : Option Int32 := ((f_Memory_word x X).bind fun x1 => ((f_Memory_word (x + 4) X).bind fun x2 => some (f_Memory_wordsFor x1 x2 X)))
set_option maxRecDepth 100000 in
set_option maxHeartbeats 4000000 in
theorem s_Memory_sizeAt {L : Nat} {xs : Nat → Int32} {X : XS} {M : MS} {x : Int32} : Sp (mjOO L xs) 221 0 [some (.ref 41), some (.int x)] [] (hS X M) (f_Memory_sizeAt x X) (KQ (hS X M)) := by
  unfold f_Memory_sizeAt
  refine Sp.step rfl rfl rfl rfl ?_
  refine Sp.step rfl rfl rfl rfl ?_
  refine Sp.step rfl rfl rfl rfl ?_
  refine Sp.call rfl rfl rfl (xrecv (c := 4) (by decide) rfl (by decide +kernel)) s_Memory_word (fun x1 => ⟨_, _, ⟨rfl, rfl⟩, ?_⟩)
  refine Sp.step rfl rfl rfl rfl ?_
  refine Sp.step rfl rfl rfl rfl ?_
  refine Sp.step rfl rfl rfl rfl ?_
  refine Sp.step rfl rfl rfl rfl ?_
  refine Sp.call rfl rfl rfl (xrecv (c := 4) (by decide) rfl (by decide +kernel)) s_Memory_word (fun x2 => ⟨_, _, ⟨rfl, rfl⟩, ?_⟩)
  refine Sp.callS rfl rfl rfl (xrecv (c := 4) (by decide) rfl (by decide +kernel)) s_Memory_wordsFor ⟨rfl, rfl⟩ ?_
  exact Sp.iret rfl rfl rfl rfl (fun _ _ h => h)
def b44_Memory_plan (x41 : Int32) (x47 : Int32) (x52 : (Int32 × XS)) : Option ((Int32 × XS) ⊕ (Int32 × XS)) := (if x47 ≤ x52.1 then some (.inr (x52.1, x52.2)) else ((f_Memory_word (x41 + x52.1) x52.2).bind fun x54 => ((f_Memory_mark x54 x52.2).bind fun x55 => some (.inl (x52.1 + 1, x55)))))
def b2_Memory_plan (x29 : (Int32 × XS)) : Option ((Int32 × XS) ⊕ (Int32 × XS)) := (if x29.2.1 41 6 ≤ x29.1 then some (.inr (x29.1, x29.2)) else (ocz (x29.2.2.1 41 2) none (fun a31 => (ocz (xL x29.2 0 a31) none (fun n33 => (if Int32.ofNat n33 ≤ x29.1 then some (.inr (x29.1, x29.2)) else (ocz (x29.2.2.1 41 2) none (fun a36 => (ocz (xL x29.2 0 a36) none (fun n38 => (if ixo x29.1 n38 then ((f_Memory_firstRef (x29.2.1 a36 x29.1.toNatClampNeg) x29.2).bind fun x41 => (ocz (x29.2.2.1 41 2) none (fun a42 => (ocz (xL x29.2 0 a42) none (fun n44 => (if ixo x29.1 n44 then ((f_Memory_refsIn (x29.2.1 a42 x29.1.toNatClampNeg) x29.2).bind fun x47 => ((lp (b44_Memory_plan x41 x47) 10000 ((0 : Int32), x29.2)).bind fun x56 => some (.inl (x29.1 + 1, x56.2)))) else none)))))) else none)))))))))))
def b78_Memory_plan (x66 : (Int32 × Int32 × XS)) : Option ((Int32 × Int32 × XS) ⊕ (Int32 × Int32 × XS)) := (if x66.2.2.1 41 7 ≤ x66.2.1 then some (.inr (x66.1, x66.2.1, x66.2.2)) else ((f_Memory_word (x66.2.1 + 3) x66.2.2).bind fun x68 => (if x68 = 0 then ((f_Memory_sizeAt x66.2.1 x66.2.2).bind fun x70 => some (.inl (x66.1, x66.2.1 + (if 4 < x70 then x70 else 4), x66.2.2))) else ((f_Memory_setWord (x66.2.1 + 3) x66.1 x66.2.2).bind fun x71 => ((f_Memory_sizeAt x66.2.1 x71).bind fun x72 => ((f_Memory_sizeAt x66.2.1 x71).bind fun x73 => some (.inl (x66.1 + x72, x66.2.1 + (if 4 < x73 then x73 else 4), x71))))))))
def f_Memory_plan (X : XS) : Option XS := ((lp (b2_Memory_plan) 10000 ((0 : Int32), X)).bind fun x57 => ((lp (b78_Memory_plan) 10000 ((1 : Int32), (1 : Int32), x57.2)).bind fun x74 => some x74.2.2))
set_option maxRecDepth 100000 in
set_option maxHeartbeats 4000000 in
theorem s_Memory_plan {L : Nat} {xs : Nat → Int32} {X : XS} {M : MS} : Sp (mjOO L xs) 225 0 [some (.ref 41), none, none, none, none] [] (hS X M) (f_Memory_plan X) (KVX M) := by
  unfold f_Memory_plan
  refine Sp.step rfl rfl rfl rfl ?_
  refine Sp.step rfl rfl rfl rfl ?_
  refine Sp.weak (l0 := [some (.ref 41), some (.int 0), none, none, none]) ⟨rfl, rfl, trivial⟩ ?_
  refine Sp.loopX (pe := 74) (mf := (fun (x29 : (Int32 × XS)) => [some (.ref 41), some (.int x29.1), none, none, none])) (hf := (fun (x29 : (Int32 × XS)) => hS x29.2 M)) (fun x29 => ?_) (fun x57 => ?_) _ _
  · unfold b2_Memory_plan
    refine Sp.step rfl rfl rfl rfl ?_
    refine Sp.step rfl rfl rfl rfl ?_
    refine Sp.step rfl rfl rfl (xg_I (c := 4) (f := 6) rfl rfl rfl rfl) ?_
    refine Sp.if2 rfl rfl rfl rfl (fun e30 => ?_) (fun e30 => ?_)
    · exact Sp.jmp (l0 := [some (.ref 41), some (.int x29.1), none, none, none]) ⟨rfl, rfl, trivial⟩ (fun _ _ h => h)
    · refine Sp.step rfl rfl rfl rfl ?_
      refine Sp.step rfl rfl rfl rfl ?_
      refine Sp.step rfl rfl rfl (xg_D (c := 4) (f := 2) rfl rfl rfl rfl rfl) ?_
      refine Sp.ocrn (fun a31 e32 => ?_)
      refine Sp.ocn (fun n33 e34 => ?_)
      refine Sp.step rfl rfl rfl (xlen (xL_ok e34) (by decide)) ?_
      refine Sp.if2 rfl rfl rfl rfl (fun e35 => ?_) (fun e35 => ?_)
      · exact Sp.jmp (l0 := [some (.ref 41), some (.int x29.1), none, none, none]) ⟨rfl, rfl, trivial⟩ (fun _ _ h => h)
      · refine Sp.step rfl rfl rfl rfl ?_
        refine Sp.step rfl rfl rfl rfl ?_
        refine Sp.step rfl rfl rfl (xg_D (c := 4) (f := 2) rfl rfl rfl rfl rfl) ?_
        refine Sp.ocrn (fun a36 e37 => ?_)
        refine Sp.step rfl rfl rfl rfl ?_
        refine Sp.ocn (fun n38 e39 => ?_)
        refine Sp.guard (fun e40 => ?_)
        refine Sp.step rfl rfl rfl (xld (xL_ok e39) (by decide) e40) ?_
        refine Sp.call rfl rfl rfl (xrecv (c := 4) (by decide) rfl (by decide +kernel)) s_Memory_firstRef (fun x41 => ⟨_, _, ⟨rfl, rfl⟩, ?_⟩)
        refine Sp.step rfl rfl rfl rfl ?_
        refine Sp.step rfl rfl rfl rfl ?_
        refine Sp.step rfl rfl rfl rfl ?_
        refine Sp.step rfl rfl rfl (xg_D (c := 4) (f := 2) rfl rfl rfl rfl rfl) ?_
        refine Sp.ocrn (fun a42 e43 => ?_)
        refine Sp.step rfl rfl rfl rfl ?_
        refine Sp.ocn (fun n44 e45 => ?_)
        refine Sp.guard (fun e46 => ?_)
        refine Sp.step rfl rfl rfl (xld (xL_ok e45) (by decide) e46) ?_
        refine Sp.call rfl rfl rfl (xrecv (c := 4) (by decide) rfl (by decide +kernel)) s_Memory_refsIn (fun x47 => ⟨_, _, ⟨rfl, rfl⟩, ?_⟩)
        refine Sp.step rfl rfl rfl rfl ?_
        refine Sp.step rfl rfl rfl rfl ?_
        refine Sp.step rfl rfl rfl rfl ?_
        refine Sp.weak (l0 := [some (.ref 41), some (.int x29.1), some (.int x41), some (.int x47), some (.int 0)]) ⟨rfl, rfl, rfl, rfl, rfl, trivial⟩ ?_
        refine Sp.loopX (pe := 68) (mf := (fun (x52 : (Int32 × XS)) => [some (.ref 41), some (.int x29.1), some (.int x41), some (.int x47), some (.int x52.1)])) (hf := (fun (x52 : (Int32 × XS)) => hS x52.2 M)) (fun x52 => ?_) (fun x56 => ?_) _ _
        · unfold b44_Memory_plan
          refine Sp.step rfl rfl rfl rfl ?_
          refine Sp.step rfl rfl rfl rfl ?_
          refine Sp.if2 rfl rfl rfl rfl (fun e53 => ?_) (fun e53 => ?_)
          · exact Sp.jmp (l0 := [some (.ref 41), some (.int x29.1), some (.int x41), some (.int x47), some (.int x52.1)]) ⟨rfl, rfl, rfl, rfl, rfl, trivial⟩ (fun _ _ h => h)
          · refine Sp.step rfl rfl rfl rfl ?_
            refine Sp.step rfl rfl rfl rfl ?_
            refine Sp.step rfl rfl rfl rfl ?_
            refine Sp.step rfl rfl rfl rfl ?_
            refine Sp.step rfl rfl rfl rfl ?_
            refine Sp.call rfl rfl rfl (xrecv (c := 4) (by decide) rfl (by decide +kernel)) s_Memory_word (fun x54 => ⟨_, _, ⟨rfl, rfl⟩, ?_⟩)
            refine Sp.call rfl rfl rfl (xrecv (c := 4) (by decide) rfl (by decide +kernel)) s_Memory_mark (fun x55 => ⟨_, _, ⟨rfl, rfl⟩, ?_⟩)
            refine Sp.step rfl rfl rfl rfl ?_
            refine Sp.step rfl rfl rfl rfl ?_
            exact Sp.jmp (l0 := [some (.ref 41), some (.int x29.1), some (.int x41), some (.int x47), some (.int (x52.1 + 1))]) ⟨rfl, rfl, rfl, rfl, rfl, trivial⟩ (fun _ _ h => h)
        · refine Sp.step rfl rfl rfl rfl ?_
          refine Sp.step rfl rfl rfl rfl ?_
          exact Sp.jmp (l0 := [some (.ref 41), some (.int (x29.1 + 1)), none, none, none]) ⟨rfl, rfl, trivial⟩ (fun _ _ h => h)
  · refine Sp.step rfl rfl rfl rfl ?_
    refine Sp.step rfl rfl rfl rfl ?_
    refine Sp.step rfl rfl rfl rfl ?_
    refine Sp.step rfl rfl rfl rfl ?_
    refine Sp.weak (l0 := [some (.ref 41), some (.int 1), some (.int 1), none, none]) ⟨rfl, rfl, rfl, trivial⟩ ?_
    refine Sp.loopX (pe := 127) (mf := (fun (x66 : (Int32 × Int32 × XS)) => [some (.ref 41), some (.int x66.1), some (.int x66.2.1), none, none])) (hf := (fun (x66 : (Int32 × Int32 × XS)) => hS x66.2.2 M)) (fun x66 => ?_) (fun x74 => ?_) _ _
    · unfold b78_Memory_plan
      refine Sp.step rfl rfl rfl rfl ?_
      refine Sp.step rfl rfl rfl rfl ?_
      refine Sp.step rfl rfl rfl (xg_I (c := 4) (f := 7) rfl rfl rfl rfl) ?_
      refine Sp.if2 rfl rfl rfl rfl (fun e67 => ?_) (fun e67 => ?_)
      · exact Sp.jmp (l0 := [some (.ref 41), some (.int x66.1), some (.int x66.2.1), none, none]) ⟨rfl, rfl, rfl, trivial⟩ (fun _ _ h => h)
      · refine Sp.step rfl rfl rfl rfl ?_
        refine Sp.step rfl rfl rfl rfl ?_
        refine Sp.step rfl rfl rfl rfl ?_
        refine Sp.step rfl rfl rfl rfl ?_
        refine Sp.call rfl rfl rfl (xrecv (c := 4) (by decide) rfl (by decide +kernel)) s_Memory_word (fun x68 => ⟨_, _, ⟨rfl, rfl⟩, ?_⟩)
        refine Sp.if1 rfl rfl rfl rfl (fun e69 => ?_) (fun e69 => ?_)
        · refine Sp.step rfl rfl rfl rfl ?_
          refine Sp.step rfl rfl rfl rfl ?_
          refine Sp.step rfl rfl rfl rfl ?_
          refine Sp.step rfl rfl rfl rfl ?_
          refine Sp.call rfl rfl rfl (xrecv (c := 4) (by decide) rfl (by decide +kernel)) s_Memory_sizeAt (fun x70 => ⟨_, _, ⟨rfl, rfl⟩, ?_⟩)
          refine Sp.nat rfl rfl rfl rfl ⟨by decide, by decide, rfl⟩ ?_
          refine Sp.step rfl rfl rfl rfl ?_
          refine Sp.step rfl rfl rfl rfl ?_
          refine Sp.step rfl rfl rfl rfl ?_
          exact Sp.jmp (l0 := [some (.ref 41), some (.int x66.1), some (.int (x66.2.1 + (if 4 < x70 then x70 else 4))), none, none]) ⟨rfl, rfl, rfl, trivial⟩ (fun _ _ h => h)
        · refine Sp.step rfl rfl rfl rfl ?_
          refine Sp.step rfl rfl rfl rfl ?_
          refine Sp.step rfl rfl rfl rfl ?_
          refine Sp.step rfl rfl rfl rfl ?_
          refine Sp.step rfl rfl rfl rfl ?_
          refine Sp.call rfl rfl rfl (xrecv (c := 4) (by decide) rfl (by decide +kernel)) s_Memory_setWord (fun x71 => ⟨_, _, ⟨rfl, rfl⟩, ?_⟩)
          refine Sp.step rfl rfl rfl rfl ?_
          refine Sp.step rfl rfl rfl rfl ?_
          refine Sp.step rfl rfl rfl rfl ?_
          refine Sp.call rfl rfl rfl (xrecv (c := 4) (by decide) rfl (by decide +kernel)) s_Memory_sizeAt (fun x72 => ⟨_, _, ⟨rfl, rfl⟩, ?_⟩)
          refine Sp.step rfl rfl rfl rfl ?_
          refine Sp.step rfl rfl rfl rfl ?_
          refine Sp.step rfl rfl rfl rfl ?_
          refine Sp.step rfl rfl rfl rfl ?_
          refine Sp.step rfl rfl rfl rfl ?_
          refine Sp.step rfl rfl rfl rfl ?_
          refine Sp.call rfl rfl rfl (xrecv (c := 4) (by decide) rfl (by decide +kernel)) s_Memory_sizeAt (fun x73 => ⟨_, _, ⟨rfl, rfl⟩, ?_⟩)
          refine Sp.nat rfl rfl rfl rfl ⟨by decide, by decide, rfl⟩ ?_
          refine Sp.step rfl rfl rfl rfl ?_
          refine Sp.step rfl rfl rfl rfl ?_
          refine Sp.step rfl rfl rfl rfl ?_
          exact Sp.jmp (l0 := [some (.ref 41), some (.int (x66.1 + x72)), some (.int (x66.2.1 + (if 4 < x73 then x73 else 4))), none, none]) ⟨rfl, rfl, rfl, trivial⟩ (fun _ _ h => h)
    · exact Sp.vret rfl rfl rfl (fun _ _ h => h)
def f_Memory_forwarded (x : Int32) (X : XS) : Option Int32 := (if ¬ x = 0 then ((f_Memory_word (x + 3) X).bind fun x2 => some x2) else some 0)
set_option maxRecDepth 100000 in
set_option maxHeartbeats 4000000 in
theorem s_Memory_forwarded {L : Nat} {xs : Nat → Int32} {X : XS} {M : MS} {x : Int32} : Sp (mjOO L xs) 227 0 [some (.ref 41), some (.int x)] [] (hS X M) (f_Memory_forwarded x X) (KQ (hS X M)) := by
  unfold f_Memory_forwarded
  refine Sp.step rfl rfl rfl rfl ?_
  refine Sp.if1 rfl rfl rfl rfl (fun e1 => ?_) (fun e1 => ?_)
  · refine Sp.step rfl rfl rfl rfl ?_
    refine Sp.step rfl rfl rfl rfl ?_
    refine Sp.step rfl rfl rfl rfl ?_
    refine Sp.step rfl rfl rfl rfl ?_
    refine Sp.call rfl rfl rfl (xrecv (c := 4) (by decide) rfl (by decide +kernel)) s_Memory_word (fun x2 => ⟨_, _, ⟨rfl, rfl⟩, ?_⟩)
    exact Sp.iret rfl rfl rfl rfl (fun _ _ h => h)
  · refine Sp.step rfl rfl rfl rfl ?_
    refine Sp.step rfl rfl rfl rfl ?_
    exact Sp.iret rfl rfl rfl rfl (fun _ _ h => h)
def b3_Memory_forwardRow_57_58 (x : Int32) (x9 : (Int32 × XS)) : Option ((Int32 × XS) ⊕ (Int32 × XS)) := (if x ≤ x9.1 then some (.inr (x9.1, x9.2)) else (if 8 ≤ x9.1 then some (.inr (x9.1, x9.2)) else (if 8 ≤ x9.1 then some (.inr (x9.1, x9.2)) else (if ixo x9.1 8 then (if x9.2.1 58 x9.1.toNatClampNeg = 0 then some (.inl (x9.1 + 1, x9.2)) else ((f_Memory_forwarded (x9.2.1 57 x9.1.toNatClampNeg) x9.2).bind fun x15 => (lt (xw x9.2 57 x9.1.toNatClampNeg x15) fun X16 => some (.inl (x9.1 + 1, X16))))) else none))))
def f_Memory_forwardRow_57_58 (x : Int32) (X : XS) : Option XS := ((lp (b3_Memory_forwardRow_57_58 x) 10000 ((0 : Int32), X)).bind fun x17 => some x17.2)
set_option maxRecDepth 100000 in
set_option maxHeartbeats 4000000 in
theorem s_Memory_forwardRow_57_58 {L : Nat} {xs : Nat → Int32} {X : XS} {M : MS} {x : Int32} : Sp (mjOO L xs) 226 0 [some (.ref 41), some (.ref 57), some (.ref 58), some (.int x), none] [] (hS X M) (f_Memory_forwardRow_57_58 x X) (KVX M) := by
  unfold f_Memory_forwardRow_57_58
  refine Sp.step rfl rfl rfl rfl ?_
  refine Sp.step rfl rfl rfl rfl ?_
  refine Sp.weak (l0 := [some (.ref 41), some (.ref 57), some (.ref 58), some (.int x), some (.int 0)]) ⟨rfl, rfl, rfl, rfl, rfl, trivial⟩ ?_
  refine Sp.loopX (pe := 48) (mf := (fun (x9 : (Int32 × XS)) => [some (.ref 41), some (.ref 57), some (.ref 58), some (.int x), some (.int x9.1)])) (hf := (fun (x9 : (Int32 × XS)) => hS x9.2 M)) (fun x9 => ?_) (fun x17 => ?_) _ _
  · unfold b3_Memory_forwardRow_57_58
    refine Sp.step rfl rfl rfl rfl ?_
    refine Sp.step rfl rfl rfl rfl ?_
    refine Sp.if2 rfl rfl rfl rfl (fun e10 => ?_) (fun e10 => ?_)
    · exact Sp.jmp (l0 := [some (.ref 41), some (.ref 57), some (.ref 58), some (.int x), some (.int x9.1)]) ⟨rfl, rfl, rfl, rfl, rfl, trivial⟩ (fun _ _ h => h)
    · refine Sp.step rfl rfl rfl rfl ?_
      refine Sp.step rfl rfl rfl rfl ?_
      refine Sp.step rfl rfl rfl (xlen rfl (by decide)) ?_
      refine Sp.if2 rfl rfl rfl rfl (fun e11 => ?_) (fun e11 => ?_)
      · exact Sp.jmp (l0 := [some (.ref 41), some (.ref 57), some (.ref 58), some (.int x), some (.int x9.1)]) ⟨rfl, rfl, rfl, rfl, rfl, trivial⟩ (fun _ _ h => h)
      · refine Sp.step rfl rfl rfl rfl ?_
        refine Sp.step rfl rfl rfl rfl ?_
        refine Sp.step rfl rfl rfl (xlen rfl (by decide)) ?_
        refine Sp.if2 rfl rfl rfl rfl (fun e12 => ?_) (fun e12 => ?_)
        · exact Sp.jmp (l0 := [some (.ref 41), some (.ref 57), some (.ref 58), some (.int x), some (.int x9.1)]) ⟨rfl, rfl, rfl, rfl, rfl, trivial⟩ (fun _ _ h => h)
        · refine Sp.step rfl rfl rfl rfl ?_
          refine Sp.step rfl rfl rfl rfl ?_
          refine Sp.guard (fun e13 => ?_)
          refine Sp.step rfl rfl rfl (xld rfl (by decide) e13) ?_
          refine Sp.if1 rfl rfl rfl rfl (fun e14 => ?_) (fun e14 => ?_)
          · refine Sp.step rfl rfl rfl rfl ?_
            refine Sp.step rfl rfl rfl rfl ?_
            exact Sp.jmp (l0 := [some (.ref 41), some (.ref 57), some (.ref 58), some (.int x), some (.int (x9.1 + 1))]) ⟨rfl, rfl, rfl, rfl, rfl, trivial⟩ (fun _ _ h => h)
          · refine Sp.step rfl rfl rfl rfl ?_
            refine Sp.step rfl rfl rfl rfl ?_
            refine Sp.step rfl rfl rfl rfl ?_
            refine Sp.step rfl rfl rfl rfl ?_
            refine Sp.step rfl rfl rfl rfl ?_
            refine Sp.step rfl rfl rfl (xld rfl (by decide) e13) ?_
            refine Sp.call rfl rfl rfl (xrecv (c := 4) (by decide) rfl (by decide +kernel)) s_Memory_forwarded (fun x15 => ⟨_, _, ⟨rfl, rfl⟩, ?_⟩)
            refine Sp.step rfl rfl rfl (xst rfl (by decide) e13) ?_
            refine Sp.step rfl rfl rfl rfl ?_
            refine Sp.step rfl rfl rfl rfl ?_
            exact Sp.jmp (l0 := [some (.ref 41), some (.ref 57), some (.ref 58), some (.int x), some (.int (x9.1 + 1))]) ⟨rfl, rfl, rfl, rfl, rfl, trivial⟩ (fun _ _ h => h)
  · exact Sp.vret rfl rfl rfl (fun _ _ h => h)
def b3_Memory_forwardRow (x : Nat) (y : Nat) (z : Int32) (x14 : (Int32 × XS)) : Option ((Int32 × XS) ⊕ (Int32 × XS)) := (if z ≤ x14.1 then some (.inr (x14.1, x14.2)) else (ocz (xL x14.2 0 x) none (fun n16 => (if Int32.ofNat n16 ≤ x14.1 then some (.inr (x14.1, x14.2)) else (ocz (xL x14.2 0 y) none (fun n19 => (if Int32.ofNat n19 ≤ x14.1 then some (.inr (x14.1, x14.2)) else (if ixo x14.1 n19 then (if x14.2.1 y x14.1.toNatClampNeg = 0 then some (.inl (x14.1 + 1, x14.2)) else (if ixo x14.1 n16 then ((f_Memory_forwarded (x14.2.1 x x14.1.toNatClampNeg) x14.2).bind fun x25 => (lt (xw x14.2 x x14.1.toNatClampNeg x25) fun X26 => some (.inl (x14.1 + 1, X26)))) else none)) else none))))))))
def f_Memory_forwardRow (x : Nat) (y : Nat) (z : Int32) (X : XS) : Option XS := ((lp (b3_Memory_forwardRow x y z) 10000 ((0 : Int32), X)).bind fun x27 => some x27.2)
set_option maxRecDepth 100000 in
set_option maxHeartbeats 4000000 in
theorem s_Memory_forwardRow {L : Nat} {xs : Nat → Int32} {X : XS} {M : MS} {x : Nat} {y : Nat} {z : Int32} : Sp (mjOO L xs) 226 0 [some (.ref 41), some (.ref x), some (.ref y), some (.int z), none] [] (hS X M) (f_Memory_forwardRow x y z X) (KVX M) := by
  unfold f_Memory_forwardRow
  refine Sp.step rfl rfl rfl rfl ?_
  refine Sp.step rfl rfl rfl rfl ?_
  refine Sp.weak (l0 := [some (.ref 41), some (.ref x), some (.ref y), some (.int z), some (.int 0)]) ⟨rfl, rfl, rfl, rfl, rfl, trivial⟩ ?_
  refine Sp.loopX (pe := 48) (mf := (fun (x14 : (Int32 × XS)) => [some (.ref 41), some (.ref x), some (.ref y), some (.int z), some (.int x14.1)])) (hf := (fun (x14 : (Int32 × XS)) => hS x14.2 M)) (fun x14 => ?_) (fun x27 => ?_) _ _
  · unfold b3_Memory_forwardRow
    refine Sp.step rfl rfl rfl rfl ?_
    refine Sp.step rfl rfl rfl rfl ?_
    refine Sp.if2 rfl rfl rfl rfl (fun e15 => ?_) (fun e15 => ?_)
    · exact Sp.jmp (l0 := [some (.ref 41), some (.ref x), some (.ref y), some (.int z), some (.int x14.1)]) ⟨rfl, rfl, rfl, rfl, rfl, trivial⟩ (fun _ _ h => h)
    · refine Sp.step rfl rfl rfl rfl ?_
      refine Sp.step rfl rfl rfl rfl ?_
      refine Sp.ocn (fun n16 e17 => ?_)
      refine Sp.step rfl rfl rfl (xlen (xL_ok e17) (by decide)) ?_
      refine Sp.if2 rfl rfl rfl rfl (fun e18 => ?_) (fun e18 => ?_)
      · exact Sp.jmp (l0 := [some (.ref 41), some (.ref x), some (.ref y), some (.int z), some (.int x14.1)]) ⟨rfl, rfl, rfl, rfl, rfl, trivial⟩ (fun _ _ h => h)
      · refine Sp.step rfl rfl rfl rfl ?_
        refine Sp.step rfl rfl rfl rfl ?_
        refine Sp.ocn (fun n19 e20 => ?_)
        refine Sp.step rfl rfl rfl (xlen (xL_ok e20) (by decide)) ?_
        refine Sp.if2 rfl rfl rfl rfl (fun e21 => ?_) (fun e21 => ?_)
        · exact Sp.jmp (l0 := [some (.ref 41), some (.ref x), some (.ref y), some (.int z), some (.int x14.1)]) ⟨rfl, rfl, rfl, rfl, rfl, trivial⟩ (fun _ _ h => h)
        · refine Sp.step rfl rfl rfl rfl ?_
          refine Sp.step rfl rfl rfl rfl ?_
          refine Sp.guard (fun e22 => ?_)
          refine Sp.step rfl rfl rfl (xld (xL_ok e20) (by decide) e22) ?_
          refine Sp.if1 rfl rfl rfl rfl (fun e23 => ?_) (fun e23 => ?_)
          · refine Sp.step rfl rfl rfl rfl ?_
            refine Sp.step rfl rfl rfl rfl ?_
            exact Sp.jmp (l0 := [some (.ref 41), some (.ref x), some (.ref y), some (.int z), some (.int (x14.1 + 1))]) ⟨rfl, rfl, rfl, rfl, rfl, trivial⟩ (fun _ _ h => h)
          · refine Sp.step rfl rfl rfl rfl ?_
            refine Sp.step rfl rfl rfl rfl ?_
            refine Sp.step rfl rfl rfl rfl ?_
            refine Sp.step rfl rfl rfl rfl ?_
            refine Sp.step rfl rfl rfl rfl ?_
            refine Sp.guard (fun e24 => ?_)
            refine Sp.step rfl rfl rfl (xld (xL_ok e17) (by decide) e24) ?_
            refine Sp.call rfl rfl rfl (xrecv (c := 4) (by decide) rfl (by decide +kernel)) s_Memory_forwarded (fun x25 => ⟨_, _, ⟨rfl, rfl⟩, ?_⟩)
            refine Sp.step rfl rfl rfl (xst (xL_ok e17) (by decide) e24) ?_
            refine Sp.step rfl rfl rfl rfl ?_
            refine Sp.step rfl rfl rfl rfl ?_
            exact Sp.jmp (l0 := [some (.ref 41), some (.ref x), some (.ref y), some (.int z), some (.int (x14.1 + 1))]) ⟨rfl, rfl, rfl, rfl, rfl, trivial⟩ (fun _ _ h => h)
  · exact Sp.vret rfl rfl rfl (fun _ _ h => h)
def b44_Memory_forwardFields (x43 : Int32) (x49 : Int32) (x55 : (Int32 × XS)) : Option ((Int32 × XS) ⊕ (Int32 × XS)) := (if x49 ≤ x55.1 then some (.inr (x55.1, x55.2)) else ((f_Memory_word (x43 + x55.1) x55.2).bind fun x57 => ((f_Memory_forwarded x57 x55.2).bind fun x58 => ((f_Memory_setWord (x43 + x55.1) x58 x55.2).bind fun x59 => some (.inl (x55.1 + 1, x59))))))
def b2_Memory_forwardFields (x31 : (Int32 × XS)) : Option ((Int32 × XS) ⊕ (Int32 × XS)) := (if x31.2.1 41 6 ≤ x31.1 then some (.inr (x31.1, x31.2)) else (ocz (x31.2.2.1 41 2) none (fun a33 => (ocz (xL x31.2 0 a33) none (fun n35 => (if Int32.ofNat n35 ≤ x31.1 then some (.inr (x31.1, x31.2)) else (ocz (x31.2.2.1 41 2) none (fun a38 => (ocz (xL x31.2 0 a38) none (fun n40 => (if ixo x31.1 n40 then ((f_Memory_firstRef (x31.2.1 a38 x31.1.toNatClampNeg) x31.2).bind fun x43 => (ocz (x31.2.2.1 41 2) none (fun a44 => (ocz (xL x31.2 0 a44) none (fun n46 => (if ixo x31.1 n46 then ((f_Memory_refsIn (x31.2.1 a44 x31.1.toNatClampNeg) x31.2).bind fun x49 => ((lp (b44_Memory_forwardFields x43 x49) 10000 ((0 : Int32), x31.2)).bind fun x60 => some (.inl (x31.1 + 1, x60.2)))) else none)))))) else none)))))))))))
def f_Memory_forwardFields (X : XS) : Option XS := ((lp (b2_Memory_forwardFields) 10000 ((0 : Int32), X)).bind fun x61 => some x61.2)
set_option maxRecDepth 100000 in
set_option maxHeartbeats 4000000 in
theorem s_Memory_forwardFields {L : Nat} {xs : Nat → Int32} {X : XS} {M : MS} : Sp (mjOO L xs) 229 0 [some (.ref 41), none, none, none, none] [] (hS X M) (f_Memory_forwardFields X) (KVX M) := by
  unfold f_Memory_forwardFields
  refine Sp.step rfl rfl rfl rfl ?_
  refine Sp.step rfl rfl rfl rfl ?_
  refine Sp.weak (l0 := [some (.ref 41), some (.int 0), none, none, none]) ⟨rfl, rfl, trivial⟩ ?_
  refine Sp.loopX (pe := 82) (mf := (fun (x31 : (Int32 × XS)) => [some (.ref 41), some (.int x31.1), none, none, none])) (hf := (fun (x31 : (Int32 × XS)) => hS x31.2 M)) (fun x31 => ?_) (fun x61 => ?_) _ _
  · unfold b2_Memory_forwardFields
    refine Sp.step rfl rfl rfl rfl ?_
    refine Sp.step rfl rfl rfl rfl ?_
    refine Sp.step rfl rfl rfl (xg_I (c := 4) (f := 6) rfl rfl rfl rfl) ?_
    refine Sp.if2 rfl rfl rfl rfl (fun e32 => ?_) (fun e32 => ?_)
    · exact Sp.jmp (l0 := [some (.ref 41), some (.int x31.1), none, none, none]) ⟨rfl, rfl, trivial⟩ (fun _ _ h => h)
    · refine Sp.step rfl rfl rfl rfl ?_
      refine Sp.step rfl rfl rfl rfl ?_
      refine Sp.step rfl rfl rfl (xg_D (c := 4) (f := 2) rfl rfl rfl rfl rfl) ?_
      refine Sp.ocrn (fun a33 e34 => ?_)
      refine Sp.ocn (fun n35 e36 => ?_)
      refine Sp.step rfl rfl rfl (xlen (xL_ok e36) (by decide)) ?_
      refine Sp.if2 rfl rfl rfl rfl (fun e37 => ?_) (fun e37 => ?_)
      · exact Sp.jmp (l0 := [some (.ref 41), some (.int x31.1), none, none, none]) ⟨rfl, rfl, trivial⟩ (fun _ _ h => h)
      · refine Sp.step rfl rfl rfl rfl ?_
        refine Sp.step rfl rfl rfl rfl ?_
        refine Sp.step rfl rfl rfl (xg_D (c := 4) (f := 2) rfl rfl rfl rfl rfl) ?_
        refine Sp.ocrn (fun a38 e39 => ?_)
        refine Sp.step rfl rfl rfl rfl ?_
        refine Sp.ocn (fun n40 e41 => ?_)
        refine Sp.guard (fun e42 => ?_)
        refine Sp.step rfl rfl rfl (xld (xL_ok e41) (by decide) e42) ?_
        refine Sp.call rfl rfl rfl (xrecv (c := 4) (by decide) rfl (by decide +kernel)) s_Memory_firstRef (fun x43 => ⟨_, _, ⟨rfl, rfl⟩, ?_⟩)
        refine Sp.step rfl rfl rfl rfl ?_
        refine Sp.step rfl rfl rfl rfl ?_
        refine Sp.step rfl rfl rfl rfl ?_
        refine Sp.step rfl rfl rfl (xg_D (c := 4) (f := 2) rfl rfl rfl rfl rfl) ?_
        refine Sp.ocrn (fun a44 e45 => ?_)
        refine Sp.step rfl rfl rfl rfl ?_
        refine Sp.ocn (fun n46 e47 => ?_)
        refine Sp.guard (fun e48 => ?_)
        refine Sp.step rfl rfl rfl (xld (xL_ok e47) (by decide) e48) ?_
        refine Sp.call rfl rfl rfl (xrecv (c := 4) (by decide) rfl (by decide +kernel)) s_Memory_refsIn (fun x49 => ⟨_, _, ⟨rfl, rfl⟩, ?_⟩)
        refine Sp.step rfl rfl rfl rfl ?_
        refine Sp.step rfl rfl rfl rfl ?_
        refine Sp.step rfl rfl rfl rfl ?_
        refine Sp.weak (l0 := [some (.ref 41), some (.int x31.1), some (.int x43), some (.int x49), some (.int 0)]) ⟨rfl, rfl, rfl, rfl, rfl, trivial⟩ ?_
        refine Sp.loopX (pe := 76) (mf := (fun (x55 : (Int32 × XS)) => [some (.ref 41), some (.int x31.1), some (.int x43), some (.int x49), some (.int x55.1)])) (hf := (fun (x55 : (Int32 × XS)) => hS x55.2 M)) (fun x55 => ?_) (fun x60 => ?_) _ _
        · unfold b44_Memory_forwardFields
          refine Sp.step rfl rfl rfl rfl ?_
          refine Sp.step rfl rfl rfl rfl ?_
          refine Sp.if2 rfl rfl rfl rfl (fun e56 => ?_) (fun e56 => ?_)
          · exact Sp.jmp (l0 := [some (.ref 41), some (.int x31.1), some (.int x43), some (.int x49), some (.int x55.1)]) ⟨rfl, rfl, rfl, rfl, rfl, trivial⟩ (fun _ _ h => h)
          · refine Sp.step rfl rfl rfl rfl ?_
            refine Sp.step rfl rfl rfl rfl ?_
            refine Sp.step rfl rfl rfl rfl ?_
            refine Sp.step rfl rfl rfl rfl ?_
            refine Sp.step rfl rfl rfl rfl ?_
            refine Sp.step rfl rfl rfl rfl ?_
            refine Sp.step rfl rfl rfl rfl ?_
            refine Sp.step rfl rfl rfl rfl ?_
            refine Sp.step rfl rfl rfl rfl ?_
            refine Sp.call rfl rfl rfl (xrecv (c := 4) (by decide) rfl (by decide +kernel)) s_Memory_word (fun x57 => ⟨_, _, ⟨rfl, rfl⟩, ?_⟩)
            refine Sp.call rfl rfl rfl (xrecv (c := 4) (by decide) rfl (by decide +kernel)) s_Memory_forwarded (fun x58 => ⟨_, _, ⟨rfl, rfl⟩, ?_⟩)
            refine Sp.call rfl rfl rfl (xrecv (c := 4) (by decide) rfl (by decide +kernel)) s_Memory_setWord (fun x59 => ⟨_, _, ⟨rfl, rfl⟩, ?_⟩)
            refine Sp.step rfl rfl rfl rfl ?_
            refine Sp.step rfl rfl rfl rfl ?_
            exact Sp.jmp (l0 := [some (.ref 41), some (.int x31.1), some (.int x43), some (.int x49), some (.int (x55.1 + 1))]) ⟨rfl, rfl, rfl, rfl, rfl, trivial⟩ (fun _ _ h => h)
        · refine Sp.step rfl rfl rfl rfl ?_
          refine Sp.step rfl rfl rfl rfl ?_
          exact Sp.jmp (l0 := [some (.ref 41), some (.int (x31.1 + 1)), none, none, none]) ⟨rfl, rfl, trivial⟩ (fun _ _ h => h)
  · exact Sp.vret rfl rfl rfl (fun _ _ h => h)
def b6_Memory_slide (x23 : (Int32 × Int32 × XS)) : Option ((Int32 × Int32 × XS) ⊕ (Int32 × Int32 × XS)) := (if x23.2.2.1 41 7 ≤ x23.2.1 then some (.inr (x23.1, x23.2.1, x23.2.2)) else ((f_Memory_sizeAt x23.2.1 x23.2.2).bind fun x25 => ((f_Memory_word (x23.2.1 + 3) x23.2.2).bind fun x26 => (if x26 < 1 then some (.inl (x23.1, x23.2.1 + (if 4 < x25 then x25 else 4), x23.2.2)) else (if x23.2.1 < x26 then some (.inl (x23.1, x23.2.1 + (if 4 < x25 then x25 else 4), x23.2.2)) else (ocz (x23.2.2.2.1 41 1) none (fun a29 => (ocz (xL x23.2.2 0 a29) none (fun n31 => (if Int32.ofNat n31 < x23.2.1 + x25 then some (.inl (x23.1, x23.2.1 + (if 4 < x25 then x25 else 4), x23.2.2)) else ((f_Memory_setWord (x23.2.1 + 3) 0 x23.2.2).bind fun x34 => (ocz (x34.2.1 41 1) none (fun a35 => (ocz (x34.2.1 41 1) none (fun a37 => (ocz (xL x34 0 a35) none (fun n39 => (ocz (xL x34 0 a37) none (fun n41 => (if cpo x23.2.1 x26 x25 n39 n41 then (lt (xc x34 (x34.1 a35) a37 x23.2.1.toNatClampNeg x26.toNatClampNeg x25.toNatClampNeg) fun X44 => some (.inl (x26 + x25, x23.2.1 + (if 4 < x25 then x25 else 4), X44))) else none))))))))))))))))))))
def f_Memory_slide (X : XS) : Option XS := ((lp (b6_Memory_slide) 10000 ((1 : Int32), (1 : Int32), X)).bind fun x45 => (lt (xw x45.2.2 41 7 x45.1) fun X46 => (lt (xw X46 41 0 ((X46.1 41 0) + 1)) fun X47 => some X47)))
set_option maxRecDepth 100000 in
set_option maxHeartbeats 4000000 in
theorem s_Memory_slide {L : Nat} {xs : Nat → Int32} {X : XS} {M : MS} : Sp (mjOO L xs) 228 0 [some (.ref 41), none, none, none, none] [] (hS X M) (f_Memory_slide X) (KVX M) := by
  unfold f_Memory_slide
  refine Sp.step rfl rfl rfl rfl ?_
  refine Sp.step rfl rfl rfl rfl ?_
  refine Sp.step rfl rfl rfl rfl ?_
  refine Sp.step rfl rfl rfl rfl ?_
  refine Sp.step rfl rfl rfl rfl ?_
  refine Sp.step rfl rfl rfl rfl ?_
  refine Sp.weak (l0 := [some (.ref 41), some (.int 1), none, some (.int 1), none]) ⟨rfl, rfl, rfl, trivial⟩ ?_
  refine Sp.loopX (pe := 91) (mf := (fun (x23 : (Int32 × Int32 × XS)) => [some (.ref 41), some (.int x23.1), none, some (.int x23.2.1), none])) (hf := (fun (x23 : (Int32 × Int32 × XS)) => hS x23.2.2 M)) (fun x23 => ?_) (fun x45 => ?_) _ _
  · unfold b6_Memory_slide
    refine Sp.step rfl rfl rfl rfl ?_
    refine Sp.step rfl rfl rfl rfl ?_
    refine Sp.step rfl rfl rfl (xg_I (c := 4) (f := 7) rfl rfl rfl rfl) ?_
    refine Sp.if2 rfl rfl rfl rfl (fun e24 => ?_) (fun e24 => ?_)
    · exact Sp.jmp (l0 := [some (.ref 41), some (.int x23.1), none, some (.int x23.2.1), none]) ⟨rfl, rfl, rfl, trivial⟩ (fun _ _ h => h)
    · refine Sp.step rfl rfl rfl rfl ?_
      refine Sp.step rfl rfl rfl rfl ?_
      refine Sp.call rfl rfl rfl (xrecv (c := 4) (by decide) rfl (by decide +kernel)) s_Memory_sizeAt (fun x25 => ⟨_, _, ⟨rfl, rfl⟩, ?_⟩)
      refine Sp.step rfl rfl rfl rfl ?_
      refine Sp.step rfl rfl rfl rfl ?_
      refine Sp.step rfl rfl rfl rfl ?_
      refine Sp.step rfl rfl rfl rfl ?_
      refine Sp.step rfl rfl rfl rfl ?_
      refine Sp.call rfl rfl rfl (xrecv (c := 4) (by decide) rfl (by decide +kernel)) s_Memory_word (fun x26 => ⟨_, _, ⟨rfl, rfl⟩, ?_⟩)
      refine Sp.step rfl rfl rfl rfl ?_
      refine Sp.step rfl rfl rfl rfl ?_
      refine Sp.step rfl rfl rfl rfl ?_
      refine Sp.if2 rfl rfl rfl rfl (fun e27 => ?_) (fun e27 => ?_)
      · refine Sp.step rfl rfl rfl rfl ?_
        refine Sp.step rfl rfl rfl rfl ?_
        refine Sp.step rfl rfl rfl rfl ?_
        refine Sp.nat rfl rfl rfl rfl ⟨by decide, by decide, rfl⟩ ?_
        refine Sp.step rfl rfl rfl rfl ?_
        refine Sp.step rfl rfl rfl rfl ?_
        refine Sp.step rfl rfl rfl rfl ?_
        exact Sp.jmp (l0 := [some (.ref 41), some (.int x23.1), none, some (.int (x23.2.1 + (if 4 < x25 then x25 else 4))), none]) ⟨rfl, rfl, rfl, trivial⟩ (fun _ _ h => h)
      · refine Sp.step rfl rfl rfl rfl ?_
        refine Sp.step rfl rfl rfl rfl ?_
        refine Sp.if2 rfl rfl rfl rfl (fun e28 => ?_) (fun e28 => ?_)
        · refine Sp.step rfl rfl rfl rfl ?_
          refine Sp.step rfl rfl rfl rfl ?_
          refine Sp.step rfl rfl rfl rfl ?_
          refine Sp.nat rfl rfl rfl rfl ⟨by decide, by decide, rfl⟩ ?_
          refine Sp.step rfl rfl rfl rfl ?_
          refine Sp.step rfl rfl rfl rfl ?_
          refine Sp.step rfl rfl rfl rfl ?_
          exact Sp.jmp (l0 := [some (.ref 41), some (.int x23.1), none, some (.int (x23.2.1 + (if 4 < x25 then x25 else 4))), none]) ⟨rfl, rfl, rfl, trivial⟩ (fun _ _ h => h)
        · refine Sp.step rfl rfl rfl rfl ?_
          refine Sp.step rfl rfl rfl rfl ?_
          refine Sp.step rfl rfl rfl rfl ?_
          refine Sp.step rfl rfl rfl rfl ?_
          refine Sp.step rfl rfl rfl (xg_D (c := 4) (f := 1) rfl rfl rfl rfl rfl) ?_
          refine Sp.ocrn (fun a29 e30 => ?_)
          refine Sp.ocn (fun n31 e32 => ?_)
          refine Sp.step rfl rfl rfl (xlen (xL_ok e32) (by decide)) ?_
          refine Sp.if2 rfl rfl rfl rfl (fun e33 => ?_) (fun e33 => ?_)
          · refine Sp.step rfl rfl rfl rfl ?_
            refine Sp.step rfl rfl rfl rfl ?_
            refine Sp.step rfl rfl rfl rfl ?_
            refine Sp.nat rfl rfl rfl rfl ⟨by decide, by decide, rfl⟩ ?_
            refine Sp.step rfl rfl rfl rfl ?_
            refine Sp.step rfl rfl rfl rfl ?_
            refine Sp.step rfl rfl rfl rfl ?_
            exact Sp.jmp (l0 := [some (.ref 41), some (.int x23.1), none, some (.int (x23.2.1 + (if 4 < x25 then x25 else 4))), none]) ⟨rfl, rfl, rfl, trivial⟩ (fun _ _ h => h)
          · refine Sp.step rfl rfl rfl rfl ?_
            refine Sp.step rfl rfl rfl rfl ?_
            refine Sp.step rfl rfl rfl rfl ?_
            refine Sp.step rfl rfl rfl rfl ?_
            refine Sp.step rfl rfl rfl rfl ?_
            refine Sp.call rfl rfl rfl (xrecv (c := 4) (by decide) rfl (by decide +kernel)) s_Memory_setWord (fun x34 => ⟨_, _, ⟨rfl, rfl⟩, ?_⟩)
            refine Sp.step rfl rfl rfl rfl ?_
            refine Sp.step rfl rfl rfl (xg_D (c := 4) (f := 1) rfl rfl rfl rfl rfl) ?_
            refine Sp.ocrn (fun a35 e36 => ?_)
            refine Sp.step rfl rfl rfl rfl ?_
            refine Sp.step rfl rfl rfl rfl ?_
            refine Sp.step rfl rfl rfl (xg_D (c := 4) (f := 1) rfl rfl rfl rfl rfl) ?_
            refine Sp.ocrn (fun a37 e38 => ?_)
            refine Sp.step rfl rfl rfl rfl ?_
            refine Sp.step rfl rfl rfl rfl ?_
            refine Sp.ocn (fun n39 e40 => ?_)
            refine Sp.ocn (fun n41 e42 => ?_)
            refine Sp.guard (fun e43 => ?_)
            refine Sp.nat rfl rfl rfl (xcopy (xL_ok e40) (xL_ok e42) (Or.inl rfl) e43) ⟨by decide, by decide, rfl⟩ ?_
            refine Sp.step rfl rfl rfl rfl ?_
            refine Sp.step rfl rfl rfl rfl ?_
            refine Sp.step rfl rfl rfl rfl ?_
            refine Sp.step rfl rfl rfl rfl ?_
            refine Sp.step rfl rfl rfl rfl ?_
            refine Sp.step rfl rfl rfl rfl ?_
            refine Sp.step rfl rfl rfl rfl ?_
            refine Sp.nat rfl rfl rfl rfl ⟨by decide, by decide, rfl⟩ ?_
            refine Sp.step rfl rfl rfl rfl ?_
            refine Sp.step rfl rfl rfl rfl ?_
            refine Sp.step rfl rfl rfl rfl ?_
            exact Sp.jmp (l0 := [some (.ref 41), some (.int (x26 + x25)), none, some (.int (x23.2.1 + (if 4 < x25 then x25 else 4))), none]) ⟨rfl, rfl, rfl, trivial⟩ (fun _ _ h => h)
  · refine Sp.step rfl rfl rfl rfl ?_
    refine Sp.step rfl rfl rfl rfl ?_
    refine Sp.step rfl rfl rfl (xp_I (c := 4) (f := 7) rfl rfl rfl rfl rfl) ?_
    refine Sp.step rfl rfl rfl rfl ?_
    refine Sp.step rfl rfl rfl rfl ?_
    refine Sp.step rfl rfl rfl (xg_I (c := 4) (f := 0) rfl rfl rfl rfl) ?_
    refine Sp.step rfl rfl rfl rfl ?_
    refine Sp.step rfl rfl rfl rfl ?_
    refine Sp.step rfl rfl rfl (xp_I (c := 4) (f := 0) rfl rfl rfl rfl rfl) ?_
    exact Sp.vret rfl rfl rfl (fun _ _ h => h)
def b26_Engine_collect (x23 : (Int32 × XS)) : Option ((Int32 × XS) ⊕ (Int32 × XS)) := (if 6 ≤ x23.1 then some (.inr (x23.1, x23.2)) else (if f_Engine_isStrand x23.1 x23.2 = true then (ocz (x23.2.2.1 50 x23.1.toNatClampNeg) none (fun a27 => (if (xT x23.2 a27 = some (14, 0)) then (ocz (x23.2.2.1 a27 5) none (fun a30 => (ocz (x23.2.2.1 50 x23.1.toNatClampNeg) none (fun a32 => (if (xT x23.2 a32 = some (14, 0)) then (ocz (x23.2.2.1 a32 6) none (fun a35 => (ocz (x23.2.2.1 50 x23.1.toNatClampNeg) none (fun a37 => (if (xT x23.2 a37 = some (14, 0)) then ((f_Strand_slots a37 x23.2).bind fun x40 => ((f_Memory_markRow a30 a35 x40 x23.2).bind fun x41 => some (.inl (x23.1 + 1, x41)))) else none))))) else none))))) else none))) else some (.inr (x23.1, x23.2))))
def b106_Engine_collect (x66 : (Int32 × XS)) : Option ((Int32 × XS) ⊕ (Int32 × XS)) := (if 6 ≤ x66.1 then some (.inr (x66.1, x66.2)) else (if f_Engine_isStrand x66.1 x66.2 = true then (ocz (x66.2.2.1 50 x66.1.toNatClampNeg) none (fun a70 => (if (xT x66.2 a70 = some (14, 0)) then (ocz (x66.2.2.1 a70 5) none (fun a73 => (ocz (x66.2.2.1 50 x66.1.toNatClampNeg) none (fun a75 => (if (xT x66.2 a75 = some (14, 0)) then (ocz (x66.2.2.1 a75 6) none (fun a78 => (ocz (x66.2.2.1 50 x66.1.toNatClampNeg) none (fun a80 => (if (xT x66.2 a80 = some (14, 0)) then ((f_Strand_slots a80 x66.2).bind fun x83 => ((f_Memory_forwardRow a73 a78 x83 x66.2).bind fun x84 => some (.inl (x66.1 + 1, x84)))) else none))))) else none))))) else none))) else some (.inr (x66.1, x66.2))))
def f_Engine_collect (X : XS) : Option XS := ((f_Memory_beginMarking X).bind fun x1 => ((f_Memory_markRow_57_58 8 x1).bind fun x2 => ((lp (b26_Engine_collect) 10000 ((0 : Int32), x2)).bind fun x43 => ((f_Memory_plan x43.2).bind fun x44 => ((f_Memory_forwardRow_57_58 8 x44).bind fun x45 => ((lp (b106_Engine_collect) 10000 ((0 : Int32), x45)).bind fun x86 => ((f_Memory_forwardFields x86.2).bind fun x87 => ((f_Memory_slide x87).bind fun x88 => some x88))))))))
set_option maxRecDepth 100000 in
set_option maxHeartbeats 4000000 in
theorem s_Engine_collect {L : Nat} {xs : Nat → Int32} {X : XS} {M : MS} : Sp (mjOO L xs) 118 0 [some (.ref 40), none] [] (hS X M) (f_Engine_collect X) (KVX M) := by
  unfold f_Engine_collect
  refine Sp.step rfl rfl rfl rfl ?_
  refine Sp.step rfl rfl rfl (xg_F (c := 0) (f := 3) rfl rfl rfl rfl rfl) ?_
  refine Sp.call rfl rfl rfl (xrecv (c := 4) (by decide) rfl (by decide +kernel)) s_Memory_beginMarking (fun x1 => ⟨_, _, ⟨rfl, rfl⟩, ?_⟩)
  refine Sp.step rfl rfl rfl rfl ?_
  refine Sp.step rfl rfl rfl (xg_F (c := 0) (f := 3) rfl rfl rfl rfl rfl) ?_
  refine Sp.step rfl rfl rfl rfl ?_
  refine Sp.step rfl rfl rfl (xg_F (c := 0) (f := 8) rfl rfl rfl rfl rfl) ?_
  refine Sp.step rfl rfl rfl rfl ?_
  refine Sp.step rfl rfl rfl (xg_F (c := 0) (f := 9) rfl rfl rfl rfl rfl) ?_
  refine Sp.step rfl rfl rfl rfl ?_
  refine Sp.call rfl rfl rfl (xrecv (c := 4) (by decide) rfl (by decide +kernel)) s_Memory_markRow_57_58 (fun x2 => ⟨_, _, ⟨rfl, rfl⟩, ?_⟩)
  refine Sp.step rfl rfl rfl rfl ?_
  refine Sp.step rfl rfl rfl rfl ?_
  refine Sp.weak (l0 := [some (.ref 40), some (.int 0)]) ⟨rfl, rfl, trivial⟩ ?_
  refine Sp.loopX (pe := 80) (mf := (fun (x23 : (Int32 × XS)) => [some (.ref 40), some (.int x23.1)])) (hf := (fun (x23 : (Int32 × XS)) => hS x23.2 M)) (fun x23 => ?_) (fun x43 => ?_) _ _
  · unfold b26_Engine_collect
    refine Sp.step rfl rfl rfl rfl ?_
    refine Sp.step rfl rfl rfl rfl ?_
    refine Sp.if2 rfl rfl rfl rfl (fun e24 => ?_) (fun e24 => ?_)
    · exact Sp.jmp (l0 := [some (.ref 40), some (.int x23.1)]) ⟨rfl, rfl, trivial⟩ (fun _ _ h => h)
    · refine Sp.step rfl rfl rfl rfl ?_
      refine Sp.step rfl rfl rfl rfl ?_
      refine Sp.callS rfl rfl rfl (xrecv (c := 0) (by decide) rfl (by decide +kernel)) s_Engine_isStrand ⟨rfl, rfl⟩ ?_
      refine Sp.bool (fun e25 => ?_) (fun e25 => ?_)
      · refine Sp.step rfl rfl rfl rfl ?_
        refine Sp.step rfl rfl rfl rfl ?_
        refine Sp.step rfl rfl rfl (xg_F (c := 0) (f := 3) rfl rfl rfl rfl rfl) ?_
        refine Sp.step rfl rfl rfl rfl ?_
        refine Sp.step rfl rfl rfl (xg_F (c := 0) (f := 5) rfl rfl rfl rfl rfl) ?_
        refine Sp.step rfl rfl rfl rfl ?_
        refine Sp.step rfl rfl rfl (xald (t := 4) rfl (by decide) (fun _ => rfl) (isStrand_ix e25)) ?_
        refine Sp.ocrn (fun a27 e28 => ?_)
        refine Sp.guard (fun e29 => ?_)
        refine Sp.step rfl rfl rfl (xg_D (c := 9) (f := 5) rfl rfl e29 rfl (fxP_big (dyn_of (c := 9) e29 rfl))) ?_
        refine Sp.ocrn (fun a30 e31 => ?_)
        refine Sp.step rfl rfl rfl rfl ?_
        refine Sp.step rfl rfl rfl (xg_F (c := 0) (f := 5) rfl rfl rfl rfl rfl) ?_
        refine Sp.step rfl rfl rfl rfl ?_
        refine Sp.step rfl rfl rfl (xald (t := 4) rfl (by decide) (fun _ => rfl) (isStrand_ix e25)) ?_
        refine Sp.ocrn (fun a32 e33 => ?_)
        refine Sp.guard (fun e34 => ?_)
        refine Sp.step rfl rfl rfl (xg_D (c := 9) (f := 6) rfl rfl e34 rfl (fxP_big (dyn_of (c := 9) e34 rfl))) ?_
        refine Sp.ocrn (fun a35 e36 => ?_)
        refine Sp.step rfl rfl rfl rfl ?_
        refine Sp.step rfl rfl rfl (xg_F (c := 0) (f := 5) rfl rfl rfl rfl rfl) ?_
        refine Sp.step rfl rfl rfl rfl ?_
        refine Sp.step rfl rfl rfl (xald (t := 4) rfl (by decide) (fun _ => rfl) (isStrand_ix e25)) ?_
        refine Sp.ocrn (fun a37 e38 => ?_)
        refine Sp.guard (fun e39 => ?_)
        refine Sp.call rfl rfl rfl (xrecv (c := 9) (by decide) e39 (by decide +kernel)) s_Strand_slots (fun x40 => ⟨_, _, ⟨rfl, rfl⟩, ?_⟩)
        refine Sp.call rfl rfl rfl (xrecv (c := 4) (by decide) rfl (by decide +kernel)) s_Memory_markRow (fun x41 => ⟨_, _, ⟨rfl, rfl⟩, ?_⟩)
        refine Sp.step rfl rfl rfl rfl ?_
        refine Sp.step rfl rfl rfl rfl ?_
        exact Sp.jmp (l0 := [some (.ref 40), some (.int (x23.1 + 1))]) ⟨rfl, rfl, trivial⟩ (fun _ _ h => h)
      · refine Sp.step rfl rfl rfl rfl ?_
        exact Sp.jmp (l0 := [some (.ref 40), some (.int x23.1)]) ⟨rfl, rfl, trivial⟩ (fun _ _ h => h)
  · refine Sp.step rfl rfl rfl rfl ?_
    refine Sp.step rfl rfl rfl (xg_F (c := 0) (f := 3) rfl rfl rfl rfl rfl) ?_
    refine Sp.call rfl rfl rfl (xrecv (c := 4) (by decide) rfl (by decide +kernel)) s_Memory_plan (fun x44 => ⟨_, _, ⟨rfl, rfl⟩, ?_⟩)
    refine Sp.step rfl rfl rfl rfl ?_
    refine Sp.step rfl rfl rfl (xg_F (c := 0) (f := 3) rfl rfl rfl rfl rfl) ?_
    refine Sp.step rfl rfl rfl rfl ?_
    refine Sp.step rfl rfl rfl (xg_F (c := 0) (f := 8) rfl rfl rfl rfl rfl) ?_
    refine Sp.step rfl rfl rfl rfl ?_
    refine Sp.step rfl rfl rfl (xg_F (c := 0) (f := 9) rfl rfl rfl rfl rfl) ?_
    refine Sp.step rfl rfl rfl rfl ?_
    refine Sp.call rfl rfl rfl (xrecv (c := 4) (by decide) rfl (by decide +kernel)) s_Memory_forwardRow_57_58 (fun x45 => ⟨_, _, ⟨rfl, rfl⟩, ?_⟩)
    refine Sp.step rfl rfl rfl rfl ?_
    refine Sp.step rfl rfl rfl rfl ?_
    refine Sp.weak (l0 := [some (.ref 40), some (.int 0)]) ⟨rfl, rfl, trivial⟩ ?_
    refine Sp.loopX (pe := 160) (mf := (fun (x66 : (Int32 × XS)) => [some (.ref 40), some (.int x66.1)])) (hf := (fun (x66 : (Int32 × XS)) => hS x66.2 M)) (fun x66 => ?_) (fun x86 => ?_) _ _
    · unfold b106_Engine_collect
      refine Sp.step rfl rfl rfl rfl ?_
      refine Sp.step rfl rfl rfl rfl ?_
      refine Sp.if2 rfl rfl rfl rfl (fun e67 => ?_) (fun e67 => ?_)
      · exact Sp.jmp (l0 := [some (.ref 40), some (.int x66.1)]) ⟨rfl, rfl, trivial⟩ (fun _ _ h => h)
      · refine Sp.step rfl rfl rfl rfl ?_
        refine Sp.step rfl rfl rfl rfl ?_
        refine Sp.callS rfl rfl rfl (xrecv (c := 0) (by decide) rfl (by decide +kernel)) s_Engine_isStrand ⟨rfl, rfl⟩ ?_
        refine Sp.bool (fun e68 => ?_) (fun e68 => ?_)
        · refine Sp.step rfl rfl rfl rfl ?_
          refine Sp.step rfl rfl rfl rfl ?_
          refine Sp.step rfl rfl rfl (xg_F (c := 0) (f := 3) rfl rfl rfl rfl rfl) ?_
          refine Sp.step rfl rfl rfl rfl ?_
          refine Sp.step rfl rfl rfl (xg_F (c := 0) (f := 5) rfl rfl rfl rfl rfl) ?_
          refine Sp.step rfl rfl rfl rfl ?_
          refine Sp.step rfl rfl rfl (xald (t := 4) rfl (by decide) (fun _ => rfl) (isStrand_ix e68)) ?_
          refine Sp.ocrn (fun a70 e71 => ?_)
          refine Sp.guard (fun e72 => ?_)
          refine Sp.step rfl rfl rfl (xg_D (c := 9) (f := 5) rfl rfl e72 rfl (fxP_big (dyn_of (c := 9) e72 rfl))) ?_
          refine Sp.ocrn (fun a73 e74 => ?_)
          refine Sp.step rfl rfl rfl rfl ?_
          refine Sp.step rfl rfl rfl (xg_F (c := 0) (f := 5) rfl rfl rfl rfl rfl) ?_
          refine Sp.step rfl rfl rfl rfl ?_
          refine Sp.step rfl rfl rfl (xald (t := 4) rfl (by decide) (fun _ => rfl) (isStrand_ix e68)) ?_
          refine Sp.ocrn (fun a75 e76 => ?_)
          refine Sp.guard (fun e77 => ?_)
          refine Sp.step rfl rfl rfl (xg_D (c := 9) (f := 6) rfl rfl e77 rfl (fxP_big (dyn_of (c := 9) e77 rfl))) ?_
          refine Sp.ocrn (fun a78 e79 => ?_)
          refine Sp.step rfl rfl rfl rfl ?_
          refine Sp.step rfl rfl rfl (xg_F (c := 0) (f := 5) rfl rfl rfl rfl rfl) ?_
          refine Sp.step rfl rfl rfl rfl ?_
          refine Sp.step rfl rfl rfl (xald (t := 4) rfl (by decide) (fun _ => rfl) (isStrand_ix e68)) ?_
          refine Sp.ocrn (fun a80 e81 => ?_)
          refine Sp.guard (fun e82 => ?_)
          refine Sp.call rfl rfl rfl (xrecv (c := 9) (by decide) e82 (by decide +kernel)) s_Strand_slots (fun x83 => ⟨_, _, ⟨rfl, rfl⟩, ?_⟩)
          refine Sp.call rfl rfl rfl (xrecv (c := 4) (by decide) rfl (by decide +kernel)) s_Memory_forwardRow (fun x84 => ⟨_, _, ⟨rfl, rfl⟩, ?_⟩)
          refine Sp.step rfl rfl rfl rfl ?_
          refine Sp.step rfl rfl rfl rfl ?_
          exact Sp.jmp (l0 := [some (.ref 40), some (.int (x66.1 + 1))]) ⟨rfl, rfl, trivial⟩ (fun _ _ h => h)
        · refine Sp.step rfl rfl rfl rfl ?_
          exact Sp.jmp (l0 := [some (.ref 40), some (.int x66.1)]) ⟨rfl, rfl, trivial⟩ (fun _ _ h => h)
    · refine Sp.step rfl rfl rfl rfl ?_
      refine Sp.step rfl rfl rfl (xg_F (c := 0) (f := 3) rfl rfl rfl rfl rfl) ?_
      refine Sp.call rfl rfl rfl (xrecv (c := 4) (by decide) rfl (by decide +kernel)) s_Memory_forwardFields (fun x87 => ⟨_, _, ⟨rfl, rfl⟩, ?_⟩)
      refine Sp.step rfl rfl rfl rfl ?_
      refine Sp.step rfl rfl rfl (xg_F (c := 0) (f := 3) rfl rfl rfl rfl rfl) ?_
      refine Sp.call rfl rfl rfl (xrecv (c := 4) (by decide) rfl (by decide +kernel)) s_Memory_slide (fun x88 => ⟨_, _, ⟨rfl, rfl⟩, ?_⟩)
      exact Sp.vret rfl rfl rfl (fun _ _ h => h)
