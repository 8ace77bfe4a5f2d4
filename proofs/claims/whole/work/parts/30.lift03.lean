/-! methods as functions, by program -/
def f_Flow_takeTo (x : Int32) (X : XS) : Option (Bool × XS) := (if 0 ≤ x ∧ x ≤ 11 then ((f_Flow_take 3 X).bind fun x3 => (if x3.1 = true then (if ixo (x3.2.1 22 9) 10 then (lt (xw x3.2 29 x.toNatClampNeg (x3.2.1 28 (x3.2.1 22 9).toNatClampNeg)) fun X7 => some (true, X7)) else none) else some (false, x3.2))) else some (false, X))
set_option maxRecDepth 100000 in
set_option maxHeartbeats 4000000 in
theorem s_Flow_takeTo {L : Nat} {xs : Nat → Int32} {X : XS} {M : MS} {x : Int32} : Sp (mjOO L xs) 150 0 [some (.ref 22), some (.int x)] [] (hS X M) (f_Flow_takeTo x X) (KBX M) := by
  unfold f_Flow_takeTo
  refine Sp.step rfl rfl rfl rfl ?_
  refine Sp.step rfl rfl rfl rfl ?_
  refine Sp.step rfl rfl rfl rfl ?_
  refine Sp.callP rfl rfl rfl rfl s_within (fun e1 => ?_) (fun e1 => ?_)
  · refine Sp.id (pc := 7) (l := [some (.ref 22), some (.int x)]) (st := [.int 1]) (h := hS X M) ?_
    refine Sp.step rfl rfl rfl rfl ?_
    refine Sp.step rfl rfl rfl rfl ?_
    refine Sp.step rfl rfl rfl rfl ?_
    refine Sp.call rfl rfl rfl (xrecv (c := 1) (by decide) rfl (by decide +kernel)) s_Flow_take (fun x3 => ⟨_, _, ⟨rfl, rfl⟩, ?_⟩)
    refine Sp.bool (fun e4 => ?_) (fun e4 => ?_)
    · refine Sp.id (pc := 15) (l := [some (.ref 22), some (.int x)]) (st := [.int 1]) (h := hS x3.2 M) ?_
      refine Sp.step rfl rfl rfl rfl ?_
      refine Sp.step rfl rfl rfl rfl ?_
      refine Sp.step rfl rfl rfl (xg_F (c := 1) (f := 8) rfl rfl rfl rfl rfl) ?_
      refine Sp.step rfl rfl rfl rfl ?_
      refine Sp.step rfl rfl rfl rfl ?_
      refine Sp.step rfl rfl rfl (xg_F (c := 1) (f := 7) rfl rfl rfl rfl rfl) ?_
      refine Sp.step rfl rfl rfl rfl ?_
      refine Sp.step rfl rfl rfl (xg_I (c := 1) (f := 9) rfl rfl rfl rfl) ?_
      refine Sp.guard (fun e6 => ?_)
      refine Sp.step rfl rfl rfl (xld rfl (by decide) e6) ?_
      refine Sp.step rfl rfl rfl (xst rfl (by decide) (ix_le (N := 11) rfl e1.1 e1.2)) ?_
      refine Sp.step rfl rfl rfl rfl ?_
      exact Sp.iret rfl rfl rfl rfl (fun _ _ h => h)
    · refine Sp.id (pc := 15) (l := [some (.ref 22), some (.int x)]) (st := [.int 0]) (h := hS x3.2 M) ?_
      refine Sp.step rfl rfl rfl rfl ?_
      refine Sp.step rfl rfl rfl rfl ?_
      exact Sp.iret rfl rfl rfl rfl (fun _ _ h => h)
  · refine Sp.id (pc := 7) (l := [some (.ref 22), some (.int x)]) (st := [.int 0]) (h := hS X M) ?_
    refine Sp.step rfl rfl rfl rfl ?_
    refine Sp.step rfl rfl rfl rfl ?_
    exact Sp.iret rfl rfl rfl rfl (fun _ _ h => h)
def f_Flow_swap (X : XS) : Option (Bool × XS) := (if 2 ≤ X.1 22 9 ∧ X.1 22 9 ≤ 10 then (if ixo ((X.1 22 9) - 1) 10 then (if ixo ((X.1 22 9) - 2) 10 then (lt (xw X 28 ((X.1 22 9) - 1).toNatClampNeg (X.1 28 ((X.1 22 9) - 2).toNatClampNeg)) fun X5 => (if ixo ((X5.1 22 9) - 2) 10 then (lt (xw X5 28 ((X5.1 22 9) - 2).toNatClampNeg (X.1 28 ((X.1 22 9) - 1).toNatClampNeg)) fun X7 => some (true, X7)) else none)) else none) else none) else some (false, X))
set_option maxRecDepth 100000 in
set_option maxHeartbeats 4000000 in
theorem s_Flow_swap {L : Nat} {xs : Nat → Int32} {X : XS} {M : MS} : Sp (mjOO L xs) 151 0 [some (.ref 22), none] [] (hS X M) (f_Flow_swap X) (KBX M) := by
  unfold f_Flow_swap
  refine Sp.step rfl rfl rfl rfl ?_
  refine Sp.step rfl rfl rfl (xg_I (c := 1) (f := 9) rfl rfl rfl rfl) ?_
  refine Sp.step rfl rfl rfl rfl ?_
  refine Sp.step rfl rfl rfl rfl ?_
  refine Sp.callP rfl rfl rfl rfl s_within (fun e1 => ?_) (fun e1 => ?_)
  · refine Sp.id (pc := 10) (l := [some (.ref 22), none]) (st := [.int 1]) (h := hS X M) ?_
    refine Sp.step rfl rfl rfl rfl ?_
    refine Sp.step rfl rfl rfl rfl ?_
    refine Sp.step rfl rfl rfl (xg_F (c := 1) (f := 7) rfl rfl rfl rfl rfl) ?_
    refine Sp.step rfl rfl rfl rfl ?_
    refine Sp.step rfl rfl rfl (xg_I (c := 1) (f := 9) rfl rfl rfl rfl) ?_
    refine Sp.step rfl rfl rfl rfl ?_
    refine Sp.step rfl rfl rfl rfl ?_
    refine Sp.guard (fun e3 => ?_)
    refine Sp.step rfl rfl rfl (xld rfl (by decide) e3) ?_
    refine Sp.step rfl rfl rfl rfl ?_
    refine Sp.step rfl rfl rfl rfl ?_
    refine Sp.step rfl rfl rfl (xg_F (c := 1) (f := 7) rfl rfl rfl rfl rfl) ?_
    refine Sp.step rfl rfl rfl rfl ?_
    refine Sp.step rfl rfl rfl (xg_I (c := 1) (f := 9) rfl rfl rfl rfl) ?_
    refine Sp.step rfl rfl rfl rfl ?_
    refine Sp.step rfl rfl rfl rfl ?_
    refine Sp.step rfl rfl rfl rfl ?_
    refine Sp.step rfl rfl rfl (xg_F (c := 1) (f := 7) rfl rfl rfl rfl rfl) ?_
    refine Sp.step rfl rfl rfl rfl ?_
    refine Sp.step rfl rfl rfl (xg_I (c := 1) (f := 9) rfl rfl rfl rfl) ?_
    refine Sp.step rfl rfl rfl rfl ?_
    refine Sp.step rfl rfl rfl rfl ?_
    refine Sp.guard (fun e4 => ?_)
    refine Sp.step rfl rfl rfl (xld rfl (by decide) e4) ?_
    refine Sp.step rfl rfl rfl (xst rfl (by decide) e3) ?_
    refine Sp.step rfl rfl rfl rfl ?_
    refine Sp.step rfl rfl rfl (xg_F (c := 1) (f := 7) rfl rfl rfl rfl rfl) ?_
    refine Sp.step rfl rfl rfl rfl ?_
    refine Sp.step rfl rfl rfl (xg_I (c := 1) (f := 9) rfl rfl rfl rfl) ?_
    refine Sp.step rfl rfl rfl rfl ?_
    refine Sp.step rfl rfl rfl rfl ?_
    refine Sp.step rfl rfl rfl rfl ?_
    refine Sp.guard (fun e6 => ?_)
    refine Sp.step rfl rfl rfl (xst rfl (by decide) e6) ?_
    refine Sp.step rfl rfl rfl rfl ?_
    exact Sp.iret rfl rfl rfl rfl (fun _ _ h => h)
  · refine Sp.id (pc := 10) (l := [some (.ref 22), none]) (st := [.int 0]) (h := hS X M) ?_
    refine Sp.step rfl rfl rfl rfl ?_
    refine Sp.step rfl rfl rfl rfl ?_
    exact Sp.iret rfl rfl rfl rfl (fun _ _ h => h)
def b30_Flow_applyCall (a3 : Nat) (x14 : (Int32 × XS)) : Option ((Int32 × XS) ⊕ ((Int32 × XS) ⊕ (Bool × XS))) := (if x14.1 < 0 then some (.inr (.inl (x14.1, x14.2))) else (if (xT x14.2 a3 = some (12, 0)) then ((f_Routine_takenKind a3 x14.1 x14.2).bind fun x17 => ((f_Flow_take x17 x14.2).bind fun x18 => (if x18.1 = true then some (.inl (x14.1 + (-1), x18.2)) else some (.inr (.inr (false, x18.2)))))) else none))
def f_Flow_applyCall (x : Int32) (X : XS) : Option (Bool × XS) := (if f_Source_isRoutine x X = true then (ocz (X.2.1 2 x.toNatClampNeg) none (fun a3 => (if (xT X a3 = some (12, 0)) then ((f_Routine_taken a3 X).bind fun x6 => ((lp (b30_Flow_applyCall a3) 10000 (x6 - 1, X)).bind fun s => sb s fun x22 => (if (xT x22.2 a3 = some (12, 0)) then (if x22.2.1 a3 4 = 0 then some (true, x22.2) else (if ¬ x22.2.1 a3 4 = 1 then ((f_Flow_put 2 x22.2).bind fun x26 => (if x26.1 = true then some (true, x26.2) else some (false, x26.2))) else ((f_Flow_put 1 x22.2).bind fun x30 => (if x30.1 = true then some (true, x30.2) else some (false, x30.2))))) else none))) else none))) else some (false, X))
set_option maxRecDepth 100000 in
set_option maxHeartbeats 4000000 in
theorem s_Flow_applyCall {L : Nat} {xs : Nat → Int32} {X : XS} {M : MS} {x : Int32} : Sp (mjOO L xs) 149 0 [some (.ref 22), some (.int x), none, none] [] (hS X M) (f_Flow_applyCall x X) (KBX M) := by
  unfold f_Flow_applyCall
  refine Sp.step rfl rfl rfl rfl ?_
  refine Sp.step rfl rfl rfl (xg_F (c := 1) (f := 1) rfl rfl rfl rfl rfl) ?_
  refine Sp.step rfl rfl rfl rfl ?_
  refine Sp.callS rfl rfl rfl (xrecv (c := 8) (by decide) rfl (by decide +kernel)) s_Source_isRoutine ⟨rfl, rfl⟩ ?_
  refine Sp.bool (fun e1 => ?_) (fun e1 => ?_)
  · refine Sp.id (pc := 8) (l := [some (.ref 22), some (.int x), none, none]) (st := [.int 1]) (h := hS X M) ?_
    refine Sp.step rfl rfl rfl rfl ?_
    refine Sp.step rfl rfl rfl rfl ?_
    refine Sp.step rfl rfl rfl (xg_F (c := 1) (f := 1) rfl rfl rfl rfl rfl) ?_
    refine Sp.step rfl rfl rfl (xg_F (c := 8) (f := 0) rfl rfl rfl rfl rfl) ?_
    refine Sp.step rfl rfl rfl rfl ?_
    refine Sp.step rfl rfl rfl (xald (t := 3) rfl (by decide) (fun _ => rfl) (isRoutine_ix e1)) ?_
    refine Sp.ocrn (fun a3 e4 => ?_)
    refine Sp.step rfl rfl rfl rfl ?_
    refine Sp.step rfl rfl rfl rfl ?_
    refine Sp.guard (fun e5 => ?_)
    refine Sp.call rfl rfl rfl (xrecv (c := 7) (by decide) e5 (by decide +kernel)) s_Routine_taken (fun x6 => ⟨_, _, ⟨rfl, rfl⟩, ?_⟩)
    refine Sp.id (pc := 27) (l := [some (.ref 22), some (.int x), some (.ref a3), none]) (st := [.int x6]) (h := hS X M) ?_
    refine Sp.step rfl rfl rfl rfl ?_
    refine Sp.step rfl rfl rfl rfl ?_
    refine Sp.step rfl rfl rfl rfl ?_
    refine Sp.weak (l0 := [some (.ref 22), none, some (.ref a3), some (.int (x6 - 1))]) ⟨rfl, rfl, rfl, trivial⟩ ?_
    refine Sp.loopY (pe := 54) (mf := (fun (x14 : (Int32 × XS)) => [some (.ref 22), none, some (.ref a3), some (.int x14.1)])) (hf := (fun (x14 : (Int32 × XS)) => hS x14.2 M)) (fun x14 => ?_) (fun x22 => ?_) _ _
    · unfold b30_Flow_applyCall
      refine Sp.step rfl rfl rfl rfl ?_
      refine Sp.if1 rfl rfl rfl rfl (fun e15 => ?_) (fun e15 => ?_)
      · exact Sp.jmp (l0 := [some (.ref 22), none, some (.ref a3), some (.int x14.1)]) ⟨rfl, rfl, rfl, trivial⟩ (fun _ _ h => h)
      · refine Sp.step rfl rfl rfl rfl ?_
        refine Sp.step rfl rfl rfl rfl ?_
        refine Sp.step rfl rfl rfl rfl ?_
        refine Sp.guard (fun e16 => ?_)
        refine Sp.call rfl rfl rfl (xrecv (c := 7) (by decide) e16 (by decide +kernel)) s_Routine_takenKind (fun x17 => ⟨_, _, ⟨rfl, rfl⟩, ?_⟩)
        refine Sp.id (pc := 40) (l := [some (.ref 22), none, some (.ref a3), some (.int x14.1)]) (st := [.int x17, .ref 22]) (h := hS x14.2 M) ?_
        refine Sp.call rfl rfl rfl (xrecv (c := 1) (by decide) rfl (by decide +kernel)) s_Flow_take (fun x18 => ⟨_, _, ⟨rfl, rfl⟩, ?_⟩)
        refine Sp.bool (fun e19 => ?_) (fun e19 => ?_)
        · refine Sp.id (pc := 43) (l := [some (.ref 22), none, some (.ref a3), some (.int x14.1)]) (st := [.int 1]) (h := hS x18.2 M) ?_
          refine Sp.step rfl rfl rfl rfl ?_
          refine Sp.step rfl rfl rfl rfl ?_
          refine Sp.step rfl rfl rfl rfl ?_
          exact Sp.jmp (l0 := [some (.ref 22), none, some (.ref a3), some (.int (x14.1 + (-1)))]) ⟨rfl, rfl, rfl, trivial⟩ (fun _ _ h => h)
        · refine Sp.id (pc := 43) (l := [some (.ref 22), none, some (.ref a3), some (.int x14.1)]) (st := [.int 0]) (h := hS x18.2 M) ?_
          refine Sp.step rfl rfl rfl rfl ?_
          refine Sp.step rfl rfl rfl rfl ?_
          exact Sp.iret rfl rfl rfl rfl (fun _ _ h => h)
    · refine Sp.step rfl rfl rfl rfl ?_
      refine Sp.guard (fun e23 => ?_)
      refine Sp.step rfl rfl rfl (xg_I (c := 7) (f := 4) rfl rfl e23 rfl) ?_
      refine Sp.if1 rfl rfl rfl rfl (fun e24 => ?_) (fun e24 => ?_)
      · refine Sp.step rfl rfl rfl rfl ?_
        refine Sp.step rfl rfl rfl rfl ?_
        exact Sp.iret rfl rfl rfl rfl (fun _ _ h => h)
      · refine Sp.step rfl rfl rfl rfl ?_
        refine Sp.step rfl rfl rfl rfl ?_
        refine Sp.step rfl rfl rfl (xg_I (c := 7) (f := 4) rfl rfl e23 rfl) ?_
        refine Sp.step rfl rfl rfl rfl ?_
        refine Sp.if2 rfl rfl rfl rfl (fun e25 => ?_) (fun e25 => ?_)
        · refine Sp.step rfl rfl rfl rfl ?_
          refine Sp.call rfl rfl rfl (xrecv (c := 1) (by decide) rfl (by decide +kernel)) s_Flow_put (fun x26 => ⟨_, _, ⟨rfl, rfl⟩, ?_⟩)
          refine Sp.bool (fun e27 => ?_) (fun e27 => ?_)
          · refine Sp.id (pc := 78) (l := [some (.ref 22), none, some (.ref a3), some (.int x22.1)]) (st := [.int 1]) (h := hS x26.2 M) ?_
            refine Sp.step rfl rfl rfl rfl ?_
            refine Sp.step rfl rfl rfl rfl ?_
            refine Sp.step rfl rfl rfl rfl ?_
            exact Sp.iret rfl rfl rfl rfl (fun _ _ h => h)
          · refine Sp.id (pc := 78) (l := [some (.ref 22), none, some (.ref a3), some (.int x22.1)]) (st := [.int 0]) (h := hS x26.2 M) ?_
            refine Sp.step rfl rfl rfl rfl ?_
            refine Sp.step rfl rfl rfl rfl ?_
            exact Sp.iret rfl rfl rfl rfl (fun _ _ h => h)
        · refine Sp.step rfl rfl rfl rfl ?_
          refine Sp.step rfl rfl rfl rfl ?_
          refine Sp.call rfl rfl rfl (xrecv (c := 1) (by decide) rfl (by decide +kernel)) s_Flow_put (fun x30 => ⟨_, _, ⟨rfl, rfl⟩, ?_⟩)
          refine Sp.bool (fun e31 => ?_) (fun e31 => ?_)
          · refine Sp.id (pc := 78) (l := [some (.ref 22), none, some (.ref a3), some (.int x22.1)]) (st := [.int 1]) (h := hS x30.2 M) ?_
            refine Sp.step rfl rfl rfl rfl ?_
            refine Sp.step rfl rfl rfl rfl ?_
            refine Sp.step rfl rfl rfl rfl ?_
            exact Sp.iret rfl rfl rfl rfl (fun _ _ h => h)
          · refine Sp.id (pc := 78) (l := [some (.ref 22), none, some (.ref a3), some (.int x22.1)]) (st := [.int 0]) (h := hS x30.2 M) ?_
            refine Sp.step rfl rfl rfl rfl ?_
            refine Sp.step rfl rfl rfl rfl ?_
            exact Sp.iret rfl rfl rfl rfl (fun _ _ h => h)
  · refine Sp.id (pc := 8) (l := [some (.ref 22), some (.int x), none, none]) (st := [.int 0]) (h := hS X M) ?_
    refine Sp.step rfl rfl rfl rfl ?_
    refine Sp.step rfl rfl rfl rfl ?_
    exact Sp.iret rfl rfl rfl rfl (fun _ _ h => h)
def b18_Flow_applyFixed (x9 : (Int32 × XS)) : Option ((Int32 × XS) ⊕ ((Int32 × XS) ⊕ (Bool × XS))) := (if x9.1 ≤ 0 then some (.inr (.inl (x9.1, x9.2))) else ((f_Flow_take (x9.1 &&& 15) x9.2).bind fun x11 => (if x11.1 = true then some (.inl ((x9.1 : Int32) >>> ((4 : Int32) &&& 31), x11.2)) else some (.inr (.inr (false, x11.2))))))
def f_Flow_applyFixed (x : Int32) (X : XS) : Option (Bool × XS) := (if 0 ≤ x ∧ x ≤ 55 then ((lp (b18_Flow_applyFixed) 10000 (oT 5 x.toNatClampNeg, X)).bind fun s => sb s fun x15 => (if oT 6 x.toNatClampNeg = 0 then some (true, x15.2) else ((f_Flow_put (oT 6 x.toNatClampNeg) x15.2).bind fun x17 => (if x17.1 = true then some (true, x17.2) else some (false, x17.2))))) else some (false, X))
set_option maxRecDepth 100000 in
set_option maxHeartbeats 4000000 in
theorem s_Flow_applyFixed {L : Nat} {xs : Nat → Int32} {X : XS} {M : MS} {x : Int32} : Sp (mjOO L xs) 148 0 [some (.ref 22), some (.int x), none] [] (hS X M) (f_Flow_applyFixed x X) (KBX M) := by
  unfold f_Flow_applyFixed
  refine Sp.step rfl rfl rfl rfl ?_
  refine Sp.step rfl rfl rfl rfl ?_
  refine Sp.step rfl rfl rfl rfl ?_
  refine Sp.callP rfl rfl rfl rfl s_within (fun e1 => ?_) (fun e1 => ?_)
  · refine Sp.id (pc := 7) (l := [some (.ref 22), some (.int x), none]) (st := [.int 1]) (h := hS X M) ?_
    refine Sp.step rfl rfl rfl rfl ?_
    refine Sp.step rfl rfl rfl rfl ?_
    refine Sp.step rfl rfl rfl rfl ?_
    refine Sp.step rfl rfl rfl (old_ld (f := oT 5) rfl (ix_le (N := 55) rfl e1.1 e1.2)) ?_
    refine Sp.step rfl rfl rfl rfl ?_
    refine Sp.weak (l0 := [some (.ref 22), some (.int x), some (.int (oT 5 x.toNatClampNeg))]) ⟨rfl, rfl, rfl, trivial⟩ ?_
    refine Sp.loopY (pe := 42) (mf := (fun (x9 : (Int32 × XS)) => [some (.ref 22), some (.int x), some (.int x9.1)])) (hf := (fun (x9 : (Int32 × XS)) => hS x9.2 M)) (fun x9 => ?_) (fun x15 => ?_) _ _
    · unfold b18_Flow_applyFixed
      refine Sp.step rfl rfl rfl rfl ?_
      refine Sp.if1 rfl rfl rfl rfl (fun e10 => ?_) (fun e10 => ?_)
      · exact Sp.jmp (l0 := [some (.ref 22), some (.int x), some (.int x9.1)]) ⟨rfl, rfl, rfl, trivial⟩ (fun _ _ h => h)
      · refine Sp.step rfl rfl rfl rfl ?_
        refine Sp.step rfl rfl rfl rfl ?_
        refine Sp.step rfl rfl rfl rfl ?_
        refine Sp.step rfl rfl rfl rfl ?_
        refine Sp.call rfl rfl rfl (xrecv (c := 1) (by decide) rfl (by decide +kernel)) s_Flow_take (fun x11 => ⟨_, _, ⟨rfl, rfl⟩, ?_⟩)
        refine Sp.bool (fun e12 => ?_) (fun e12 => ?_)
        · refine Sp.id (pc := 30) (l := [some (.ref 22), some (.int x), some (.int x9.1)]) (st := [.int 1]) (h := hS x11.2 M) ?_
          refine Sp.step rfl rfl rfl rfl ?_
          refine Sp.step rfl rfl rfl rfl ?_
          refine Sp.step rfl rfl rfl rfl ?_
          refine Sp.step rfl rfl rfl rfl ?_
          refine Sp.step rfl rfl rfl rfl ?_
          refine Sp.step rfl rfl rfl rfl ?_
          exact Sp.jmp (l0 := [some (.ref 22), some (.int x), some (.int ((x9.1 : Int32) >>> ((4 : Int32) &&& 31)))]) ⟨rfl, rfl, rfl, trivial⟩ (fun _ _ h => h)
        · refine Sp.id (pc := 30) (l := [some (.ref 22), some (.int x), some (.int x9.1)]) (st := [.int 0]) (h := hS x11.2 M) ?_
          refine Sp.step rfl rfl rfl rfl ?_
          refine Sp.step rfl rfl rfl rfl ?_
          exact Sp.iret rfl rfl rfl rfl (fun _ _ h => h)
    · refine Sp.step rfl rfl rfl rfl ?_
      refine Sp.step rfl rfl rfl rfl ?_
      refine Sp.step rfl rfl rfl (old_ld (f := oT 6) rfl (ix_le (N := 55) rfl e1.1 e1.2)) ?_
      refine Sp.if1 rfl rfl rfl rfl (fun e16 => ?_) (fun e16 => ?_)
      · refine Sp.step rfl rfl rfl rfl ?_
        refine Sp.step rfl rfl rfl rfl ?_
        exact Sp.iret rfl rfl rfl rfl (fun _ _ h => h)
      · refine Sp.step rfl rfl rfl rfl ?_
        refine Sp.step rfl rfl rfl rfl ?_
        refine Sp.step rfl rfl rfl rfl ?_
        refine Sp.step rfl rfl rfl (old_ld (f := oT 6) rfl (ix_le (N := 55) rfl e1.1 e1.2)) ?_
        refine Sp.call rfl rfl rfl (xrecv (c := 1) (by decide) rfl (by decide +kernel)) s_Flow_put (fun x17 => ⟨_, _, ⟨rfl, rfl⟩, ?_⟩)
        refine Sp.bool (fun e18 => ?_) (fun e18 => ?_)
        · refine Sp.id (pc := 59) (l := [some (.ref 22), some (.int x), some (.int x15.1)]) (st := [.int 1]) (h := hS x17.2 M) ?_
          refine Sp.step rfl rfl rfl rfl ?_
          refine Sp.step rfl rfl rfl rfl ?_
          refine Sp.step rfl rfl rfl rfl ?_
          exact Sp.iret rfl rfl rfl rfl (fun _ _ h => h)
        · refine Sp.id (pc := 59) (l := [some (.ref 22), some (.int x), some (.int x15.1)]) (st := [.int 0]) (h := hS x17.2 M) ?_
          refine Sp.step rfl rfl rfl rfl ?_
          refine Sp.step rfl rfl rfl rfl ?_
          exact Sp.iret rfl rfl rfl rfl (fun _ _ h => h)
  · refine Sp.id (pc := 7) (l := [some (.ref 22), some (.int x), none]) (st := [.int 0]) (h := hS X M) ?_
    refine Sp.step rfl rfl rfl rfl ?_
    refine Sp.step rfl rfl rfl rfl ?_
    exact Sp.iret rfl rfl rfl rfl (fun _ _ h => h)
def f_Flow_apply (x : Int32) (y : Int32) (X : XS) : Option (Bool × XS) := (if x = 2 then (if 0 ≤ y ∧ y ≤ 11 then (if X.1 29 y.toNatClampNeg = 0 then some (false, X) else ((f_Flow_put (X.1 29 y.toNatClampNeg) X).bind fun x5 => (if x5.1 = true then some (true, x5.2) else some (false, x5.2)))) else some (false, X)) else (if x = 3 then ((f_Flow_takeTo y X).bind fun x11 => (if x11.1 = true then some (true, x11.2) else some (false, x11.2))) else (if x = 16 then (if 1 ≤ X.1 22 9 ∧ X.1 22 9 ≤ 10 then (if ixo ((X.1 22 9) - 1) 10 then ((f_Flow_put (X.1 28 ((X.1 22 9) - 1).toNatClampNeg) X).bind fun x17 => (if x17.1 = true then some (true, x17.2) else some (false, x17.2))) else none) else some (false, X)) else (if x = 18 then ((f_Flow_swap X).bind fun x23 => (if x23.1 = true then some (true, x23.2) else some (false, x23.2))) else (if x = 38 then ((f_Flow_applyCall y X).bind fun x26 => (if x26.1 = true then some (true, x26.2) else some (false, x26.2))) else (if x = 39 then ((f_Flow_applyCall (f_Source_routineOfName y X) X).bind fun x29 => (if x29.1 = true then some (true, x29.2) else some (false, x29.2))) else ((f_Flow_applyFixed x X).bind fun x31 => (if x31.1 = true then some (true, x31.2) else some (false, x31.2)))))))))
set_option maxRecDepth 100000 in
set_option maxHeartbeats 4000000 in
theorem s_Flow_apply {L : Nat} {xs : Nat → Int32} {X : XS} {M : MS} {x : Int32} {y : Int32} : Sp (mjOO L xs) 147 0 [some (.ref 22), some (.int x), some (.int y)] [] (hS X M) (f_Flow_apply x y X) (KBX M) := by
  unfold f_Flow_apply
  refine Sp.step rfl rfl rfl rfl ?_
  refine Sp.ite (fun e1 => ?_) (fun e1 => ?_)
  · refine Sp.step rfl rfl rfl (go_sw (t := 60) (sw_of e1 rfl)) ?_
    refine Sp.step rfl rfl rfl rfl ?_
    refine Sp.step rfl rfl rfl rfl ?_
    refine Sp.step rfl rfl rfl rfl ?_
    refine Sp.callP rfl rfl rfl rfl s_within (fun e2 => ?_) (fun e2 => ?_)
    · refine Sp.id (pc := 67) (l := [some (.ref 22), some (.int x), some (.int y)]) (st := [.int 1]) (h := hS X M) ?_
      refine Sp.step rfl rfl rfl rfl ?_
      refine Sp.step rfl rfl rfl rfl ?_
      refine Sp.step rfl rfl rfl (xg_F (c := 1) (f := 8) rfl rfl rfl rfl rfl) ?_
      refine Sp.step rfl rfl rfl rfl ?_
      refine Sp.step rfl rfl rfl (xld rfl (by decide) (ix_le (N := 11) rfl e2.1 e2.2)) ?_
      refine Sp.if1 rfl rfl rfl rfl (fun e4 => ?_) (fun e4 => ?_)
      · refine Sp.step rfl rfl rfl rfl ?_
        exact Sp.iret rfl rfl rfl rfl (fun _ _ h => h)
      · refine Sp.step rfl rfl rfl rfl ?_
        refine Sp.step rfl rfl rfl rfl ?_
        refine Sp.step rfl rfl rfl (xg_F (c := 1) (f := 8) rfl rfl rfl rfl rfl) ?_
        refine Sp.step rfl rfl rfl rfl ?_
        refine Sp.step rfl rfl rfl (xld rfl (by decide) (ix_le (N := 11) rfl e2.1 e2.2)) ?_
        refine Sp.call rfl rfl rfl (xrecv (c := 1) (by decide) rfl (by decide +kernel)) s_Flow_put (fun x5 => ⟨_, _, ⟨rfl, rfl⟩, ?_⟩)
        refine Sp.bool (fun e6 => ?_) (fun e6 => ?_)
        · refine Sp.id (pc := 89) (l := [some (.ref 22), some (.int x), some (.int y)]) (st := [.int 1]) (h := hS x5.2 M) ?_
          refine Sp.step rfl rfl rfl rfl ?_
          refine Sp.step rfl rfl rfl rfl ?_
          refine Sp.step rfl rfl rfl rfl ?_
          exact Sp.iret rfl rfl rfl rfl (fun _ _ h => h)
        · refine Sp.id (pc := 89) (l := [some (.ref 22), some (.int x), some (.int y)]) (st := [.int 0]) (h := hS x5.2 M) ?_
          refine Sp.step rfl rfl rfl rfl ?_
          refine Sp.step rfl rfl rfl rfl ?_
          exact Sp.iret rfl rfl rfl rfl (fun _ _ h => h)
    · refine Sp.id (pc := 67) (l := [some (.ref 22), some (.int x), some (.int y)]) (st := [.int 0]) (h := hS X M) ?_
      refine Sp.step rfl rfl rfl rfl ?_
      refine Sp.step rfl rfl rfl rfl ?_
      exact Sp.iret rfl rfl rfl rfl (fun _ _ h => h)
  · refine Sp.ite (fun e10 => ?_) (fun e10 => ?_)
    · refine Sp.step rfl rfl rfl (go_sw (t := 98) (sw_of e10 rfl)) ?_
      refine Sp.step rfl rfl rfl rfl ?_
      refine Sp.step rfl rfl rfl rfl ?_
      refine Sp.call rfl rfl rfl (xrecv (c := 1) (by decide) rfl (by decide +kernel)) s_Flow_takeTo (fun x11 => ⟨_, _, ⟨rfl, rfl⟩, ?_⟩)
      refine Sp.bool (fun e12 => ?_) (fun e12 => ?_)
      · refine Sp.id (pc := 103) (l := [some (.ref 22), some (.int x), some (.int y)]) (st := [.int 1]) (h := hS x11.2 M) ?_
        exact Sp.iret rfl rfl rfl rfl (fun _ _ h => h)
      · refine Sp.id (pc := 103) (l := [some (.ref 22), some (.int x), some (.int y)]) (st := [.int 0]) (h := hS x11.2 M) ?_
        exact Sp.iret rfl rfl rfl rfl (fun _ _ h => h)
    · refine Sp.ite (fun e13 => ?_) (fun e13 => ?_)
      · refine Sp.step rfl rfl rfl (go_sw (t := 104) (sw_of e13 rfl)) ?_
        refine Sp.step rfl rfl rfl rfl ?_
        refine Sp.step rfl rfl rfl (xg_I (c := 1) (f := 9) rfl rfl rfl rfl) ?_
        refine Sp.step rfl rfl rfl rfl ?_
        refine Sp.step rfl rfl rfl rfl ?_
        refine Sp.callP rfl rfl rfl rfl s_within (fun e14 => ?_) (fun e14 => ?_)
        · refine Sp.id (pc := 114) (l := [some (.ref 22), some (.int x), some (.int y)]) (st := [.int 1]) (h := hS X M) ?_
          refine Sp.step rfl rfl rfl rfl ?_
          refine Sp.step rfl rfl rfl rfl ?_
          refine Sp.step rfl rfl rfl rfl ?_
          refine Sp.step rfl rfl rfl (xg_F (c := 1) (f := 7) rfl rfl rfl rfl rfl) ?_
          refine Sp.step rfl rfl rfl rfl ?_
          refine Sp.step rfl rfl rfl (xg_I (c := 1) (f := 9) rfl rfl rfl rfl) ?_
          refine Sp.step rfl rfl rfl rfl ?_
          refine Sp.step rfl rfl rfl rfl ?_
          refine Sp.guard (fun e16 => ?_)
          refine Sp.step rfl rfl rfl (xld rfl (by decide) e16) ?_
          refine Sp.call rfl rfl rfl (xrecv (c := 1) (by decide) rfl (by decide +kernel)) s_Flow_put (fun x17 => ⟨_, _, ⟨rfl, rfl⟩, ?_⟩)
          refine Sp.bool (fun e18 => ?_) (fun e18 => ?_)
          · refine Sp.id (pc := 132) (l := [some (.ref 22), some (.int x), some (.int y)]) (st := [.int 1]) (h := hS x17.2 M) ?_
            refine Sp.step rfl rfl rfl rfl ?_
            refine Sp.step rfl rfl rfl rfl ?_
            refine Sp.step rfl rfl rfl rfl ?_
            exact Sp.iret rfl rfl rfl rfl (fun _ _ h => h)
          · refine Sp.id (pc := 132) (l := [some (.ref 22), some (.int x), some (.int y)]) (st := [.int 0]) (h := hS x17.2 M) ?_
            refine Sp.step rfl rfl rfl rfl ?_
            refine Sp.step rfl rfl rfl rfl ?_
            exact Sp.iret rfl rfl rfl rfl (fun _ _ h => h)
        · refine Sp.id (pc := 114) (l := [some (.ref 22), some (.int x), some (.int y)]) (st := [.int 0]) (h := hS X M) ?_
          refine Sp.step rfl rfl rfl rfl ?_
          refine Sp.step rfl rfl rfl rfl ?_
          exact Sp.iret rfl rfl rfl rfl (fun _ _ h => h)
      · refine Sp.ite (fun e22 => ?_) (fun e22 => ?_)
        · refine Sp.step rfl rfl rfl (go_sw (t := 141) (sw_of e22 rfl)) ?_
          refine Sp.step rfl rfl rfl rfl ?_
          refine Sp.call rfl rfl rfl (xrecv (c := 1) (by decide) rfl (by decide +kernel)) s_Flow_swap (fun x23 => ⟨_, _, ⟨rfl, rfl⟩, ?_⟩)
          refine Sp.bool (fun e24 => ?_) (fun e24 => ?_)
          · refine Sp.id (pc := 145) (l := [some (.ref 22), some (.int x), some (.int y)]) (st := [.int 1]) (h := hS x23.2 M) ?_
            exact Sp.iret rfl rfl rfl rfl (fun _ _ h => h)
          · refine Sp.id (pc := 145) (l := [some (.ref 22), some (.int x), some (.int y)]) (st := [.int 0]) (h := hS x23.2 M) ?_
            exact Sp.iret rfl rfl rfl rfl (fun _ _ h => h)
        · refine Sp.ite (fun e25 => ?_) (fun e25 => ?_)
          · refine Sp.step rfl rfl rfl (go_sw (t := 146) (sw_of e25 rfl)) ?_
            refine Sp.step rfl rfl rfl rfl ?_
            refine Sp.step rfl rfl rfl rfl ?_
            refine Sp.call rfl rfl rfl (xrecv (c := 1) (by decide) rfl (by decide +kernel)) s_Flow_applyCall (fun x26 => ⟨_, _, ⟨rfl, rfl⟩, ?_⟩)
            refine Sp.bool (fun e27 => ?_) (fun e27 => ?_)
            · refine Sp.id (pc := 151) (l := [some (.ref 22), some (.int x), some (.int y)]) (st := [.int 1]) (h := hS x26.2 M) ?_
              exact Sp.iret rfl rfl rfl rfl (fun _ _ h => h)
            · refine Sp.id (pc := 151) (l := [some (.ref 22), some (.int x), some (.int y)]) (st := [.int 0]) (h := hS x26.2 M) ?_
              exact Sp.iret rfl rfl rfl rfl (fun _ _ h => h)
          · refine Sp.ite (fun e28 => ?_) (fun e28 => ?_)
            · refine Sp.step rfl rfl rfl (go_sw (t := 152) (sw_of e28 rfl)) ?_
              refine Sp.step rfl rfl rfl rfl ?_
              refine Sp.step rfl rfl rfl rfl ?_
              refine Sp.step rfl rfl rfl (xg_F (c := 1) (f := 1) rfl rfl rfl rfl rfl) ?_
              refine Sp.step rfl rfl rfl rfl ?_
              refine Sp.callS rfl rfl rfl (xrecv (c := 8) (by decide) rfl (by decide +kernel)) s_Source_routineOfName ⟨rfl, rfl⟩ ?_
              refine Sp.id (pc := 161) (l := [some (.ref 22), some (.int x), some (.int y)]) (st := [.int (f_Source_routineOfName y X), .ref 22]) (h := hS X M) ?_
              refine Sp.call rfl rfl rfl (xrecv (c := 1) (by decide) rfl (by decide +kernel)) s_Flow_applyCall (fun x29 => ⟨_, _, ⟨rfl, rfl⟩, ?_⟩)
              refine Sp.bool (fun e30 => ?_) (fun e30 => ?_)
              · refine Sp.id (pc := 164) (l := [some (.ref 22), some (.int x), some (.int y)]) (st := [.int 1]) (h := hS x29.2 M) ?_
                exact Sp.iret rfl rfl rfl rfl (fun _ _ h => h)
              · refine Sp.id (pc := 164) (l := [some (.ref 22), some (.int x), some (.int y)]) (st := [.int 0]) (h := hS x29.2 M) ?_
                exact Sp.iret rfl rfl rfl rfl (fun _ _ h => h)
            · refine Sp.step rfl rfl rfl (go_sw (t := 165) (mjSw_dflt _ (by
                intro q hq
                simp only [List.mem_cons, List.not_mem_nil, or_false] at hq
                rcases hq with rfl | rfl | rfl | rfl | rfl | rfl
                · exact fun h => absurd h (fun h => e1 h)
                · exact fun h => absurd h (fun h => e10 h)
                · exact fun h => absurd h (fun h => e13 h)
                · exact fun h => absurd h (fun h => e22 h)
                · exact fun h => absurd h (fun h => e25 h)
                · exact fun h => absurd h (fun h => e28 h)))) ?_
              refine Sp.step rfl rfl rfl rfl ?_
              refine Sp.step rfl rfl rfl rfl ?_
              refine Sp.call rfl rfl rfl (xrecv (c := 1) (by decide) rfl (by decide +kernel)) s_Flow_applyFixed (fun x31 => ⟨_, _, ⟨rfl, rfl⟩, ?_⟩)
              refine Sp.bool (fun e32 => ?_) (fun e32 => ?_)
              · refine Sp.id (pc := 170) (l := [some (.ref 22), some (.int x), some (.int y)]) (st := [.int 1]) (h := hS x31.2 M) ?_
                exact Sp.iret rfl rfl rfl rfl (fun _ _ h => h)
              · refine Sp.id (pc := 170) (l := [some (.ref 22), some (.int x), some (.int y)]) (st := [.int 0]) (h := hS x31.2 M) ?_
                exact Sp.iret rfl rfl rfl rfl (fun _ _ h => h)
def f_Flow_lookAt (x : Nat) (y : Int32) (X : XS) : Option XS := (if 0 ≤ y ∧ y ≤ 59 then (lt (xw X 24 y.toNatClampNeg 0) fun X3 => (lt (xw X3 22 9 (X3.1 25 y.toNatClampNeg)) fun X4 => (if cpo (y * 10) 0 10 600 10 then (lt (xc X4 (X4.1 26) 28 (y * 10).toNatClampNeg 0 10) fun X6 => (if cpo (y * 12) 0 12 720 12 then (lt (xc X6 (X6.1 27) 29 (y * 12).toNatClampNeg 0 12) fun X8 => ((f_Flow_comeToHandlers x y X8).bind fun x9 => (if x9.1 22 10 = (-1) then (if (xT x9 x = some (12, 0)) then (ocz (x9.2.1 x 7) none (fun a12 => (ocz (xL x9 0 a12) none (fun n14 => (if ixo y n14 then (ocz (x9.2.1 x 8) none (fun a17 => (ocz (xL x9 0 a17) none (fun n19 => (if ixo y n19 then ((f_Flow_possible x (x9.1 a12 y.toNatClampNeg) (x9.1 a17 y.toNatClampNeg) x9).bind fun x22 => (if x22 = true then ((f_Flow_apply (x9.1 a12 y.toNatClampNeg) (x9.1 a17 y.toNatClampNeg) x9).bind fun x25 => (if x25.1 = true then (if f_P_jumps (x9.1 a12 y.toNatClampNeg) = true then ((f_Flow_comeTo_28 (x9.1 a17 y.toNatClampNeg) (x25.2.1 22 9) x25.2).bind fun x30 => (if x9.1 a12 y.toNatClampNeg = 19 then (if ¬ x30.1 22 10 = (-1) then some x30 else some x30) else (if 40 ≤ x9.1 a12 y.toNatClampNeg ∧ x9.1 a12 y.toNatClampNeg ≤ 43 then (if ¬ x30.1 22 10 = (-1) then some x30 else some x30) else (if ¬ x30.1 22 10 = (-1) then some x30 else (if (xT x30 x = some (12, 0)) then (if x30.1 x 6 ≤ y + 1 then (lt (xw x30 22 10 y) fun X43 => some X43) else ((f_Flow_comeTo_28 (y + 1) (x30.1 22 9) x30).bind fun x44 => some x44)) else none))))) else (if x9.1 a12 y.toNatClampNeg = 19 then (if ¬ x25.2.1 22 10 = (-1) then some x25.2 else some x25.2) else (if 40 ≤ x9.1 a12 y.toNatClampNeg ∧ x9.1 a12 y.toNatClampNeg ≤ 43 then (if ¬ x25.2.1 22 10 = (-1) then some x25.2 else some x25.2) else (if ¬ x25.2.1 22 10 = (-1) then some x25.2 else (if (xT x25.2 x = some (12, 0)) then (if x25.2.1 x 6 ≤ y + 1 then (lt (xw x25.2 22 10 y) fun X58 => some X58) else ((f_Flow_comeTo_28 (y + 1) (x25.2.1 22 9) x25.2).bind fun x59 => some x59)) else none))))) else (lt (xw x25.2 22 10 y) fun X61 => some X61))) else (lt (xw x9 22 10 y) fun X63 => some X63))) else none))))) else none))))) else none) else some x9))) else none)) else none))) else some X)
set_option maxRecDepth 100000 in
set_option maxHeartbeats 4000000 in
theorem s_Flow_lookAt {L : Nat} {xs : Nat → Int32} {X : XS} {M : MS} {x : Nat} {y : Int32} : Sp (mjOO L xs) 141 0 [some (.ref 22), some (.ref x), some (.int y), none, none, none] [] (hS X M) (f_Flow_lookAt x y X) (KVX M) := by
  unfold f_Flow_lookAt
  refine Sp.step rfl rfl rfl rfl ?_
  refine Sp.step rfl rfl rfl rfl ?_
  refine Sp.step rfl rfl rfl rfl ?_
  refine Sp.callP rfl rfl rfl rfl s_within (fun e1 => ?_) (fun e1 => ?_)
  · refine Sp.id (pc := 7) (l := [some (.ref 22), some (.ref x), some (.int y), none, none, none]) (st := [.int 1]) (h := hS X M) ?_
    refine Sp.step rfl rfl rfl rfl ?_
    refine Sp.step rfl rfl rfl rfl ?_
    refine Sp.step rfl rfl rfl (xg_F (c := 1) (f := 3) rfl rfl rfl rfl rfl) ?_
    refine Sp.step rfl rfl rfl rfl ?_
    refine Sp.step rfl rfl rfl rfl ?_
    refine Sp.step rfl rfl rfl (xst0 rfl (ix_le (N := 59) rfl e1.1 e1.2)) ?_
    refine Sp.step rfl rfl rfl rfl ?_
    refine Sp.step rfl rfl rfl rfl ?_
    refine Sp.step rfl rfl rfl (xg_F (c := 1) (f := 4) rfl rfl rfl rfl rfl) ?_
    refine Sp.step rfl rfl rfl rfl ?_
    refine Sp.step rfl rfl rfl (xld rfl (by decide) (ix_le (N := 59) rfl e1.1 e1.2)) ?_
    refine Sp.step rfl rfl rfl (xp_I (c := 1) (f := 9) rfl rfl rfl rfl rfl) ?_
    refine Sp.step rfl rfl rfl rfl ?_
    refine Sp.step rfl rfl rfl (xg_F (c := 1) (f := 5) rfl rfl rfl rfl rfl) ?_
    refine Sp.step rfl rfl rfl rfl ?_
    refine Sp.step rfl rfl rfl rfl ?_
    refine Sp.step rfl rfl rfl rfl ?_
    refine Sp.step rfl rfl rfl rfl ?_
    refine Sp.step rfl rfl rfl (xg_F (c := 1) (f := 7) rfl rfl rfl rfl rfl) ?_
    refine Sp.step rfl rfl rfl rfl ?_
    refine Sp.step rfl rfl rfl rfl ?_
    refine Sp.guard (fun e5 => ?_)
    refine Sp.nat rfl rfl rfl (xcopy rfl rfl (Or.inl rfl) e5) ⟨by decide, by decide, rfl⟩ ?_
    refine Sp.step rfl rfl rfl rfl ?_
    refine Sp.step rfl rfl rfl (xg_F (c := 1) (f := 6) rfl rfl rfl rfl rfl) ?_
    refine Sp.step rfl rfl rfl rfl ?_
    refine Sp.step rfl rfl rfl rfl ?_
    refine Sp.step rfl rfl rfl rfl ?_
    refine Sp.step rfl rfl rfl rfl ?_
    refine Sp.step rfl rfl rfl (xg_F (c := 1) (f := 8) rfl rfl rfl rfl rfl) ?_
    refine Sp.step rfl rfl rfl rfl ?_
    refine Sp.step rfl rfl rfl rfl ?_
    refine Sp.guard (fun e7 => ?_)
    refine Sp.nat rfl rfl rfl (xcopy rfl rfl (Or.inl rfl) e7) ⟨by decide, by decide, rfl⟩ ?_
    refine Sp.step rfl rfl rfl rfl ?_
    refine Sp.step rfl rfl rfl rfl ?_
    refine Sp.step rfl rfl rfl rfl ?_
    refine Sp.call rfl rfl rfl (xrecv (c := 1) (by decide) rfl (by decide +kernel)) s_Flow_comeToHandlers (fun x9 => ⟨_, _, ⟨rfl, rfl⟩, ?_⟩)
    refine Sp.id (pc := 70) (l := [some (.ref 22), some (.ref x), some (.int y), none, none, none]) (st := []) (h := hS x9 M) ?_
    refine Sp.step rfl rfl rfl rfl ?_
    refine Sp.step rfl rfl rfl (xg_I (c := 1) (f := 10) rfl rfl rfl rfl) ?_
    refine Sp.step rfl rfl rfl rfl ?_
    refine Sp.if2 rfl rfl rfl rfl (fun e10 => ?_) (fun e10 => ?_)
    · refine Sp.step rfl rfl rfl rfl ?_
      refine Sp.guard (fun e11 => ?_)
      refine Sp.step rfl rfl rfl (xg_D (c := 7) (f := 7) rfl rfl e11 rfl (fxP_big (dyn_of (c := 7) e11 rfl))) ?_
      refine Sp.ocrn (fun a12 e13 => ?_)
      refine Sp.step rfl rfl rfl rfl ?_
      refine Sp.ocn (fun n14 e15 => ?_)
      refine Sp.guard (fun e16 => ?_)
      refine Sp.step rfl rfl rfl (xld (xL_ok e15) (by decide) e16) ?_
      refine Sp.step rfl rfl rfl rfl ?_
      refine Sp.step rfl rfl rfl rfl ?_
      refine Sp.step rfl rfl rfl (xg_D (c := 7) (f := 8) rfl rfl e11 rfl (fxP_big (dyn_of (c := 7) e11 rfl))) ?_
      refine Sp.ocrn (fun a17 e18 => ?_)
      refine Sp.step rfl rfl rfl rfl ?_
      refine Sp.ocn (fun n19 e20 => ?_)
      refine Sp.guard (fun e21 => ?_)
      refine Sp.step rfl rfl rfl (xld (xL_ok e20) (by decide) e21) ?_
      refine Sp.step rfl rfl rfl rfl ?_
      refine Sp.step rfl rfl rfl rfl ?_
      refine Sp.step rfl rfl rfl rfl ?_
      refine Sp.step rfl rfl rfl rfl ?_
      refine Sp.step rfl rfl rfl rfl ?_
      refine Sp.call rfl rfl rfl (xrecv (c := 1) (by decide) rfl (by decide +kernel)) s_Flow_possible (fun x22 => ⟨_, _, ⟨rfl, rfl⟩, ?_⟩)
      refine Sp.bool (fun e23 => ?_) (fun e23 => ?_)
      · refine Sp.id (pc := 102) (l := [some (.ref 22), some (.ref x), some (.int y), some (.int (x9.1 a12 y.toNatClampNeg)), some (.int (x9.1 a17 y.toNatClampNeg)), none]) (st := [.int 1]) (h := hS x9 M) ?_
        refine Sp.step rfl rfl rfl rfl ?_
        refine Sp.step rfl rfl rfl rfl ?_
        refine Sp.step rfl rfl rfl rfl ?_
        refine Sp.step rfl rfl rfl rfl ?_
        refine Sp.call rfl rfl rfl (xrecv (c := 1) (by decide) rfl (by decide +kernel)) s_Flow_apply (fun x25 => ⟨_, _, ⟨rfl, rfl⟩, ?_⟩)
        refine Sp.bool (fun e26 => ?_) (fun e26 => ?_)
        · refine Sp.id (pc := 112) (l := [some (.ref 22), some (.ref x), some (.int y), some (.int (x9.1 a12 y.toNatClampNeg)), some (.int (x9.1 a17 y.toNatClampNeg)), none]) (st := [.int 1]) (h := hS x25.2 M) ?_
          refine Sp.step rfl rfl rfl rfl ?_
          refine Sp.step rfl rfl rfl rfl ?_
          refine Sp.callS rfl rfl rfl rfl s_P_jumps ⟨rfl, rfl⟩ ?_
          refine Sp.bool (fun e28 => ?_) (fun e28 => ?_)
          · refine Sp.id (pc := 125) (l := [some (.ref 22), some (.ref x), some (.int y), some (.int (x9.1 a12 y.toNatClampNeg)), some (.int (x9.1 a17 y.toNatClampNeg)), none]) (st := [.int 1]) (h := hS x25.2 M) ?_
            refine Sp.step rfl rfl rfl rfl ?_
            refine Sp.step rfl rfl rfl rfl ?_
            refine Sp.step rfl rfl rfl rfl ?_
            refine Sp.step rfl rfl rfl rfl ?_
            refine Sp.step rfl rfl rfl (xg_F (c := 1) (f := 7) rfl rfl rfl rfl rfl) ?_
            refine Sp.step rfl rfl rfl rfl ?_
            refine Sp.step rfl rfl rfl (xg_I (c := 1) (f := 9) rfl rfl rfl rfl) ?_
            refine Sp.call rfl rfl rfl (xrecv (c := 1) (by decide) rfl (by decide +kernel)) s_Flow_comeTo_28 (fun x30 => ⟨_, _, ⟨rfl, rfl⟩, ?_⟩)
            refine Sp.id (pc := 142) (l := [some (.ref 22), some (.ref x), some (.int y), some (.int (x9.1 a12 y.toNatClampNeg)), some (.int (x9.1 a17 y.toNatClampNeg)), none]) (st := []) (h := hS x30 M) ?_
            refine Sp.step rfl rfl rfl rfl ?_
            refine Sp.step rfl rfl rfl rfl ?_
            refine Sp.if2 rfl rfl rfl rfl (fun e31 => ?_) (fun e31 => ?_)
            · refine Sp.step rfl rfl rfl rfl ?_
              refine Sp.step rfl rfl rfl rfl ?_
              refine Sp.step rfl rfl rfl rfl ?_
              refine Sp.step rfl rfl rfl rfl ?_
              refine Sp.step rfl rfl rfl (xg_I (c := 1) (f := 10) rfl rfl rfl rfl) ?_
              refine Sp.step rfl rfl rfl rfl ?_
              refine Sp.if2 rfl rfl rfl rfl (fun e32 => ?_) (fun e32 => ?_)
              · exact Sp.vret rfl rfl rfl (fun _ _ h => h)
              · refine Sp.step rfl rfl rfl rfl ?_
                refine Sp.step rfl rfl rfl rfl ?_
                exact Sp.vret rfl rfl rfl (fun _ _ h => h)
            · refine Sp.step rfl rfl rfl rfl ?_
              refine Sp.step rfl rfl rfl rfl ?_
              refine Sp.step rfl rfl rfl rfl ?_
              refine Sp.callP rfl rfl rfl rfl s_within (fun e34 => ?_) (fun e34 => ?_)
              · refine Sp.id (pc := 156) (l := [some (.ref 22), some (.ref x), some (.int y), some (.int (x9.1 a12 y.toNatClampNeg)), some (.int (x9.1 a17 y.toNatClampNeg)), none]) (st := [.int 1]) (h := hS x30 M) ?_
                refine Sp.step rfl rfl rfl rfl ?_
                refine Sp.step rfl rfl rfl rfl ?_
                refine Sp.step rfl rfl rfl rfl ?_
                refine Sp.step rfl rfl rfl rfl ?_
                refine Sp.step rfl rfl rfl rfl ?_
                refine Sp.step rfl rfl rfl (xg_I (c := 1) (f := 10) rfl rfl rfl rfl) ?_
                refine Sp.step rfl rfl rfl rfl ?_
                refine Sp.if2 rfl rfl rfl rfl (fun e36 => ?_) (fun e36 => ?_)
                · exact Sp.vret rfl rfl rfl (fun _ _ h => h)
                · refine Sp.step rfl rfl rfl rfl ?_
                  refine Sp.step rfl rfl rfl rfl ?_
                  exact Sp.vret rfl rfl rfl (fun _ _ h => h)
              · refine Sp.id (pc := 156) (l := [some (.ref 22), some (.ref x), some (.int y), some (.int (x9.1 a12 y.toNatClampNeg)), some (.int (x9.1 a17 y.toNatClampNeg)), none]) (st := [.int 0]) (h := hS x30 M) ?_
                refine Sp.step rfl rfl rfl rfl ?_
                refine Sp.step rfl rfl rfl rfl ?_
                refine Sp.step rfl rfl rfl rfl ?_
                refine Sp.step rfl rfl rfl rfl ?_
                refine Sp.step rfl rfl rfl (xg_I (c := 1) (f := 10) rfl rfl rfl rfl) ?_
                refine Sp.step rfl rfl rfl rfl ?_
                refine Sp.if2 rfl rfl rfl rfl (fun e39 => ?_) (fun e39 => ?_)
                · exact Sp.vret rfl rfl rfl (fun _ _ h => h)
                · refine Sp.step rfl rfl rfl rfl ?_
                  refine Sp.step rfl rfl rfl rfl ?_
                  refine Sp.step rfl rfl rfl rfl ?_
                  refine Sp.step rfl rfl rfl rfl ?_
                  refine Sp.step rfl rfl rfl rfl ?_
                  refine Sp.step rfl rfl rfl rfl ?_
                  refine Sp.guard (fun e41 => ?_)
                  refine Sp.step rfl rfl rfl (xg_I (c := 7) (f := 6) rfl rfl e41 rfl) ?_
                  refine Sp.if2 rfl rfl rfl rfl (fun e42 => ?_) (fun e42 => ?_)
                  · refine Sp.step rfl rfl rfl rfl ?_
                    refine Sp.step rfl rfl rfl rfl ?_
                    refine Sp.step rfl rfl rfl (xp_I (c := 1) (f := 10) rfl rfl rfl rfl rfl) ?_
                    exact Sp.vret rfl rfl rfl (fun _ _ h => h)
                  · refine Sp.step rfl rfl rfl rfl ?_
                    refine Sp.step rfl rfl rfl rfl ?_
                    refine Sp.step rfl rfl rfl rfl ?_
                    refine Sp.step rfl rfl rfl rfl ?_
                    refine Sp.step rfl rfl rfl rfl ?_
                    refine Sp.step rfl rfl rfl (xg_F (c := 1) (f := 7) rfl rfl rfl rfl rfl) ?_
                    refine Sp.step rfl rfl rfl rfl ?_
                    refine Sp.step rfl rfl rfl (xg_I (c := 1) (f := 9) rfl rfl rfl rfl) ?_
                    refine Sp.call rfl rfl rfl (xrecv (c := 1) (by decide) rfl (by decide +kernel)) s_Flow_comeTo_28 (fun x44 => ⟨_, _, ⟨rfl, rfl⟩, ?_⟩)
                    refine Sp.id (pc := 205) (l := [some (.ref 22), some (.ref x), some (.int y), some (.int (x9.1 a12 y.toNatClampNeg)), some (.int (x9.1 a17 y.toNatClampNeg)), some (.int 0)]) (st := []) (h := hS x44 M) ?_
                    refine Sp.step rfl rfl rfl rfl ?_
                    exact Sp.vret rfl rfl rfl (fun _ _ h => h)
          · refine Sp.id (pc := 125) (l := [some (.ref 22), some (.ref x), some (.int y), some (.int (x9.1 a12 y.toNatClampNeg)), some (.int (x9.1 a17 y.toNatClampNeg)), none]) (st := [.int 0]) (h := hS x25.2 M) ?_
            refine Sp.step rfl rfl rfl rfl ?_
            refine Sp.step rfl rfl rfl rfl ?_
            refine Sp.step rfl rfl rfl rfl ?_
            refine Sp.if2 rfl rfl rfl rfl (fun e46 => ?_) (fun e46 => ?_)
            · refine Sp.step rfl rfl rfl rfl ?_
              refine Sp.step rfl rfl rfl rfl ?_
              refine Sp.step rfl rfl rfl rfl ?_
              refine Sp.step rfl rfl rfl rfl ?_
              refine Sp.step rfl rfl rfl (xg_I (c := 1) (f := 10) rfl rfl rfl rfl) ?_
              refine Sp.step rfl rfl rfl rfl ?_
              refine Sp.if2 rfl rfl rfl rfl (fun e47 => ?_) (fun e47 => ?_)
              · exact Sp.vret rfl rfl rfl (fun _ _ h => h)
              · refine Sp.step rfl rfl rfl rfl ?_
                refine Sp.step rfl rfl rfl rfl ?_
                exact Sp.vret rfl rfl rfl (fun _ _ h => h)
            · refine Sp.step rfl rfl rfl rfl ?_
              refine Sp.step rfl rfl rfl rfl ?_
              refine Sp.step rfl rfl rfl rfl ?_
              refine Sp.callP rfl rfl rfl rfl s_within (fun e49 => ?_) (fun e49 => ?_)
              · refine Sp.id (pc := 156) (l := [some (.ref 22), some (.ref x), some (.int y), some (.int (x9.1 a12 y.toNatClampNeg)), some (.int (x9.1 a17 y.toNatClampNeg)), none]) (st := [.int 1]) (h := hS x25.2 M) ?_
                refine Sp.step rfl rfl rfl rfl ?_
                refine Sp.step rfl rfl rfl rfl ?_
                refine Sp.step rfl rfl rfl rfl ?_
                refine Sp.step rfl rfl rfl rfl ?_
                refine Sp.step rfl rfl rfl rfl ?_
                refine Sp.step rfl rfl rfl (xg_I (c := 1) (f := 10) rfl rfl rfl rfl) ?_
                refine Sp.step rfl rfl rfl rfl ?_
                refine Sp.if2 rfl rfl rfl rfl (fun e51 => ?_) (fun e51 => ?_)
                · exact Sp.vret rfl rfl rfl (fun _ _ h => h)
                · refine Sp.step rfl rfl rfl rfl ?_
                  refine Sp.step rfl rfl rfl rfl ?_
                  exact Sp.vret rfl rfl rfl (fun _ _ h => h)
              · refine Sp.id (pc := 156) (l := [some (.ref 22), some (.ref x), some (.int y), some (.int (x9.1 a12 y.toNatClampNeg)), some (.int (x9.1 a17 y.toNatClampNeg)), none]) (st := [.int 0]) (h := hS x25.2 M) ?_
                refine Sp.step rfl rfl rfl rfl ?_
                refine Sp.step rfl rfl rfl rfl ?_
                refine Sp.step rfl rfl rfl rfl ?_
                refine Sp.step rfl rfl rfl rfl ?_
                refine Sp.step rfl rfl rfl (xg_I (c := 1) (f := 10) rfl rfl rfl rfl) ?_
                refine Sp.step rfl rfl rfl rfl ?_
                refine Sp.if2 rfl rfl rfl rfl (fun e54 => ?_) (fun e54 => ?_)
                · exact Sp.vret rfl rfl rfl (fun _ _ h => h)
                · refine Sp.step rfl rfl rfl rfl ?_
                  refine Sp.step rfl rfl rfl rfl ?_
                  refine Sp.step rfl rfl rfl rfl ?_
                  refine Sp.step rfl rfl rfl rfl ?_
                  refine Sp.step rfl rfl rfl rfl ?_
                  refine Sp.step rfl rfl rfl rfl ?_
                  refine Sp.guard (fun e56 => ?_)
                  refine Sp.step rfl rfl rfl (xg_I (c := 7) (f := 6) rfl rfl e56 rfl) ?_
                  refine Sp.if2 rfl rfl rfl rfl (fun e57 => ?_) (fun e57 => ?_)
                  · refine Sp.step rfl rfl rfl rfl ?_
                    refine Sp.step rfl rfl rfl rfl ?_
                    refine Sp.step rfl rfl rfl (xp_I (c := 1) (f := 10) rfl rfl rfl rfl rfl) ?_
                    exact Sp.vret rfl rfl rfl (fun _ _ h => h)
                  · refine Sp.step rfl rfl rfl rfl ?_
                    refine Sp.step rfl rfl rfl rfl ?_
                    refine Sp.step rfl rfl rfl rfl ?_
                    refine Sp.step rfl rfl rfl rfl ?_
                    refine Sp.step rfl rfl rfl rfl ?_
                    refine Sp.step rfl rfl rfl (xg_F (c := 1) (f := 7) rfl rfl rfl rfl rfl) ?_
                    refine Sp.step rfl rfl rfl rfl ?_
                    refine Sp.step rfl rfl rfl (xg_I (c := 1) (f := 9) rfl rfl rfl rfl) ?_
                    refine Sp.call rfl rfl rfl (xrecv (c := 1) (by decide) rfl (by decide +kernel)) s_Flow_comeTo_28 (fun x59 => ⟨_, _, ⟨rfl, rfl⟩, ?_⟩)
                    refine Sp.id (pc := 205) (l := [some (.ref 22), some (.ref x), some (.int y), some (.int (x9.1 a12 y.toNatClampNeg)), some (.int (x9.1 a17 y.toNatClampNeg)), some (.int 0)]) (st := []) (h := hS x59 M) ?_
                    refine Sp.step rfl rfl rfl rfl ?_
                    exact Sp.vret rfl rfl rfl (fun _ _ h => h)
        · refine Sp.id (pc := 112) (l := [some (.ref 22), some (.ref x), some (.int y), some (.int (x9.1 a12 y.toNatClampNeg)), some (.int (x9.1 a17 y.toNatClampNeg)), none]) (st := [.int 0]) (h := hS x25.2 M) ?_
          refine Sp.step rfl rfl rfl rfl ?_
          refine Sp.step rfl rfl rfl rfl ?_
          refine Sp.step rfl rfl rfl rfl ?_
          refine Sp.step rfl rfl rfl (xp_I (c := 1) (f := 10) rfl rfl rfl rfl rfl) ?_
          exact Sp.vret rfl rfl rfl (fun _ _ h => h)
      · refine Sp.id (pc := 102) (l := [some (.ref 22), some (.ref x), some (.int y), some (.int (x9.1 a12 y.toNatClampNeg)), some (.int (x9.1 a17 y.toNatClampNeg)), none]) (st := [.int 0]) (h := hS x9 M) ?_
        refine Sp.step rfl rfl rfl rfl ?_
        refine Sp.step rfl rfl rfl rfl ?_
        refine Sp.step rfl rfl rfl rfl ?_
        refine Sp.step rfl rfl rfl (xp_I (c := 1) (f := 10) rfl rfl rfl rfl rfl) ?_
        exact Sp.vret rfl rfl rfl (fun _ _ h => h)
    · exact Sp.vret rfl rfl rfl (fun _ _ h => h)
  · refine Sp.id (pc := 7) (l := [some (.ref 22), some (.ref x), some (.int y), none, none, none]) (st := [.int 0]) (h := hS X M) ?_
    refine Sp.step rfl rfl rfl rfl ?_
    exact Sp.vret rfl rfl rfl (fun _ _ h => h)
def b27_Flow_firstWrong (x : Nat) (x13 : (Int32 × XS)) : Option ((Int32 × XS) ⊕ (Int32 × XS)) := (if 840 ≤ x13.1 then some (.inr (x13.1, x13.2)) else (if ¬ x13.2.1 22 10 = (-1) then some (.inr (x13.1, x13.2)) else ((f_Flow_lowestWaiting x13.2).bind fun x16 => (if 0 ≤ x16 then ((f_Flow_lookAt x x16 x13.2).bind fun x18 => some (.inl (x13.1 + 1, x18))) else some (.inr (x13.1, x13.2))))))
def f_Flow_firstWrong (x : Nat) (X : XS) : Option (Int32 × XS) := (if (xT X x = some (12, 0)) then (if ¬ X.1 x 6 = 0 then ((f_Flow_trapsFit x X).bind fun x3 => (if x3 = true then ((f_Flow_begin x X).bind fun x6 => ((lp (b27_Flow_firstWrong x) 10000 ((0 : Int32), x6)).bind fun x19 => some (x19.2.1 22 10, x19.2))) else some (99, X))) else some (0, X)) else none)
set_option maxRecDepth 100000 in
set_option maxHeartbeats 4000000 in
theorem s_Flow_firstWrong {L : Nat} {xs : Nat → Int32} {X : XS} {M : MS} {x : Nat} : Sp (mjOO L xs) 136 0 [some (.ref 22), some (.ref x), none, none] [] (hS X M) (f_Flow_firstWrong x X) (KEX M) := by
  unfold f_Flow_firstWrong
  refine Sp.step rfl rfl rfl rfl ?_
  refine Sp.guard (fun e1 => ?_)
  refine Sp.step rfl rfl rfl (xg_I (c := 7) (f := 6) rfl rfl e1 rfl) ?_
  refine Sp.if1 rfl rfl rfl rfl (fun e2 => ?_) (fun e2 => ?_)
  · refine Sp.step rfl rfl rfl rfl ?_
    refine Sp.step rfl rfl rfl rfl ?_
    refine Sp.call rfl rfl rfl (xrecv (c := 1) (by decide) rfl (by decide +kernel)) s_Flow_trapsFit (fun x3 => ⟨_, _, ⟨rfl, rfl⟩, ?_⟩)
    refine Sp.bool (fun e4 => ?_) (fun e4 => ?_)
    · refine Sp.id (pc := 14) (l := [some (.ref 22), some (.ref x), none, none]) (st := [.int 1]) (h := hS X M) ?_
      refine Sp.step rfl rfl rfl rfl ?_
      refine Sp.step rfl rfl rfl rfl ?_
      refine Sp.step rfl rfl rfl rfl ?_
      refine Sp.call rfl rfl rfl (xrecv (c := 1) (by decide) rfl (by decide +kernel)) s_Flow_begin (fun x6 => ⟨_, _, ⟨rfl, rfl⟩, ?_⟩)
      refine Sp.id (pc := 25) (l := [some (.ref 22), some (.ref x), none, none]) (st := []) (h := hS x6 M) ?_
      refine Sp.step rfl rfl rfl rfl ?_
      refine Sp.step rfl rfl rfl rfl ?_
      refine Sp.weak (l0 := [some (.ref 22), some (.ref x), some (.int 0), none]) ⟨rfl, rfl, rfl, trivial⟩ ?_
      refine Sp.loopX (pe := 66) (mf := (fun (x13 : (Int32 × XS)) => [some (.ref 22), some (.ref x), some (.int x13.1), none])) (hf := (fun (x13 : (Int32 × XS)) => hS x13.2 M)) (fun x13 => ?_) (fun x19 => ?_) _ _
      · unfold b27_Flow_firstWrong
        refine Sp.step rfl rfl rfl rfl ?_
        refine Sp.step rfl rfl rfl rfl ?_
        refine Sp.if2 rfl rfl rfl rfl (fun e14 => ?_) (fun e14 => ?_)
        · exact Sp.jmp (l0 := [some (.ref 22), some (.ref x), some (.int x13.1), none]) ⟨rfl, rfl, rfl, trivial⟩ (fun _ _ h => h)
        · refine Sp.step rfl rfl rfl rfl ?_
          refine Sp.step rfl rfl rfl (xg_I (c := 1) (f := 10) rfl rfl rfl rfl) ?_
          refine Sp.step rfl rfl rfl rfl ?_
          refine Sp.if2 rfl rfl rfl rfl (fun e15 => ?_) (fun e15 => ?_)
          · exact Sp.jmp (l0 := [some (.ref 22), some (.ref x), some (.int x13.1), none]) ⟨rfl, rfl, rfl, trivial⟩ (fun _ _ h => h)
          · refine Sp.step rfl rfl rfl rfl ?_
            refine Sp.call rfl rfl rfl (xrecv (c := 1) (by decide) rfl (by decide +kernel)) s_Flow_lowestWaiting (fun x16 => ⟨_, _, ⟨rfl, rfl⟩, ?_⟩)
            refine Sp.id (pc := 46) (l := [some (.ref 22), some (.ref x), some (.int x13.1), none]) (st := [.int x16]) (h := hS x13.2 M) ?_
            refine Sp.step rfl rfl rfl rfl ?_
            refine Sp.step rfl rfl rfl rfl ?_
            refine Sp.if1 rfl rfl rfl rfl (fun e17 => ?_) (fun e17 => ?_)
            · refine Sp.step rfl rfl rfl rfl ?_
              refine Sp.step rfl rfl rfl rfl ?_
              refine Sp.step rfl rfl rfl rfl ?_
              refine Sp.call rfl rfl rfl (xrecv (c := 1) (by decide) rfl (by decide +kernel)) s_Flow_lookAt (fun x18 => ⟨_, _, ⟨rfl, rfl⟩, ?_⟩)
              refine Sp.id (pc := 60) (l := [some (.ref 22), some (.ref x), some (.int x13.1), some (.int x16)]) (st := []) (h := hS x18 M) ?_
              refine Sp.step rfl rfl rfl rfl ?_
              refine Sp.step rfl rfl rfl rfl ?_
              exact Sp.jmp (l0 := [some (.ref 22), some (.ref x), some (.int (x13.1 + 1)), none]) ⟨rfl, rfl, rfl, trivial⟩ (fun _ _ h => h)
            · refine Sp.step rfl rfl rfl rfl ?_
              exact Sp.jmp (l0 := [some (.ref 22), some (.ref x), some (.int x13.1), none]) ⟨rfl, rfl, rfl, trivial⟩ (fun _ _ h => h)
      · refine Sp.step rfl rfl rfl rfl ?_
        refine Sp.step rfl rfl rfl (xg_I (c := 1) (f := 10) rfl rfl rfl rfl) ?_
        exact Sp.iret rfl rfl rfl rfl (fun _ _ h => h)
    · refine Sp.id (pc := 14) (l := [some (.ref 22), some (.ref x), none, none]) (st := [.int 0]) (h := hS X M) ?_
      refine Sp.step rfl rfl rfl rfl ?_
      refine Sp.step rfl rfl rfl rfl ?_
      exact Sp.iret rfl rfl rfl rfl (fun _ _ h => h)
  · refine Sp.step rfl rfl rfl rfl ?_
    exact Sp.iret rfl rfl rfl rfl (fun _ _ h => h)
def f_Flow_wasSeen (x : Int32) (X : XS) : Bool := (if 0 ≤ x ∧ x ≤ 59 then (if X.1 23 x.toNatClampNeg = 0 then false else true) else false)
set_option maxRecDepth 100000 in
set_option maxHeartbeats 4000000 in
theorem s_Flow_wasSeen {L : Nat} {xs : Nat → Int32} {X : XS} {M : MS} {x : Int32} : Sp (mjOO L xs) 137 0 [some (.ref 22), some (.int x)] [] (hS X M) (some (f_Flow_wasSeen x X)) (KB (hS X M)) := by
  unfold f_Flow_wasSeen
  refine Sp.step rfl rfl rfl rfl ?_
  refine Sp.step rfl rfl rfl rfl ?_
  refine Sp.step rfl rfl rfl rfl ?_
  refine Sp.callPV rfl rfl rfl rfl s_within (fun e1 => ?_) (fun e1 => ?_)
  · refine Sp.id (pc := 7) (l := [some (.ref 22), some (.int x)]) (st := [.int 1]) (h := hS X M) ?_
    refine Sp.step rfl rfl rfl rfl ?_
    refine Sp.step rfl rfl rfl rfl ?_
    refine Sp.step rfl rfl rfl (xg_F (c := 1) (f := 2) rfl rfl rfl rfl rfl) ?_
    refine Sp.step rfl rfl rfl rfl ?_
    refine Sp.step rfl rfl rfl (xld rfl (by decide) (ix_le (N := 59) rfl e1.1 e1.2)) ?_
    refine Sp.if1V rfl rfl rfl rfl (fun e3 => ?_) (fun e3 => ?_)
    · refine Sp.step rfl rfl rfl rfl ?_
      exact Sp.iret rfl rfl rfl rfl (fun _ _ h => h)
    · refine Sp.step rfl rfl rfl rfl ?_
      refine Sp.step rfl rfl rfl rfl ?_
      exact Sp.iret rfl rfl rfl rfl (fun _ _ h => h)
  · refine Sp.id (pc := 7) (l := [some (.ref 22), some (.int x)]) (st := [.int 0]) (h := hS X M) ?_
    refine Sp.step rfl rfl rfl rfl ?_
    refine Sp.step rfl rfl rfl rfl ?_
    exact Sp.iret rfl rfl rfl rfl (fun _ _ h => h)
def b26_Linker_keepFlow (x : Int32) (x11 : (Int32 × XS)) : Option ((Int32 × XS) ⊕ (Int32 × XS)) := (if 60 ≤ x11.1 then some (.inr (x11.1, x11.2)) else (if f_Flow_wasSeen x11.1 x11.2 = true then (if ixo ((x * 60) + x11.1) 1440 then (lt (xw x11.2 11 ((x * 60) + x11.1).toNatClampNeg 1) fun X15 => some (.inl (x11.1 + 1, X15))) else none) else (if ixo ((x * 60) + x11.1) 1440 then (lt (xw x11.2 11 ((x * 60) + x11.1).toNatClampNeg 0) fun X17 => some (.inl (x11.1 + 1, X17))) else none)))
def f_Linker_keepFlow (x : Int32) (X : XS) : Option XS := (if 0 ≤ x ∧ x ≤ 23 then (lt (xw X 12 x.toNatClampNeg (X.1 22 0)) fun X3 => ((lp (b26_Linker_keepFlow x) 10000 ((0 : Int32), X3)).bind fun x18 => some x18.2)) else some X)
set_option maxRecDepth 100000 in
set_option maxHeartbeats 4000000 in
theorem s_Linker_keepFlow {L : Nat} {xs : Nat → Int32} {X : XS} {M : MS} {x : Int32} : Sp (mjOO L xs) 182 0 [some (.ref 10), some (.int x), none] [] (hS X M) (f_Linker_keepFlow x X) (KVX M) := by
  unfold f_Linker_keepFlow
  refine Sp.step rfl rfl rfl rfl ?_
  refine Sp.step rfl rfl rfl rfl ?_
  refine Sp.step rfl rfl rfl rfl ?_
  refine Sp.callP rfl rfl rfl rfl s_within (fun e1 => ?_) (fun e1 => ?_)
  · refine Sp.id (pc := 7) (l := [some (.ref 10), some (.int x), none]) (st := [.int 1]) (h := hS X M) ?_
    refine Sp.step rfl rfl rfl rfl ?_
    refine Sp.step rfl rfl rfl rfl ?_
    refine Sp.step rfl rfl rfl (xg_F (c := 3) (f := 4) rfl rfl rfl rfl rfl) ?_
    refine Sp.step rfl rfl rfl rfl ?_
    refine Sp.step rfl rfl rfl rfl ?_
    refine Sp.step rfl rfl rfl (xg_F (c := 3) (f := 2) rfl rfl rfl rfl rfl) ?_
    refine Sp.step rfl rfl rfl (xg_I (c := 1) (f := 0) rfl rfl rfl rfl) ?_
    refine Sp.step rfl rfl rfl (xst rfl (by decide) (ix_le (N := 23) rfl e1.1 e1.2)) ?_
    refine Sp.step rfl rfl rfl rfl ?_
    refine Sp.step rfl rfl rfl rfl ?_
    refine Sp.weak (l0 := [some (.ref 10), some (.int x), some (.int 0)]) ⟨rfl, rfl, rfl, trivial⟩ ?_
    refine Sp.loopX (pe := 57) (mf := (fun (x11 : (Int32 × XS)) => [some (.ref 10), some (.int x), some (.int x11.1)])) (hf := (fun (x11 : (Int32 × XS)) => hS x11.2 M)) (fun x11 => ?_) (fun x18 => ?_) _ _
    · unfold b26_Linker_keepFlow
      refine Sp.step rfl rfl rfl rfl ?_
      refine Sp.step rfl rfl rfl rfl ?_
      refine Sp.if2 rfl rfl rfl rfl (fun e12 => ?_) (fun e12 => ?_)
      · exact Sp.jmp (l0 := [some (.ref 10), some (.int x), some (.int x11.1)]) ⟨rfl, rfl, rfl, trivial⟩ (fun _ _ h => h)
      · refine Sp.step rfl rfl rfl rfl ?_
        refine Sp.step rfl rfl rfl (xg_F (c := 3) (f := 3) rfl rfl rfl rfl rfl) ?_
        refine Sp.step rfl rfl rfl rfl ?_
        refine Sp.step rfl rfl rfl rfl ?_
        refine Sp.step rfl rfl rfl rfl ?_
        refine Sp.step rfl rfl rfl rfl ?_
        refine Sp.step rfl rfl rfl rfl ?_
        refine Sp.step rfl rfl rfl rfl ?_
        refine Sp.step rfl rfl rfl (xg_F (c := 3) (f := 2) rfl rfl rfl rfl rfl) ?_
        refine Sp.step rfl rfl rfl rfl ?_
        refine Sp.callS rfl rfl rfl (xrecv (c := 1) (by decide) rfl (by decide +kernel)) s_Flow_wasSeen ⟨rfl, rfl⟩ ?_
        refine Sp.bool (fun e13 => ?_) (fun e13 => ?_)
        · refine Sp.id (pc := 50) (l := [some (.ref 10), some (.int x), some (.int x11.1)]) (st := [.int 1, .int ((x * 60) + x11.1), .ref 11]) (h := hS x11.2 M) ?_
          refine Sp.guard (fun e14 => ?_)
          refine Sp.step rfl rfl rfl (xst1 rfl e14) ?_
          refine Sp.step rfl rfl rfl rfl ?_
          refine Sp.step rfl rfl rfl rfl ?_
          exact Sp.jmp (l0 := [some (.ref 10), some (.int x), some (.int (x11.1 + 1))]) ⟨rfl, rfl, rfl, trivial⟩ (fun _ _ h => h)
        · refine Sp.id (pc := 50) (l := [some (.ref 10), some (.int x), some (.int x11.1)]) (st := [.int 0, .int ((x * 60) + x11.1), .ref 11]) (h := hS x11.2 M) ?_
          refine Sp.guard (fun e16 => ?_)
          refine Sp.step rfl rfl rfl (xst0 rfl e16) ?_
          refine Sp.step rfl rfl rfl rfl ?_
          refine Sp.step rfl rfl rfl rfl ?_
          exact Sp.jmp (l0 := [some (.ref 10), some (.int x), some (.int (x11.1 + 1))]) ⟨rfl, rfl, rfl, trivial⟩ (fun _ _ h => h)
    · exact Sp.vret rfl rfl rfl (fun _ _ h => h)
  · refine Sp.id (pc := 7) (l := [some (.ref 10), some (.int x), none]) (st := [.int 0]) (h := hS X M) ?_
    refine Sp.step rfl rfl rfl rfl ?_
    exact Sp.vret rfl rfl rfl (fun _ _ h => h)
def b10_Linker_produce_30 (x : Int32) (x13 : (Int32 × XS)) : Option ((Int32 × XS) ⊕ (Int32 × XS)) := (if 24 ≤ x13.1 then ((f_Linker_write_30 x x13.2).bind fun x15 => some (.inr (x15.1 30 0, x15))) else (if f_Reach_hasRoutine x13.1 x13.2 = true then (ocz (x13.2.2.1 2 x13.1.toNatClampNeg) none (fun a18 => ((f_Flow_firstWrong a18 x13.2).bind fun x20 => (if x20.1 = (-1) then ((f_Linker_keepFlow x13.1 x20.2).bind fun x22 => some (.inl (x13.1 + 1, x22))) else some (.inr (((-1000) - (100 * x13.1)) - x20.1, x20.2)))))) else some (.inl (x13.1 + 1, x13.2))))
def f_Linker_produce_30 (x : Int32) (X : XS) : Option (Int32 × XS) := ((f_Reach_follow x X).bind fun x1 => (lp (b10_Linker_produce_30 x) 10000 ((0 : Int32), x1)))
set_option maxRecDepth 100000 in
set_option maxHeartbeats 4000000 in
theorem s_Linker_produce_30 {L : Nat} {xs : Nat → Int32} {X : XS} {M : MS} {x : Int32} : Sp (mjOO L xs) 181 0 [some (.ref 10), some (.int x), some (.ref 30), none, none] [] (hS X M) (f_Linker_produce_30 x X) (KEX M) := by
  unfold f_Linker_produce_30
  refine Sp.step rfl rfl rfl rfl ?_
  refine Sp.step rfl rfl rfl (xg_F (c := 3) (f := 1) rfl rfl rfl rfl rfl) ?_
  refine Sp.step rfl rfl rfl rfl ?_
  refine Sp.call rfl rfl rfl (xrecv (c := 6) (by decide) rfl (by decide +kernel)) s_Reach_follow (fun x1 => ⟨_, _, ⟨rfl, rfl⟩, ?_⟩)
  refine Sp.id (pc := 8) (l := [some (.ref 10), some (.int x), some (.ref 30), none, none]) (st := []) (h := hS x1 M) ?_
  refine Sp.step rfl rfl rfl rfl ?_
  refine Sp.step rfl rfl rfl rfl ?_
  refine Sp.weak (l0 := [some (.ref 10), some (.int x), some (.ref 30), some (.int 0), none]) ⟨rfl, rfl, rfl, rfl, trivial⟩ ?_
  refine Sp.loopL (mf := (fun (x13 : (Int32 × XS)) => [some (.ref 10), some (.int x), some (.ref 30), some (.int x13.1), none])) (hf := (fun (x13 : (Int32 × XS)) => hS x13.2 M)) (fun x13 => ?_) _ _
  unfold b10_Linker_produce_30
  refine Sp.step rfl rfl rfl rfl ?_
  refine Sp.step rfl rfl rfl rfl ?_
  refine Sp.if2 rfl rfl rfl rfl (fun e14 => ?_) (fun e14 => ?_)
  · refine Sp.step rfl rfl rfl rfl ?_
    refine Sp.step rfl rfl rfl rfl ?_
    refine Sp.step rfl rfl rfl rfl ?_
    refine Sp.call rfl rfl rfl (xrecv (c := 3) (by decide) rfl (by decide +kernel)) s_Linker_write_30 (fun x15 => ⟨_, _, ⟨rfl, rfl⟩, ?_⟩)
    refine Sp.id (pc := 80) (l := [some (.ref 10), some (.int x), some (.ref 30), some (.int x13.1), none]) (st := []) (h := hS x15 M) ?_
    refine Sp.step rfl rfl rfl rfl ?_
    refine Sp.step rfl rfl rfl (xg_I (c := 2) (f := 0) rfl rfl rfl rfl) ?_
    exact Sp.iret rfl rfl rfl rfl (fun _ _ h => h)
  · refine Sp.step rfl rfl rfl rfl ?_
    refine Sp.step rfl rfl rfl (xg_F (c := 3) (f := 1) rfl rfl rfl rfl rfl) ?_
    refine Sp.step rfl rfl rfl rfl ?_
    refine Sp.callS rfl rfl rfl (xrecv (c := 6) (by decide) rfl (by decide +kernel)) s_Reach_hasRoutine ⟨rfl, rfl⟩ ?_
    refine Sp.bool (fun e16 => ?_) (fun e16 => ?_)
    · refine Sp.id (pc := 24) (l := [some (.ref 10), some (.int x), some (.ref 30), some (.int x13.1), none]) (st := [.int 1]) (h := hS x13.2 M) ?_
      refine Sp.step rfl rfl rfl rfl ?_
      refine Sp.step rfl rfl rfl rfl ?_
      refine Sp.step rfl rfl rfl (xg_F (c := 3) (f := 2) rfl rfl rfl rfl rfl) ?_
      refine Sp.step rfl rfl rfl rfl ?_
      refine Sp.step rfl rfl rfl (xg_F (c := 3) (f := 0) rfl rfl rfl rfl rfl) ?_
      refine Sp.step rfl rfl rfl (xg_F (c := 8) (f := 0) rfl rfl rfl rfl rfl) ?_
      refine Sp.step rfl rfl rfl rfl ?_
      refine Sp.step rfl rfl rfl (xald (t := 3) rfl (by decide) (fun _ => rfl) (hasRoutine_ix e16)) ?_
      refine Sp.ocrn (fun a18 e19 => ?_)
      refine Sp.call rfl rfl rfl (xrecv (c := 1) (by decide) rfl (by decide +kernel)) s_Flow_firstWrong (fun x20 => ⟨_, _, ⟨rfl, rfl⟩, ?_⟩)
      refine Sp.id (pc := 43) (l := [some (.ref 10), some (.int x), some (.ref 30), some (.int x13.1), none]) (st := [.int x20.1]) (h := hS x20.2 M) ?_
      refine Sp.step rfl rfl rfl rfl ?_
      refine Sp.step rfl rfl rfl rfl ?_
      refine Sp.step rfl rfl rfl rfl ?_
      refine Sp.if2 rfl rfl rfl rfl (fun e21 => ?_) (fun e21 => ?_)
      · refine Sp.step rfl rfl rfl rfl ?_
        refine Sp.step rfl rfl rfl rfl ?_
        refine Sp.call rfl rfl rfl (xrecv (c := 3) (by decide) rfl (by decide +kernel)) s_Linker_keepFlow (fun x22 => ⟨_, _, ⟨rfl, rfl⟩, ?_⟩)
        refine Sp.id (pc := 68) (l := [some (.ref 10), some (.int x), some (.ref 30), some (.int x13.1), some (.int x20.1)]) (st := []) (h := hS x22 M) ?_
        refine Sp.step rfl rfl rfl rfl ?_
        refine Sp.step rfl rfl rfl rfl ?_
        exact Sp.jmp (l0 := [some (.ref 10), some (.int x), some (.ref 30), some (.int (x13.1 + 1)), none]) ⟨rfl, rfl, rfl, rfl, trivial⟩ (fun _ _ h => h)
      · refine Sp.step rfl rfl rfl rfl ?_
        refine Sp.step rfl rfl rfl rfl ?_
        refine Sp.step rfl rfl rfl rfl ?_
        refine Sp.step rfl rfl rfl rfl ?_
        refine Sp.step rfl rfl rfl rfl ?_
        refine Sp.step rfl rfl rfl rfl ?_
        refine Sp.step rfl rfl rfl rfl ?_
        exact Sp.iret rfl rfl rfl rfl (fun _ _ h => h)
    · refine Sp.id (pc := 24) (l := [some (.ref 10), some (.int x), some (.ref 30), some (.int x13.1), none]) (st := [.int 0]) (h := hS x13.2 M) ?_
      refine Sp.step rfl rfl rfl rfl ?_
      refine Sp.step rfl rfl rfl rfl ?_
      refine Sp.step rfl rfl rfl rfl ?_
      exact Sp.jmp (l0 := [some (.ref 10), some (.int x), some (.ref 30), some (.int (x13.1 + 1)), none]) ⟨rfl, rfl, rfl, rfl, trivial⟩ (fun _ _ h => h)
def f_P_link (x : Int32) (X : XS) : Option (Int32 × XS) := ((f_Source_isMain x X).bind fun x1 => (if x1 = true then ((f_Linker_produce_30 x X).bind fun x4 => some (x4.1, x4.2)) else some ((-1), X)))
set_option maxRecDepth 100000 in
set_option maxHeartbeats 4000000 in
theorem s_P_link {L : Nat} {xs : Nat → Int32} {X : XS} {M : MS} {x : Int32} : Sp (mjOO L xs) 5 0 [some (.ref 0), some (.int x)] [] (hS X M) (f_P_link x X) (KEX M) := by
  unfold f_P_link
  refine Sp.step rfl rfl rfl rfl ?_
  refine Sp.step rfl rfl rfl (xg_F (c := 11) (f := 0) rfl rfl rfl rfl rfl) ?_
  refine Sp.step rfl rfl rfl rfl ?_
  refine Sp.call rfl rfl rfl (xrecv (c := 8) (by decide) rfl (by decide +kernel)) s_Source_isMain (fun x1 => ⟨_, _, ⟨rfl, rfl⟩, ?_⟩)
  refine Sp.bool (fun e2 => ?_) (fun e2 => ?_)
  · refine Sp.id (pc := 8) (l := [some (.ref 0), some (.int x)]) (st := [.int 1]) (h := hS X M) ?_
    refine Sp.step rfl rfl rfl rfl ?_
    refine Sp.step rfl rfl rfl rfl ?_
    refine Sp.step rfl rfl rfl (xg_F (c := 11) (f := 1) rfl rfl rfl rfl rfl) ?_
    refine Sp.step rfl rfl rfl rfl ?_
    refine Sp.step rfl rfl rfl rfl ?_
    refine Sp.step rfl rfl rfl (xg_F (c := 11) (f := 2) rfl rfl rfl rfl rfl) ?_
    refine Sp.call rfl rfl rfl (xrecv (c := 3) (by decide) rfl (by decide +kernel)) s_Linker_produce_30 (fun x4 => ⟨_, _, ⟨rfl, rfl⟩, ?_⟩)
    refine Sp.id (pc := 23) (l := [some (.ref 0), some (.int x)]) (st := [.int x4.1]) (h := hS x4.2 M) ?_
    refine Sp.step rfl rfl rfl rfl ?_
    exact Sp.iret rfl rfl rfl rfl (fun _ _ h => h)
  · refine Sp.id (pc := 8) (l := [some (.ref 0), some (.int x)]) (st := [.int 0]) (h := hS X M) ?_
    refine Sp.step rfl rfl rfl rfl ?_
    refine Sp.step rfl rfl rfl rfl ?_
    exact Sp.iret rfl rfl rfl rfl (fun _ _ h => h)
def f_Image_at_30 (x : Int32) (X : XS) : Option Int32 := (if x < 0 then some 0 else (if X.1 30 0 ≤ x then some 0 else (ocz (X.2.1 30 2) none (fun a3 => (ocz (xL X 0 a3) none (fun n5 => (if Int32.ofNat n5 ≤ x then some 0 else (ocz (X.2.1 30 2) none (fun a8 => (ocz (xL X 0 a8) none (fun n10 => (if ixo x n10 then some (X.1 a8 x.toNatClampNeg) else none))))))))))))
set_option maxRecDepth 100000 in
set_option maxHeartbeats 4000000 in
theorem s_Image_at_30 {L : Nat} {xs : Nat → Int32} {X : XS} {M : MS} {x : Int32} : Sp (mjOO L xs) 166 0 [some (.ref 30), some (.int x)] [] (hS X M) (f_Image_at_30 x X) (KQ (hS X M)) := by
  unfold f_Image_at_30
  refine Sp.step rfl rfl rfl rfl ?_
  refine Sp.if1 rfl rfl rfl rfl (fun e1 => ?_) (fun e1 => ?_)
  · refine Sp.step rfl rfl rfl rfl ?_
    exact Sp.iret rfl rfl rfl rfl (fun _ _ h => h)
  · refine Sp.step rfl rfl rfl rfl ?_
    refine Sp.step rfl rfl rfl rfl ?_
    refine Sp.step rfl rfl rfl (xg_I (c := 2) (f := 0) rfl rfl rfl rfl) ?_
    refine Sp.if2 rfl rfl rfl rfl (fun e2 => ?_) (fun e2 => ?_)
    · refine Sp.step rfl rfl rfl rfl ?_
      exact Sp.iret rfl rfl rfl rfl (fun _ _ h => h)
    · refine Sp.step rfl rfl rfl rfl ?_
      refine Sp.step rfl rfl rfl rfl ?_
      refine Sp.step rfl rfl rfl (xg_D (c := 2) (f := 2) rfl rfl rfl rfl rfl) ?_
      refine Sp.ocrn (fun a3 e4 => ?_)
      refine Sp.ocn (fun n5 e6 => ?_)
      refine Sp.step rfl rfl rfl (xlen (xL_ok e6) (by decide)) ?_
      refine Sp.if2 rfl rfl rfl rfl (fun e7 => ?_) (fun e7 => ?_)
      · refine Sp.step rfl rfl rfl rfl ?_
        exact Sp.iret rfl rfl rfl rfl (fun _ _ h => h)
      · refine Sp.step rfl rfl rfl rfl ?_
        refine Sp.step rfl rfl rfl (xg_D (c := 2) (f := 2) rfl rfl rfl rfl rfl) ?_
        refine Sp.ocrn (fun a8 e9 => ?_)
        refine Sp.step rfl rfl rfl rfl ?_
        refine Sp.ocn (fun n10 e11 => ?_)
        refine Sp.guard (fun e12 => ?_)
        refine Sp.step rfl rfl rfl (xld (xL_ok e11) (by decide) e12) ?_
        refine Sp.step rfl rfl rfl rfl ?_
        exact Sp.iret rfl rfl rfl rfl (fun _ _ h => h)
def f_P_image (x : Int32) (X : XS) : Option Int32 := (if x < 0 then some (-1) else (if X.1 30 0 ≤ x then some (-1) else ((f_Image_at_30 x X).bind fun x3 => some x3)))
set_option maxRecDepth 100000 in
set_option maxHeartbeats 4000000 in
theorem s_P_image {L : Nat} {xs : Nat → Int32} {X : XS} {M : MS} {x : Int32} : Sp (mjOO L xs) 6 0 [some (.ref 0), some (.int x)] [] (hS X M) (f_P_image x X) (KQ (hS X M)) := by
  unfold f_P_image
  refine Sp.step rfl rfl rfl rfl ?_
  refine Sp.if1 rfl rfl rfl rfl (fun e1 => ?_) (fun e1 => ?_)
  · refine Sp.step rfl rfl rfl rfl ?_
    exact Sp.iret rfl rfl rfl rfl (fun _ _ h => h)
  · refine Sp.step rfl rfl rfl rfl ?_
    refine Sp.step rfl rfl rfl rfl ?_
    refine Sp.step rfl rfl rfl (xg_F (c := 11) (f := 2) rfl rfl rfl rfl rfl) ?_
    refine Sp.step rfl rfl rfl (xg_I (c := 2) (f := 0) rfl rfl rfl rfl) ?_
    refine Sp.if2 rfl rfl rfl rfl (fun e2 => ?_) (fun e2 => ?_)
    · refine Sp.step rfl rfl rfl rfl ?_
      exact Sp.iret rfl rfl rfl rfl (fun _ _ h => h)
    · refine Sp.step rfl rfl rfl rfl ?_
      refine Sp.step rfl rfl rfl (xg_F (c := 11) (f := 2) rfl rfl rfl rfl rfl) ?_
      refine Sp.step rfl rfl rfl rfl ?_
      refine Sp.call rfl rfl rfl (xrecv (c := 2) (by decide) rfl (by decide +kernel)) s_Image_at_30 (fun x3 => ⟨_, _, ⟨rfl, rfl⟩, ?_⟩)
      refine Sp.id (pc := 23) (l := [some (.ref 0), some (.int x)]) (st := [.int x3]) (h := hS X M) ?_
      refine Sp.step rfl rfl rfl rfl ?_
      exact Sp.iret rfl rfl rfl rfl (fun _ _ h => h)
def f_Image_put_35 (x : Int32) (X : XS) : Option (Bool × XS) := (if X.1 35 0 < 6000 then (ocz (X.2.1 35 2) none (fun a2 => (ocz (xL X 0 a2) none (fun n4 => (((if X.1 35 0 < Int32.ofNat n4 then some X else (ocz (X.2.1 35 2) none (fun a7 => ((f_Arrays_copyOf a7 (2 * (X.1 35 0)) X).bind fun x9 => (lt (xp x9.2 35 2 (some x9.1)) fun X10 => some X10))))) : Option (XS)).bind fun x11 => (ocz (x11.2.1 35 2) none (fun a12 => (ocz (xL x11 0 a12) none (fun n14 => (if ixo (x11.1 35 0) n14 then (lt (xw x11 a12 (x11.1 35 0).toNatClampNeg (x &&& 255)) fun X17 => (lt (xw X17 35 0 ((X17.1 35 0) + 1)) fun X18 => some (true, X18))) else none)))))))))) else some (false, X))
set_option maxRecDepth 100000 in
set_option maxHeartbeats 4000000 in
theorem s_Image_put_35 {L : Nat} {xs : Nat → Int32} {X : XS} {M : MS} {x : Int32} : Sp (mjOO L xs) 156 0 [some (.ref 35), some (.int x)] [] (hS X M) (f_Image_put_35 x X) (KBX M) := by
  unfold f_Image_put_35
  refine Sp.step rfl rfl rfl rfl ?_
  refine Sp.step rfl rfl rfl (xg_I (c := 2) (f := 0) rfl rfl rfl rfl) ?_
  refine Sp.step rfl rfl rfl rfl ?_
  refine Sp.step rfl rfl rfl (xg_N (c := 2) (f := 1) rfl rfl rfl rfl) ?_
  refine Sp.if2 rfl rfl rfl rfl (fun e1 => ?_) (fun e1 => ?_)
  · refine Sp.step rfl rfl rfl rfl ?_
    refine Sp.step rfl rfl rfl (xg_I (c := 2) (f := 0) rfl rfl rfl rfl) ?_
    refine Sp.step rfl rfl rfl rfl ?_
    refine Sp.step rfl rfl rfl (xg_D (c := 2) (f := 2) rfl rfl rfl rfl rfl) ?_
    refine Sp.ocrn (fun a2 e3 => ?_)
    refine Sp.ocn (fun n4 e5 => ?_)
    refine Sp.step rfl rfl rfl (xlen (xL_ok e5) (by decide)) ?_
    refine Sp.piece (pe := 42) (mf := (fun (x11 : XS) => [some (.ref 35), some (.int x)])) (sf := (fun (x11 : XS) => [])) (hf := (fun (x11 : XS) => hS x11 M)) ?_ (fun x11 => ?_)
    · refine Sp.if2 rfl rfl rfl rfl (fun e6 => ?_) (fun e6 => ?_)
      · exact Sp.jmp (l0 := [some (.ref 35), some (.int x)]) ⟨rfl, rfl, trivial⟩ (fun _ _ h => h)
      · refine Sp.step rfl rfl rfl rfl ?_
        refine Sp.step rfl rfl rfl rfl ?_
        refine Sp.step rfl rfl rfl (xg_D (c := 2) (f := 2) rfl rfl rfl rfl rfl) ?_
        refine Sp.ocrn (fun a7 e8 => ?_)
        refine Sp.step rfl rfl rfl rfl ?_
        refine Sp.step rfl rfl rfl rfl ?_
        refine Sp.step rfl rfl rfl (xg_I (c := 2) (f := 0) rfl rfl rfl rfl) ?_
        refine Sp.step rfl rfl rfl rfl ?_
        refine Sp.call rfl rfl rfl rfl s_Arrays_copyOf (fun x9 => ⟨_, _, ⟨rfl, rfl⟩, ?_⟩)
        refine Sp.id (pc := 39) (l := [some (.ref 35), some (.int x)]) (st := [.ref x9.1, .ref 35]) (h := hS x9.2 M) ?_
        refine Sp.step rfl rfl rfl (xp_R (c := 2) (f := 2) rfl rfl rfl rfl rfl rfl) ?_
        exact Sp.jmp (l0 := [some (.ref 35), some (.int x)]) ⟨rfl, rfl, trivial⟩ (fun _ _ h => h)
    · refine Sp.step rfl rfl rfl rfl ?_
      refine Sp.step rfl rfl rfl (xg_D (c := 2) (f := 2) rfl rfl rfl rfl rfl) ?_
      refine Sp.ocrn (fun a12 e13 => ?_)
      refine Sp.step rfl rfl rfl rfl ?_
      refine Sp.step rfl rfl rfl (xg_I (c := 2) (f := 0) rfl rfl rfl rfl) ?_
      refine Sp.step rfl rfl rfl rfl ?_
      refine Sp.step rfl rfl rfl rfl ?_
      refine Sp.step rfl rfl rfl rfl ?_
      refine Sp.ocn (fun n14 e15 => ?_)
      refine Sp.guard (fun e16 => ?_)
      refine Sp.step rfl rfl rfl (xst (xL_ok e15) (by decide) e16) ?_
      refine Sp.step rfl rfl rfl rfl ?_
      refine Sp.step rfl rfl rfl rfl ?_
      refine Sp.step rfl rfl rfl (xg_I (c := 2) (f := 0) rfl rfl rfl rfl) ?_
      refine Sp.step rfl rfl rfl rfl ?_
      refine Sp.step rfl rfl rfl rfl ?_
      refine Sp.step rfl rfl rfl (xp_I (c := 2) (f := 0) rfl rfl rfl rfl rfl) ?_
      refine Sp.step rfl rfl rfl rfl ?_
      exact Sp.iret rfl rfl rfl rfl (fun _ _ h => h)
  · refine Sp.step rfl rfl rfl rfl ?_
    exact Sp.iret rfl rfl rfl rfl (fun _ _ h => h)
def f_P_feed (x : Int32) (X : XS) : Option (Bool × XS) := (if 0 ≤ x ∧ x ≤ 255 then ((f_Image_put_35 x X).bind fun x3 => (if x3.1 = true then some (true, x3.2) else some (false, x3.2))) else some (false, X))
set_option maxRecDepth 100000 in
set_option maxHeartbeats 4000000 in
theorem s_P_feed {L : Nat} {xs : Nat → Int32} {X : XS} {M : MS} {x : Int32} : Sp (mjOO L xs) 7 0 [some (.ref 0), some (.int x)] [] (hS X M) (f_P_feed x X) (KBX M) := by
  unfold f_P_feed
  refine Sp.step rfl rfl rfl rfl ?_
  refine Sp.step rfl rfl rfl rfl ?_
  refine Sp.step rfl rfl rfl rfl ?_
  refine Sp.callP rfl rfl rfl rfl s_within (fun e1 => ?_) (fun e1 => ?_)
  · refine Sp.id (pc := 8) (l := [some (.ref 0), some (.int x)]) (st := [.int 1]) (h := hS X M) ?_
    refine Sp.step rfl rfl rfl rfl ?_
    refine Sp.step rfl rfl rfl rfl ?_
    refine Sp.step rfl rfl rfl (xg_F (c := 11) (f := 3) rfl rfl rfl rfl rfl) ?_
    refine Sp.step rfl rfl rfl rfl ?_
    refine Sp.call rfl rfl rfl (xrecv (c := 2) (by decide) rfl (by decide +kernel)) s_Image_put_35 (fun x3 => ⟨_, _, ⟨rfl, rfl⟩, ?_⟩)
    refine Sp.bool (fun e4 => ?_) (fun e4 => ?_)
    · refine Sp.id (pc := 19) (l := [some (.ref 0), some (.int x)]) (st := [.int 1]) (h := hS x3.2 M) ?_
      refine Sp.step rfl rfl rfl rfl ?_
      refine Sp.step rfl rfl rfl rfl ?_
      refine Sp.step rfl rfl rfl rfl ?_
      exact Sp.iret rfl rfl rfl rfl (fun _ _ h => h)
    · refine Sp.id (pc := 19) (l := [some (.ref 0), some (.int x)]) (st := [.int 0]) (h := hS x3.2 M) ?_
      refine Sp.step rfl rfl rfl rfl ?_
      refine Sp.step rfl rfl rfl rfl ?_
      exact Sp.iret rfl rfl rfl rfl (fun _ _ h => h)
  · refine Sp.id (pc := 8) (l := [some (.ref 0), some (.int x)]) (st := [.int 0]) (h := hS X M) ?_
    refine Sp.step rfl rfl rfl rfl ?_
    refine Sp.step rfl rfl rfl rfl ?_
    exact Sp.iret rfl rfl rfl rfl (fun _ _ h => h)
def f_Image_at_35 (x : Int32) (X : XS) : Option Int32 := (if x < 0 then some 0 else (if X.1 35 0 ≤ x then some 0 else (ocz (X.2.1 35 2) none (fun a3 => (ocz (xL X 0 a3) none (fun n5 => (if Int32.ofNat n5 ≤ x then some 0 else (ocz (X.2.1 35 2) none (fun a8 => (ocz (xL X 0 a8) none (fun n10 => (if ixo x n10 then some (X.1 a8 x.toNatClampNeg) else none))))))))))))
set_option maxRecDepth 100000 in
set_option maxHeartbeats 4000000 in
theorem s_Image_at_35 {L : Nat} {xs : Nat → Int32} {X : XS} {M : MS} {x : Int32} : Sp (mjOO L xs) 166 0 [some (.ref 35), some (.int x)] [] (hS X M) (f_Image_at_35 x X) (KQ (hS X M)) := by
  unfold f_Image_at_35
  refine Sp.step rfl rfl rfl rfl ?_
  refine Sp.if1 rfl rfl rfl rfl (fun e1 => ?_) (fun e1 => ?_)
  · refine Sp.step rfl rfl rfl rfl ?_
    exact Sp.iret rfl rfl rfl rfl (fun _ _ h => h)
  · refine Sp.step rfl rfl rfl rfl ?_
    refine Sp.step rfl rfl rfl rfl ?_
    refine Sp.step rfl rfl rfl (xg_I (c := 2) (f := 0) rfl rfl rfl rfl) ?_
    refine Sp.if2 rfl rfl rfl rfl (fun e2 => ?_) (fun e2 => ?_)
    · refine Sp.step rfl rfl rfl rfl ?_
      exact Sp.iret rfl rfl rfl rfl (fun _ _ h => h)
    · refine Sp.step rfl rfl rfl rfl ?_
      refine Sp.step rfl rfl rfl rfl ?_
      refine Sp.step rfl rfl rfl (xg_D (c := 2) (f := 2) rfl rfl rfl rfl rfl) ?_
      refine Sp.ocrn (fun a3 e4 => ?_)
      refine Sp.ocn (fun n5 e6 => ?_)
      refine Sp.step rfl rfl rfl (xlen (xL_ok e6) (by decide)) ?_
      refine Sp.if2 rfl rfl rfl rfl (fun e7 => ?_) (fun e7 => ?_)
      · refine Sp.step rfl rfl rfl rfl ?_
        exact Sp.iret rfl rfl rfl rfl (fun _ _ h => h)
      · refine Sp.step rfl rfl rfl rfl ?_
        refine Sp.step rfl rfl rfl (xg_D (c := 2) (f := 2) rfl rfl rfl rfl rfl) ?_
        refine Sp.ocrn (fun a8 e9 => ?_)
        refine Sp.step rfl rfl rfl rfl ?_
        refine Sp.ocn (fun n10 e11 => ?_)
        refine Sp.guard (fun e12 => ?_)
        refine Sp.step rfl rfl rfl (xld (xL_ok e11) (by decide) e12) ?_
        refine Sp.step rfl rfl rfl rfl ?_
        exact Sp.iret rfl rfl rfl rfl (fun _ _ h => h)
def f_Image_two_35 (x : Int32) (X : XS) : Option Int32 := ((f_Image_at_35 x X).bind fun x1 => ((f_Image_at_35 (x + 1) X).bind fun x2 => some (((x1 : Int32) <<< ((8 : Int32) &&& 31)) ||| x2)))
set_option maxRecDepth 100000 in
set_option maxHeartbeats 4000000 in
theorem s_Image_two_35 {L : Nat} {xs : Nat → Int32} {X : XS} {M : MS} {x : Int32} : Sp (mjOO L xs) 167 0 [some (.ref 35), some (.int x)] [] (hS X M) (f_Image_two_35 x X) (KQ (hS X M)) := by
  unfold f_Image_two_35
  refine Sp.step rfl rfl rfl rfl ?_
  refine Sp.step rfl rfl rfl rfl ?_
  refine Sp.call rfl rfl rfl (xrecv (c := 2) (by decide) rfl (by decide +kernel)) s_Image_at_35 (fun x1 => ⟨_, _, ⟨rfl, rfl⟩, ?_⟩)
  refine Sp.id (pc := 5) (l := [some (.ref 35), some (.int x)]) (st := [.int x1]) (h := hS X M) ?_
  refine Sp.step rfl rfl rfl rfl ?_
  refine Sp.step rfl rfl rfl rfl ?_
  refine Sp.step rfl rfl rfl rfl ?_
  refine Sp.step rfl rfl rfl rfl ?_
  refine Sp.step rfl rfl rfl rfl ?_
  refine Sp.step rfl rfl rfl rfl ?_
  refine Sp.call rfl rfl rfl (xrecv (c := 2) (by decide) rfl (by decide +kernel)) s_Image_at_35 (fun x2 => ⟨_, _, ⟨rfl, rfl⟩, ?_⟩)
  refine Sp.id (pc := 15) (l := [some (.ref 35), some (.int x)]) (st := [.int x2, .int ((x1 : Int32) <<< ((8 : Int32) &&& 31))]) (h := hS X M) ?_
  refine Sp.step rfl rfl rfl rfl ?_
  exact Sp.iret rfl rfl rfl rfl (fun _ _ h => h)
def b4_Image_sum_35 (X : XS) (x1 : (Int32 × Int32)) : Option ((Int32 × Int32) ⊕ (Int32 × Int32)) := (if X.1 35 0 ≤ x1.2 then some (.inr (x1.1, x1.2)) else (ocz (X.2.1 35 2) none (fun a3 => (ocz (xL X 0 a3) none (fun n5 => (if Int32.ofNat n5 ≤ x1.2 then some (.inr (x1.1, x1.2)) else (if x1.2 = 7 then some (.inl (x1.1 + 0, x1.2 + 1)) else (if ¬ x1.2 = 8 then (ocz (X.2.1 35 2) none (fun a10 => (ocz (xL X 0 a10) none (fun n12 => (if ixo x1.2 n12 then some (.inl (x1.1 + (X.1 a10 x1.2.toNatClampNeg), x1.2 + 1)) else none))))) else some (.inl (x1.1 + 0, x1.2 + 1))))))))))
def f_Image_sum_35 (X : XS) : Option Int32 := ((lp (b4_Image_sum_35 X) 10000 ((0 : Int32), (0 : Int32))).bind fun x15 => some (x15.1 &&& 65535))
set_option maxRecDepth 100000 in
set_option maxHeartbeats 4000000 in
theorem s_Image_sum_35 {L : Nat} {xs : Nat → Int32} {X : XS} {M : MS} : Sp (mjOO L xs) 162 0 [some (.ref 35), none, none] [] (hS X M) (f_Image_sum_35 X) (KQ (hS X M)) := by
  unfold f_Image_sum_35
  refine Sp.step rfl rfl rfl rfl ?_
  refine Sp.step rfl rfl rfl rfl ?_
  refine Sp.step rfl rfl rfl rfl ?_
  refine Sp.step rfl rfl rfl rfl ?_
  refine Sp.weak (l0 := [some (.ref 35), some (.int 0), some (.int 0)]) ⟨rfl, rfl, rfl, trivial⟩ ?_
  refine Sp.loopX (pe := 52) (mf := (fun (x1 : (Int32 × Int32)) => [some (.ref 35), some (.int x1.1), some (.int x1.2)])) (hf := (fun (x1 : (Int32 × Int32)) => hS X M)) (fun x1 => ?_) (fun x15 => ?_) _ _
  · unfold b4_Image_sum_35
    refine Sp.step rfl rfl rfl rfl ?_
    refine Sp.step rfl rfl rfl rfl ?_
    refine Sp.step rfl rfl rfl (xg_I (c := 2) (f := 0) rfl rfl rfl rfl) ?_
    refine Sp.if2 rfl rfl rfl rfl (fun e2 => ?_) (fun e2 => ?_)
    · exact Sp.jmp (l0 := [some (.ref 35), some (.int x1.1), some (.int x1.2)]) ⟨rfl, rfl, rfl, trivial⟩ (fun _ _ h => h)
    · refine Sp.step rfl rfl rfl rfl ?_
      refine Sp.step rfl rfl rfl rfl ?_
      refine Sp.step rfl rfl rfl (xg_D (c := 2) (f := 2) rfl rfl rfl rfl rfl) ?_
      refine Sp.ocrn (fun a3 e4 => ?_)
      refine Sp.ocn (fun n5 e6 => ?_)
      refine Sp.step rfl rfl rfl (xlen (xL_ok e6) (by decide)) ?_
      refine Sp.if2 rfl rfl rfl rfl (fun e7 => ?_) (fun e7 => ?_)
      · exact Sp.jmp (l0 := [some (.ref 35), some (.int x1.1), some (.int x1.2)]) ⟨rfl, rfl, rfl, trivial⟩ (fun _ _ h => h)
      · refine Sp.step rfl rfl rfl rfl ?_
        refine Sp.step rfl rfl rfl rfl ?_
        refine Sp.step rfl rfl rfl rfl ?_
        refine Sp.if2 rfl rfl rfl rfl (fun e8 => ?_) (fun e8 => ?_)
        · refine Sp.step rfl rfl rfl rfl ?_
          refine Sp.step rfl rfl rfl rfl ?_
          refine Sp.step rfl rfl rfl rfl ?_
          refine Sp.step rfl rfl rfl rfl ?_
          refine Sp.step rfl rfl rfl rfl ?_
          refine Sp.step rfl rfl rfl rfl ?_
          exact Sp.jmp (l0 := [some (.ref 35), some (.int (x1.1 + 0)), some (.int (x1.2 + 1))]) ⟨rfl, rfl, rfl, trivial⟩ (fun _ _ h => h)
        · refine Sp.step rfl rfl rfl rfl ?_
          refine Sp.step rfl rfl rfl rfl ?_
          refine Sp.if2 rfl rfl rfl rfl (fun e9 => ?_) (fun e9 => ?_)
          · refine Sp.step rfl rfl rfl rfl ?_
            refine Sp.step rfl rfl rfl (xg_D (c := 2) (f := 2) rfl rfl rfl rfl rfl) ?_
            refine Sp.ocrn (fun a10 e11 => ?_)
            refine Sp.step rfl rfl rfl rfl ?_
            refine Sp.ocn (fun n12 e13 => ?_)
            refine Sp.guard (fun e14 => ?_)
            refine Sp.step rfl rfl rfl (xld (xL_ok e13) (by decide) e14) ?_
            refine Sp.step rfl rfl rfl rfl ?_
            refine Sp.step rfl rfl rfl rfl ?_
            refine Sp.step rfl rfl rfl rfl ?_
            refine Sp.step rfl rfl rfl rfl ?_
            exact Sp.jmp (l0 := [some (.ref 35), some (.int (x1.1 + (X.1 a10 x1.2.toNatClampNeg))), some (.int (x1.2 + 1))]) ⟨rfl, rfl, rfl, trivial⟩ (fun _ _ h => h)
          · refine Sp.step rfl rfl rfl rfl ?_
            refine Sp.step rfl rfl rfl rfl ?_
            refine Sp.step rfl rfl rfl rfl ?_
            refine Sp.step rfl rfl rfl rfl ?_
            refine Sp.step rfl rfl rfl rfl ?_
            refine Sp.step rfl rfl rfl rfl ?_
            exact Sp.jmp (l0 := [some (.ref 35), some (.int (x1.1 + 0)), some (.int (x1.2 + 1))]) ⟨rfl, rfl, rfl, trivial⟩ (fun _ _ h => h)
  · refine Sp.step rfl rfl rfl rfl ?_
    refine Sp.step rfl rfl rfl rfl ?_
    refine Sp.step rfl rfl rfl rfl ?_
    exact Sp.iret rfl rfl rfl rfl (fun _ _ h => h)
def b15_Image_isSame_35_30 (X : XS) (x2 : Int32) : Option (Int32 ⊕ Bool) := (if X.1 35 0 ≤ x2 then some (.inr true) else ((f_Image_at_35 x2 X).bind fun x4 => ((f_Image_at_30 x2 X).bind fun x5 => (if x4 = x5 then some (.inl (x2 + 1)) else some (.inr false)))))
def f_Image_isSame_35_30 (X : XS) : Option Bool := (if X.1 35 0 = X.1 30 0 then (lp (b15_Image_isSame_35_30 X) 10000 (0 : Int32)) else some false)
set_option maxRecDepth 100000 in
set_option maxHeartbeats 4000000 in
theorem s_Image_isSame_35_30 {L : Nat} {xs : Nat → Int32} {X : XS} {M : MS} : Sp (mjOO L xs) 165 0 [some (.ref 35), some (.ref 30), none] [] (hS X M) (f_Image_isSame_35_30 X) (KB (hS X M)) := by
  unfold f_Image_isSame_35_30
  refine Sp.step rfl rfl rfl rfl ?_
  refine Sp.step rfl rfl rfl (xg_I (c := 2) (f := 0) rfl rfl rfl rfl) ?_
  refine Sp.step rfl rfl rfl rfl ?_
  refine Sp.step rfl rfl rfl (xg_I (c := 2) (f := 0) rfl rfl rfl rfl) ?_
  refine Sp.if2 rfl rfl rfl rfl (fun e1 => ?_) (fun e1 => ?_)
  · refine Sp.step rfl rfl rfl rfl ?_
    refine Sp.step rfl rfl rfl rfl ?_
    refine Sp.weak (l0 := [some (.ref 35), some (.ref 30), some (.int 0)]) ⟨rfl, rfl, rfl, trivial⟩ ?_
    refine Sp.loopL (mf := (fun (x2 : Int32) => [some (.ref 35), some (.ref 30), some (.int x2)])) (hf := (fun (x2 : Int32) => hS X M)) (fun x2 => ?_) _ _
    unfold b15_Image_isSame_35_30
    refine Sp.step rfl rfl rfl rfl ?_
    refine Sp.step rfl rfl rfl rfl ?_
    refine Sp.step rfl rfl rfl (xg_I (c := 2) (f := 0) rfl rfl rfl rfl) ?_
    refine Sp.if2 rfl rfl rfl rfl (fun e3 => ?_) (fun e3 => ?_)
    · refine Sp.step rfl rfl rfl rfl ?_
      exact Sp.iret rfl rfl rfl rfl (fun _ _ h => h)
    · refine Sp.step rfl rfl rfl rfl ?_
      refine Sp.step rfl rfl rfl rfl ?_
      refine Sp.call rfl rfl rfl (xrecv (c := 2) (by decide) rfl (by decide +kernel)) s_Image_at_35 (fun x4 => ⟨_, _, ⟨rfl, rfl⟩, ?_⟩)
      refine Sp.id (pc := 28) (l := [some (.ref 35), some (.ref 30), some (.int x2)]) (st := [.int x4]) (h := hS X M) ?_
      refine Sp.step rfl rfl rfl rfl ?_
      refine Sp.step rfl rfl rfl rfl ?_
      refine Sp.call rfl rfl rfl (xrecv (c := 2) (by decide) rfl (by decide +kernel)) s_Image_at_30 (fun x5 => ⟨_, _, ⟨rfl, rfl⟩, ?_⟩)
      refine Sp.id (pc := 33) (l := [some (.ref 35), some (.ref 30), some (.int x2)]) (st := [.int x5, .int x4]) (h := hS X M) ?_
      refine Sp.if2 rfl rfl rfl rfl (fun e6 => ?_) (fun e6 => ?_)
      · refine Sp.step rfl rfl rfl rfl ?_
        refine Sp.step rfl rfl rfl rfl ?_
        exact Sp.jmp (l0 := [some (.ref 35), some (.ref 30), some (.int (x2 + 1))]) ⟨rfl, rfl, rfl, trivial⟩ (fun _ _ h => h)
      · refine Sp.step rfl rfl rfl rfl ?_
        exact Sp.iret rfl rfl rfl rfl (fun _ _ h => h)
  · refine Sp.step rfl rfl rfl rfl ?_
    exact Sp.iret rfl rfl rfl rfl (fun _ _ h => h)
def f_Image_compareWith_35_30 (X : XS) : Option Int32 := (if X.1 35 0 < 9 then some 1 else ((f_Image_at_35 0 X).bind fun x2 => (if ¬ x2 = 80 then some 1 else ((f_Image_at_35 1 X).bind fun x4 => (if x4 = 77 then ((f_Image_two_35 5 X).bind fun x6 => (if x6 = X.1 35 0 then ((f_Image_two_35 7 X).bind fun x8 => ((f_Image_sum_35 X).bind fun x9 => (if x8 = x9 then ((f_Image_isSame_35_30 X).bind fun x11 => (if x11 = true then some 0 else some 4)) else some 3))) else some 2)) else some 1)))))
set_option maxRecDepth 100000 in
set_option maxHeartbeats 4000000 in
theorem s_Image_compareWith_35_30 {L : Nat} {xs : Nat → Int32} {X : XS} {M : MS} : Sp (mjOO L xs) 164 0 [some (.ref 35), some (.ref 30)] [] (hS X M) (f_Image_compareWith_35_30 X) (KQ (hS X M)) := by
  unfold f_Image_compareWith_35_30
  refine Sp.step rfl rfl rfl rfl ?_
  refine Sp.step rfl rfl rfl (xg_I (c := 2) (f := 0) rfl rfl rfl rfl) ?_
  refine Sp.step rfl rfl rfl rfl ?_
  refine Sp.if2 rfl rfl rfl rfl (fun e1 => ?_) (fun e1 => ?_)
  · refine Sp.step rfl rfl rfl rfl ?_
    exact Sp.iret rfl rfl rfl rfl (fun _ _ h => h)
  · refine Sp.step rfl rfl rfl rfl ?_
    refine Sp.step rfl rfl rfl rfl ?_
    refine Sp.call rfl rfl rfl (xrecv (c := 2) (by decide) rfl (by decide +kernel)) s_Image_at_35 (fun x2 => ⟨_, _, ⟨rfl, rfl⟩, ?_⟩)
    refine Sp.id (pc := 14) (l := [some (.ref 35), some (.ref 30)]) (st := [.int x2]) (h := hS X M) ?_
    refine Sp.step rfl rfl rfl rfl ?_
    refine Sp.if2 rfl rfl rfl rfl (fun e3 => ?_) (fun e3 => ?_)
    · refine Sp.step rfl rfl rfl rfl ?_
      exact Sp.iret rfl rfl rfl rfl (fun _ _ h => h)
    · refine Sp.step rfl rfl rfl rfl ?_
      refine Sp.step rfl rfl rfl rfl ?_
      refine Sp.call rfl rfl rfl (xrecv (c := 2) (by decide) rfl (by decide +kernel)) s_Image_at_35 (fun x4 => ⟨_, _, ⟨rfl, rfl⟩, ?_⟩)
      refine Sp.id (pc := 24) (l := [some (.ref 35), some (.ref 30)]) (st := [.int x4]) (h := hS X M) ?_
      refine Sp.step rfl rfl rfl rfl ?_
      refine Sp.if2 rfl rfl rfl rfl (fun e5 => ?_) (fun e5 => ?_)
      · refine Sp.step rfl rfl rfl rfl ?_
        refine Sp.step rfl rfl rfl rfl ?_
        refine Sp.call rfl rfl rfl (xrecv (c := 2) (by decide) rfl (by decide +kernel)) s_Image_two_35 (fun x6 => ⟨_, _, ⟨rfl, rfl⟩, ?_⟩)
        refine Sp.id (pc := 36) (l := [some (.ref 35), some (.ref 30)]) (st := [.int x6]) (h := hS X M) ?_
        refine Sp.step rfl rfl rfl rfl ?_
        refine Sp.step rfl rfl rfl (xg_I (c := 2) (f := 0) rfl rfl rfl rfl) ?_
        refine Sp.if2 rfl rfl rfl rfl (fun e7 => ?_) (fun e7 => ?_)
        · refine Sp.step rfl rfl rfl rfl ?_
          refine Sp.step rfl rfl rfl rfl ?_
          refine Sp.call rfl rfl rfl (xrecv (c := 2) (by decide) rfl (by decide +kernel)) s_Image_two_35 (fun x8 => ⟨_, _, ⟨rfl, rfl⟩, ?_⟩)
          refine Sp.id (pc := 51) (l := [some (.ref 35), some (.ref 30)]) (st := [.int x8]) (h := hS X M) ?_
          refine Sp.step rfl rfl rfl rfl ?_
          refine Sp.call rfl rfl rfl (xrecv (c := 2) (by decide) rfl (by decide +kernel)) s_Image_sum_35 (fun x9 => ⟨_, _, ⟨rfl, rfl⟩, ?_⟩)
          refine Sp.id (pc := 55) (l := [some (.ref 35), some (.ref 30)]) (st := [.int x9, .int x8]) (h := hS X M) ?_
          refine Sp.if2 rfl rfl rfl rfl (fun e10 => ?_) (fun e10 => ?_)
          · refine Sp.step rfl rfl rfl rfl ?_
            refine Sp.step rfl rfl rfl rfl ?_
            refine Sp.call rfl rfl rfl (xrecv (c := 2) (by decide) rfl (by decide +kernel)) s_Image_isSame_35_30 (fun x11 => ⟨_, _, ⟨rfl, rfl⟩, ?_⟩)
            refine Sp.bool (fun e12 => ?_) (fun e12 => ?_)
            · refine Sp.id (pc := 65) (l := [some (.ref 35), some (.ref 30)]) (st := [.int 1]) (h := hS X M) ?_
              refine Sp.step rfl rfl rfl rfl ?_
              refine Sp.step rfl rfl rfl rfl ?_
              refine Sp.step rfl rfl rfl rfl ?_
              exact Sp.iret rfl rfl rfl rfl (fun _ _ h => h)
            · refine Sp.id (pc := 65) (l := [some (.ref 35), some (.ref 30)]) (st := [.int 0]) (h := hS X M) ?_
              refine Sp.step rfl rfl rfl rfl ?_
              refine Sp.step rfl rfl rfl rfl ?_
              exact Sp.iret rfl rfl rfl rfl (fun _ _ h => h)
          · refine Sp.step rfl rfl rfl rfl ?_
            exact Sp.iret rfl rfl rfl rfl (fun _ _ h => h)
        · refine Sp.step rfl rfl rfl rfl ?_
          exact Sp.iret rfl rfl rfl rfl (fun _ _ h => h)
      · refine Sp.step rfl rfl rfl rfl ?_
        exact Sp.iret rfl rfl rfl rfl (fun _ _ h => h)
def f_Image_clear_35 (X : XS) : Option XS := (lt (xw X 35 0 0) fun X1 => some X1)
set_option maxRecDepth 100000 in
set_option maxHeartbeats 4000000 in
theorem s_Image_clear_35 {L : Nat} {xs : Nat → Int32} {X : XS} {M : MS} : Sp (mjOO L xs) 155 0 [some (.ref 35)] [] (hS X M) (f_Image_clear_35 X) (KVX M) := by
  unfold f_Image_clear_35
  refine Sp.step rfl rfl rfl rfl ?_
  refine Sp.step rfl rfl rfl rfl ?_
  refine Sp.step rfl rfl rfl (xp_I (c := 2) (f := 0) rfl rfl rfl rfl rfl) ?_
  exact Sp.vret rfl rfl rfl (fun _ _ h => h)
def f_P_check (X : XS) : Option (Int32 × XS) := ((f_Image_compareWith_35_30 X).bind fun x1 => ((f_Image_clear_35 X).bind fun x2 => some (x1, x2)))
set_option maxRecDepth 100000 in
set_option maxHeartbeats 4000000 in
theorem s_P_check {L : Nat} {xs : Nat → Int32} {X : XS} {M : MS} : Sp (mjOO L xs) 8 0 [some (.ref 0), none] [] (hS X M) (f_P_check X) (KEX M) := by
  unfold f_P_check
  refine Sp.step rfl rfl rfl rfl ?_
  refine Sp.step rfl rfl rfl (xg_F (c := 11) (f := 3) rfl rfl rfl rfl rfl) ?_
  refine Sp.step rfl rfl rfl rfl ?_
  refine Sp.step rfl rfl rfl (xg_F (c := 11) (f := 2) rfl rfl rfl rfl rfl) ?_
  refine Sp.call rfl rfl rfl (xrecv (c := 2) (by decide) rfl (by decide +kernel)) s_Image_compareWith_35_30 (fun x1 => ⟨_, _, ⟨rfl, rfl⟩, ?_⟩)
  refine Sp.id (pc := 11) (l := [some (.ref 0), none]) (st := [.int x1]) (h := hS X M) ?_
  refine Sp.step rfl rfl rfl rfl ?_
  refine Sp.step rfl rfl rfl rfl ?_
  refine Sp.step rfl rfl rfl (xg_F (c := 11) (f := 3) rfl rfl rfl rfl rfl) ?_
  refine Sp.call rfl rfl rfl (xrecv (c := 2) (by decide) rfl (by decide +kernel)) s_Image_clear_35 (fun x2 => ⟨_, _, ⟨rfl, rfl⟩, ?_⟩)
  refine Sp.id (pc := 19) (l := [some (.ref 0), some (.int x1)]) (st := []) (h := hS x2 M) ?_
  refine Sp.step rfl rfl rfl rfl ?_
  exact Sp.iret rfl rfl rfl rfl (fun _ _ h => h)
def f_Image_copyFrom_51_30 (X : XS) : Option XS := (ocz (X.2.1 51 2) none (fun a1 => (ocz (xL X 0 a1) none (fun n3 => (ocz (X.2.1 30 2) none (fun a5 => (ocz (xL X 0 a5) none (fun n7 => (((if Int32.ofNat n7 ≤ Int32.ofNat n3 then some X else (ocz (X.2.1 30 2) none (fun a10 => (ocz (xL X 0 a10) none (fun n12 => (if ¬ (Int32.ofNat n12 < 0 ∨ 100000 < (Int32.ofNat n12).toNatClampNeg) then (lt (xn X 0 (Int32.ofNat n12).toNatClampNeg) fun X15 => (lt (xp X15 51 2 (some (xA X))) fun X16 => some X16)) else none)))))) : Option (XS)).bind fun x17 => (ocz (x17.2.1 30 2) none (fun a18 => (ocz (xL x17 0 a18) none (fun n20 => (lt (xw x17 51 0 (if Int32.ofNat n20 < x17.1 30 0 then Int32.ofNat n20 else x17.1 30 0)) fun X22 => (ocz (X22.2.1 30 2) none (fun a23 => (ocz (X22.2.1 51 2) none (fun a25 => (ocz (xL X22 0 a23) none (fun n27 => (ocz (xL X22 0 a25) none (fun n29 => (if cpo 0 0 (X22.1 51 0) n27 n29 then (lt (xc X22 (X22.1 a23) a25 0 0 (X22.1 51 0).toNatClampNeg) fun X32 => (if cpo 0 0 24 24 24 then (lt (xc X32 (X32.1 32) 53 0 0 24) fun X34 => (if cpo 0 0 8 8 8 then (lt (xc X34 (X34.1 33) 54 0 0 8) fun X36 => (if cpo 0 0 10 10 10 then (lt (xc X36 (X36.1 34) 55 0 0 10) fun X38 => some X38) else none)) else none)) else none)) else none)))))))))))))))))))))))
set_option maxRecDepth 100000 in
set_option maxHeartbeats 4000000 in
theorem s_Image_copyFrom_51_30 {L : Nat} {xs : Nat → Int32} {X : XS} {M : MS} : Sp (mjOO L xs) 163 0 [some (.ref 51), some (.ref 30)] [] (hS X M) (f_Image_copyFrom_51_30 X) (KVX M) := by
  unfold f_Image_copyFrom_51_30
  refine Sp.step rfl rfl rfl rfl ?_
  refine Sp.step rfl rfl rfl (xg_D (c := 2) (f := 2) rfl rfl rfl rfl rfl) ?_
  refine Sp.ocrn (fun a1 e2 => ?_)
  refine Sp.ocn (fun n3 e4 => ?_)
  refine Sp.step rfl rfl rfl (xlen (xL_ok e4) (by decide)) ?_
  refine Sp.step rfl rfl rfl rfl ?_
  refine Sp.step rfl rfl rfl (xg_D (c := 2) (f := 2) rfl rfl rfl rfl rfl) ?_
  refine Sp.ocrn (fun a5 e6 => ?_)
  refine Sp.ocn (fun n7 e8 => ?_)
  refine Sp.step rfl rfl rfl (xlen (xL_ok e8) (by decide)) ?_
  refine Sp.piece (pe := 24) (mf := (fun (x17 : XS) => [some (.ref 51), some (.ref 30)])) (sf := (fun (x17 : XS) => [])) (hf := (fun (x17 : XS) => hS x17 M)) ?_ (fun x17 => ?_)
  · refine Sp.if2 rfl rfl rfl rfl (fun e9 => ?_) (fun e9 => ?_)
    · exact Sp.jmp (l0 := [some (.ref 51), some (.ref 30)]) ⟨rfl, rfl, trivial⟩ (fun _ _ h => h)
    · refine Sp.step rfl rfl rfl rfl ?_
      refine Sp.step rfl rfl rfl rfl ?_
      refine Sp.step rfl rfl rfl (xg_D (c := 2) (f := 2) rfl rfl rfl rfl rfl) ?_
      refine Sp.ocrn (fun a10 e11 => ?_)
      refine Sp.ocn (fun n12 e13 => ?_)
      refine Sp.step rfl rfl rfl (xlen (xL_ok e13) (by decide)) ?_
      refine Sp.guard (fun e14 => ?_)
      refine Sp.step rfl rfl rfl (xnewA (t := 0) rfl (by decide) e14) ?_
      refine Sp.step rfl rfl rfl (xp_R (c := 2) (f := 2) rfl rfl rfl rfl rfl rfl) ?_
      exact Sp.jmp (l0 := [some (.ref 51), some (.ref 30)]) ⟨rfl, rfl, trivial⟩ (fun _ _ h => h)
  · refine Sp.step rfl rfl rfl rfl ?_
    refine Sp.step rfl rfl rfl rfl ?_
    refine Sp.step rfl rfl rfl (xg_I (c := 2) (f := 0) rfl rfl rfl rfl) ?_
    refine Sp.step rfl rfl rfl rfl ?_
    refine Sp.step rfl rfl rfl (xg_D (c := 2) (f := 2) rfl rfl rfl rfl rfl) ?_
    refine Sp.ocrn (fun a18 e19 => ?_)
    refine Sp.ocn (fun n20 e21 => ?_)
    refine Sp.step rfl rfl rfl (xlen (xL_ok e21) (by decide)) ?_
    refine Sp.nat rfl rfl rfl rfl ⟨by decide, by decide, rfl⟩ ?_
    refine Sp.step rfl rfl rfl (xp_I (c := 2) (f := 0) rfl rfl rfl rfl rfl) ?_
    refine Sp.step rfl rfl rfl rfl ?_
    refine Sp.step rfl rfl rfl (xg_D (c := 2) (f := 2) rfl rfl rfl rfl rfl) ?_
    refine Sp.ocrn (fun a23 e24 => ?_)
    refine Sp.step rfl rfl rfl rfl ?_
    refine Sp.step rfl rfl rfl rfl ?_
    refine Sp.step rfl rfl rfl (xg_D (c := 2) (f := 2) rfl rfl rfl rfl rfl) ?_
    refine Sp.ocrn (fun a25 e26 => ?_)
    refine Sp.step rfl rfl rfl rfl ?_
    refine Sp.step rfl rfl rfl rfl ?_
    refine Sp.step rfl rfl rfl (xg_I (c := 2) (f := 0) rfl rfl rfl rfl) ?_
    refine Sp.ocn (fun n27 e28 => ?_)
    refine Sp.ocn (fun n29 e30 => ?_)
    refine Sp.guard (fun e31 => ?_)
    refine Sp.nat rfl rfl rfl (xcopy (xL_ok e28) (xL_ok e30) (Or.inl rfl) e31) ⟨by decide, by decide, rfl⟩ ?_
    refine Sp.step rfl rfl rfl rfl ?_
    refine Sp.step rfl rfl rfl (xg_F (c := 2) (f := 3) rfl rfl rfl rfl rfl) ?_
    refine Sp.step rfl rfl rfl rfl ?_
    refine Sp.step rfl rfl rfl rfl ?_
    refine Sp.step rfl rfl rfl (xg_F (c := 2) (f := 3) rfl rfl rfl rfl rfl) ?_
    refine Sp.step rfl rfl rfl rfl ?_
    refine Sp.step rfl rfl rfl rfl ?_
    refine Sp.guard (fun e33 => ?_)
    refine Sp.nat rfl rfl rfl (xcopy rfl rfl (Or.inl rfl) e33) ⟨by decide, by decide, rfl⟩ ?_
    refine Sp.step rfl rfl rfl rfl ?_
    refine Sp.step rfl rfl rfl (xg_F (c := 2) (f := 4) rfl rfl rfl rfl rfl) ?_
    refine Sp.step rfl rfl rfl rfl ?_
    refine Sp.step rfl rfl rfl rfl ?_
    refine Sp.step rfl rfl rfl (xg_F (c := 2) (f := 4) rfl rfl rfl rfl rfl) ?_
    refine Sp.step rfl rfl rfl rfl ?_
    refine Sp.step rfl rfl rfl rfl ?_
    refine Sp.guard (fun e35 => ?_)
    refine Sp.nat rfl rfl rfl (xcopy rfl rfl (Or.inl rfl) e35) ⟨by decide, by decide, rfl⟩ ?_
    refine Sp.step rfl rfl rfl rfl ?_
    refine Sp.step rfl rfl rfl (xg_F (c := 2) (f := 5) rfl rfl rfl rfl rfl) ?_
    refine Sp.step rfl rfl rfl rfl ?_
    refine Sp.step rfl rfl rfl rfl ?_
    refine Sp.step rfl rfl rfl (xg_F (c := 2) (f := 5) rfl rfl rfl rfl rfl) ?_
    refine Sp.step rfl rfl rfl rfl ?_
    refine Sp.step rfl rfl rfl rfl ?_
    refine Sp.guard (fun e37 => ?_)
    refine Sp.nat rfl rfl rfl (xcopy rfl rfl (Or.inl rfl) e37) ⟨by decide, by decide, rfl⟩ ?_
    exact Sp.vret rfl rfl rfl (fun _ _ h => h)
def f_Image_at_51 (x : Int32) (X : XS) : Option Int32 := (if x < 0 then some 0 else (if X.1 51 0 ≤ x then some 0 else (ocz (X.2.1 51 2) none (fun a3 => (ocz (xL X 0 a3) none (fun n5 => (if Int32.ofNat n5 ≤ x then some 0 else (ocz (X.2.1 51 2) none (fun a8 => (ocz (xL X 0 a8) none (fun n10 => (if ixo x n10 then some (X.1 a8 x.toNatClampNeg) else none))))))))))))
set_option maxRecDepth 100000 in
set_option maxHeartbeats 4000000 in
theorem s_Image_at_51 {L : Nat} {xs : Nat → Int32} {X : XS} {M : MS} {x : Int32} : Sp (mjOO L xs) 166 0 [some (.ref 51), some (.int x)] [] (hS X M) (f_Image_at_51 x X) (KQ (hS X M)) := by
  unfold f_Image_at_51
  refine Sp.step rfl rfl rfl rfl ?_
  refine Sp.if1 rfl rfl rfl rfl (fun e1 => ?_) (fun e1 => ?_)
  · refine Sp.step rfl rfl rfl rfl ?_
    exact Sp.iret rfl rfl rfl rfl (fun _ _ h => h)
  · refine Sp.step rfl rfl rfl rfl ?_
    refine Sp.step rfl rfl rfl rfl ?_
    refine Sp.step rfl rfl rfl (xg_I (c := 2) (f := 0) rfl rfl rfl rfl) ?_
    refine Sp.if2 rfl rfl rfl rfl (fun e2 => ?_) (fun e2 => ?_)
    · refine Sp.step rfl rfl rfl rfl ?_
      exact Sp.iret rfl rfl rfl rfl (fun _ _ h => h)
    · refine Sp.step rfl rfl rfl rfl ?_
      refine Sp.step rfl rfl rfl rfl ?_
      refine Sp.step rfl rfl rfl (xg_D (c := 2) (f := 2) rfl rfl rfl rfl rfl) ?_
      refine Sp.ocrn (fun a3 e4 => ?_)
      refine Sp.ocn (fun n5 e6 => ?_)
      refine Sp.step rfl rfl rfl (xlen (xL_ok e6) (by decide)) ?_
      refine Sp.if2 rfl rfl rfl rfl (fun e7 => ?_) (fun e7 => ?_)
      · refine Sp.step rfl rfl rfl rfl ?_
        exact Sp.iret rfl rfl rfl rfl (fun _ _ h => h)
      · refine Sp.step rfl rfl rfl rfl ?_
        refine Sp.step rfl rfl rfl (xg_D (c := 2) (f := 2) rfl rfl rfl rfl rfl) ?_
        refine Sp.ocrn (fun a8 e9 => ?_)
        refine Sp.step rfl rfl rfl rfl ?_
        refine Sp.ocn (fun n10 e11 => ?_)
        refine Sp.guard (fun e12 => ?_)
        refine Sp.step rfl rfl rfl (xld (xL_ok e11) (by decide) e12) ?_
        refine Sp.step rfl rfl rfl rfl ?_
        exact Sp.iret rfl rfl rfl rfl (fun _ _ h => h)
def f_Image_kinds_51 (X : XS) : Option Int32 := ((f_Image_at_51 2 X).bind fun x1 => some x1)
set_option maxRecDepth 100000 in
set_option maxHeartbeats 4000000 in
theorem s_Image_kinds_51 {L : Nat} {xs : Nat → Int32} {X : XS} {M : MS} : Sp (mjOO L xs) 168 0 [some (.ref 51)] [] (hS X M) (f_Image_kinds_51 X) (KQ (hS X M)) := by
  unfold f_Image_kinds_51
  refine Sp.step rfl rfl rfl rfl ?_
  refine Sp.step rfl rfl rfl rfl ?_
  refine Sp.call rfl rfl rfl (xrecv (c := 2) (by decide) rfl (by decide +kernel)) s_Image_at_51 (fun x1 => ⟨_, _, ⟨rfl, rfl⟩, ?_⟩)
  refine Sp.id (pc := 5) (l := [some (.ref 51)]) (st := [.int x1]) (h := hS X M) ?_
  exact Sp.iret rfl rfl rfl rfl (fun _ _ h => h)
def f_Image_kindAt_51 (x : Int32) : Int32 := 9 + (x * 11)
set_option maxRecDepth 100000 in
set_option maxHeartbeats 4000000 in
theorem s_Image_kindAt_51 {L : Nat} {xs : Nat → Int32} {X : XS} {M : MS} {x : Int32} : Sp (mjOO L xs) 175 0 [some (.ref 51), some (.int x)] [] (hS X M) (some (f_Image_kindAt_51 x)) (KQ (hS X M)) := by
  unfold f_Image_kindAt_51
  refine Sp.step rfl rfl rfl rfl ?_
  refine Sp.step rfl rfl rfl rfl ?_
  refine Sp.step rfl rfl rfl rfl ?_
  refine Sp.step rfl rfl rfl rfl ?_
  refine Sp.step rfl rfl rfl rfl ?_
  exact Sp.iret rfl rfl rfl rfl (fun _ _ h => h)
def f_Image_allInts_51 (x : Int32) (X : XS) : Option Int32 := ((f_Image_at_51 ((f_Image_kindAt_51 x) + 1) X).bind fun x1 => some x1)
set_option maxRecDepth 100000 in
set_option maxHeartbeats 4000000 in
theorem s_Image_allInts_51 {L : Nat} {xs : Nat → Int32} {X : XS} {M : MS} {x : Int32} : Sp (mjOO L xs) 176 0 [some (.ref 51), some (.int x)] [] (hS X M) (f_Image_allInts_51 x X) (KQ (hS X M)) := by
  unfold f_Image_allInts_51
  refine Sp.step rfl rfl rfl rfl ?_
  refine Sp.step rfl rfl rfl rfl ?_
  refine Sp.step rfl rfl rfl rfl ?_
  refine Sp.callS rfl rfl rfl (xrecv (c := 2) (by decide) rfl (by decide +kernel)) s_Image_kindAt_51 ⟨rfl, rfl⟩ ?_
  refine Sp.id (pc := 6) (l := [some (.ref 51), some (.int x)]) (st := [.int (f_Image_kindAt_51 x), .ref 51]) (h := hS X M) ?_
  refine Sp.step rfl rfl rfl rfl ?_
  refine Sp.step rfl rfl rfl rfl ?_
  refine Sp.call rfl rfl rfl (xrecv (c := 2) (by decide) rfl (by decide +kernel)) s_Image_at_51 (fun x1 => ⟨_, _, ⟨rfl, rfl⟩, ?_⟩)
  refine Sp.id (pc := 11) (l := [some (.ref 51), some (.int x)]) (st := [.int x1]) (h := hS X M) ?_
  exact Sp.iret rfl rfl rfl rfl (fun _ _ h => h)
def f_Image_allRefs_51 (x : Int32) (X : XS) : Option Int32 := ((f_Image_at_51 ((f_Image_kindAt_51 x) + 2) X).bind fun x1 => some x1)
set_option maxRecDepth 100000 in
set_option maxHeartbeats 4000000 in
theorem s_Image_allRefs_51 {L : Nat} {xs : Nat → Int32} {X : XS} {M : MS} {x : Int32} : Sp (mjOO L xs) 177 0 [some (.ref 51), some (.int x)] [] (hS X M) (f_Image_allRefs_51 x X) (KQ (hS X M)) := by
  unfold f_Image_allRefs_51
  refine Sp.step rfl rfl rfl rfl ?_
  refine Sp.step rfl rfl rfl rfl ?_
  refine Sp.step rfl rfl rfl rfl ?_
  refine Sp.callS rfl rfl rfl (xrecv (c := 2) (by decide) rfl (by decide +kernel)) s_Image_kindAt_51 ⟨rfl, rfl⟩ ?_
  refine Sp.id (pc := 6) (l := [some (.ref 51), some (.int x)]) (st := [.int (f_Image_kindAt_51 x), .ref 51]) (h := hS X M) ?_
  refine Sp.step rfl rfl rfl rfl ?_
  refine Sp.step rfl rfl rfl rfl ?_
  refine Sp.call rfl rfl rfl (xrecv (c := 2) (by decide) rfl (by decide +kernel)) s_Image_at_51 (fun x1 => ⟨_, _, ⟨rfl, rfl⟩, ?_⟩)
  refine Sp.id (pc := 11) (l := [some (.ref 51), some (.int x)]) (st := [.int x1]) (h := hS X M) ?_
  exact Sp.iret rfl rfl rfl rfl (fun _ _ h => h)
def b40_Memory_start_51 (x26 : (Int32 × XS)) : Option ((Int32 × XS) ⊕ (Int32 × XS)) := (if 10 ≤ x26.1 then some (.inr (x26.1, x26.2)) else ((f_Image_kinds_51 x26.2).bind fun x28 => (((if x28 ≤ x26.1 then some 0 else ((f_Image_allInts_51 x26.1 x26.2).bind fun x30 => some x30)) : Option (Int32)).bind fun x31 => (if ixo x26.1 10 then (lt (xw x26.2 45 x26.1.toNatClampNeg x31) fun X33 => ((f_Image_kinds_51 X33).bind fun x34 => (if x34 ≤ x26.1 then (lt (xw X33 46 x26.1.toNatClampNeg 0) fun X36 => some (.inl (x26.1 + 1, X36))) else ((f_Image_allRefs_51 x26.1 X33).bind fun x37 => (lt (xw X33 46 x26.1.toNatClampNeg x37) fun X38 => some (.inl (x26.1 + 1, X38))))))) else none))))
def f_Memory_start_51 (x : Int32) (X : XS) : Option XS := (ocz (X.2.1 41 1) none (fun a1 => (ocz (xL X 2 a1) none (fun n3 => (((if 4001 ≤ Int32.ofNat n3 then some X else (lt (xn X 2 4001) fun X6 => (lt (xp X6 41 1 (some (xA X))) fun X7 => (lt (xn X7 0 1001) fun X8 => (lt (xp X8 41 2 (some (xA X7))) fun X9 => (lt (xn X9 1 4001) fun X10 => (lt (xp X10 41 3 (some (xA X9))) fun X11 => some X11))))))) : Option (XS)).bind fun x12 => ((lp (b40_Memory_start_51) 10000 ((0 : Int32), x12)).bind fun x39 => (lt (xw x39.2 41 8 x) fun X40 => (lt (xw X40 41 7 1) fun X41 => (lt (xw X41 41 0 0) fun X42 => some X42)))))))))
set_option maxRecDepth 100000 in
set_option maxHeartbeats 4000000 in
theorem s_Memory_start_51 {L : Nat} {xs : Nat → Int32} {X : XS} {M : MS} {x : Int32} : Sp (mjOO L xs) 195 0 [some (.ref 41), some (.ref 51), some (.int x), none] [] (hS X M) (f_Memory_start_51 x X) (KVX M) := by
  unfold f_Memory_start_51
  refine Sp.step rfl rfl rfl rfl ?_
  refine Sp.step rfl rfl rfl (xg_D (c := 4) (f := 1) rfl rfl rfl rfl rfl) ?_
  refine Sp.ocrn (fun a1 e2 => ?_)
  refine Sp.ocn (fun n3 e4 => ?_)
  refine Sp.step rfl rfl rfl (xlen (xL_ok e4) (by decide)) ?_
  refine Sp.step rfl rfl rfl rfl ?_
  refine Sp.piece (pe := 38) (mf := (fun (x12 : XS) => [some (.ref 41), some (.ref 51), some (.int x), none])) (sf := (fun (x12 : XS) => [])) (hf := (fun (x12 : XS) => hS x12 M)) ?_ (fun x12 => ?_)
  · refine Sp.if2 rfl rfl rfl rfl (fun e5 => ?_) (fun e5 => ?_)
    · exact Sp.jmp (l0 := [some (.ref 41), some (.ref 51), some (.int x), none]) ⟨rfl, rfl, rfl, trivial⟩ (fun _ _ h => h)
    · refine Sp.step rfl rfl rfl rfl ?_
      refine Sp.step rfl rfl rfl rfl ?_
      refine Sp.step rfl rfl rfl (xnewK (t := 2) (n := 4001) (k := 4001) rfl (by decide) rfl (by decide)) ?_
      refine Sp.step rfl rfl rfl (xp_R (c := 4) (f := 1) rfl rfl rfl rfl rfl rfl) ?_
      refine Sp.step rfl rfl rfl rfl ?_
      refine Sp.step rfl rfl rfl rfl ?_
      refine Sp.step rfl rfl rfl (xnewK (t := 0) (n := 1001) (k := 1001) rfl (by decide) rfl (by decide)) ?_
      refine Sp.step rfl rfl rfl (xp_R (c := 4) (f := 2) rfl rfl rfl rfl rfl rfl) ?_
      refine Sp.step rfl rfl rfl rfl ?_
      refine Sp.step rfl rfl rfl rfl ?_
      refine Sp.step rfl rfl rfl (xnewK (t := 1) (n := 4001) (k := 4001) rfl (by decide) rfl (by decide)) ?_
      refine Sp.step rfl rfl rfl (xp_R (c := 4) (f := 3) rfl rfl rfl rfl rfl rfl) ?_
      exact Sp.jmp (l0 := [some (.ref 41), some (.ref 51), some (.int x), none]) ⟨rfl, rfl, rfl, trivial⟩ (fun _ _ h => h)
  · refine Sp.step rfl rfl rfl rfl ?_
    refine Sp.step rfl rfl rfl rfl ?_
    refine Sp.weak (l0 := [some (.ref 41), some (.ref 51), some (.int x), some (.int 0)]) ⟨rfl, rfl, rfl, rfl, trivial⟩ ?_
    refine Sp.loopX (pe := 98) (mf := (fun (x26 : (Int32 × XS)) => [some (.ref 41), some (.ref 51), some (.int x), some (.int x26.1)])) (hf := (fun (x26 : (Int32 × XS)) => hS x26.2 M)) (fun x26 => ?_) (fun x39 => ?_) _ _
    · unfold b40_Memory_start_51
      refine Sp.step rfl rfl rfl rfl ?_
      refine Sp.step rfl rfl rfl rfl ?_
      refine Sp.if2 rfl rfl rfl rfl (fun e27 => ?_) (fun e27 => ?_)
      · exact Sp.jmp (l0 := [some (.ref 41), some (.ref 51), some (.int x), some (.int x26.1)]) ⟨rfl, rfl, rfl, rfl, trivial⟩ (fun _ _ h => h)
      · refine Sp.step rfl rfl rfl rfl ?_
        refine Sp.step rfl rfl rfl (xg_F (c := 4) (f := 4) rfl rfl rfl rfl rfl) ?_
        refine Sp.step rfl rfl rfl rfl ?_
        refine Sp.step rfl rfl rfl rfl ?_
        refine Sp.step rfl rfl rfl rfl ?_
        refine Sp.call rfl rfl rfl (xrecv (c := 2) (by decide) rfl (by decide +kernel)) s_Image_kinds_51 (fun x28 => ⟨_, _, ⟨rfl, rfl⟩, ?_⟩)
        refine Sp.id (pc := 56) (l := [some (.ref 41), some (.ref 51), some (.int x), some (.int x26.1)]) (st := [.int x28, .int x26.1, .int x26.1, .ref 45]) (h := hS x26.2 M) ?_
        refine Sp.piece (pe := 68) (mf := (fun (x31 : Int32) => [some (.ref 41), some (.ref 51), some (.int x), some (.int x26.1)])) (sf := (fun (x31 : Int32) => [.int x31, .int x26.1, .ref 45])) (hf := (fun (x31 : Int32) => hS x26.2 M)) ?_ (fun x31 => ?_)
        · refine Sp.if2 rfl rfl rfl rfl (fun e29 => ?_) (fun e29 => ?_)
          · refine Sp.step rfl rfl rfl rfl ?_
            exact Sp.jmp (l0 := [some (.ref 41), some (.ref 51), some (.int x), some (.int x26.1)]) ⟨rfl, rfl, rfl, rfl, trivial⟩ (fun _ _ h => h)
          · refine Sp.step rfl rfl rfl rfl ?_
            refine Sp.step rfl rfl rfl rfl ?_
            refine Sp.call rfl rfl rfl (xrecv (c := 2) (by decide) rfl (by decide +kernel)) s_Image_allInts_51 (fun x30 => ⟨_, _, ⟨rfl, rfl⟩, ?_⟩)
            refine Sp.id (pc := 64) (l := [some (.ref 41), some (.ref 51), some (.int x), some (.int x26.1)]) (st := [.int x30, .int x26.1, .ref 45]) (h := hS x26.2 M) ?_
            refine Sp.step rfl rfl rfl rfl ?_
            exact Sp.jmp (l0 := [some (.ref 41), some (.ref 51), some (.int x), some (.int x26.1)]) ⟨rfl, rfl, rfl, rfl, trivial⟩ (fun _ _ h => h)
        · refine Sp.guard (fun e32 => ?_)
          refine Sp.step rfl rfl rfl (xst rfl (by decide) e32) ?_
          refine Sp.step rfl rfl rfl rfl ?_
          refine Sp.step rfl rfl rfl (xg_F (c := 4) (f := 5) rfl rfl rfl rfl rfl) ?_
          refine Sp.step rfl rfl rfl rfl ?_
          refine Sp.step rfl rfl rfl rfl ?_
          refine Sp.step rfl rfl rfl rfl ?_
          refine Sp.call rfl rfl rfl (xrecv (c := 2) (by decide) rfl (by decide +kernel)) s_Image_kinds_51 (fun x34 => ⟨_, _, ⟨rfl, rfl⟩, ?_⟩)
          refine Sp.id (pc := 79) (l := [some (.ref 41), some (.ref 51), some (.int x), some (.int x26.1)]) (st := [.int x34, .int x26.1, .int x26.1, .ref 46]) (h := hS (xw x26.2 45 x26.1.toNatClampNeg x31) M) ?_
          refine Sp.if2 rfl rfl rfl rfl (fun e35 => ?_) (fun e35 => ?_)
          · refine Sp.step rfl rfl rfl rfl ?_
            refine Sp.step rfl rfl rfl (xst rfl (by decide) e32) ?_
            refine Sp.step rfl rfl rfl rfl ?_
            refine Sp.step rfl rfl rfl rfl ?_
            exact Sp.jmp (l0 := [some (.ref 41), some (.ref 51), some (.int x), some (.int (x26.1 + 1))]) ⟨rfl, rfl, rfl, rfl, trivial⟩ (fun _ _ h => h)
          · refine Sp.step rfl rfl rfl rfl ?_
            refine Sp.step rfl rfl rfl rfl ?_
            refine Sp.call rfl rfl rfl (xrecv (c := 2) (by decide) rfl (by decide +kernel)) s_Image_allRefs_51 (fun x37 => ⟨_, _, ⟨rfl, rfl⟩, ?_⟩)
            refine Sp.id (pc := 87) (l := [some (.ref 41), some (.ref 51), some (.int x), some (.int x26.1)]) (st := [.int x37, .int x26.1, .ref 46]) (h := hS (xw x26.2 45 x26.1.toNatClampNeg x31) M) ?_
            refine Sp.step rfl rfl rfl rfl ?_
            refine Sp.step rfl rfl rfl (xst rfl (by decide) e32) ?_
            refine Sp.step rfl rfl rfl rfl ?_
            refine Sp.step rfl rfl rfl rfl ?_
            exact Sp.jmp (l0 := [some (.ref 41), some (.ref 51), some (.int x), some (.int (x26.1 + 1))]) ⟨rfl, rfl, rfl, rfl, trivial⟩ (fun _ _ h => h)
    · refine Sp.step rfl rfl rfl rfl ?_
      refine Sp.step rfl rfl rfl rfl ?_
      refine Sp.step rfl rfl rfl (xp_I (c := 4) (f := 8) rfl rfl rfl rfl rfl) ?_
      refine Sp.step rfl rfl rfl rfl ?_
      refine Sp.step rfl rfl rfl rfl ?_
      refine Sp.step rfl rfl rfl (xp_I (c := 4) (f := 7) rfl rfl rfl rfl rfl) ?_
      refine Sp.step rfl rfl rfl rfl ?_
      refine Sp.step rfl rfl rfl rfl ?_
      refine Sp.step rfl rfl rfl (xp_I (c := 4) (f := 0) rfl rfl rfl rfl rfl) ?_
      exact Sp.vret rfl rfl rfl (fun _ _ h => h)
def f_Ports_clear (X : XS) : Option XS := (lt (xw X 47 0 0) fun X1 => (lt (xw X1 47 2 0) fun X2 => (lt (xw X2 47 1 0) fun X3 => some X3)))
set_option maxRecDepth 100000 in
set_option maxHeartbeats 4000000 in
theorem s_Ports_clear {L : Nat} {xs : Nat → Int32} {X : XS} {M : MS} : Sp (mjOO L xs) 235 0 [some (.ref 47)] [] (hS X M) (f_Ports_clear X) (KVX M) := by
  unfold f_Ports_clear
  refine Sp.step rfl rfl rfl rfl ?_
  refine Sp.step rfl rfl rfl rfl ?_
  refine Sp.step rfl rfl rfl (xp_I (c := 5) (f := 0) rfl rfl rfl rfl rfl) ?_
  refine Sp.step rfl rfl rfl rfl ?_
  refine Sp.step rfl rfl rfl rfl ?_
  refine Sp.step rfl rfl rfl (xp_I (c := 5) (f := 2) rfl rfl rfl rfl rfl) ?_
  refine Sp.step rfl rfl rfl rfl ?_
  refine Sp.step rfl rfl rfl rfl ?_
  refine Sp.step rfl rfl rfl (xp_I (c := 5) (f := 1) rfl rfl rfl rfl rfl) ?_
  exact Sp.vret rfl rfl rfl (fun _ _ h => h)
