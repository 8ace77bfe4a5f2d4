/-! methods as functions, by program -/
def b4_Reach_scanNew (x11 : (Int32 × Int32 × XS)) : Option ((Int32 × Int32 × XS) ⊕ (Int32 × Int32 × XS)) := (if 24 ≤ x11.2.1 then some (.inr (x11.1, x11.2.1, x11.2.2)) else (if f_Reach_hasRoutine x11.2.1 x11.2.2 = true then (if ¬ x11.2.2.1 18 x11.2.1.toNatClampNeg = 0 then some (.inl (x11.1, x11.2.1 + 1, x11.2.2)) else (lt (xw x11.2.2 18 x11.2.1.toNatClampNeg 1) fun X16 => (ocz (X16.2.1 2 x11.2.1.toNatClampNeg) none (fun a17 => ((f_Reach_scan a17 X16).bind fun x19 => some (.inl (1, x11.2.1 + 1, x19))))))) else some (.inl (x11.1, x11.2.1 + 1, x11.2.2))))
def f_Reach_scanNew (X : XS) : Option (Bool × XS) := ((lp (b4_Reach_scanNew) 10000 ((0 : Int32), (0 : Int32), X)).bind fun x21 => (if x21.1 = 1 then some (true, x21.2.2) else (if x21.1 = 0 then some (false, x21.2.2) else none)))
set_option maxRecDepth 100000 in
set_option maxHeartbeats 4000000 in
theorem s_Reach_scanNew {L : Nat} {xs : Nat → Int32} {X : XS} {M : MS} : Sp (mjOO L xs) 249 0 [some (.ref 14), none, none] [] (hS X M) (f_Reach_scanNew X) (KBX M) := by
  unfold f_Reach_scanNew
  refine Sp.step rfl rfl rfl rfl ?_
  refine Sp.step rfl rfl rfl rfl ?_
  refine Sp.step rfl rfl rfl rfl ?_
  refine Sp.step rfl rfl rfl rfl ?_
  refine Sp.weak (l0 := [some (.ref 14), some (.int 0), some (.int 0)]) ⟨rfl, rfl, rfl, trivial⟩ ?_
  refine Sp.loopX (pe := 55) (mf := (fun (x11 : (Int32 × Int32 × XS)) => [some (.ref 14), some (.int x11.1), some (.int x11.2.1)])) (hf := (fun (x11 : (Int32 × Int32 × XS)) => hS x11.2.2 M)) (fun x11 => ?_) (fun x21 => ?_) _ _
  · unfold b4_Reach_scanNew
    refine Sp.step rfl rfl rfl rfl ?_
    refine Sp.step rfl rfl rfl rfl ?_
    refine Sp.if2 rfl rfl rfl rfl (fun e12 => ?_) (fun e12 => ?_)
    · exact Sp.jmp (l0 := [some (.ref 14), some (.int x11.1), some (.int x11.2.1)]) ⟨rfl, rfl, rfl, trivial⟩ (fun _ _ h => h)
    · refine Sp.step rfl rfl rfl rfl ?_
      refine Sp.step rfl rfl rfl rfl ?_
      refine Sp.callS rfl rfl rfl (xrecv (c := 6) (by decide) rfl (by decide +kernel)) s_Reach_hasRoutine ⟨rfl, rfl⟩ ?_
      refine Sp.bool (fun e13 => ?_) (fun e13 => ?_)
      · refine Sp.id (pc := 15) (l := [some (.ref 14), some (.int x11.1), some (.int x11.2.1)]) (st := [.int 1]) (h := hS x11.2.2 M) ?_
        refine Sp.step rfl rfl rfl rfl ?_
        refine Sp.step rfl rfl rfl rfl ?_
        refine Sp.step rfl rfl rfl (xg_F (c := 6) (f := 6) rfl rfl rfl rfl rfl) ?_
        refine Sp.step rfl rfl rfl rfl ?_
        refine Sp.step rfl rfl rfl (xld rfl (by decide) (hasRoutine_ix e13)) ?_
        refine Sp.if1 rfl rfl rfl rfl (fun e15 => ?_) (fun e15 => ?_)
        · refine Sp.step rfl rfl rfl rfl ?_
          refine Sp.step rfl rfl rfl rfl ?_
          exact Sp.jmp (l0 := [some (.ref 14), some (.int x11.1), some (.int (x11.2.1 + 1))]) ⟨rfl, rfl, rfl, trivial⟩ (fun _ _ h => h)
        · refine Sp.step rfl rfl rfl rfl ?_
          refine Sp.step rfl rfl rfl (xg_F (c := 6) (f := 6) rfl rfl rfl rfl rfl) ?_
          refine Sp.step rfl rfl rfl rfl ?_
          refine Sp.step rfl rfl rfl rfl ?_
          refine Sp.step rfl rfl rfl (xst1 rfl (hasRoutine_ix e13)) ?_
          refine Sp.step rfl rfl rfl rfl ?_
          refine Sp.step rfl rfl rfl rfl ?_
          refine Sp.step rfl rfl rfl rfl ?_
          refine Sp.step rfl rfl rfl rfl ?_
          refine Sp.step rfl rfl rfl (xg_F (c := 6) (f := 2) rfl rfl rfl rfl rfl) ?_
          refine Sp.step rfl rfl rfl (xg_F (c := 8) (f := 0) rfl rfl rfl rfl rfl) ?_
          refine Sp.step rfl rfl rfl rfl ?_
          refine Sp.step rfl rfl rfl (xald (t := 3) rfl (by decide) (fun _ => rfl) (hasRoutine_ix e13)) ?_
          refine Sp.ocrn (fun a17 e18 => ?_)
          refine Sp.call rfl rfl rfl (xrecv (c := 6) (by decide) rfl (by decide +kernel)) s_Reach_scan (fun x19 => ⟨_, _, ⟨rfl, rfl⟩, ?_⟩)
          refine Sp.id (pc := 49) (l := [some (.ref 14), some (.int 1), some (.int x11.2.1)]) (st := []) (h := hS x19 M) ?_
          refine Sp.step rfl rfl rfl rfl ?_
          refine Sp.step rfl rfl rfl rfl ?_
          exact Sp.jmp (l0 := [some (.ref 14), some (.int 1), some (.int (x11.2.1 + 1))]) ⟨rfl, rfl, rfl, trivial⟩ (fun _ _ h => h)
      · refine Sp.id (pc := 15) (l := [some (.ref 14), some (.int x11.1), some (.int x11.2.1)]) (st := [.int 0]) (h := hS x11.2.2 M) ?_
        refine Sp.step rfl rfl rfl rfl ?_
        refine Sp.step rfl rfl rfl rfl ?_
        refine Sp.step rfl rfl rfl rfl ?_
        exact Sp.jmp (l0 := [some (.ref 14), some (.int x11.1), some (.int (x11.2.1 + 1))]) ⟨rfl, rfl, rfl, trivial⟩ (fun _ _ h => h)
  · refine Sp.step rfl rfl rfl rfl ?_
    refine Sp.ite (fun e22 => ?_) (fun _ => Sp.guard (fun e22 => ?_))
    · exact Sp.iret rfl rfl rfl (by rw [e22]; rfl) (fun _ _ h => by rw [e22]; exact h)
    · exact Sp.iret rfl rfl rfl (by rw [e22]; rfl) (fun _ _ h => by rw [e22]; exact h)
def b5_Source_nearest (y : Int32) (X : XS) (x1 : (Int32 × Int32)) : Option ((Int32 × Int32) ⊕ Int32) := (if 10 ≤ x1.2 then some (.inr (-1)) else (if f_Source_isKind x1.1 X = true then ((f_Source_ownRoutine x1.1 y X).bind fun x5 => (if x5 = (-1) then some (.inl (X.1 3 x1.1.toNatClampNeg, x1.2 + 1)) else some (.inr x5))) else some (.inr (-1))))
def f_Source_nearest (x : Int32) (y : Int32) (X : XS) : Option Int32 := (lp (b5_Source_nearest y X) 10000 (x, (0 : Int32)))
set_option maxRecDepth 100000 in
set_option maxHeartbeats 4000000 in
theorem s_Source_nearest {L : Nat} {xs : Nat → Int32} {X : XS} {M : MS} {x : Int32} {y : Int32} : Sp (mjOO L xs) 276 0 [some (.ref 1), some (.int x), some (.int y), none, none, none] [] (hS X M) (f_Source_nearest x y X) (KQ (hS X M)) := by
  unfold f_Source_nearest
  refine Sp.step rfl rfl rfl rfl ?_
  refine Sp.step rfl rfl rfl rfl ?_
  refine Sp.step rfl rfl rfl rfl ?_
  refine Sp.step rfl rfl rfl rfl ?_
  refine Sp.weak (l0 := [some (.ref 1), none, some (.int y), some (.int x), some (.int 0), none]) ⟨rfl, rfl, rfl, rfl, trivial⟩ ?_
  refine Sp.loopL (mf := (fun (x1 : (Int32 × Int32)) => [some (.ref 1), none, some (.int y), some (.int x1.1), some (.int x1.2), none])) (hf := (fun (x1 : (Int32 × Int32)) => hS X M)) (fun x1 => ?_) _ _
  unfold b5_Source_nearest
  refine Sp.step rfl rfl rfl rfl ?_
  refine Sp.step rfl rfl rfl rfl ?_
  refine Sp.if2 rfl rfl rfl rfl (fun e2 => ?_) (fun e2 => ?_)
  · refine Sp.step rfl rfl rfl rfl ?_
    exact Sp.iret rfl rfl rfl rfl (fun _ _ h => h)
  · refine Sp.step rfl rfl rfl rfl ?_
    refine Sp.step rfl rfl rfl rfl ?_
    refine Sp.callS rfl rfl rfl (xrecv (c := 8) (by decide) rfl (by decide +kernel)) s_Source_isKind ⟨rfl, rfl⟩ ?_
    refine Sp.bool (fun e3 => ?_) (fun e3 => ?_)
    · refine Sp.id (pc := 17) (l := [some (.ref 1), none, some (.int y), some (.int x1.1), some (.int x1.2), none]) (st := [.int 1]) (h := hS X M) ?_
      refine Sp.step rfl rfl rfl rfl ?_
      refine Sp.step rfl rfl rfl rfl ?_
      refine Sp.step rfl rfl rfl rfl ?_
      refine Sp.step rfl rfl rfl rfl ?_
      refine Sp.call rfl rfl rfl (xrecv (c := 8) (by decide) rfl (by decide +kernel)) s_Source_ownRoutine (fun x5 => ⟨_, _, ⟨rfl, rfl⟩, ?_⟩)
      refine Sp.id (pc := 26) (l := [some (.ref 1), none, some (.int y), some (.int x1.1), some (.int x1.2), none]) (st := [.int x5]) (h := hS X M) ?_
      refine Sp.step rfl rfl rfl rfl ?_
      refine Sp.step rfl rfl rfl rfl ?_
      refine Sp.step rfl rfl rfl rfl ?_
      refine Sp.if2 rfl rfl rfl rfl (fun e6 => ?_) (fun e6 => ?_)
      · refine Sp.step rfl rfl rfl rfl ?_
        refine Sp.step rfl rfl rfl (xg_F (c := 8) (f := 3) rfl rfl rfl rfl rfl) ?_
        refine Sp.step rfl rfl rfl rfl ?_
        refine Sp.step rfl rfl rfl (xld rfl (by decide) (isKind_ix e3)) ?_
        refine Sp.step rfl rfl rfl rfl ?_
        refine Sp.step rfl rfl rfl rfl ?_
        refine Sp.step rfl rfl rfl rfl ?_
        exact Sp.jmp (l0 := [some (.ref 1), none, some (.int y), some (.int (X.1 3 x1.1.toNatClampNeg)), some (.int (x1.2 + 1)), none]) ⟨rfl, rfl, rfl, rfl, trivial⟩ (fun _ _ h => h)
      · refine Sp.step rfl rfl rfl rfl ?_
        exact Sp.iret rfl rfl rfl rfl (fun _ _ h => h)
    · refine Sp.id (pc := 17) (l := [some (.ref 1), none, some (.int y), some (.int x1.1), some (.int x1.2), none]) (st := [.int 0]) (h := hS X M) ?_
      refine Sp.step rfl rfl rfl rfl ?_
      refine Sp.step rfl rfl rfl rfl ?_
      exact Sp.iret rfl rfl rfl rfl (fun _ _ h => h)
def b10_Reach_callByName (x20 : (Int32 × XS)) (x30 : (Int32 × XS)) : Option ((Int32 × XS) ⊕ (Int32 × XS)) := (if ixo x20.1 10 then (if x30.2.1 16 x20.1.toNatClampNeg = 0 then some (.inr (x30.1, x30.2)) else (if 8 ≤ x30.1 then some (.inr (x30.1, x30.2)) else (if ixo x30.1 8 then (if x30.2.1 19 x30.1.toNatClampNeg = 0 then some (.inl (x30.1 + 1, x30.2)) else ((f_Source_nearest x20.1 x30.1 x30.2).bind fun x36 => ((f_Reach_addRoutine x36 x30.2).bind fun x37 => some (.inl (x30.1 + 1, x37))))) else none))) else none)
def b2_Reach_callByName (x20 : (Int32 × XS)) : Option ((Int32 × XS) ⊕ (Int32 × XS)) := (if 10 ≤ x20.1 then some (.inr (x20.1, x20.2)) else ((lp (b10_Reach_callByName x20) 10000 ((0 : Int32), x20.2)).bind fun x38 => some (.inl (x20.1 + 1, x38.2))))
def f_Reach_callByName (X : XS) : Option XS := ((lp (b2_Reach_callByName) 10000 ((0 : Int32), X)).bind fun x39 => some x39.2)
set_option maxRecDepth 100000 in
set_option maxHeartbeats 4000000 in
theorem s_Reach_callByName {L : Nat} {xs : Nat → Int32} {X : XS} {M : MS} : Sp (mjOO L xs) 252 0 [some (.ref 14), none, none] [] (hS X M) (f_Reach_callByName X) (KVX M) := by
  unfold f_Reach_callByName
  refine Sp.step rfl rfl rfl rfl ?_
  refine Sp.step rfl rfl rfl rfl ?_
  refine Sp.weak (l0 := [some (.ref 14), some (.int 0), none]) ⟨rfl, rfl, trivial⟩ ?_
  refine Sp.loopX (pe := 59) (mf := (fun (x20 : (Int32 × XS)) => [some (.ref 14), some (.int x20.1), none])) (hf := (fun (x20 : (Int32 × XS)) => hS x20.2 M)) (fun x20 => ?_) (fun x39 => ?_) _ _
  · unfold b2_Reach_callByName
    refine Sp.step rfl rfl rfl rfl ?_
    refine Sp.step rfl rfl rfl rfl ?_
    refine Sp.if2 rfl rfl rfl rfl (fun e21 => ?_) (fun e21 => ?_)
    · exact Sp.jmp (l0 := [some (.ref 14), some (.int x20.1), none]) ⟨rfl, rfl, trivial⟩ (fun _ _ h => h)
    · refine Sp.step rfl rfl rfl rfl ?_
      refine Sp.step rfl rfl rfl rfl ?_
      refine Sp.weak (l0 := [some (.ref 14), some (.int x20.1), some (.int 0)]) ⟨rfl, rfl, rfl, trivial⟩ ?_
      refine Sp.loopX (pe := 53) (mf := (fun (x30 : (Int32 × XS)) => [some (.ref 14), some (.int x20.1), some (.int x30.1)])) (hf := (fun (x30 : (Int32 × XS)) => hS x30.2 M)) (fun x30 => ?_) (fun x38 => ?_) _ _
      · unfold b10_Reach_callByName
        refine Sp.step rfl rfl rfl rfl ?_
        refine Sp.step rfl rfl rfl (xg_F (c := 6) (f := 4) rfl rfl rfl rfl rfl) ?_
        refine Sp.step rfl rfl rfl rfl ?_
        refine Sp.guard (fun e31 => ?_)
        refine Sp.step rfl rfl rfl (xld rfl (by decide) e31) ?_
        refine Sp.if1 rfl rfl rfl rfl (fun e32 => ?_) (fun e32 => ?_)
        · exact Sp.jmp (l0 := [some (.ref 14), some (.int x20.1), some (.int x30.1)]) ⟨rfl, rfl, rfl, trivial⟩ (fun _ _ h => h)
        · refine Sp.step rfl rfl rfl rfl ?_
          refine Sp.step rfl rfl rfl rfl ?_
          refine Sp.if2 rfl rfl rfl rfl (fun e33 => ?_) (fun e33 => ?_)
          · exact Sp.jmp (l0 := [some (.ref 14), some (.int x20.1), some (.int x30.1)]) ⟨rfl, rfl, rfl, trivial⟩ (fun _ _ h => h)
          · refine Sp.step rfl rfl rfl rfl ?_
            refine Sp.step rfl rfl rfl (xg_F (c := 6) (f := 7) rfl rfl rfl rfl rfl) ?_
            refine Sp.step rfl rfl rfl rfl ?_
            refine Sp.guard (fun e34 => ?_)
            refine Sp.step rfl rfl rfl (xld rfl (by decide) e34) ?_
            refine Sp.if1 rfl rfl rfl rfl (fun e35 => ?_) (fun e35 => ?_)
            · refine Sp.step rfl rfl rfl rfl ?_
              refine Sp.step rfl rfl rfl rfl ?_
              exact Sp.jmp (l0 := [some (.ref 14), some (.int x20.1), some (.int (x30.1 + 1))]) ⟨rfl, rfl, rfl, trivial⟩ (fun _ _ h => h)
            · refine Sp.step rfl rfl rfl rfl ?_
              refine Sp.step rfl rfl rfl rfl ?_
              refine Sp.step rfl rfl rfl (xg_F (c := 6) (f := 2) rfl rfl rfl rfl rfl) ?_
              refine Sp.step rfl rfl rfl rfl ?_
              refine Sp.step rfl rfl rfl rfl ?_
              refine Sp.call rfl rfl rfl (xrecv (c := 8) (by decide) rfl (by decide +kernel)) s_Source_nearest (fun x36 => ⟨_, _, ⟨rfl, rfl⟩, ?_⟩)
              refine Sp.id (pc := 44) (l := [some (.ref 14), some (.int x20.1), some (.int x30.1)]) (st := [.int x36, .ref 14]) (h := hS x30.2 M) ?_
              refine Sp.call rfl rfl rfl (xrecv (c := 6) (by decide) rfl (by decide +kernel)) s_Reach_addRoutine (fun x37 => ⟨_, _, ⟨rfl, rfl⟩, ?_⟩)
              refine Sp.id (pc := 47) (l := [some (.ref 14), some (.int x20.1), some (.int x30.1)]) (st := []) (h := hS x37 M) ?_
              refine Sp.step rfl rfl rfl rfl ?_
              refine Sp.step rfl rfl rfl rfl ?_
              exact Sp.jmp (l0 := [some (.ref 14), some (.int x20.1), some (.int (x30.1 + 1))]) ⟨rfl, rfl, rfl, trivial⟩ (fun _ _ h => h)
      · refine Sp.step rfl rfl rfl rfl ?_
        refine Sp.step rfl rfl rfl rfl ?_
        exact Sp.jmp (l0 := [some (.ref 14), some (.int (x20.1 + 1)), none]) ⟨rfl, rfl, trivial⟩ (fun _ _ h => h)
  · exact Sp.vret rfl rfl rfl (fun _ _ h => h)
def b2_Reach_addOwners (x17 : (Int32 × XS)) : Option ((Int32 × XS) ⊕ (Int32 × XS)) := (if 24 ≤ x17.1 then some (.inr (x17.1, x17.2)) else (if f_Reach_hasRoutine x17.1 x17.2 = true then (ocz (x17.2.2.1 2 x17.1.toNatClampNeg) none (fun a21 => (if (xT x17.2 a21 = some (12, 0)) then ((f_Routine_isStatic a21 x17.2).bind fun x24 => (if x24 = true then some (.inl (x17.1 + 1, x17.2)) else (ocz (x17.2.2.1 2 x17.1.toNatClampNeg) none (fun a28 => (if (xT x17.2 a28 = some (12, 0)) then ((f_Reach_addKind (x17.2.1 a28 0) x17.2).bind fun x31 => some (.inl (x17.1 + 1, x31))) else none))))) else none))) else some (.inl (x17.1 + 1, x17.2))))
def f_Reach_addOwners (X : XS) : Option XS := ((lp (b2_Reach_addOwners) 10000 ((0 : Int32), X)).bind fun x33 => some x33.2)
set_option maxRecDepth 100000 in
set_option maxHeartbeats 4000000 in
theorem s_Reach_addOwners {L : Nat} {xs : Nat → Int32} {X : XS} {M : MS} : Sp (mjOO L xs) 253 0 [some (.ref 14), none] [] (hS X M) (f_Reach_addOwners X) (KVX M) := by
  unfold f_Reach_addOwners
  refine Sp.step rfl rfl rfl rfl ?_
  refine Sp.step rfl rfl rfl rfl ?_
  refine Sp.weak (l0 := [some (.ref 14), some (.int 0)]) ⟨rfl, rfl, trivial⟩ ?_
  refine Sp.loopX (pe := 53) (mf := (fun (x17 : (Int32 × XS)) => [some (.ref 14), some (.int x17.1)])) (hf := (fun (x17 : (Int32 × XS)) => hS x17.2 M)) (fun x17 => ?_) (fun x33 => ?_) _ _
  · unfold b2_Reach_addOwners
    refine Sp.step rfl rfl rfl rfl ?_
    refine Sp.step rfl rfl rfl rfl ?_
    refine Sp.if2 rfl rfl rfl rfl (fun e18 => ?_) (fun e18 => ?_)
    · exact Sp.jmp (l0 := [some (.ref 14), some (.int x17.1)]) ⟨rfl, rfl, trivial⟩ (fun _ _ h => h)
    · refine Sp.step rfl rfl rfl rfl ?_
      refine Sp.step rfl rfl rfl rfl ?_
      refine Sp.callS rfl rfl rfl (xrecv (c := 6) (by decide) rfl (by decide +kernel)) s_Reach_hasRoutine ⟨rfl, rfl⟩ ?_
      refine Sp.bool (fun e19 => ?_) (fun e19 => ?_)
      · refine Sp.id (pc := 13) (l := [some (.ref 14), some (.int x17.1)]) (st := [.int 1]) (h := hS x17.2 M) ?_
        refine Sp.step rfl rfl rfl rfl ?_
        refine Sp.step rfl rfl rfl rfl ?_
        refine Sp.step rfl rfl rfl (xg_F (c := 6) (f := 2) rfl rfl rfl rfl rfl) ?_
        refine Sp.step rfl rfl rfl (xg_F (c := 8) (f := 0) rfl rfl rfl rfl rfl) ?_
        refine Sp.step rfl rfl rfl rfl ?_
        refine Sp.step rfl rfl rfl (xald (t := 3) rfl (by decide) (fun _ => rfl) (hasRoutine_ix e19)) ?_
        refine Sp.ocrn (fun a21 e22 => ?_)
        refine Sp.guard (fun e23 => ?_)
        refine Sp.call rfl rfl rfl (xrecv (c := 7) (by decide) e23 (by decide +kernel)) s_Routine_isStatic (fun x24 => ⟨_, _, ⟨rfl, rfl⟩, ?_⟩)
        refine Sp.bool (fun e25 => ?_) (fun e25 => ?_)
        · refine Sp.id (pc := 28) (l := [some (.ref 14), some (.int x17.1)]) (st := [.int 1]) (h := hS x17.2 M) ?_
          refine Sp.step rfl rfl rfl rfl ?_
          refine Sp.step rfl rfl rfl rfl ?_
          refine Sp.step rfl rfl rfl rfl ?_
          exact Sp.jmp (l0 := [some (.ref 14), some (.int (x17.1 + 1))]) ⟨rfl, rfl, trivial⟩ (fun _ _ h => h)
        · refine Sp.id (pc := 28) (l := [some (.ref 14), some (.int x17.1)]) (st := [.int 0]) (h := hS x17.2 M) ?_
          refine Sp.step rfl rfl rfl rfl ?_
          refine Sp.step rfl rfl rfl rfl ?_
          refine Sp.step rfl rfl rfl rfl ?_
          refine Sp.step rfl rfl rfl (xg_F (c := 6) (f := 2) rfl rfl rfl rfl rfl) ?_
          refine Sp.step rfl rfl rfl (xg_F (c := 8) (f := 0) rfl rfl rfl rfl rfl) ?_
          refine Sp.step rfl rfl rfl rfl ?_
          refine Sp.step rfl rfl rfl (xald (t := 3) rfl (by decide) (fun _ => rfl) (hasRoutine_ix e19)) ?_
          refine Sp.ocrn (fun a28 e29 => ?_)
          refine Sp.guard (fun e30 => ?_)
          refine Sp.step rfl rfl rfl (xg_I (c := 7) (f := 0) rfl rfl e30 rfl) ?_
          refine Sp.call rfl rfl rfl (xrecv (c := 6) (by decide) rfl (by decide +kernel)) s_Reach_addKind (fun x31 => ⟨_, _, ⟨rfl, rfl⟩, ?_⟩)
          refine Sp.id (pc := 47) (l := [some (.ref 14), some (.int x17.1)]) (st := []) (h := hS x31 M) ?_
          refine Sp.step rfl rfl rfl rfl ?_
          refine Sp.step rfl rfl rfl rfl ?_
          exact Sp.jmp (l0 := [some (.ref 14), some (.int (x17.1 + 1))]) ⟨rfl, rfl, trivial⟩ (fun _ _ h => h)
      · refine Sp.id (pc := 13) (l := [some (.ref 14), some (.int x17.1)]) (st := [.int 0]) (h := hS x17.2 M) ?_
        refine Sp.step rfl rfl rfl rfl ?_
        refine Sp.step rfl rfl rfl rfl ?_
        refine Sp.step rfl rfl rfl rfl ?_
        exact Sp.jmp (l0 := [some (.ref 14), some (.int (x17.1 + 1))]) ⟨rfl, rfl, trivial⟩ (fun _ _ h => h)
  · exact Sp.vret rfl rfl rfl (fun _ _ h => h)
def f_Source_above (x : Int32) (X : XS) : Int32 := (if f_Source_isKind x X = true then X.1 3 x.toNatClampNeg else (-1))
set_option maxRecDepth 100000 in
set_option maxHeartbeats 4000000 in
theorem s_Source_above {L : Nat} {xs : Nat → Int32} {X : XS} {M : MS} {x : Int32} : Sp (mjOO L xs) 266 0 [some (.ref 1), some (.int x)] [] (hS X M) (some (f_Source_above x X)) (KQ (hS X M)) := by
  unfold f_Source_above
  refine Sp.step rfl rfl rfl rfl ?_
  refine Sp.step rfl rfl rfl rfl ?_
  refine Sp.callS rfl rfl rfl (xrecv (c := 8) (by decide) rfl (by decide +kernel)) s_Source_isKind ⟨rfl, rfl⟩ ?_
  refine Sp.boolV (fun e1 => ?_) (fun e1 => ?_)
  · refine Sp.id (pc := 5) (l := [some (.ref 1), some (.int x)]) (st := [.int 1]) (h := hS X M) ?_
    refine Sp.step rfl rfl rfl rfl ?_
    refine Sp.step rfl rfl rfl rfl ?_
    refine Sp.step rfl rfl rfl (xg_F (c := 8) (f := 3) rfl rfl rfl rfl rfl) ?_
    refine Sp.step rfl rfl rfl rfl ?_
    refine Sp.step rfl rfl rfl (xld rfl (by decide) (isKind_ix e1)) ?_
    refine Sp.step rfl rfl rfl rfl ?_
    exact Sp.iret rfl rfl rfl rfl (fun _ _ h => h)
  · refine Sp.id (pc := 5) (l := [some (.ref 1), some (.int x)]) (st := [.int 0]) (h := hS X M) ?_
    refine Sp.step rfl rfl rfl rfl ?_
    refine Sp.step rfl rfl rfl rfl ?_
    exact Sp.iret rfl rfl rfl rfl (fun _ _ h => h)
def b3_Reach_addAbove (x6 : (Int32 × XS)) : Option ((Int32 × XS) ⊕ (Int32 × XS)) := (if x6.1 < 0 then some (.inr (x6.1, x6.2)) else (if ixo x6.1 10 then (if x6.2.1 15 x6.1.toNatClampNeg = 0 then some (.inl (x6.1 + (-1), x6.2)) else ((f_Reach_addKind (f_Source_above x6.1 x6.2) x6.2).bind fun x10 => some (.inl (x6.1 + (-1), x10)))) else none))
def f_Reach_addAbove (X : XS) : Option XS := ((lp (b3_Reach_addAbove) 10000 ((9 : Int32), X)).bind fun x11 => some x11.2)
set_option maxRecDepth 100000 in
set_option maxHeartbeats 4000000 in
theorem s_Reach_addAbove {L : Nat} {xs : Nat → Int32} {X : XS} {M : MS} : Sp (mjOO L xs) 254 0 [some (.ref 14), none] [] (hS X M) (f_Reach_addAbove X) (KVX M) := by
  unfold f_Reach_addAbove
  refine Sp.step rfl rfl rfl rfl ?_
  refine Sp.step rfl rfl rfl rfl ?_
  refine Sp.weak (l0 := [some (.ref 14), some (.int 9)]) ⟨rfl, rfl, trivial⟩ ?_
  refine Sp.loopX (pe := 34) (mf := (fun (x6 : (Int32 × XS)) => [some (.ref 14), some (.int x6.1)])) (hf := (fun (x6 : (Int32 × XS)) => hS x6.2 M)) (fun x6 => ?_) (fun x11 => ?_) _ _
  · unfold b3_Reach_addAbove
    refine Sp.step rfl rfl rfl rfl ?_
    refine Sp.if1 rfl rfl rfl rfl (fun e7 => ?_) (fun e7 => ?_)
    · exact Sp.jmp (l0 := [some (.ref 14), some (.int x6.1)]) ⟨rfl, rfl, trivial⟩ (fun _ _ h => h)
    · refine Sp.step rfl rfl rfl rfl ?_
      refine Sp.step rfl rfl rfl (xg_F (c := 6) (f := 3) rfl rfl rfl rfl rfl) ?_
      refine Sp.step rfl rfl rfl rfl ?_
      refine Sp.guard (fun e8 => ?_)
      refine Sp.step rfl rfl rfl (xld rfl (by decide) e8) ?_
      refine Sp.if1 rfl rfl rfl rfl (fun e9 => ?_) (fun e9 => ?_)
      · refine Sp.step rfl rfl rfl rfl ?_
        refine Sp.step rfl rfl rfl rfl ?_
        exact Sp.jmp (l0 := [some (.ref 14), some (.int (x6.1 + (-1)))]) ⟨rfl, rfl, trivial⟩ (fun _ _ h => h)
      · refine Sp.step rfl rfl rfl rfl ?_
        refine Sp.step rfl rfl rfl rfl ?_
        refine Sp.step rfl rfl rfl (xg_F (c := 6) (f := 2) rfl rfl rfl rfl rfl) ?_
        refine Sp.step rfl rfl rfl rfl ?_
        refine Sp.callS rfl rfl rfl (xrecv (c := 8) (by decide) rfl (by decide +kernel)) s_Source_above ⟨rfl, rfl⟩ ?_
        refine Sp.id (pc := 25) (l := [some (.ref 14), some (.int x6.1)]) (st := [.int (f_Source_above x6.1 x6.2), .ref 14]) (h := hS x6.2 M) ?_
        refine Sp.call rfl rfl rfl (xrecv (c := 6) (by decide) rfl (by decide +kernel)) s_Reach_addKind (fun x10 => ⟨_, _, ⟨rfl, rfl⟩, ?_⟩)
        refine Sp.id (pc := 28) (l := [some (.ref 14), some (.int x6.1)]) (st := []) (h := hS x10 M) ?_
        refine Sp.step rfl rfl rfl rfl ?_
        refine Sp.step rfl rfl rfl rfl ?_
        exact Sp.jmp (l0 := [some (.ref 14), some (.int (x6.1 + (-1)))]) ⟨rfl, rfl, trivial⟩ (fun _ _ h => h)
  · exact Sp.vret rfl rfl rfl (fun _ _ h => h)
def b7_Reach_number (x8 : (Int32 × XS)) : Option ((Int32 × XS) ⊕ (Int32 × XS)) := (if 10 ≤ x8.1 then some (.inr (x8.1, x8.2)) else (if ixo x8.1 10 then (if x8.2.1 15 x8.1.toNatClampNeg = 0 then some (.inl (x8.1 + 1, x8.2)) else (lt (xw x8.2 14 0 ((x8.2.1 14 0) + 1)) fun X12 => (lt (xw X12 20 x8.1.toNatClampNeg (x8.2.1 14 0)) fun X13 => some (.inl (x8.1 + 1, X13))))) else none))
def b52_Reach_number (x22 : (Int32 × XS)) : Option ((Int32 × XS) ⊕ (Int32 × XS)) := (if 24 ≤ x22.1 then some (.inr (x22.1, x22.2)) else (if ixo x22.1 24 then (if x22.2.1 17 x22.1.toNatClampNeg = 0 then some (.inl (x22.1 + 1, x22.2)) else (lt (xw x22.2 14 1 ((x22.2.1 14 1) + 1)) fun X26 => (lt (xw X26 21 x22.1.toNatClampNeg (x22.2.1 14 1)) fun X27 => some (.inl (x22.1 + 1, X27))))) else none))
def f_Reach_number (X : XS) : Option XS := (lt (xw X 14 0 0) fun X1 => ((lp (b7_Reach_number) 10000 ((0 : Int32), X1)).bind fun x14 => (lt (xw x14.2 14 1 0) fun X15 => ((lp (b52_Reach_number) 10000 ((0 : Int32), X15)).bind fun x28 => some x28.2))))
set_option maxRecDepth 100000 in
set_option maxHeartbeats 4000000 in
theorem s_Reach_number {L : Nat} {xs : Nat → Int32} {X : XS} {M : MS} : Sp (mjOO L xs) 255 0 [some (.ref 14), none] [] (hS X M) (f_Reach_number X) (KVX M) := by
  unfold f_Reach_number
  refine Sp.step rfl rfl rfl rfl ?_
  refine Sp.step rfl rfl rfl rfl ?_
  refine Sp.step rfl rfl rfl (xp_I (c := 6) (f := 0) rfl rfl rfl rfl rfl) ?_
  refine Sp.step rfl rfl rfl rfl ?_
  refine Sp.step rfl rfl rfl rfl ?_
  refine Sp.weak (l0 := [some (.ref 14), some (.int 0)]) ⟨rfl, rfl, trivial⟩ ?_
  refine Sp.loopX (pe := 45) (mf := (fun (x8 : (Int32 × XS)) => [some (.ref 14), some (.int x8.1)])) (hf := (fun (x8 : (Int32 × XS)) => hS x8.2 M)) (fun x8 => ?_) (fun x14 => ?_) _ _
  · unfold b7_Reach_number
    refine Sp.step rfl rfl rfl rfl ?_
    refine Sp.step rfl rfl rfl rfl ?_
    refine Sp.if2 rfl rfl rfl rfl (fun e9 => ?_) (fun e9 => ?_)
    · exact Sp.jmp (l0 := [some (.ref 14), some (.int x8.1)]) ⟨rfl, rfl, trivial⟩ (fun _ _ h => h)
    · refine Sp.step rfl rfl rfl rfl ?_
      refine Sp.step rfl rfl rfl (xg_F (c := 6) (f := 3) rfl rfl rfl rfl rfl) ?_
      refine Sp.step rfl rfl rfl rfl ?_
      refine Sp.guard (fun e10 => ?_)
      refine Sp.step rfl rfl rfl (xld rfl (by decide) e10) ?_
      refine Sp.if1 rfl rfl rfl rfl (fun e11 => ?_) (fun e11 => ?_)
      · refine Sp.step rfl rfl rfl rfl ?_
        refine Sp.step rfl rfl rfl rfl ?_
        exact Sp.jmp (l0 := [some (.ref 14), some (.int (x8.1 + 1))]) ⟨rfl, rfl, trivial⟩ (fun _ _ h => h)
      · refine Sp.step rfl rfl rfl rfl ?_
        refine Sp.step rfl rfl rfl (xg_F (c := 6) (f := 8) rfl rfl rfl rfl rfl) ?_
        refine Sp.step rfl rfl rfl rfl ?_
        refine Sp.step rfl rfl rfl rfl ?_
        refine Sp.step rfl rfl rfl rfl ?_
        refine Sp.step rfl rfl rfl (xg_I (c := 6) (f := 0) rfl rfl rfl rfl) ?_
        refine Sp.step rfl rfl rfl rfl ?_
        refine Sp.step rfl rfl rfl rfl ?_
        refine Sp.step rfl rfl rfl rfl ?_
        refine Sp.step rfl rfl rfl (xp_I (c := 6) (f := 0) rfl rfl rfl rfl rfl) ?_
        refine Sp.step rfl rfl rfl (xst rfl (by decide) e10) ?_
        refine Sp.step rfl rfl rfl rfl ?_
        refine Sp.step rfl rfl rfl rfl ?_
        exact Sp.jmp (l0 := [some (.ref 14), some (.int (x8.1 + 1))]) ⟨rfl, rfl, trivial⟩ (fun _ _ h => h)
  · refine Sp.step rfl rfl rfl rfl ?_
    refine Sp.step rfl rfl rfl rfl ?_
    refine Sp.step rfl rfl rfl (xp_I (c := 6) (f := 1) rfl rfl rfl rfl rfl) ?_
    refine Sp.step rfl rfl rfl rfl ?_
    refine Sp.step rfl rfl rfl rfl ?_
    refine Sp.weak (l0 := [some (.ref 14), some (.int 0)]) ⟨rfl, rfl, trivial⟩ ?_
    refine Sp.loopX (pe := 90) (mf := (fun (x22 : (Int32 × XS)) => [some (.ref 14), some (.int x22.1)])) (hf := (fun (x22 : (Int32 × XS)) => hS x22.2 M)) (fun x22 => ?_) (fun x28 => ?_) _ _
    · unfold b52_Reach_number
      refine Sp.step rfl rfl rfl rfl ?_
      refine Sp.step rfl rfl rfl rfl ?_
      refine Sp.if2 rfl rfl rfl rfl (fun e23 => ?_) (fun e23 => ?_)
      · exact Sp.jmp (l0 := [some (.ref 14), some (.int x22.1)]) ⟨rfl, rfl, trivial⟩ (fun _ _ h => h)
      · refine Sp.step rfl rfl rfl rfl ?_
        refine Sp.step rfl rfl rfl (xg_F (c := 6) (f := 5) rfl rfl rfl rfl rfl) ?_
        refine Sp.step rfl rfl rfl rfl ?_
        refine Sp.guard (fun e24 => ?_)
        refine Sp.step rfl rfl rfl (xld rfl (by decide) e24) ?_
        refine Sp.if1 rfl rfl rfl rfl (fun e25 => ?_) (fun e25 => ?_)
        · refine Sp.step rfl rfl rfl rfl ?_
          refine Sp.step rfl rfl rfl rfl ?_
          exact Sp.jmp (l0 := [some (.ref 14), some (.int (x22.1 + 1))]) ⟨rfl, rfl, trivial⟩ (fun _ _ h => h)
        · refine Sp.step rfl rfl rfl rfl ?_
          refine Sp.step rfl rfl rfl (xg_F (c := 6) (f := 9) rfl rfl rfl rfl rfl) ?_
          refine Sp.step rfl rfl rfl rfl ?_
          refine Sp.step rfl rfl rfl rfl ?_
          refine Sp.step rfl rfl rfl rfl ?_
          refine Sp.step rfl rfl rfl (xg_I (c := 6) (f := 1) rfl rfl rfl rfl) ?_
          refine Sp.step rfl rfl rfl rfl ?_
          refine Sp.step rfl rfl rfl rfl ?_
          refine Sp.step rfl rfl rfl rfl ?_
          refine Sp.step rfl rfl rfl (xp_I (c := 6) (f := 1) rfl rfl rfl rfl rfl) ?_
          refine Sp.step rfl rfl rfl (xst rfl (by decide) e24) ?_
          refine Sp.step rfl rfl rfl rfl ?_
          refine Sp.step rfl rfl rfl rfl ?_
          exact Sp.jmp (l0 := [some (.ref 14), some (.int (x22.1 + 1))]) ⟨rfl, rfl, trivial⟩ (fun _ _ h => h)
    · exact Sp.vret rfl rfl rfl (fun _ _ h => h)
def b13_Reach_follow (x10 : (Int32 × Int32 × XS)) : Option ((Int32 × Int32 × XS) ⊕ (Int32 × Int32 × XS)) := (if x10.1 = 0 then some (.inr (x10.1, x10.2.1, x10.2.2)) else (if 24 < x10.2.1 then some (.inr (x10.1, x10.2.1, x10.2.2)) else ((f_Reach_scanNew x10.2.2).bind fun x13 => (if x13.1 = true then ((f_Reach_callByName x13.2).bind fun x15 => some (.inl (1, x10.2.1 + 1, x15))) else ((f_Reach_callByName x13.2).bind fun x16 => some (.inl (0, x10.2.1 + 1, x16)))))))
def f_Reach_follow (x : Int32) (X : XS) : Option XS := ((f_Reach_clear X).bind fun x1 => ((f_Reach_addRoutine x x1).bind fun x2 => ((lp (b13_Reach_follow) 10000 ((1 : Int32), (0 : Int32), x2)).bind fun x17 => ((f_Reach_addOwners x17.2.2).bind fun x18 => ((f_Reach_addAbove x18).bind fun x19 => ((f_Reach_number x19).bind fun x20 => some x20))))))
set_option maxRecDepth 100000 in
set_option maxHeartbeats 4000000 in
theorem s_Reach_follow {L : Nat} {xs : Nat → Int32} {X : XS} {M : MS} {x : Int32} : Sp (mjOO L xs) 241 0 [some (.ref 14), some (.int x), none, none] [] (hS X M) (f_Reach_follow x X) (KVX M) := by
  unfold f_Reach_follow
  refine Sp.step rfl rfl rfl rfl ?_
  refine Sp.call rfl rfl rfl (xrecv (c := 6) (by decide) rfl (by decide +kernel)) s_Reach_clear (fun x1 => ⟨_, _, ⟨rfl, rfl⟩, ?_⟩)
  refine Sp.id (pc := 4) (l := [some (.ref 14), some (.int x), none, none]) (st := []) (h := hS x1 M) ?_
  refine Sp.step rfl rfl rfl rfl ?_
  refine Sp.step rfl rfl rfl rfl ?_
  refine Sp.call rfl rfl rfl (xrecv (c := 6) (by decide) rfl (by decide +kernel)) s_Reach_addRoutine (fun x2 => ⟨_, _, ⟨rfl, rfl⟩, ?_⟩)
  refine Sp.id (pc := 9) (l := [some (.ref 14), some (.int x), none, none]) (st := []) (h := hS x2 M) ?_
  refine Sp.step rfl rfl rfl rfl ?_
  refine Sp.step rfl rfl rfl rfl ?_
  refine Sp.step rfl rfl rfl rfl ?_
  refine Sp.step rfl rfl rfl rfl ?_
  refine Sp.weak (l0 := [some (.ref 14), none, some (.int 1), some (.int 0)]) ⟨rfl, rfl, rfl, trivial⟩ ?_
  refine Sp.loopX (pe := 38) (mf := (fun (x10 : (Int32 × Int32 × XS)) => [some (.ref 14), none, some (.int x10.1), some (.int x10.2.1)])) (hf := (fun (x10 : (Int32 × Int32 × XS)) => hS x10.2.2 M)) (fun x10 => ?_) (fun x17 => ?_) _ _
  · unfold b13_Reach_follow
    refine Sp.step rfl rfl rfl rfl ?_
    refine Sp.if1 rfl rfl rfl rfl (fun e11 => ?_) (fun e11 => ?_)
    · exact Sp.jmp (l0 := [some (.ref 14), none, some (.int x10.1), some (.int x10.2.1)]) ⟨rfl, rfl, rfl, trivial⟩ (fun _ _ h => h)
    · refine Sp.step rfl rfl rfl rfl ?_
      refine Sp.step rfl rfl rfl rfl ?_
      refine Sp.if2 rfl rfl rfl rfl (fun e12 => ?_) (fun e12 => ?_)
      · exact Sp.jmp (l0 := [some (.ref 14), none, some (.int x10.1), some (.int x10.2.1)]) ⟨rfl, rfl, rfl, trivial⟩ (fun _ _ h => h)
      · refine Sp.step rfl rfl rfl rfl ?_
        refine Sp.call rfl rfl rfl (xrecv (c := 6) (by decide) rfl (by decide +kernel)) s_Reach_scanNew (fun x13 => ⟨_, _, ⟨rfl, rfl⟩, ?_⟩)
        refine Sp.bool (fun e14 => ?_) (fun e14 => ?_)
        · refine Sp.id (pc := 27) (l := [some (.ref 14), none, some (.int x10.1), some (.int x10.2.1)]) (st := [.int 1]) (h := hS x13.2 M) ?_
          refine Sp.step rfl rfl rfl rfl ?_
          refine Sp.step rfl rfl rfl rfl ?_
          refine Sp.call rfl rfl rfl (xrecv (c := 6) (by decide) rfl (by decide +kernel)) s_Reach_callByName (fun x15 => ⟨_, _, ⟨rfl, rfl⟩, ?_⟩)
          refine Sp.id (pc := 32) (l := [some (.ref 14), none, some (.int 1), some (.int x10.2.1)]) (st := []) (h := hS x15 M) ?_
          refine Sp.step rfl rfl rfl rfl ?_
          refine Sp.step rfl rfl rfl rfl ?_
          exact Sp.jmp (l0 := [some (.ref 14), none, some (.int 1), some (.int (x10.2.1 + 1))]) ⟨rfl, rfl, rfl, trivial⟩ (fun _ _ h => h)
        · refine Sp.id (pc := 27) (l := [some (.ref 14), none, some (.int x10.1), some (.int x10.2.1)]) (st := [.int 0]) (h := hS x13.2 M) ?_
          refine Sp.step rfl rfl rfl rfl ?_
          refine Sp.step rfl rfl rfl rfl ?_
          refine Sp.call rfl rfl rfl (xrecv (c := 6) (by decide) rfl (by decide +kernel)) s_Reach_callByName (fun x16 => ⟨_, _, ⟨rfl, rfl⟩, ?_⟩)
          refine Sp.id (pc := 32) (l := [some (.ref 14), none, some (.int 0), some (.int x10.2.1)]) (st := []) (h := hS x16 M) ?_
          refine Sp.step rfl rfl rfl rfl ?_
          refine Sp.step rfl rfl rfl rfl ?_
          exact Sp.jmp (l0 := [some (.ref 14), none, some (.int 0), some (.int (x10.2.1 + 1))]) ⟨rfl, rfl, rfl, trivial⟩ (fun _ _ h => h)
  · refine Sp.step rfl rfl rfl rfl ?_
    refine Sp.call rfl rfl rfl (xrecv (c := 6) (by decide) rfl (by decide +kernel)) s_Reach_addOwners (fun x18 => ⟨_, _, ⟨rfl, rfl⟩, ?_⟩)
    refine Sp.id (pc := 42) (l := [some (.ref 14), none, some (.int x17.1), some (.int x17.2.1)]) (st := []) (h := hS x18 M) ?_
    refine Sp.step rfl rfl rfl rfl ?_
    refine Sp.call rfl rfl rfl (xrecv (c := 6) (by decide) rfl (by decide +kernel)) s_Reach_addAbove (fun x19 => ⟨_, _, ⟨rfl, rfl⟩, ?_⟩)
    refine Sp.id (pc := 46) (l := [some (.ref 14), none, some (.int x17.1), some (.int x17.2.1)]) (st := []) (h := hS x19 M) ?_
    refine Sp.step rfl rfl rfl rfl ?_
    refine Sp.call rfl rfl rfl (xrecv (c := 6) (by decide) rfl (by decide +kernel)) s_Reach_number (fun x20 => ⟨_, _, ⟨rfl, rfl⟩, ?_⟩)
    refine Sp.id (pc := 50) (l := [some (.ref 14), none, some (.int x17.1), some (.int x17.2.1)]) (st := []) (h := hS x20 M) ?_
    exact Sp.vret rfl rfl rfl (fun _ _ h => h)
def f_Image_clear_30 (X : XS) : Option XS := (lt (xw X 30 0 0) fun X1 => some X1)
set_option maxRecDepth 100000 in
set_option maxHeartbeats 4000000 in
theorem s_Image_clear_30 {L : Nat} {xs : Nat → Int32} {X : XS} {M : MS} : Sp (mjOO L xs) 155 0 [some (.ref 30)] [] (hS X M) (f_Image_clear_30 X) (KVX M) := by
  unfold f_Image_clear_30
  refine Sp.step rfl rfl rfl rfl ?_
  refine Sp.step rfl rfl rfl rfl ?_
  refine Sp.step rfl rfl rfl (xp_I (c := 2) (f := 0) rfl rfl rfl rfl rfl) ?_
  exact Sp.vret rfl rfl rfl (fun _ _ h => h)
def f_Arrays_copyOf (x : Nat) (y : Int32) (X : XS) : Option (Nat × XS) := (ocz (xL X 0 x) none (fun n1 => (if ¬ y = Int32.ofNat n1 then (if ¬ (y < 0 ∨ 100000 < y.toNatClampNeg) then (lt (xn X 0 y.toNatClampNeg) fun X5 => (ocz (xL X5 0 x) none (fun n6 => (ocz (xL X5 0 (xA X)) none (fun n8 => (if cpo 0 0 (if y < Int32.ofNat n6 then y else Int32.ofNat n6) n6 n8 then (lt (xc X5 (X5.1 x) (xA X) 0 0 (if y < Int32.ofNat n6 then y else Int32.ofNat n6).toNatClampNeg) fun X11 => some (xA X, X11)) else none)))))) else none) else none)))
set_option maxRecDepth 100000 in
set_option maxHeartbeats 4000000 in
theorem s_Arrays_copyOf {L : Nat} {xs : Nat → Int32} {X : XS} {M : MS} {x : Nat} {y : Int32} : Sp (mjOO L xs) 305 0 [some (.ref x), some (.int y), none] [] (hS X M) (f_Arrays_copyOf x y X) (KRX M) := by
  unfold f_Arrays_copyOf
  refine Sp.step rfl rfl rfl rfl ?_
  refine Sp.step rfl rfl rfl rfl ?_
  refine Sp.ocn (fun n1 e2 => ?_)
  refine Sp.step rfl rfl rfl (xlen (xL_ok e2) (by decide)) ?_
  refine Sp.if2 rfl rfl rfl rfl (fun e3 => ?_) (fun e3 => ?_)
  · refine Sp.step rfl rfl rfl rfl ?_
    refine Sp.guard (fun e4 => ?_)
    refine Sp.step rfl rfl rfl (xnewA (t := 0) rfl (by decide) e4) ?_
    refine Sp.step rfl rfl rfl rfl ?_
    refine Sp.step rfl rfl rfl rfl ?_
    refine Sp.step rfl rfl rfl rfl ?_
    refine Sp.step rfl rfl rfl rfl ?_
    refine Sp.step rfl rfl rfl rfl ?_
    refine Sp.step rfl rfl rfl rfl ?_
    refine Sp.ocn (fun n6 e7 => ?_)
    refine Sp.step rfl rfl rfl (xlen (xL_ok e7) (by decide)) ?_
    refine Sp.step rfl rfl rfl rfl ?_
    refine Sp.nat rfl rfl rfl rfl ⟨by decide, by decide, rfl⟩ ?_
    refine Sp.ocn (fun n8 e9 => ?_)
    refine Sp.guard (fun e10 => ?_)
    refine Sp.nat rfl rfl rfl (xcopy (xL_ok e7) (xL_ok e9) (Or.inl rfl) e10) ⟨by decide, by decide, rfl⟩ ?_
    refine Sp.step rfl rfl rfl rfl ?_
    exact Sp.aret rfl rfl rfl (fun _ _ h => h)
  · exact Sp.none
def f_Image_put_30 (x : Int32) (X : XS) : Option (Bool × XS) := (if X.1 30 0 < 5663 then (ocz (X.2.1 30 2) none (fun a2 => (ocz (xL X 0 a2) none (fun n4 => (((if X.1 30 0 < Int32.ofNat n4 then some X else (ocz (X.2.1 30 2) none (fun a7 => ((f_Arrays_copyOf a7 (2 * (X.1 30 0)) X).bind fun x9 => (lt (xp x9.2 30 2 (some x9.1)) fun X10 => some X10))))) : Option (XS)).bind fun x11 => (ocz (x11.2.1 30 2) none (fun a12 => (ocz (xL x11 0 a12) none (fun n14 => (if ixo (x11.1 30 0) n14 then (lt (xw x11 a12 (x11.1 30 0).toNatClampNeg (x &&& 255)) fun X17 => (lt (xw X17 30 0 ((X17.1 30 0) + 1)) fun X18 => some (true, X18))) else none)))))))))) else some (false, X))
set_option maxRecDepth 100000 in
set_option maxHeartbeats 4000000 in
theorem s_Image_put_30 {L : Nat} {xs : Nat → Int32} {X : XS} {M : MS} {x : Int32} : Sp (mjOO L xs) 156 0 [some (.ref 30), some (.int x)] [] (hS X M) (f_Image_put_30 x X) (KBX M) := by
  unfold f_Image_put_30
  refine Sp.step rfl rfl rfl rfl ?_
  refine Sp.step rfl rfl rfl (xg_I (c := 2) (f := 0) rfl rfl rfl rfl) ?_
  refine Sp.step rfl rfl rfl rfl ?_
  refine Sp.step rfl rfl rfl (xg_N (c := 2) (f := 1) rfl rfl rfl rfl) ?_
  refine Sp.if2 rfl rfl rfl rfl (fun e1 => ?_) (fun e1 => ?_)
  · refine Sp.step rfl rfl rfl rfl ?_
    refine Sp.step rfl rfl rfl (xg_I (c := 2) (f := 0) rfl rfl rfl rfl) ?_
    refine Sp.step rfl rfl rfl rfl ?_
    refine Sp.step rfl rfl rfl (xg_D (c := 2) (f := 2) rfl rfl rfl rfl rfl) ?_
    refine Sp.ocrn (fun a2 e3 => ?_)
    refine Sp.ocn (fun n4 e5 => ?_)
    refine Sp.step rfl rfl rfl (xlen (xL_ok e5) (by decide)) ?_
    refine Sp.piece (pe := 42) (mf := (fun (x11 : XS) => [some (.ref 30), some (.int x)])) (sf := (fun (x11 : XS) => [])) (hf := (fun (x11 : XS) => hS x11 M)) ?_ (fun x11 => ?_)
    · refine Sp.if2 rfl rfl rfl rfl (fun e6 => ?_) (fun e6 => ?_)
      · exact Sp.jmp (l0 := [some (.ref 30), some (.int x)]) ⟨rfl, rfl, trivial⟩ (fun _ _ h => h)
      · refine Sp.step rfl rfl rfl rfl ?_
        refine Sp.step rfl rfl rfl rfl ?_
        refine Sp.step rfl rfl rfl (xg_D (c := 2) (f := 2) rfl rfl rfl rfl rfl) ?_
        refine Sp.ocrn (fun a7 e8 => ?_)
        refine Sp.step rfl rfl rfl rfl ?_
        refine Sp.step rfl rfl rfl rfl ?_
        refine Sp.step rfl rfl rfl (xg_I (c := 2) (f := 0) rfl rfl rfl rfl) ?_
        refine Sp.step rfl rfl rfl rfl ?_
        refine Sp.call rfl rfl rfl rfl s_Arrays_copyOf (fun x9 => ⟨_, _, ⟨rfl, rfl⟩, ?_⟩)
        refine Sp.id (pc := 39) (l := [some (.ref 30), some (.int x)]) (st := [.ref x9.1, .ref 30]) (h := hS x9.2 M) ?_
        refine Sp.step rfl rfl rfl (xp_R (c := 2) (f := 2) rfl rfl rfl rfl rfl rfl) ?_
        exact Sp.jmp (l0 := [some (.ref 30), some (.int x)]) ⟨rfl, rfl, trivial⟩ (fun _ _ h => h)
    · refine Sp.step rfl rfl rfl rfl ?_
      refine Sp.step rfl rfl rfl (xg_D (c := 2) (f := 2) rfl rfl rfl rfl rfl) ?_
      refine Sp.ocrn (fun a12 e13 => ?_)
      refine Sp.step rfl rfl rfl rfl ?_
      refine Sp.step rfl rfl rfl (xg_I (c := 2) (f := 0) rfl rfl rfl rfl) ?_
      refine Sp.step rfl rfl rfl rfl ?_
      refine Sp.step rfl rfl rfl rfl ?_
      refine Sp.step rfl rfl rfl rfl ?_
      refine Sp.ocn (fun n14 e15 => ?_)
      refine Sp.guard (fun e16 => ?_)
      refine Sp.step rfl rfl rfl (xst (xL_ok e15) (by decide) e16) ?_
      refine Sp.step rfl rfl rfl rfl ?_
      refine Sp.step rfl rfl rfl rfl ?_
      refine Sp.step rfl rfl rfl (xg_I (c := 2) (f := 0) rfl rfl rfl rfl) ?_
      refine Sp.step rfl rfl rfl rfl ?_
      refine Sp.step rfl rfl rfl rfl ?_
      refine Sp.step rfl rfl rfl (xp_I (c := 2) (f := 0) rfl rfl rfl rfl rfl) ?_
      refine Sp.step rfl rfl rfl rfl ?_
      exact Sp.iret rfl rfl rfl rfl (fun _ _ h => h)
  · refine Sp.step rfl rfl rfl rfl ?_
    exact Sp.iret rfl rfl rfl rfl (fun _ _ h => h)
def f_Reach_newRoutine (x : Int32) (X : XS) : Int32 := (if f_Reach_hasRoutine x X = true then X.1 21 x.toNatClampNeg else 255)
set_option maxRecDepth 100000 in
set_option maxHeartbeats 4000000 in
theorem s_Reach_newRoutine {L : Nat} {xs : Nat → Int32} {X : XS} {M : MS} {x : Int32} : Sp (mjOO L xs) 245 0 [some (.ref 14), some (.int x)] [] (hS X M) (some (f_Reach_newRoutine x X)) (KQ (hS X M)) := by
  unfold f_Reach_newRoutine
  refine Sp.step rfl rfl rfl rfl ?_
  refine Sp.step rfl rfl rfl rfl ?_
  refine Sp.callS rfl rfl rfl (xrecv (c := 6) (by decide) rfl (by decide +kernel)) s_Reach_hasRoutine ⟨rfl, rfl⟩ ?_
  refine Sp.boolV (fun e1 => ?_) (fun e1 => ?_)
  · refine Sp.id (pc := 5) (l := [some (.ref 14), some (.int x)]) (st := [.int 1]) (h := hS X M) ?_
    refine Sp.step rfl rfl rfl rfl ?_
    refine Sp.step rfl rfl rfl rfl ?_
    refine Sp.step rfl rfl rfl (xg_F (c := 6) (f := 9) rfl rfl rfl rfl rfl) ?_
    refine Sp.step rfl rfl rfl rfl ?_
    refine Sp.step rfl rfl rfl (xld rfl (by decide) (hasRoutine_ix e1)) ?_
    refine Sp.step rfl rfl rfl rfl ?_
    exact Sp.iret rfl rfl rfl rfl (fun _ _ h => h)
  · refine Sp.id (pc := 5) (l := [some (.ref 14), some (.int x)]) (st := [.int 0]) (h := hS X M) ?_
    refine Sp.step rfl rfl rfl rfl ?_
    refine Sp.step rfl rfl rfl rfl ?_
    exact Sp.iret rfl rfl rfl rfl (fun _ _ h => h)
def f_Image_putTwo_30 (x : Int32) (X : XS) : Option XS := ((f_Image_put_30 ((x : Int32) >>> ((8 : Int32) &&& 31)) X).bind fun x1 => ((f_Image_put_30 x x1.2).bind fun x2 => some x2.2))
set_option maxRecDepth 100000 in
set_option maxHeartbeats 4000000 in
theorem s_Image_putTwo_30 {L : Nat} {xs : Nat → Int32} {X : XS} {M : MS} {x : Int32} : Sp (mjOO L xs) 157 0 [some (.ref 30), some (.int x)] [] (hS X M) (f_Image_putTwo_30 x X) (KVX M) := by
  unfold f_Image_putTwo_30
  refine Sp.step rfl rfl rfl rfl ?_
  refine Sp.step rfl rfl rfl rfl ?_
  refine Sp.step rfl rfl rfl rfl ?_
  refine Sp.step rfl rfl rfl rfl ?_
  refine Sp.call rfl rfl rfl (xrecv (c := 2) (by decide) rfl (by decide +kernel)) s_Image_put_30 (fun x1 => ⟨_, _, ⟨rfl, rfl⟩, ?_⟩)
  refine Sp.id (pc := 8) (l := [some (.ref 30), some (.int x)]) (st := [.int (if x1.1 = true then 1 else 0)]) (h := hS x1.2 M) ?_
  refine Sp.step rfl rfl rfl rfl ?_
  refine Sp.step rfl rfl rfl rfl ?_
  refine Sp.step rfl rfl rfl rfl ?_
  refine Sp.call rfl rfl rfl (xrecv (c := 2) (by decide) rfl (by decide +kernel)) s_Image_put_30 (fun x2 => ⟨_, _, ⟨rfl, rfl⟩, ?_⟩)
  refine Sp.id (pc := 14) (l := [some (.ref 30), some (.int x)]) (st := [.int (if x2.1 = true then 1 else 0)]) (h := hS x2.2 M) ?_
  refine Sp.step rfl rfl rfl rfl ?_
  exact Sp.vret rfl rfl rfl (fun _ _ h => h)
def f_Reach_hasKind (x : Int32) (X : XS) : Bool := (if f_Source_isKind x X = true then (if X.1 15 x.toNatClampNeg = 0 then false else true) else false)
set_option maxRecDepth 100000 in
set_option maxHeartbeats 4000000 in
theorem s_Reach_hasKind {L : Nat} {xs : Nat → Int32} {X : XS} {M : MS} {x : Int32} : Sp (mjOO L xs) 242 0 [some (.ref 14), some (.int x)] [] (hS X M) (some (f_Reach_hasKind x X)) (KB (hS X M)) := by
  unfold f_Reach_hasKind
  refine Sp.step rfl rfl rfl rfl ?_
  refine Sp.step rfl rfl rfl (xg_F (c := 6) (f := 2) rfl rfl rfl rfl rfl) ?_
  refine Sp.step rfl rfl rfl rfl ?_
  refine Sp.callS rfl rfl rfl (xrecv (c := 8) (by decide) rfl (by decide +kernel)) s_Source_isKind ⟨rfl, rfl⟩ ?_
  refine Sp.boolV (fun e1 => ?_) (fun e1 => ?_)
  · refine Sp.id (pc := 8) (l := [some (.ref 14), some (.int x)]) (st := [.int 1]) (h := hS X M) ?_
    refine Sp.step rfl rfl rfl rfl ?_
    refine Sp.step rfl rfl rfl rfl ?_
    refine Sp.step rfl rfl rfl (xg_F (c := 6) (f := 3) rfl rfl rfl rfl rfl) ?_
    refine Sp.step rfl rfl rfl rfl ?_
    refine Sp.step rfl rfl rfl (xld rfl (by decide) (isKind_ix e1)) ?_
    refine Sp.if1V rfl rfl rfl rfl (fun e3 => ?_) (fun e3 => ?_)
    · refine Sp.step rfl rfl rfl rfl ?_
      exact Sp.iret rfl rfl rfl rfl (fun _ _ h => h)
    · refine Sp.step rfl rfl rfl rfl ?_
      refine Sp.step rfl rfl rfl rfl ?_
      exact Sp.iret rfl rfl rfl rfl (fun _ _ h => h)
  · refine Sp.id (pc := 8) (l := [some (.ref 14), some (.int x)]) (st := [.int 0]) (h := hS X M) ?_
    refine Sp.step rfl rfl rfl rfl ?_
    refine Sp.step rfl rfl rfl rfl ?_
    exact Sp.iret rfl rfl rfl rfl (fun _ _ h => h)
theorem hasKind_ix {x : Int32} {X : XS} (h : f_Reach_hasKind x X = true) : ixo x 10 := by
  unfold f_Reach_hasKind at h
  split at h
  · rename_i c
    exact isKind_ix c
  · cases h
def f_Reach_newKind (x : Int32) (X : XS) : Int32 := (if f_Reach_hasKind x X = true then X.1 20 x.toNatClampNeg else 255)
set_option maxRecDepth 100000 in
set_option maxHeartbeats 4000000 in
theorem s_Reach_newKind {L : Nat} {xs : Nat → Int32} {X : XS} {M : MS} {x : Int32} : Sp (mjOO L xs) 244 0 [some (.ref 14), some (.int x)] [] (hS X M) (some (f_Reach_newKind x X)) (KQ (hS X M)) := by
  unfold f_Reach_newKind
  refine Sp.step rfl rfl rfl rfl ?_
  refine Sp.step rfl rfl rfl rfl ?_
  refine Sp.callS rfl rfl rfl (xrecv (c := 6) (by decide) rfl (by decide +kernel)) s_Reach_hasKind ⟨rfl, rfl⟩ ?_
  refine Sp.boolV (fun e1 => ?_) (fun e1 => ?_)
  · refine Sp.id (pc := 5) (l := [some (.ref 14), some (.int x)]) (st := [.int 1]) (h := hS X M) ?_
    refine Sp.step rfl rfl rfl rfl ?_
    refine Sp.step rfl rfl rfl rfl ?_
    refine Sp.step rfl rfl rfl (xg_F (c := 6) (f := 8) rfl rfl rfl rfl rfl) ?_
    refine Sp.step rfl rfl rfl rfl ?_
    refine Sp.step rfl rfl rfl (xld rfl (by decide) (hasKind_ix e1)) ?_
    refine Sp.step rfl rfl rfl rfl ?_
    exact Sp.iret rfl rfl rfl rfl (fun _ _ h => h)
  · refine Sp.id (pc := 5) (l := [some (.ref 14), some (.int x)]) (st := [.int 0]) (h := hS X M) ?_
    refine Sp.step rfl rfl rfl rfl ?_
    refine Sp.step rfl rfl rfl rfl ?_
    exact Sp.iret rfl rfl rfl rfl (fun _ _ h => h)
def f_Image_noteSourceKind_30 (x : Int32) (y : Int32) (X : XS) : Option XS := (if 0 ≤ x ∧ x ≤ 9 then (lt (xw X 34 x.toNatClampNeg y) fun X3 => some X3) else some X)
set_option maxRecDepth 100000 in
set_option maxHeartbeats 4000000 in
theorem s_Image_noteSourceKind_30 {L : Nat} {xs : Nat → Int32} {X : XS} {M : MS} {x : Int32} {y : Int32} : Sp (mjOO L xs) 159 0 [some (.ref 30), some (.int x), some (.int y)] [] (hS X M) (f_Image_noteSourceKind_30 x y X) (KVX M) := by
  unfold f_Image_noteSourceKind_30
  refine Sp.step rfl rfl rfl rfl ?_
  refine Sp.step rfl rfl rfl rfl ?_
  refine Sp.step rfl rfl rfl rfl ?_
  refine Sp.callP rfl rfl rfl rfl s_within (fun e1 => ?_) (fun e1 => ?_)
  · refine Sp.id (pc := 7) (l := [some (.ref 30), some (.int x), some (.int y)]) (st := [.int 1]) (h := hS X M) ?_
    refine Sp.step rfl rfl rfl rfl ?_
    refine Sp.step rfl rfl rfl rfl ?_
    refine Sp.step rfl rfl rfl (xg_F (c := 2) (f := 5) rfl rfl rfl rfl rfl) ?_
    refine Sp.step rfl rfl rfl rfl ?_
    refine Sp.step rfl rfl rfl rfl ?_
    refine Sp.step rfl rfl rfl (xst rfl (by decide) (ix_le (N := 9) rfl e1.1 e1.2)) ?_
    exact Sp.vret rfl rfl rfl (fun _ _ h => h)
  · refine Sp.id (pc := 7) (l := [some (.ref 30), some (.int x), some (.int y)]) (st := [.int 0]) (h := hS X M) ?_
    refine Sp.step rfl rfl rfl rfl ?_
    exact Sp.vret rfl rfl rfl (fun _ _ h => h)
def b61_Linker_writeKind_30 (x : Int32) (x9 : (Int32 × XS)) : Option ((Int32 × XS) ⊕ (Int32 × XS)) := (if 8 ≤ x9.1 then some (.inr (x9.1, x9.2)) else ((f_Source_nearest x x9.1 x9.2).bind fun x11 => ((f_Image_put_30 (f_Reach_newRoutine x11 x9.2) x9.2).bind fun x12 => some (.inl (x9.1 + 1, x12.2)))))
def f_Linker_writeKind_30 (x : Int32) (X : XS) : Option XS := ((f_Image_noteSourceKind_30 (f_Reach_newKind x X) x X).bind fun x1 => ((f_Image_put_30 (f_Reach_newKind (f_Source_above x x1) x1) x1).bind fun x2 => ((f_Image_put_30 (f_Source_allInts x x2.2) x2.2).bind fun x3 => ((f_Image_put_30 (f_Source_allRefs x x3.2) x3.2).bind fun x4 => ((lp (b61_Linker_writeKind_30 x) 10000 ((0 : Int32), x4.2)).bind fun x13 => some x13.2)))))
set_option maxRecDepth 100000 in
set_option maxHeartbeats 4000000 in
theorem s_Linker_writeKind_30 {L : Nat} {xs : Nat → Int32} {X : XS} {M : MS} {x : Int32} : Sp (mjOO L xs) 184 0 [some (.ref 10), some (.ref 30), some (.int x), none] [] (hS X M) (f_Linker_writeKind_30 x X) (KVX M) := by
  unfold f_Linker_writeKind_30
  refine Sp.step rfl rfl rfl rfl ?_
  refine Sp.step rfl rfl rfl rfl ?_
  refine Sp.step rfl rfl rfl (xg_F (c := 3) (f := 1) rfl rfl rfl rfl rfl) ?_
  refine Sp.step rfl rfl rfl rfl ?_
  refine Sp.callS rfl rfl rfl (xrecv (c := 6) (by decide) rfl (by decide +kernel)) s_Reach_newKind ⟨rfl, rfl⟩ ?_
  refine Sp.id (pc := 9) (l := [some (.ref 10), some (.ref 30), some (.int x), none]) (st := [.int (f_Reach_newKind x X), .ref 30]) (h := hS X M) ?_
  refine Sp.step rfl rfl rfl rfl ?_
  refine Sp.call rfl rfl rfl (xrecv (c := 2) (by decide) rfl (by decide +kernel)) s_Image_noteSourceKind_30 (fun x1 => ⟨_, _, ⟨rfl, rfl⟩, ?_⟩)
  refine Sp.id (pc := 13) (l := [some (.ref 10), some (.ref 30), some (.int x), none]) (st := []) (h := hS x1 M) ?_
  refine Sp.step rfl rfl rfl rfl ?_
  refine Sp.step rfl rfl rfl rfl ?_
  refine Sp.step rfl rfl rfl (xg_F (c := 3) (f := 1) rfl rfl rfl rfl rfl) ?_
  refine Sp.step rfl rfl rfl rfl ?_
  refine Sp.step rfl rfl rfl (xg_F (c := 3) (f := 0) rfl rfl rfl rfl rfl) ?_
  refine Sp.step rfl rfl rfl rfl ?_
  refine Sp.callS rfl rfl rfl (xrecv (c := 8) (by decide) rfl (by decide +kernel)) s_Source_above ⟨rfl, rfl⟩ ?_
  refine Sp.id (pc := 26) (l := [some (.ref 10), some (.ref 30), some (.int x), none]) (st := [.int (f_Source_above x x1), .ref 14, .ref 30]) (h := hS x1 M) ?_
  refine Sp.callS rfl rfl rfl (xrecv (c := 6) (by decide) rfl (by decide +kernel)) s_Reach_newKind ⟨rfl, rfl⟩ ?_
  refine Sp.id (pc := 29) (l := [some (.ref 10), some (.ref 30), some (.int x), none]) (st := [.int (f_Reach_newKind (f_Source_above x x1) x1), .ref 30]) (h := hS x1 M) ?_
  refine Sp.call rfl rfl rfl (xrecv (c := 2) (by decide) rfl (by decide +kernel)) s_Image_put_30 (fun x2 => ⟨_, _, ⟨rfl, rfl⟩, ?_⟩)
  refine Sp.id (pc := 32) (l := [some (.ref 10), some (.ref 30), some (.int x), none]) (st := [.int (if x2.1 = true then 1 else 0)]) (h := hS x2.2 M) ?_
  refine Sp.step rfl rfl rfl rfl ?_
  refine Sp.step rfl rfl rfl rfl ?_
  refine Sp.step rfl rfl rfl rfl ?_
  refine Sp.step rfl rfl rfl (xg_F (c := 3) (f := 0) rfl rfl rfl rfl rfl) ?_
  refine Sp.step rfl rfl rfl rfl ?_
  refine Sp.callS rfl rfl rfl (xrecv (c := 8) (by decide) rfl (by decide +kernel)) s_Source_allInts ⟨rfl, rfl⟩ ?_
  refine Sp.id (pc := 42) (l := [some (.ref 10), some (.ref 30), some (.int x), none]) (st := [.int (f_Source_allInts x x2.2), .ref 30]) (h := hS x2.2 M) ?_
  refine Sp.call rfl rfl rfl (xrecv (c := 2) (by decide) rfl (by decide +kernel)) s_Image_put_30 (fun x3 => ⟨_, _, ⟨rfl, rfl⟩, ?_⟩)
  refine Sp.id (pc := 45) (l := [some (.ref 10), some (.ref 30), some (.int x), none]) (st := [.int (if x3.1 = true then 1 else 0)]) (h := hS x3.2 M) ?_
  refine Sp.step rfl rfl rfl rfl ?_
  refine Sp.step rfl rfl rfl rfl ?_
  refine Sp.step rfl rfl rfl rfl ?_
  refine Sp.step rfl rfl rfl (xg_F (c := 3) (f := 0) rfl rfl rfl rfl rfl) ?_
  refine Sp.step rfl rfl rfl rfl ?_
  refine Sp.callS rfl rfl rfl (xrecv (c := 8) (by decide) rfl (by decide +kernel)) s_Source_allRefs ⟨rfl, rfl⟩ ?_
  refine Sp.id (pc := 55) (l := [some (.ref 10), some (.ref 30), some (.int x), none]) (st := [.int (f_Source_allRefs x x3.2), .ref 30]) (h := hS x3.2 M) ?_
  refine Sp.call rfl rfl rfl (xrecv (c := 2) (by decide) rfl (by decide +kernel)) s_Image_put_30 (fun x4 => ⟨_, _, ⟨rfl, rfl⟩, ?_⟩)
  refine Sp.id (pc := 58) (l := [some (.ref 10), some (.ref 30), some (.int x), none]) (st := [.int (if x4.1 = true then 1 else 0)]) (h := hS x4.2 M) ?_
  refine Sp.step rfl rfl rfl rfl ?_
  refine Sp.step rfl rfl rfl rfl ?_
  refine Sp.step rfl rfl rfl rfl ?_
  refine Sp.weak (l0 := [some (.ref 10), some (.ref 30), some (.int x), some (.int 0)]) ⟨rfl, rfl, rfl, rfl, trivial⟩ ?_
  refine Sp.loopX (pe := 94) (mf := (fun (x9 : (Int32 × XS)) => [some (.ref 10), some (.ref 30), some (.int x), some (.int x9.1)])) (hf := (fun (x9 : (Int32 × XS)) => hS x9.2 M)) (fun x9 => ?_) (fun x13 => ?_) _ _
  · unfold b61_Linker_writeKind_30
    refine Sp.step rfl rfl rfl rfl ?_
    refine Sp.step rfl rfl rfl rfl ?_
    refine Sp.if2 rfl rfl rfl rfl (fun e10 => ?_) (fun e10 => ?_)
    · exact Sp.jmp (l0 := [some (.ref 10), some (.ref 30), some (.int x), some (.int x9.1)]) ⟨rfl, rfl, rfl, rfl, trivial⟩ (fun _ _ h => h)
    · refine Sp.step rfl rfl rfl rfl ?_
      refine Sp.step rfl rfl rfl rfl ?_
      refine Sp.step rfl rfl rfl (xg_F (c := 3) (f := 1) rfl rfl rfl rfl rfl) ?_
      refine Sp.step rfl rfl rfl rfl ?_
      refine Sp.step rfl rfl rfl (xg_F (c := 3) (f := 0) rfl rfl rfl rfl rfl) ?_
      refine Sp.step rfl rfl rfl rfl ?_
      refine Sp.step rfl rfl rfl rfl ?_
      refine Sp.call rfl rfl rfl (xrecv (c := 8) (by decide) rfl (by decide +kernel)) s_Source_nearest (fun x11 => ⟨_, _, ⟨rfl, rfl⟩, ?_⟩)
      refine Sp.id (pc := 81) (l := [some (.ref 10), some (.ref 30), some (.int x), some (.int x9.1)]) (st := [.int x11, .ref 14, .ref 30]) (h := hS x9.2 M) ?_
      refine Sp.callS rfl rfl rfl (xrecv (c := 6) (by decide) rfl (by decide +kernel)) s_Reach_newRoutine ⟨rfl, rfl⟩ ?_
      refine Sp.id (pc := 84) (l := [some (.ref 10), some (.ref 30), some (.int x), some (.int x9.1)]) (st := [.int (f_Reach_newRoutine x11 x9.2), .ref 30]) (h := hS x9.2 M) ?_
      refine Sp.call rfl rfl rfl (xrecv (c := 2) (by decide) rfl (by decide +kernel)) s_Image_put_30 (fun x12 => ⟨_, _, ⟨rfl, rfl⟩, ?_⟩)
      refine Sp.id (pc := 87) (l := [some (.ref 10), some (.ref 30), some (.int x), some (.int x9.1)]) (st := [.int (if x12.1 = true then 1 else 0)]) (h := hS x12.2 M) ?_
      refine Sp.step rfl rfl rfl rfl ?_
      refine Sp.step rfl rfl rfl rfl ?_
      refine Sp.step rfl rfl rfl rfl ?_
      exact Sp.jmp (l0 := [some (.ref 10), some (.ref 30), some (.int x), some (.int (x9.1 + 1))]) ⟨rfl, rfl, rfl, rfl, trivial⟩ (fun _ _ h => h)
  · exact Sp.vret rfl rfl rfl (fun _ _ h => h)
def b4_Linker_headBytes (X : XS) (x1 : (Int32 × Int32)) : Option ((Int32 × Int32) ⊕ (Int32 × Int32)) := (if 24 ≤ x1.2 then some (.inr (x1.1, x1.2)) else (if f_Reach_hasRoutine x1.2 X = true then (ocz (X.2.1 2 x1.2.toNatClampNeg) none (fun a5 => (if (xT X a5 = some (12, 0)) then some (.inl (x1.1 + (9 + (7 * (X.1 a5 9))), x1.2 + 1)) else none))) else some (.inl (x1.1, x1.2 + 1))))
def f_Linker_headBytes (X : XS) : Option Int32 := ((lp (b4_Linker_headBytes X) 10000 ((0 : Int32), (0 : Int32))).bind fun x9 => some x9.1)
set_option maxRecDepth 100000 in
set_option maxHeartbeats 4000000 in
theorem s_Linker_headBytes {L : Nat} {xs : Nat → Int32} {X : XS} {M : MS} : Sp (mjOO L xs) 185 0 [some (.ref 10), none, none] [] (hS X M) (f_Linker_headBytes X) (KQ (hS X M)) := by
  unfold f_Linker_headBytes
  refine Sp.step rfl rfl rfl rfl ?_
  refine Sp.step rfl rfl rfl rfl ?_
  refine Sp.step rfl rfl rfl rfl ?_
  refine Sp.step rfl rfl rfl rfl ?_
  refine Sp.weak (l0 := [some (.ref 10), some (.int 0), some (.int 0)]) ⟨rfl, rfl, rfl, trivial⟩ ?_
  refine Sp.loopX (pe := 48) (mf := (fun (x1 : (Int32 × Int32)) => [some (.ref 10), some (.int x1.1), some (.int x1.2)])) (hf := (fun (x1 : (Int32 × Int32)) => hS X M)) (fun x1 => ?_) (fun x9 => ?_) _ _
  · unfold b4_Linker_headBytes
    refine Sp.step rfl rfl rfl rfl ?_
    refine Sp.step rfl rfl rfl rfl ?_
    refine Sp.if2 rfl rfl rfl rfl (fun e2 => ?_) (fun e2 => ?_)
    · exact Sp.jmp (l0 := [some (.ref 10), some (.int x1.1), some (.int x1.2)]) ⟨rfl, rfl, rfl, trivial⟩ (fun _ _ h => h)
    · refine Sp.step rfl rfl rfl rfl ?_
      refine Sp.step rfl rfl rfl (xg_F (c := 3) (f := 1) rfl rfl rfl rfl rfl) ?_
      refine Sp.step rfl rfl rfl rfl ?_
      refine Sp.callS rfl rfl rfl (xrecv (c := 6) (by decide) rfl (by decide +kernel)) s_Reach_hasRoutine ⟨rfl, rfl⟩ ?_
      refine Sp.bool (fun e3 => ?_) (fun e3 => ?_)
      · refine Sp.id (pc := 18) (l := [some (.ref 10), some (.int x1.1), some (.int x1.2)]) (st := [.int 1]) (h := hS X M) ?_
        refine Sp.step rfl rfl rfl rfl ?_
        refine Sp.step rfl rfl rfl rfl ?_
        refine Sp.step rfl rfl rfl rfl ?_
        refine Sp.step rfl rfl rfl rfl ?_
        refine Sp.step rfl rfl rfl rfl ?_
        refine Sp.step rfl rfl rfl (xg_F (c := 3) (f := 0) rfl rfl rfl rfl rfl) ?_
        refine Sp.step rfl rfl rfl (xg_F (c := 8) (f := 0) rfl rfl rfl rfl rfl) ?_
        refine Sp.step rfl rfl rfl rfl ?_
        refine Sp.step rfl rfl rfl (xald (t := 3) rfl (by decide) (fun _ => rfl) (hasRoutine_ix e3)) ?_
        refine Sp.ocrn (fun a5 e6 => ?_)
        refine Sp.guard (fun e7 => ?_)
        refine Sp.step rfl rfl rfl (xg_I (c := 7) (f := 9) rfl rfl e7 rfl) ?_
        refine Sp.step rfl rfl rfl rfl ?_
        refine Sp.step rfl rfl rfl rfl ?_
        refine Sp.step rfl rfl rfl rfl ?_
        refine Sp.step rfl rfl rfl rfl ?_
        refine Sp.step rfl rfl rfl rfl ?_
        refine Sp.step rfl rfl rfl rfl ?_
        exact Sp.jmp (l0 := [some (.ref 10), some (.int (x1.1 + (9 + (7 * (X.1 a5 9))))), some (.int (x1.2 + 1))]) ⟨rfl, rfl, rfl, trivial⟩ (fun _ _ h => h)
      · refine Sp.id (pc := 18) (l := [some (.ref 10), some (.int x1.1), some (.int x1.2)]) (st := [.int 0]) (h := hS X M) ?_
        refine Sp.step rfl rfl rfl rfl ?_
        refine Sp.step rfl rfl rfl rfl ?_
        refine Sp.step rfl rfl rfl rfl ?_
        exact Sp.jmp (l0 := [some (.ref 10), some (.int x1.1), some (.int (x1.2 + 1))]) ⟨rfl, rfl, rfl, trivial⟩ (fun _ _ h => h)
  · refine Sp.step rfl rfl rfl rfl ?_
    exact Sp.iret rfl rfl rfl rfl (fun _ _ h => h)
def f_Linker_wasSeen (x : Int32) (y : Int32) (X : XS) : Option Bool := (if 0 ≤ x ∧ x ≤ 23 then (if 0 ≤ y ∧ y ≤ 59 then (if ixo ((x * 60) + y) 1440 then (if X.1 11 ((x * 60) + y).toNatClampNeg = 0 then some false else some true) else none) else some false) else some false)
set_option maxRecDepth 100000 in
set_option maxHeartbeats 4000000 in
theorem s_Linker_wasSeen {L : Nat} {xs : Nat → Int32} {X : XS} {M : MS} {x : Int32} {y : Int32} : Sp (mjOO L xs) 188 0 [some (.ref 10), some (.int x), some (.int y)] [] (hS X M) (f_Linker_wasSeen x y X) (KB (hS X M)) := by
  unfold f_Linker_wasSeen
  refine Sp.step rfl rfl rfl rfl ?_
  refine Sp.step rfl rfl rfl rfl ?_
  refine Sp.step rfl rfl rfl rfl ?_
  refine Sp.callP rfl rfl rfl rfl s_within (fun e1 => ?_) (fun e1 => ?_)
  · refine Sp.id (pc := 7) (l := [some (.ref 10), some (.int x), some (.int y)]) (st := [.int 1]) (h := hS X M) ?_
    refine Sp.step rfl rfl rfl rfl ?_
    refine Sp.step rfl rfl rfl rfl ?_
    refine Sp.step rfl rfl rfl rfl ?_
    refine Sp.step rfl rfl rfl rfl ?_
    refine Sp.callP rfl rfl rfl rfl s_within (fun e3 => ?_) (fun e3 => ?_)
    · refine Sp.id (pc := 17) (l := [some (.ref 10), some (.int x), some (.int y)]) (st := [.int 1]) (h := hS X M) ?_
      refine Sp.step rfl rfl rfl rfl ?_
      refine Sp.step rfl rfl rfl rfl ?_
      refine Sp.step rfl rfl rfl (xg_F (c := 3) (f := 3) rfl rfl rfl rfl rfl) ?_
      refine Sp.step rfl rfl rfl rfl ?_
      refine Sp.step rfl rfl rfl rfl ?_
      refine Sp.step rfl rfl rfl rfl ?_
      refine Sp.step rfl rfl rfl rfl ?_
      refine Sp.step rfl rfl rfl rfl ?_
      refine Sp.guard (fun e5 => ?_)
      refine Sp.step rfl rfl rfl (xld rfl (by decide) e5) ?_
      refine Sp.if1 rfl rfl rfl rfl (fun e6 => ?_) (fun e6 => ?_)
      · refine Sp.step rfl rfl rfl rfl ?_
        exact Sp.iret rfl rfl rfl rfl (fun _ _ h => h)
      · refine Sp.step rfl rfl rfl rfl ?_
        refine Sp.step rfl rfl rfl rfl ?_
        exact Sp.iret rfl rfl rfl rfl (fun _ _ h => h)
    · refine Sp.id (pc := 17) (l := [some (.ref 10), some (.int x), some (.int y)]) (st := [.int 0]) (h := hS X M) ?_
      refine Sp.step rfl rfl rfl rfl ?_
      refine Sp.step rfl rfl rfl rfl ?_
      exact Sp.iret rfl rfl rfl rfl (fun _ _ h => h)
  · refine Sp.id (pc := 7) (l := [some (.ref 10), some (.int x), some (.int y)]) (st := [.int 0]) (h := hS X M) ?_
    refine Sp.step rfl rfl rfl rfl ?_
    refine Sp.step rfl rfl rfl rfl ?_
    exact Sp.iret rfl rfl rfl rfl (fun _ _ h => h)
def f_Linker_writtenOp (x : Int32) (y : Int32) : Int32 := (if ¬ x = 1 then x else (if (-128) ≤ y ∧ y ≤ 127 then x else 61))
set_option maxRecDepth 100000 in
set_option maxHeartbeats 4000000 in
theorem s_Linker_writtenOp {L : Nat} {xs : Nat → Int32} {X : XS} {M : MS} {x : Int32} {y : Int32} : Sp (mjOO L xs) 190 0 [some (.ref 10), some (.int x), some (.int y)] [] (hS X M) (some (f_Linker_writtenOp x y)) (KQ (hS X M)) := by
  unfold f_Linker_writtenOp
  refine Sp.step rfl rfl rfl rfl ?_
  refine Sp.step rfl rfl rfl rfl ?_
  refine Sp.if2V rfl rfl rfl rfl (fun e1 => ?_) (fun e1 => ?_)
  · refine Sp.step rfl rfl rfl rfl ?_
    exact Sp.iret rfl rfl rfl rfl (fun _ _ h => h)
  · refine Sp.step rfl rfl rfl rfl ?_
    refine Sp.step rfl rfl rfl rfl ?_
    refine Sp.step rfl rfl rfl rfl ?_
    refine Sp.callPV rfl rfl rfl rfl s_within (fun e2 => ?_) (fun e2 => ?_)
    · refine Sp.id (pc := 13) (l := [some (.ref 10), some (.int x), some (.int y)]) (st := [.int 1]) (h := hS X M) ?_
      refine Sp.step rfl rfl rfl rfl ?_
      refine Sp.step rfl rfl rfl rfl ?_
      exact Sp.iret rfl rfl rfl rfl (fun _ _ h => h)
    · refine Sp.id (pc := 13) (l := [some (.ref 10), some (.int x), some (.int y)]) (st := [.int 0]) (h := hS X M) ?_
      refine Sp.step rfl rfl rfl rfl ?_
      refine Sp.step rfl rfl rfl rfl ?_
      refine Sp.step rfl rfl rfl rfl ?_
      exact Sp.iret rfl rfl rfl rfl (fun _ _ h => h)
def f_P_bytesOf (x : Int32) : Int32 := (if 0 ≤ x ∧ x ≤ 61 then oT 1 x.toNatClampNeg else 1)
set_option maxRecDepth 100000 in
set_option maxHeartbeats 4000000 in
theorem s_P_bytesOf {L : Nat} {xs : Nat → Int32} {X : XS} {M : MS} {x : Int32} : Sp (mjOO L xs) 17 0 [some (.int x)] [] (hS X M) (some (f_P_bytesOf x)) (KQ (hS X M)) := by
  unfold f_P_bytesOf
  refine Sp.step rfl rfl rfl rfl ?_
  refine Sp.step rfl rfl rfl rfl ?_
  refine Sp.step rfl rfl rfl rfl ?_
  refine Sp.callPV rfl rfl rfl rfl s_within (fun e1 => ?_) (fun e1 => ?_)
  · refine Sp.id (pc := 7) (l := [some (.int x)]) (st := [.int 1]) (h := hS X M) ?_
    refine Sp.step rfl rfl rfl rfl ?_
    refine Sp.step rfl rfl rfl rfl ?_
    refine Sp.step rfl rfl rfl rfl ?_
    refine Sp.step rfl rfl rfl (old_ld (f := oT 1) rfl (ix_le (N := 61) rfl e1.1 e1.2)) ?_
    refine Sp.step rfl rfl rfl rfl ?_
    exact Sp.iret rfl rfl rfl rfl (fun _ _ h => h)
  · refine Sp.id (pc := 7) (l := [some (.int x)]) (st := [.int 0]) (h := hS X M) ?_
    refine Sp.step rfl rfl rfl rfl ?_
    refine Sp.step rfl rfl rfl rfl ?_
    exact Sp.iret rfl rfl rfl rfl (fun _ _ h => h)
def b5_Linker_findOffsets (x : Nat) (y : Int32) (x20 : (Int32 × Int32 × XS)) : Option ((Int32 × Int32 × XS) ⊕ (Int32 × Int32 × XS)) := (if 60 ≤ x20.2.1 then some (.inr (x20.1, x20.2.1, x20.2.2)) else (if ixo x20.2.1 61 then (lt (xw x20.2.2 13 x20.2.1.toNatClampNeg x20.1) fun X23 => ((f_Linker_wasSeen y x20.2.1 X23).bind fun x24 => (if x24 = true then (if (xT X23 x = some (12, 0)) then (ocz (X23.2.1 x 7) none (fun a28 => (ocz (xL X23 0 a28) none (fun n30 => (if ixo x20.2.1 n30 then (ocz (X23.2.1 x 8) none (fun a33 => (ocz (xL X23 0 a33) none (fun n35 => (if ixo x20.2.1 n35 then some (.inl (x20.1 + (f_P_bytesOf (f_Linker_writtenOp (X23.1 a28 x20.2.1.toNatClampNeg) (X23.1 a33 x20.2.1.toNatClampNeg))), x20.2.1 + 1, X23)) else none))))) else none))))) else none) else some (.inl (x20.1 + 1, x20.2.1 + 1, X23))))) else none))
def f_Linker_findOffsets (x : Nat) (y : Int32) (X : XS) : Option XS := ((lp (b5_Linker_findOffsets x y) 10000 ((0 : Int32), (0 : Int32), X)).bind fun x39 => (lt (xw x39.2.2 13 60 x39.1) fun X40 => some X40))
set_option maxRecDepth 100000 in
set_option maxHeartbeats 4000000 in
theorem s_Linker_findOffsets {L : Nat} {xs : Nat → Int32} {X : XS} {M : MS} {x : Nat} {y : Int32} : Sp (mjOO L xs) 187 0 [some (.ref 10), some (.ref x), some (.int y), none, none] [] (hS X M) (f_Linker_findOffsets x y X) (KVX M) := by
  unfold f_Linker_findOffsets
  refine Sp.step rfl rfl rfl rfl ?_
  refine Sp.step rfl rfl rfl rfl ?_
  refine Sp.step rfl rfl rfl rfl ?_
  refine Sp.step rfl rfl rfl rfl ?_
  refine Sp.weak (l0 := [some (.ref 10), some (.ref x), some (.int y), some (.int 0), some (.int 0)]) ⟨rfl, rfl, rfl, rfl, rfl, trivial⟩ ?_
  refine Sp.loopX (pe := 64) (mf := (fun (x20 : (Int32 × Int32 × XS)) => [some (.ref 10), some (.ref x), some (.int y), some (.int x20.1), some (.int x20.2.1)])) (hf := (fun (x20 : (Int32 × Int32 × XS)) => hS x20.2.2 M)) (fun x20 => ?_) (fun x39 => ?_) _ _
  · unfold b5_Linker_findOffsets
    refine Sp.step rfl rfl rfl rfl ?_
    refine Sp.step rfl rfl rfl rfl ?_
    refine Sp.if2 rfl rfl rfl rfl (fun e21 => ?_) (fun e21 => ?_)
    · exact Sp.jmp (l0 := [some (.ref 10), some (.ref x), some (.int y), some (.int x20.1), some (.int x20.2.1)]) ⟨rfl, rfl, rfl, rfl, rfl, trivial⟩ (fun _ _ h => h)
    · refine Sp.step rfl rfl rfl rfl ?_
      refine Sp.step rfl rfl rfl (xg_F (c := 3) (f := 5) rfl rfl rfl rfl rfl) ?_
      refine Sp.step rfl rfl rfl rfl ?_
      refine Sp.step rfl rfl rfl rfl ?_
      refine Sp.guard (fun e22 => ?_)
      refine Sp.step rfl rfl rfl (xst rfl (by decide) e22) ?_
      refine Sp.step rfl rfl rfl rfl ?_
      refine Sp.step rfl rfl rfl rfl ?_
      refine Sp.step rfl rfl rfl rfl ?_
      refine Sp.step rfl rfl rfl rfl ?_
      refine Sp.call rfl rfl rfl (xrecv (c := 3) (by decide) rfl (by decide +kernel)) s_Linker_wasSeen (fun x24 => ⟨_, _, ⟨rfl, rfl⟩, ?_⟩)
      refine Sp.bool (fun e25 => ?_) (fun e25 => ?_)
      · refine Sp.id (pc := 28) (l := [some (.ref 10), some (.ref x), some (.int y), some (.int x20.1), some (.int x20.2.1)]) (st := [.int 1, .int x20.1]) (h := hS (xw x20.2.2 13 x20.2.1.toNatClampNeg x20.1) M) ?_
        refine Sp.step rfl rfl rfl rfl ?_
        refine Sp.step rfl rfl rfl rfl ?_
        refine Sp.step rfl rfl rfl rfl ?_
        refine Sp.guard (fun e27 => ?_)
        refine Sp.step rfl rfl rfl (xg_D (c := 7) (f := 7) rfl rfl e27 rfl (fxP_big (dyn_of (c := 7) e27 rfl))) ?_
        refine Sp.ocrn (fun a28 e29 => ?_)
        refine Sp.step rfl rfl rfl rfl ?_
        refine Sp.ocn (fun n30 e31 => ?_)
        refine Sp.guard (fun e32 => ?_)
        refine Sp.step rfl rfl rfl (xld (xL_ok e31) (by decide) e32) ?_
        refine Sp.step rfl rfl rfl rfl ?_
        refine Sp.step rfl rfl rfl (xg_D (c := 7) (f := 8) rfl rfl e27 rfl (fxP_big (dyn_of (c := 7) e27 rfl))) ?_
        refine Sp.ocrn (fun a33 e34 => ?_)
        refine Sp.step rfl rfl rfl rfl ?_
        refine Sp.ocn (fun n35 e36 => ?_)
        refine Sp.guard (fun e37 => ?_)
        refine Sp.step rfl rfl rfl (xld (xL_ok e36) (by decide) e37) ?_
        refine Sp.callS rfl rfl rfl (xrecv (c := 3) (by decide) rfl (by decide +kernel)) s_Linker_writtenOp ⟨rfl, rfl⟩ ?_
        refine Sp.id (pc := 49) (l := [some (.ref 10), some (.ref x), some (.int y), some (.int x20.1), some (.int x20.2.1)]) (st := [.int (f_Linker_writtenOp ((xw x20.2.2 13 x20.2.1.toNatClampNeg x20.1).1 a28 x20.2.1.toNatClampNeg) ((xw x20.2.2 13 x20.2.1.toNatClampNeg x20.1).1 a33 x20.2.1.toNatClampNeg)), .int x20.1]) (h := hS (xw x20.2.2 13 x20.2.1.toNatClampNeg x20.1) M) ?_
        refine Sp.callS rfl rfl rfl rfl s_P_bytesOf ⟨rfl, rfl⟩ ?_
        refine Sp.id (pc := 52) (l := [some (.ref 10), some (.ref x), some (.int y), some (.int x20.1), some (.int x20.2.1)]) (st := [.int (f_P_bytesOf (f_Linker_writtenOp ((xw x20.2.2 13 x20.2.1.toNatClampNeg x20.1).1 a28 x20.2.1.toNatClampNeg) ((xw x20.2.2 13 x20.2.1.toNatClampNeg x20.1).1 a33 x20.2.1.toNatClampNeg))), .int x20.1]) (h := hS (xw x20.2.2 13 x20.2.1.toNatClampNeg x20.1) M) ?_
        refine Sp.step rfl rfl rfl rfl ?_
        refine Sp.step rfl rfl rfl rfl ?_
        refine Sp.step rfl rfl rfl rfl ?_
        refine Sp.step rfl rfl rfl rfl ?_
        refine Sp.step rfl rfl rfl rfl ?_
        exact Sp.jmp (l0 := [some (.ref 10), some (.ref x), some (.int y), some (.int (x20.1 + (f_P_bytesOf (f_Linker_writtenOp ((xw x20.2.2 13 x20.2.1.toNatClampNeg x20.1).1 a28 x20.2.1.toNatClampNeg) ((xw x20.2.2 13 x20.2.1.toNatClampNeg x20.1).1 a33 x20.2.1.toNatClampNeg))))), some (.int (x20.2.1 + 1))]) ⟨rfl, rfl, rfl, rfl, rfl, trivial⟩ (fun _ _ h => h)
      · refine Sp.id (pc := 28) (l := [some (.ref 10), some (.ref x), some (.int y), some (.int x20.1), some (.int x20.2.1)]) (st := [.int 0, .int x20.1]) (h := hS (xw x20.2.2 13 x20.2.1.toNatClampNeg x20.1) M) ?_
        refine Sp.step rfl rfl rfl rfl ?_
        refine Sp.step rfl rfl rfl rfl ?_
        refine Sp.step rfl rfl rfl rfl ?_
        refine Sp.step rfl rfl rfl rfl ?_
        refine Sp.step rfl rfl rfl rfl ?_
        refine Sp.step rfl rfl rfl rfl ?_
        exact Sp.jmp (l0 := [some (.ref 10), some (.ref x), some (.int y), some (.int (x20.1 + 1)), some (.int (x20.2.1 + 1))]) ⟨rfl, rfl, rfl, rfl, rfl, trivial⟩ (fun _ _ h => h)
  · refine Sp.step rfl rfl rfl rfl ?_
    refine Sp.step rfl rfl rfl (xg_F (c := 3) (f := 5) rfl rfl rfl rfl rfl) ?_
    refine Sp.step rfl rfl rfl rfl ?_
    refine Sp.step rfl rfl rfl rfl ?_
    refine Sp.step rfl rfl rfl (xst rfl (by decide) (by decide)) ?_
    exact Sp.vret rfl rfl rfl (fun _ _ h => h)
def f_Linker_offsetOf (x : Int32) (X : XS) : Int32 := (if 0 ≤ x ∧ x ≤ 60 then X.1 13 x.toNatClampNeg else 0)
set_option maxRecDepth 100000 in
set_option maxHeartbeats 4000000 in
theorem s_Linker_offsetOf {L : Nat} {xs : Nat → Int32} {X : XS} {M : MS} {x : Int32} : Sp (mjOO L xs) 189 0 [some (.ref 10), some (.int x)] [] (hS X M) (some (f_Linker_offsetOf x X)) (KQ (hS X M)) := by
  unfold f_Linker_offsetOf
  refine Sp.step rfl rfl rfl rfl ?_
  refine Sp.step rfl rfl rfl rfl ?_
  refine Sp.step rfl rfl rfl rfl ?_
  refine Sp.callPV rfl rfl rfl rfl s_within (fun e1 => ?_) (fun e1 => ?_)
  · refine Sp.id (pc := 7) (l := [some (.ref 10), some (.int x)]) (st := [.int 1]) (h := hS X M) ?_
    refine Sp.step rfl rfl rfl rfl ?_
    refine Sp.step rfl rfl rfl rfl ?_
    refine Sp.step rfl rfl rfl (xg_F (c := 3) (f := 5) rfl rfl rfl rfl rfl) ?_
    refine Sp.step rfl rfl rfl rfl ?_
    refine Sp.step rfl rfl rfl (xld rfl (by decide) (ix_le (N := 60) rfl e1.1 e1.2)) ?_
    refine Sp.step rfl rfl rfl rfl ?_
    exact Sp.iret rfl rfl rfl rfl (fun _ _ h => h)
  · refine Sp.id (pc := 7) (l := [some (.ref 10), some (.int x)]) (st := [.int 0]) (h := hS X M) ?_
    refine Sp.step rfl rfl rfl rfl ?_
    refine Sp.step rfl rfl rfl rfl ?_
    exact Sp.iret rfl rfl rfl rfl (fun _ _ h => h)
def f_Image_noteHead_30 (x : Int32) (X : XS) : Option XS := (if 0 ≤ x ∧ x ≤ 23 then (lt (xw X 32 x.toNatClampNeg (X.1 30 0)) fun X3 => some X3) else some X)
set_option maxRecDepth 100000 in
set_option maxHeartbeats 4000000 in
theorem s_Image_noteHead_30 {L : Nat} {xs : Nat → Int32} {X : XS} {M : MS} {x : Int32} : Sp (mjOO L xs) 158 0 [some (.ref 30), some (.int x)] [] (hS X M) (f_Image_noteHead_30 x X) (KVX M) := by
  unfold f_Image_noteHead_30
  refine Sp.step rfl rfl rfl rfl ?_
  refine Sp.step rfl rfl rfl rfl ?_
  refine Sp.step rfl rfl rfl rfl ?_
  refine Sp.callP rfl rfl rfl rfl s_within (fun e1 => ?_) (fun e1 => ?_)
  · refine Sp.id (pc := 7) (l := [some (.ref 30), some (.int x)]) (st := [.int 1]) (h := hS X M) ?_
    refine Sp.step rfl rfl rfl rfl ?_
    refine Sp.step rfl rfl rfl rfl ?_
    refine Sp.step rfl rfl rfl (xg_F (c := 2) (f := 3) rfl rfl rfl rfl rfl) ?_
    refine Sp.step rfl rfl rfl rfl ?_
    refine Sp.step rfl rfl rfl rfl ?_
    refine Sp.step rfl rfl rfl (xg_I (c := 2) (f := 0) rfl rfl rfl rfl) ?_
    refine Sp.step rfl rfl rfl (xst rfl (by decide) (ix_le (N := 23) rfl e1.1 e1.2)) ?_
    exact Sp.vret rfl rfl rfl (fun _ _ h => h)
  · refine Sp.id (pc := 7) (l := [some (.ref 30), some (.int x)]) (st := [.int 0]) (h := hS X M) ?_
    refine Sp.step rfl rfl rfl rfl ?_
    exact Sp.vret rfl rfl rfl (fun _ _ h => h)
def f_Routine_taken (x : Nat) (X : XS) : Option Int32 := (if (xT X x = some (12, 0)) then ((f_Routine_isStatic x X).bind fun x2 => (if x2 = true then some (X.1 x 2) else some ((X.1 x 2) + 1))) else none)
set_option maxRecDepth 100000 in
set_option maxHeartbeats 4000000 in
theorem s_Routine_taken {L : Nat} {xs : Nat → Int32} {X : XS} {M : MS} {x : Nat} : Sp (mjOO L xs) 258 0 [some (.ref x)] [] (hS X M) (f_Routine_taken x X) (KQ (hS X M)) := by
  unfold f_Routine_taken
  refine Sp.step rfl rfl rfl rfl ?_
  refine Sp.guard (fun e1 => ?_)
  refine Sp.call rfl rfl rfl (xrecv (c := 7) (by decide) e1 (by decide +kernel)) s_Routine_isStatic (fun x2 => ⟨_, _, ⟨rfl, rfl⟩, ?_⟩)
  refine Sp.bool (fun e3 => ?_) (fun e3 => ?_)
  · refine Sp.id (pc := 4) (l := [some (.ref x)]) (st := [.int 1]) (h := hS X M) ?_
    refine Sp.step rfl rfl rfl rfl ?_
    refine Sp.step rfl rfl rfl rfl ?_
    refine Sp.step rfl rfl rfl (xg_I (c := 7) (f := 2) rfl rfl e1 rfl) ?_
    refine Sp.step rfl rfl rfl rfl ?_
    exact Sp.iret rfl rfl rfl rfl (fun _ _ h => h)
  · refine Sp.id (pc := 4) (l := [some (.ref x)]) (st := [.int 0]) (h := hS X M) ?_
    refine Sp.step rfl rfl rfl rfl ?_
    refine Sp.step rfl rfl rfl rfl ?_
    refine Sp.step rfl rfl rfl (xg_I (c := 7) (f := 2) rfl rfl e1 rfl) ?_
    refine Sp.step rfl rfl rfl rfl ?_
    refine Sp.step rfl rfl rfl rfl ?_
    exact Sp.iret rfl rfl rfl rfl (fun _ _ h => h)
def b119_Linker_writeHead_30 (a3 : Nat) (x63 : (Int32 × XS)) : Option ((Int32 × XS) ⊕ (Int32 × XS)) := (if (xT x63.2 a3 = some (12, 0)) then (if x63.2.1 a3 9 ≤ x63.1 then some (.inr (x63.1, x63.2)) else (if 6 ≤ x63.1 then some (.inr (x63.1, x63.2)) else (ocz (x63.2.2.1 a3 10) none (fun a67 => (ocz (xL x63.2 0 a67) none (fun n69 => (if ixo x63.1 n69 then ((f_Image_putTwo_30 (f_Linker_offsetOf (x63.2.1 a67 x63.1.toNatClampNeg) x63.2) x63.2).bind fun x72 => (if (xT x72 a3 = some (12, 0)) then (ocz (x72.2.1 a3 11) none (fun a74 => (ocz (xL x72 0 a74) none (fun n76 => (if ixo x63.1 n76 then ((f_Image_putTwo_30 (f_Linker_offsetOf (x72.1 a74 x63.1.toNatClampNeg) x72) x72).bind fun x79 => (if (xT x79 a3 = some (12, 0)) then (ocz (x79.2.1 a3 12) none (fun a81 => (ocz (xL x79 0 a81) none (fun n83 => (if ixo x63.1 n83 then ((f_Image_putTwo_30 (f_Linker_offsetOf (x79.1 a81 x63.1.toNatClampNeg) x79) x79).bind fun x86 => (if (xT x86 a3 = some (12, 0)) then (ocz (x86.2.1 a3 13) none (fun a88 => (ocz (xL x86 0 a88) none (fun n90 => (if ixo x63.1 n90 then (if 0 ≤ x86.1 a88 x63.1.toNatClampNeg then (ocz (x86.2.1 a3 13) none (fun a94 => (ocz (xL x86 0 a94) none (fun n96 => (if ixo x63.1 n96 then ((f_Image_put_30 (f_Reach_newKind (x86.1 a94 x63.1.toNatClampNeg) x86) x86).bind fun x99 => some (.inl (x63.1 + 1, x99.2))) else none))))) else (ocz (x86.2.1 a3 13) none (fun a100 => (ocz (xL x86 0 a100) none (fun n102 => (if ixo x63.1 n102 then ((f_Image_put_30 (256 + (x86.1 a100 x63.1.toNatClampNeg)) x86).bind fun x105 => some (.inl (x63.1 + 1, x105.2))) else none)))))) else none))))) else none)) else none))))) else none)) else none))))) else none)) else none))))))) else none)
def f_Linker_writeHead_30 (x : Int32) (y : Int32) (X : XS) : Option (Int32 × XS) := (if f_Reach_hasRoutine x X = true then (ocz (X.2.1 2 x.toNatClampNeg) none (fun a3 => ((f_Linker_findOffsets a3 x X).bind fun x5 => (if (xT x5 a3 = some (12, 0)) then ((f_Image_noteHead_30 (f_Reach_newRoutine x x5) x5).bind fun x7 => ((f_Image_putTwo_30 y x7).bind fun x8 => ((f_Image_putTwo_30 (f_Linker_offsetOf (x5.1 a3 6) x5) x8).bind fun x9 => (if (xT x9 a3 = some (12, 0)) then ((f_Routine_taken a3 x9).bind fun x11 => ((f_Image_put_30 x11 x9).bind fun x12 => (if (xT x12.2 a3 = some (12, 0)) then ((f_Image_put_30 (x12.2.1 a3 5) x12.2).bind fun x14 => ((f_Image_put_30 (x14.2.1 12 x.toNatClampNeg) x14.2).bind fun x15 => (if (xT x15.2 a3 = some (12, 0)) then ((f_Image_put_30 (x15.2.1 a3 4) x15.2).bind fun x17 => (if (xT x17.2 a3 = some (12, 0)) then ((f_Image_put_30 (x17.2.1 a3 9) x17.2).bind fun x19 => ((lp (b119_Linker_writeHead_30 a3) 10000 ((0 : Int32), x19.2)).bind fun x106 => some (f_Linker_offsetOf (x5.1 a3 6) x5, x106.2))) else none)) else none))) else none))) else none)))) else none)))) else some (0, X))
set_option maxRecDepth 100000 in
set_option maxHeartbeats 4000000 in
theorem s_Linker_writeHead_30 {L : Nat} {xs : Nat → Int32} {X : XS} {M : MS} {x : Int32} {y : Int32} : Sp (mjOO L xs) 186 0 [some (.ref 10), some (.ref 30), some (.int x), some (.int y), none, none, none] [] (hS X M) (f_Linker_writeHead_30 x y X) (KEX M) := by
  unfold f_Linker_writeHead_30
  refine Sp.step rfl rfl rfl rfl ?_
  refine Sp.step rfl rfl rfl (xg_F (c := 3) (f := 1) rfl rfl rfl rfl rfl) ?_
  refine Sp.step rfl rfl rfl rfl ?_
  refine Sp.callS rfl rfl rfl (xrecv (c := 6) (by decide) rfl (by decide +kernel)) s_Reach_hasRoutine ⟨rfl, rfl⟩ ?_
  refine Sp.bool (fun e1 => ?_) (fun e1 => ?_)
  · refine Sp.id (pc := 8) (l := [some (.ref 10), some (.ref 30), some (.int x), some (.int y), none, none, none]) (st := [.int 1]) (h := hS X M) ?_
    refine Sp.step rfl rfl rfl rfl ?_
    refine Sp.step rfl rfl rfl rfl ?_
    refine Sp.step rfl rfl rfl (xg_F (c := 3) (f := 0) rfl rfl rfl rfl rfl) ?_
    refine Sp.step rfl rfl rfl (xg_F (c := 8) (f := 0) rfl rfl rfl rfl rfl) ?_
    refine Sp.step rfl rfl rfl rfl ?_
    refine Sp.step rfl rfl rfl (xald (t := 3) rfl (by decide) (fun _ => rfl) (hasRoutine_ix e1)) ?_
    refine Sp.ocrn (fun a3 e4 => ?_)
    refine Sp.step rfl rfl rfl rfl ?_
    refine Sp.step rfl rfl rfl rfl ?_
    refine Sp.step rfl rfl rfl rfl ?_
    refine Sp.step rfl rfl rfl rfl ?_
    refine Sp.call rfl rfl rfl (xrecv (c := 3) (by decide) rfl (by decide +kernel)) s_Linker_findOffsets (fun x5 => ⟨_, _, ⟨rfl, rfl⟩, ?_⟩)
    refine Sp.id (pc := 31) (l := [some (.ref 10), some (.ref 30), some (.int x), some (.int y), some (.ref a3), none, none]) (st := []) (h := hS x5 M) ?_
    refine Sp.step rfl rfl rfl rfl ?_
    refine Sp.step rfl rfl rfl rfl ?_
    refine Sp.guard (fun e6 => ?_)
    refine Sp.step rfl rfl rfl (xg_I (c := 7) (f := 6) rfl rfl e6 rfl) ?_
    refine Sp.callS rfl rfl rfl (xrecv (c := 3) (by decide) rfl (by decide +kernel)) s_Linker_offsetOf ⟨rfl, rfl⟩ ?_
    refine Sp.id (pc := 40) (l := [some (.ref 10), some (.ref 30), some (.int x), some (.int y), some (.ref a3), none, none]) (st := [.int (f_Linker_offsetOf (x5.1 a3 6) x5)]) (h := hS x5 M) ?_
    refine Sp.step rfl rfl rfl rfl ?_
    refine Sp.step rfl rfl rfl rfl ?_
    refine Sp.step rfl rfl rfl rfl ?_
    refine Sp.step rfl rfl rfl (xg_F (c := 3) (f := 1) rfl rfl rfl rfl rfl) ?_
    refine Sp.step rfl rfl rfl rfl ?_
    refine Sp.callS rfl rfl rfl (xrecv (c := 6) (by decide) rfl (by decide +kernel)) s_Reach_newRoutine ⟨rfl, rfl⟩ ?_
    refine Sp.id (pc := 51) (l := [some (.ref 10), some (.ref 30), some (.int x), some (.int y), some (.ref a3), some (.int (f_Linker_offsetOf (x5.1 a3 6) x5)), none]) (st := [.int (f_Reach_newRoutine x x5), .ref 30]) (h := hS x5 M) ?_
    refine Sp.call rfl rfl rfl (xrecv (c := 2) (by decide) rfl (by decide +kernel)) s_Image_noteHead_30 (fun x7 => ⟨_, _, ⟨rfl, rfl⟩, ?_⟩)
    refine Sp.id (pc := 54) (l := [some (.ref 10), some (.ref 30), some (.int x), some (.int y), some (.ref a3), some (.int (f_Linker_offsetOf (x5.1 a3 6) x5)), none]) (st := []) (h := hS x7 M) ?_
    refine Sp.step rfl rfl rfl rfl ?_
    refine Sp.step rfl rfl rfl rfl ?_
    refine Sp.call rfl rfl rfl (xrecv (c := 2) (by decide) rfl (by decide +kernel)) s_Image_putTwo_30 (fun x8 => ⟨_, _, ⟨rfl, rfl⟩, ?_⟩)
    refine Sp.id (pc := 59) (l := [some (.ref 10), some (.ref 30), some (.int x), some (.int y), some (.ref a3), some (.int (f_Linker_offsetOf (x5.1 a3 6) x5)), none]) (st := []) (h := hS x8 M) ?_
    refine Sp.step rfl rfl rfl rfl ?_
    refine Sp.step rfl rfl rfl rfl ?_
    refine Sp.call rfl rfl rfl (xrecv (c := 2) (by decide) rfl (by decide +kernel)) s_Image_putTwo_30 (fun x9 => ⟨_, _, ⟨rfl, rfl⟩, ?_⟩)
    refine Sp.id (pc := 65) (l := [some (.ref 10), some (.ref 30), some (.int x), some (.int y), some (.ref a3), some (.int (f_Linker_offsetOf (x5.1 a3 6) x5)), none]) (st := []) (h := hS x9 M) ?_
    refine Sp.step rfl rfl rfl rfl ?_
    refine Sp.step rfl rfl rfl rfl ?_
    refine Sp.guard (fun e10 => ?_)
    refine Sp.call rfl rfl rfl (xrecv (c := 7) (by decide) e10 (by decide +kernel)) s_Routine_taken (fun x11 => ⟨_, _, ⟨rfl, rfl⟩, ?_⟩)
    refine Sp.id (pc := 71) (l := [some (.ref 10), some (.ref 30), some (.int x), some (.int y), some (.ref a3), some (.int (f_Linker_offsetOf (x5.1 a3 6) x5)), none]) (st := [.int x11, .ref 30]) (h := hS x9 M) ?_
    refine Sp.call rfl rfl rfl (xrecv (c := 2) (by decide) rfl (by decide +kernel)) s_Image_put_30 (fun x12 => ⟨_, _, ⟨rfl, rfl⟩, ?_⟩)
    refine Sp.id (pc := 74) (l := [some (.ref 10), some (.ref 30), some (.int x), some (.int y), some (.ref a3), some (.int (f_Linker_offsetOf (x5.1 a3 6) x5)), none]) (st := [.int (if x12.1 = true then 1 else 0)]) (h := hS x12.2 M) ?_
    refine Sp.step rfl rfl rfl rfl ?_
    refine Sp.step rfl rfl rfl rfl ?_
    refine Sp.step rfl rfl rfl rfl ?_
    refine Sp.guard (fun e13 => ?_)
    refine Sp.step rfl rfl rfl (xg_I (c := 7) (f := 5) rfl rfl e13 rfl) ?_
    refine Sp.call rfl rfl rfl (xrecv (c := 2) (by decide) rfl (by decide +kernel)) s_Image_put_30 (fun x14 => ⟨_, _, ⟨rfl, rfl⟩, ?_⟩)
    refine Sp.id (pc := 84) (l := [some (.ref 10), some (.ref 30), some (.int x), some (.int y), some (.ref a3), some (.int (f_Linker_offsetOf (x5.1 a3 6) x5)), none]) (st := [.int (if x14.1 = true then 1 else 0)]) (h := hS x14.2 M) ?_
    refine Sp.step rfl rfl rfl rfl ?_
    refine Sp.step rfl rfl rfl rfl ?_
    refine Sp.step rfl rfl rfl rfl ?_
    refine Sp.step rfl rfl rfl (xg_F (c := 3) (f := 4) rfl rfl rfl rfl rfl) ?_
    refine Sp.step rfl rfl rfl rfl ?_
    refine Sp.step rfl rfl rfl (xld rfl (by decide) (hasRoutine_ix e1)) ?_
    refine Sp.call rfl rfl rfl (xrecv (c := 2) (by decide) rfl (by decide +kernel)) s_Image_put_30 (fun x15 => ⟨_, _, ⟨rfl, rfl⟩, ?_⟩)
    refine Sp.id (pc := 95) (l := [some (.ref 10), some (.ref 30), some (.int x), some (.int y), some (.ref a3), some (.int (f_Linker_offsetOf (x5.1 a3 6) x5)), none]) (st := [.int (if x15.1 = true then 1 else 0)]) (h := hS x15.2 M) ?_
    refine Sp.step rfl rfl rfl rfl ?_
    refine Sp.step rfl rfl rfl rfl ?_
    refine Sp.step rfl rfl rfl rfl ?_
    refine Sp.guard (fun e16 => ?_)
    refine Sp.step rfl rfl rfl (xg_I (c := 7) (f := 4) rfl rfl e16 rfl) ?_
    refine Sp.call rfl rfl rfl (xrecv (c := 2) (by decide) rfl (by decide +kernel)) s_Image_put_30 (fun x17 => ⟨_, _, ⟨rfl, rfl⟩, ?_⟩)
    refine Sp.id (pc := 105) (l := [some (.ref 10), some (.ref 30), some (.int x), some (.int y), some (.ref a3), some (.int (f_Linker_offsetOf (x5.1 a3 6) x5)), none]) (st := [.int (if x17.1 = true then 1 else 0)]) (h := hS x17.2 M) ?_
    refine Sp.step rfl rfl rfl rfl ?_
    refine Sp.step rfl rfl rfl rfl ?_
    refine Sp.step rfl rfl rfl rfl ?_
    refine Sp.guard (fun e18 => ?_)
    refine Sp.step rfl rfl rfl (xg_I (c := 7) (f := 9) rfl rfl e18 rfl) ?_
    refine Sp.call rfl rfl rfl (xrecv (c := 2) (by decide) rfl (by decide +kernel)) s_Image_put_30 (fun x19 => ⟨_, _, ⟨rfl, rfl⟩, ?_⟩)
    refine Sp.id (pc := 115) (l := [some (.ref 10), some (.ref 30), some (.int x), some (.int y), some (.ref a3), some (.int (f_Linker_offsetOf (x5.1 a3 6) x5)), none]) (st := [.int (if x19.1 = true then 1 else 0)]) (h := hS x19.2 M) ?_
    refine Sp.step rfl rfl rfl rfl ?_
    refine Sp.step rfl rfl rfl rfl ?_
    refine Sp.step rfl rfl rfl rfl ?_
    refine Sp.weak (l0 := [some (.ref 10), some (.ref 30), none, none, some (.ref a3), some (.int (f_Linker_offsetOf (x5.1 a3 6) x5)), some (.int 0)]) ⟨rfl, rfl, rfl, rfl, rfl, trivial⟩ ?_
    refine Sp.loopX (pe := 236) (mf := (fun (x63 : (Int32 × XS)) => [some (.ref 10), some (.ref 30), none, none, some (.ref a3), some (.int (f_Linker_offsetOf (x5.1 a3 6) x5)), some (.int x63.1)])) (hf := (fun (x63 : (Int32 × XS)) => hS x63.2 M)) (fun x63 => ?_) (fun x106 => ?_) _ _
    · unfold b119_Linker_writeHead_30
      refine Sp.step rfl rfl rfl rfl ?_
      refine Sp.step rfl rfl rfl rfl ?_
      refine Sp.guard (fun e64 => ?_)
      refine Sp.step rfl rfl rfl (xg_I (c := 7) (f := 9) rfl rfl e64 rfl) ?_
      refine Sp.if2 rfl rfl rfl rfl (fun e65 => ?_) (fun e65 => ?_)
      · exact Sp.jmp (l0 := [some (.ref 10), some (.ref 30), none, none, some (.ref a3), some (.int (f_Linker_offsetOf (x5.1 a3 6) x5)), some (.int x63.1)]) ⟨rfl, rfl, rfl, rfl, rfl, trivial⟩ (fun _ _ h => h)
      · refine Sp.step rfl rfl rfl rfl ?_
        refine Sp.step rfl rfl rfl rfl ?_
        refine Sp.if2 rfl rfl rfl rfl (fun e66 => ?_) (fun e66 => ?_)
        · exact Sp.jmp (l0 := [some (.ref 10), some (.ref 30), none, none, some (.ref a3), some (.int (f_Linker_offsetOf (x5.1 a3 6) x5)), some (.int x63.1)]) ⟨rfl, rfl, rfl, rfl, rfl, trivial⟩ (fun _ _ h => h)
        · refine Sp.step rfl rfl rfl rfl ?_
          refine Sp.step rfl rfl rfl rfl ?_
          refine Sp.step rfl rfl rfl rfl ?_
          refine Sp.step rfl rfl rfl (xg_D (c := 7) (f := 10) rfl rfl e64 rfl (fxP_big (dyn_of (c := 7) e64 rfl))) ?_
          refine Sp.ocrn (fun a67 e68 => ?_)
          refine Sp.step rfl rfl rfl rfl ?_
          refine Sp.ocn (fun n69 e70 => ?_)
          refine Sp.guard (fun e71 => ?_)
          refine Sp.step rfl rfl rfl (xld (xL_ok e70) (by decide) e71) ?_
          refine Sp.callS rfl rfl rfl (xrecv (c := 3) (by decide) rfl (by decide +kernel)) s_Linker_offsetOf ⟨rfl, rfl⟩ ?_
          refine Sp.id (pc := 149) (l := [some (.ref 10), some (.ref 30), none, none, some (.ref a3), some (.int (f_Linker_offsetOf (x5.1 a3 6) x5)), some (.int x63.1)]) (st := [.int (f_Linker_offsetOf (x63.2.1 a67 x63.1.toNatClampNeg) x63.2), .ref 30]) (h := hS x63.2 M) ?_
          refine Sp.call rfl rfl rfl (xrecv (c := 2) (by decide) rfl (by decide +kernel)) s_Image_putTwo_30 (fun x72 => ⟨_, _, ⟨rfl, rfl⟩, ?_⟩)
          refine Sp.id (pc := 152) (l := [some (.ref 10), some (.ref 30), none, none, some (.ref a3), some (.int (f_Linker_offsetOf (x5.1 a3 6) x5)), some (.int x63.1)]) (st := []) (h := hS x72 M) ?_
          refine Sp.step rfl rfl rfl rfl ?_
          refine Sp.step rfl rfl rfl rfl ?_
          refine Sp.step rfl rfl rfl rfl ?_
          refine Sp.guard (fun e73 => ?_)
          refine Sp.step rfl rfl rfl (xg_D (c := 7) (f := 11) rfl rfl e73 rfl (fxP_big (dyn_of (c := 7) e73 rfl))) ?_
          refine Sp.ocrn (fun a74 e75 => ?_)
          refine Sp.step rfl rfl rfl rfl ?_
          refine Sp.ocn (fun n76 e77 => ?_)
          refine Sp.guard (fun e78 => ?_)
          refine Sp.step rfl rfl rfl (xld (xL_ok e77) (by decide) e78) ?_
          refine Sp.callS rfl rfl rfl (xrecv (c := 3) (by decide) rfl (by decide +kernel)) s_Linker_offsetOf ⟨rfl, rfl⟩ ?_
          refine Sp.id (pc := 165) (l := [some (.ref 10), some (.ref 30), none, none, some (.ref a3), some (.int (f_Linker_offsetOf (x5.1 a3 6) x5)), some (.int x63.1)]) (st := [.int (f_Linker_offsetOf (x72.1 a74 x63.1.toNatClampNeg) x72), .ref 30]) (h := hS x72 M) ?_
          refine Sp.call rfl rfl rfl (xrecv (c := 2) (by decide) rfl (by decide +kernel)) s_Image_putTwo_30 (fun x79 => ⟨_, _, ⟨rfl, rfl⟩, ?_⟩)
          refine Sp.id (pc := 168) (l := [some (.ref 10), some (.ref 30), none, none, some (.ref a3), some (.int (f_Linker_offsetOf (x5.1 a3 6) x5)), some (.int x63.1)]) (st := []) (h := hS x79 M) ?_
          refine Sp.step rfl rfl rfl rfl ?_
          refine Sp.step rfl rfl rfl rfl ?_
          refine Sp.step rfl rfl rfl rfl ?_
          refine Sp.guard (fun e80 => ?_)
          refine Sp.step rfl rfl rfl (xg_D (c := 7) (f := 12) rfl rfl e80 rfl (fxP_big (dyn_of (c := 7) e80 rfl))) ?_
          refine Sp.ocrn (fun a81 e82 => ?_)
          refine Sp.step rfl rfl rfl rfl ?_
          refine Sp.ocn (fun n83 e84 => ?_)
          refine Sp.guard (fun e85 => ?_)
          refine Sp.step rfl rfl rfl (xld (xL_ok e84) (by decide) e85) ?_
          refine Sp.callS rfl rfl rfl (xrecv (c := 3) (by decide) rfl (by decide +kernel)) s_Linker_offsetOf ⟨rfl, rfl⟩ ?_
          refine Sp.id (pc := 181) (l := [some (.ref 10), some (.ref 30), none, none, some (.ref a3), some (.int (f_Linker_offsetOf (x5.1 a3 6) x5)), some (.int x63.1)]) (st := [.int (f_Linker_offsetOf (x79.1 a81 x63.1.toNatClampNeg) x79), .ref 30]) (h := hS x79 M) ?_
          refine Sp.call rfl rfl rfl (xrecv (c := 2) (by decide) rfl (by decide +kernel)) s_Image_putTwo_30 (fun x86 => ⟨_, _, ⟨rfl, rfl⟩, ?_⟩)
          refine Sp.id (pc := 184) (l := [some (.ref 10), some (.ref 30), none, none, some (.ref a3), some (.int (f_Linker_offsetOf (x5.1 a3 6) x5)), some (.int x63.1)]) (st := []) (h := hS x86 M) ?_
          refine Sp.step rfl rfl rfl rfl ?_
          refine Sp.step rfl rfl rfl rfl ?_
          refine Sp.guard (fun e87 => ?_)
          refine Sp.step rfl rfl rfl (xg_D (c := 7) (f := 13) rfl rfl e87 rfl (fxP_big (dyn_of (c := 7) e87 rfl))) ?_
          refine Sp.ocrn (fun a88 e89 => ?_)
          refine Sp.step rfl rfl rfl rfl ?_
          refine Sp.ocn (fun n90 e91 => ?_)
          refine Sp.guard (fun e92 => ?_)
          refine Sp.step rfl rfl rfl (xld (xL_ok e91) (by decide) e92) ?_
          refine Sp.if1 rfl rfl rfl rfl (fun e93 => ?_) (fun e93 => ?_)
          · refine Sp.step rfl rfl rfl rfl ?_
            refine Sp.step rfl rfl rfl (xg_F (c := 3) (f := 1) rfl rfl rfl rfl rfl) ?_
            refine Sp.step rfl rfl rfl rfl ?_
            refine Sp.step rfl rfl rfl (xg_D (c := 7) (f := 13) rfl rfl e87 rfl (fxP_big (dyn_of (c := 7) e87 rfl))) ?_
            refine Sp.ocrn (fun a94 e95 => ?_)
            refine Sp.step rfl rfl rfl rfl ?_
            refine Sp.ocn (fun n96 e97 => ?_)
            refine Sp.guard (fun e98 => ?_)
            refine Sp.step rfl rfl rfl (xld (xL_ok e97) (by decide) e98) ?_
            refine Sp.callS rfl rfl rfl (xrecv (c := 6) (by decide) rfl (by decide +kernel)) s_Reach_newKind ⟨rfl, rfl⟩ ?_
            refine Sp.id (pc := 226) (l := [some (.ref 10), some (.ref 30), none, none, some (.ref a3), some (.int (f_Linker_offsetOf (x5.1 a3 6) x5)), some (.int x63.1)]) (st := [.int (f_Reach_newKind (x86.1 a94 x63.1.toNatClampNeg) x86), .ref 30]) (h := hS x86 M) ?_
            refine Sp.call rfl rfl rfl (xrecv (c := 2) (by decide) rfl (by decide +kernel)) s_Image_put_30 (fun x99 => ⟨_, _, ⟨rfl, rfl⟩, ?_⟩)
            refine Sp.id (pc := 229) (l := [some (.ref 10), some (.ref 30), none, none, some (.ref a3), some (.int (f_Linker_offsetOf (x5.1 a3 6) x5)), some (.int x63.1)]) (st := [.int (if x99.1 = true then 1 else 0)]) (h := hS x99.2 M) ?_
            refine Sp.step rfl rfl rfl rfl ?_
            refine Sp.step rfl rfl rfl rfl ?_
            refine Sp.step rfl rfl rfl rfl ?_
            exact Sp.jmp (l0 := [some (.ref 10), some (.ref 30), none, none, some (.ref a3), some (.int (f_Linker_offsetOf (x5.1 a3 6) x5)), some (.int (x63.1 + 1))]) ⟨rfl, rfl, rfl, rfl, rfl, trivial⟩ (fun _ _ h => h)
          · refine Sp.step rfl rfl rfl rfl ?_
            refine Sp.step rfl rfl rfl rfl ?_
            refine Sp.step rfl rfl rfl (xg_D (c := 7) (f := 13) rfl rfl e87 rfl (fxP_big (dyn_of (c := 7) e87 rfl))) ?_
            refine Sp.ocrn (fun a100 e101 => ?_)
            refine Sp.step rfl rfl rfl rfl ?_
            refine Sp.ocn (fun n102 e103 => ?_)
            refine Sp.guard (fun e104 => ?_)
            refine Sp.step rfl rfl rfl (xld (xL_ok e103) (by decide) e104) ?_
            refine Sp.step rfl rfl rfl rfl ?_
            refine Sp.step rfl rfl rfl rfl ?_
            refine Sp.call rfl rfl rfl (xrecv (c := 2) (by decide) rfl (by decide +kernel)) s_Image_put_30 (fun x105 => ⟨_, _, ⟨rfl, rfl⟩, ?_⟩)
            refine Sp.id (pc := 229) (l := [some (.ref 10), some (.ref 30), none, none, some (.ref a3), some (.int (f_Linker_offsetOf (x5.1 a3 6) x5)), some (.int x63.1)]) (st := [.int (if x105.1 = true then 1 else 0)]) (h := hS x105.2 M) ?_
            refine Sp.step rfl rfl rfl rfl ?_
            refine Sp.step rfl rfl rfl rfl ?_
            refine Sp.step rfl rfl rfl rfl ?_
            exact Sp.jmp (l0 := [some (.ref 10), some (.ref 30), none, none, some (.ref a3), some (.int (f_Linker_offsetOf (x5.1 a3 6) x5)), some (.int (x63.1 + 1))]) ⟨rfl, rfl, rfl, rfl, rfl, trivial⟩ (fun _ _ h => h)
    · refine Sp.step rfl rfl rfl rfl ?_
      exact Sp.iret rfl rfl rfl rfl (fun _ _ h => h)
  · refine Sp.id (pc := 8) (l := [some (.ref 10), some (.ref 30), some (.int x), some (.int y), none, none, none]) (st := [.int 0]) (h := hS X M) ?_
    refine Sp.step rfl rfl rfl rfl ?_
    refine Sp.step rfl rfl rfl rfl ?_
    exact Sp.iret rfl rfl rfl rfl (fun _ _ h => h)
def f_P_jumps (x : Int32) : Bool := (if 19 ≤ x ∧ x ≤ 25 then true else false)
set_option maxRecDepth 100000 in
set_option maxHeartbeats 4000000 in
theorem s_P_jumps {L : Nat} {xs : Nat → Int32} {X : XS} {M : MS} {x : Int32} : Sp (mjOO L xs) 18 0 [some (.int x)] [] (hS X M) (some (f_P_jumps x)) (KB (hS X M)) := by
  unfold f_P_jumps
  refine Sp.step rfl rfl rfl rfl ?_
  refine Sp.step rfl rfl rfl rfl ?_
  refine Sp.step rfl rfl rfl rfl ?_
  refine Sp.callPV rfl rfl rfl rfl s_within (fun e1 => ?_) (fun e1 => ?_)
  · refine Sp.id (pc := 8) (l := [some (.int x)]) (st := [.int 1]) (h := hS X M) ?_
    exact Sp.iret rfl rfl rfl rfl (fun _ _ h => h)
  · refine Sp.id (pc := 8) (l := [some (.int x)]) (st := [.int 0]) (h := hS X M) ?_
    exact Sp.iret rfl rfl rfl rfl (fun _ _ h => h)
def f_Source_fieldNumber (x : Int32) (y : Int32) (X : XS) : Int32 := (if x = 27 then (f_Source_allInts (f_Source_above (f_Source_fieldKind y X) X) X) + (y - y / 8 * 8) else (if ¬ x = 28 then (f_Source_allRefs (f_Source_above (f_Source_fieldKind y X) X) X) + (y - y / 8 * 8) else (f_Source_allInts (f_Source_above (f_Source_fieldKind y X) X) X) + (y - y / 8 * 8)))
set_option maxRecDepth 100000 in
set_option maxHeartbeats 4000000 in
theorem s_Source_fieldNumber {L : Nat} {xs : Nat → Int32} {X : XS} {M : MS} {x : Int32} {y : Int32} : Sp (mjOO L xs) 280 0 [some (.ref 1), some (.int x), some (.int y), none, none] [] (hS X M) (some (f_Source_fieldNumber x y X)) (KQ (hS X M)) := by
  unfold f_Source_fieldNumber
  refine Sp.step rfl rfl rfl rfl ?_
  refine Sp.step rfl rfl rfl rfl ?_
  refine Sp.step rfl rfl rfl rfl ?_
  refine Sp.callS rfl rfl rfl (xrecv (c := 8) (by decide) rfl (by decide +kernel)) s_Source_fieldKind ⟨rfl, rfl⟩ ?_
  refine Sp.id (pc := 6) (l := [some (.ref 1), some (.int x), some (.int y), none, none]) (st := [.int (f_Source_fieldKind y X), .ref 1]) (h := hS X M) ?_
  refine Sp.callS rfl rfl rfl (xrecv (c := 8) (by decide) rfl (by decide +kernel)) s_Source_above ⟨rfl, rfl⟩ ?_
  refine Sp.id (pc := 9) (l := [some (.ref 1), some (.int x), some (.int y), none, none]) (st := [.int (f_Source_above (f_Source_fieldKind y X) X)]) (h := hS X M) ?_
  refine Sp.step rfl rfl rfl rfl ?_
  refine Sp.step rfl rfl rfl rfl ?_
  refine Sp.step rfl rfl rfl rfl ?_
  refine Sp.if2V rfl rfl rfl rfl (fun e1 => ?_) (fun e1 => ?_)
  · refine Sp.step rfl rfl rfl rfl ?_
    refine Sp.step rfl rfl rfl rfl ?_
    refine Sp.callS rfl rfl rfl (xrecv (c := 8) (by decide) rfl (by decide +kernel)) s_Source_allInts ⟨rfl, rfl⟩ ?_
    refine Sp.id (pc := 27) (l := [some (.ref 1), some (.int x), some (.int y), some (.int (f_Source_above (f_Source_fieldKind y X) X)), none]) (st := [.int (f_Source_allInts (f_Source_above (f_Source_fieldKind y X) X) X)]) (h := hS X M) ?_
    refine Sp.step rfl rfl rfl rfl ?_
    refine Sp.step rfl rfl rfl rfl ?_
    refine Sp.step rfl rfl rfl rfl ?_
    refine Sp.step rfl rfl rfl rfl ?_
    refine Sp.step rfl rfl rfl rfl ?_
    refine Sp.step rfl rfl rfl (go_div (by decide)) ?_
    refine Sp.step rfl rfl rfl rfl ?_
    exact Sp.iret rfl rfl rfl rfl (fun _ _ h => h)
  · refine Sp.step rfl rfl rfl rfl ?_
    refine Sp.step rfl rfl rfl rfl ?_
    refine Sp.if2V rfl rfl rfl rfl (fun e2 => ?_) (fun e2 => ?_)
    · refine Sp.step rfl rfl rfl rfl ?_
      refine Sp.step rfl rfl rfl rfl ?_
      refine Sp.callS rfl rfl rfl (xrecv (c := 8) (by decide) rfl (by decide +kernel)) s_Source_allRefs ⟨rfl, rfl⟩ ?_
      refine Sp.id (pc := 35) (l := [some (.ref 1), some (.int x), some (.int y), some (.int (f_Source_above (f_Source_fieldKind y X) X)), none]) (st := [.int (f_Source_allRefs (f_Source_above (f_Source_fieldKind y X) X) X)]) (h := hS X M) ?_
      refine Sp.step rfl rfl rfl rfl ?_
      refine Sp.step rfl rfl rfl rfl ?_
      refine Sp.step rfl rfl rfl rfl ?_
      refine Sp.step rfl rfl rfl rfl ?_
      refine Sp.step rfl rfl rfl (go_div (by decide)) ?_
      refine Sp.step rfl rfl rfl rfl ?_
      exact Sp.iret rfl rfl rfl rfl (fun _ _ h => h)
    · refine Sp.step rfl rfl rfl rfl ?_
      refine Sp.step rfl rfl rfl rfl ?_
      refine Sp.callS rfl rfl rfl (xrecv (c := 8) (by decide) rfl (by decide +kernel)) s_Source_allInts ⟨rfl, rfl⟩ ?_
      refine Sp.id (pc := 27) (l := [some (.ref 1), some (.int x), some (.int y), some (.int (f_Source_above (f_Source_fieldKind y X) X)), none]) (st := [.int (f_Source_allInts (f_Source_above (f_Source_fieldKind y X) X) X)]) (h := hS X M) ?_
      refine Sp.step rfl rfl rfl rfl ?_
      refine Sp.step rfl rfl rfl rfl ?_
      refine Sp.step rfl rfl rfl rfl ?_
      refine Sp.step rfl rfl rfl rfl ?_
      refine Sp.step rfl rfl rfl rfl ?_
      refine Sp.step rfl rfl rfl (go_div (by decide)) ?_
      refine Sp.step rfl rfl rfl rfl ?_
      exact Sp.iret rfl rfl rfl rfl (fun _ _ h => h)
def f_Linker_writeInstruction_30 (x : Int32) (y : Int32) (X : XS) : Option XS := ((f_Image_put_30 (f_Linker_writtenOp x y) X).bind fun x1 => (if f_P_jumps x = true then ((f_Image_putTwo_30 (f_Linker_offsetOf y x1.2) x1.2).bind fun x4 => some x4) else (if f_P_usesField x = true then ((f_Image_put_30 (f_Reach_newKind (f_Source_fieldKind y x1.2) x1.2) x1.2).bind fun x8 => ((f_Image_put_30 (f_Source_fieldNumber x y x8.2) x8.2).bind fun x9 => some x9.2)) else (if ¬ f_Linker_writtenOp x y = 61 then (if x = 26 then ((f_Image_put_30 (f_Reach_newKind y x1.2) x1.2).bind fun x13 => some x13.2) else (if ¬ x = 44 then (if ¬ x = 38 then (if ¬ f_P_bytesOf x = 2 then some x1.2 else ((f_Image_put_30 y x1.2).bind fun x17 => some x17.2)) else ((f_Image_put_30 (f_Reach_newRoutine y x1.2) x1.2).bind fun x18 => some x18.2)) else ((f_Image_put_30 (f_Reach_newKind y x1.2) x1.2).bind fun x19 => some x19.2))) else ((f_Image_putTwo_30 y x1.2).bind fun x20 => some x20)))))
set_option maxRecDepth 100000 in
set_option maxHeartbeats 4000000 in
theorem s_Linker_writeInstruction_30 {L : Nat} {xs : Nat → Int32} {X : XS} {M : MS} {x : Int32} {y : Int32} : Sp (mjOO L xs) 192 0 [some (.ref 10), some (.ref 30), some (.int x), some (.int y), none] [] (hS X M) (f_Linker_writeInstruction_30 x y X) (KVX M) := by
  unfold f_Linker_writeInstruction_30
  refine Sp.step rfl rfl rfl rfl ?_
  refine Sp.step rfl rfl rfl rfl ?_
  refine Sp.step rfl rfl rfl rfl ?_
  refine Sp.callS rfl rfl rfl (xrecv (c := 3) (by decide) rfl (by decide +kernel)) s_Linker_writtenOp ⟨rfl, rfl⟩ ?_
  refine Sp.id (pc := 6) (l := [some (.ref 10), some (.ref 30), some (.int x), some (.int y), none]) (st := [.int (f_Linker_writtenOp x y)]) (h := hS X M) ?_
  refine Sp.step rfl rfl rfl rfl ?_
  refine Sp.step rfl rfl rfl rfl ?_
  refine Sp.step rfl rfl rfl rfl ?_
  refine Sp.call rfl rfl rfl (xrecv (c := 2) (by decide) rfl (by decide +kernel)) s_Image_put_30 (fun x1 => ⟨_, _, ⟨rfl, rfl⟩, ?_⟩)
  refine Sp.id (pc := 14) (l := [some (.ref 10), some (.ref 30), some (.int x), some (.int y), some (.int (f_Linker_writtenOp x y))]) (st := [.int (if x1.1 = true then 1 else 0)]) (h := hS x1.2 M) ?_
  refine Sp.step rfl rfl rfl rfl ?_
  refine Sp.step rfl rfl rfl rfl ?_
  refine Sp.callS rfl rfl rfl rfl s_P_jumps ⟨rfl, rfl⟩ ?_
  refine Sp.bool (fun e2 => ?_) (fun e2 => ?_)
  · refine Sp.id (pc := 19) (l := [some (.ref 10), some (.ref 30), some (.int x), some (.int y), some (.int (f_Linker_writtenOp x y))]) (st := [.int 1]) (h := hS x1.2 M) ?_
    refine Sp.step rfl rfl rfl rfl ?_
    refine Sp.step rfl rfl rfl rfl ?_
    refine Sp.step rfl rfl rfl rfl ?_
    refine Sp.step rfl rfl rfl rfl ?_
    refine Sp.callS rfl rfl rfl (xrecv (c := 3) (by decide) rfl (by decide +kernel)) s_Linker_offsetOf ⟨rfl, rfl⟩ ?_
    refine Sp.id (pc := 28) (l := [some (.ref 10), some (.ref 30), some (.int x), some (.int y), some (.int (f_Linker_writtenOp x y))]) (st := [.int (f_Linker_offsetOf y x1.2), .ref 30]) (h := hS x1.2 M) ?_
    refine Sp.call rfl rfl rfl (xrecv (c := 2) (by decide) rfl (by decide +kernel)) s_Image_putTwo_30 (fun x4 => ⟨_, _, ⟨rfl, rfl⟩, ?_⟩)
    refine Sp.id (pc := 31) (l := [some (.ref 10), some (.ref 30), some (.int x), some (.int y), some (.int (f_Linker_writtenOp x y))]) (st := []) (h := hS x4 M) ?_
    refine Sp.step rfl rfl rfl rfl ?_
    exact Sp.vret rfl rfl rfl (fun _ _ h => h)
  · refine Sp.id (pc := 19) (l := [some (.ref 10), some (.ref 30), some (.int x), some (.int y), some (.int (f_Linker_writtenOp x y))]) (st := [.int 0]) (h := hS x1.2 M) ?_
    refine Sp.step rfl rfl rfl rfl ?_
    refine Sp.step rfl rfl rfl rfl ?_
    refine Sp.callS rfl rfl rfl rfl s_P_usesField ⟨rfl, rfl⟩ ?_
    refine Sp.bool (fun e6 => ?_) (fun e6 => ?_)
    · refine Sp.id (pc := 38) (l := [some (.ref 10), some (.ref 30), some (.int x), some (.int y), some (.int (f_Linker_writtenOp x y))]) (st := [.int 1]) (h := hS x1.2 M) ?_
      refine Sp.step rfl rfl rfl rfl ?_
      refine Sp.step rfl rfl rfl rfl ?_
      refine Sp.step rfl rfl rfl rfl ?_
      refine Sp.step rfl rfl rfl (xg_F (c := 3) (f := 1) rfl rfl rfl rfl rfl) ?_
      refine Sp.step rfl rfl rfl rfl ?_
      refine Sp.step rfl rfl rfl (xg_F (c := 3) (f := 0) rfl rfl rfl rfl rfl) ?_
      refine Sp.step rfl rfl rfl rfl ?_
      refine Sp.callS rfl rfl rfl (xrecv (c := 8) (by decide) rfl (by decide +kernel)) s_Source_fieldKind ⟨rfl, rfl⟩ ?_
      refine Sp.id (pc := 54) (l := [some (.ref 10), some (.ref 30), some (.int x), some (.int y), some (.int (f_Linker_writtenOp x y))]) (st := [.int (f_Source_fieldKind y x1.2), .ref 14, .ref 30]) (h := hS x1.2 M) ?_
      refine Sp.callS rfl rfl rfl (xrecv (c := 6) (by decide) rfl (by decide +kernel)) s_Reach_newKind ⟨rfl, rfl⟩ ?_
      refine Sp.id (pc := 57) (l := [some (.ref 10), some (.ref 30), some (.int x), some (.int y), some (.int (f_Linker_writtenOp x y))]) (st := [.int (f_Reach_newKind (f_Source_fieldKind y x1.2) x1.2), .ref 30]) (h := hS x1.2 M) ?_
      refine Sp.call rfl rfl rfl (xrecv (c := 2) (by decide) rfl (by decide +kernel)) s_Image_put_30 (fun x8 => ⟨_, _, ⟨rfl, rfl⟩, ?_⟩)
      refine Sp.id (pc := 60) (l := [some (.ref 10), some (.ref 30), some (.int x), some (.int y), some (.int (f_Linker_writtenOp x y))]) (st := [.int (if x8.1 = true then 1 else 0)]) (h := hS x8.2 M) ?_
      refine Sp.step rfl rfl rfl rfl ?_
      refine Sp.step rfl rfl rfl rfl ?_
      refine Sp.step rfl rfl rfl rfl ?_
      refine Sp.step rfl rfl rfl (xg_F (c := 3) (f := 0) rfl rfl rfl rfl rfl) ?_
      refine Sp.step rfl rfl rfl rfl ?_
      refine Sp.step rfl rfl rfl rfl ?_
      refine Sp.callS rfl rfl rfl (xrecv (c := 8) (by decide) rfl (by decide +kernel)) s_Source_fieldNumber ⟨rfl, rfl⟩ ?_
      refine Sp.id (pc := 71) (l := [some (.ref 10), some (.ref 30), some (.int x), some (.int y), some (.int (f_Linker_writtenOp x y))]) (st := [.int (f_Source_fieldNumber x y x8.2), .ref 30]) (h := hS x8.2 M) ?_
      refine Sp.call rfl rfl rfl (xrecv (c := 2) (by decide) rfl (by decide +kernel)) s_Image_put_30 (fun x9 => ⟨_, _, ⟨rfl, rfl⟩, ?_⟩)
      refine Sp.id (pc := 74) (l := [some (.ref 10), some (.ref 30), some (.int x), some (.int y), some (.int (f_Linker_writtenOp x y))]) (st := [.int (if x9.1 = true then 1 else 0)]) (h := hS x9.2 M) ?_
      refine Sp.step rfl rfl rfl rfl ?_
      refine Sp.step rfl rfl rfl rfl ?_
      exact Sp.vret rfl rfl rfl (fun _ _ h => h)
    · refine Sp.id (pc := 38) (l := [some (.ref 10), some (.ref 30), some (.int x), some (.int y), some (.int (f_Linker_writtenOp x y))]) (st := [.int 0]) (h := hS x1.2 M) ?_
      refine Sp.step rfl rfl rfl rfl ?_
      refine Sp.step rfl rfl rfl rfl ?_
      refine Sp.step rfl rfl rfl rfl ?_
      refine Sp.if2 rfl rfl rfl rfl (fun e11 => ?_) (fun e11 => ?_)
      · refine Sp.step rfl rfl rfl rfl ?_
        refine Sp.step rfl rfl rfl rfl ?_
        refine Sp.if2 rfl rfl rfl rfl (fun e12 => ?_) (fun e12 => ?_)
        · refine Sp.step rfl rfl rfl rfl ?_
          refine Sp.step rfl rfl rfl rfl ?_
          refine Sp.step rfl rfl rfl (xg_F (c := 3) (f := 1) rfl rfl rfl rfl rfl) ?_
          refine Sp.step rfl rfl rfl rfl ?_
          refine Sp.callS rfl rfl rfl (xrecv (c := 6) (by decide) rfl (by decide +kernel)) s_Reach_newKind ⟨rfl, rfl⟩ ?_
          refine Sp.id (pc := 114) (l := [some (.ref 10), some (.ref 30), some (.int x), some (.int y), some (.int (f_Linker_writtenOp x y))]) (st := [.int (f_Reach_newKind y x1.2), .ref 30]) (h := hS x1.2 M) ?_
          refine Sp.call rfl rfl rfl (xrecv (c := 2) (by decide) rfl (by decide +kernel)) s_Image_put_30 (fun x13 => ⟨_, _, ⟨rfl, rfl⟩, ?_⟩)
          refine Sp.id (pc := 117) (l := [some (.ref 10), some (.ref 30), some (.int x), some (.int y), some (.int (f_Linker_writtenOp x y))]) (st := [.int (if x13.1 = true then 1 else 0)]) (h := hS x13.2 M) ?_
          refine Sp.step rfl rfl rfl rfl ?_
          refine Sp.step rfl rfl rfl rfl ?_
          exact Sp.vret rfl rfl rfl (fun _ _ h => h)
        · refine Sp.step rfl rfl rfl rfl ?_
          refine Sp.step rfl rfl rfl rfl ?_
          refine Sp.if2 rfl rfl rfl rfl (fun e14 => ?_) (fun e14 => ?_)
          · refine Sp.step rfl rfl rfl rfl ?_
            refine Sp.step rfl rfl rfl rfl ?_
            refine Sp.if2 rfl rfl rfl rfl (fun e15 => ?_) (fun e15 => ?_)
            · refine Sp.step rfl rfl rfl rfl ?_
              refine Sp.callS rfl rfl rfl rfl s_P_bytesOf ⟨rfl, rfl⟩ ?_
              refine Sp.id (pc := 147) (l := [some (.ref 10), some (.ref 30), some (.int x), some (.int y), some (.int (f_Linker_writtenOp x y))]) (st := [.int (f_P_bytesOf x)]) (h := hS x1.2 M) ?_
              refine Sp.step rfl rfl rfl rfl ?_
              refine Sp.if2 rfl rfl rfl rfl (fun e16 => ?_) (fun e16 => ?_)
              · exact Sp.vret rfl rfl rfl (fun _ _ h => h)
              · refine Sp.step rfl rfl rfl rfl ?_
                refine Sp.step rfl rfl rfl rfl ?_
                refine Sp.call rfl rfl rfl (xrecv (c := 2) (by decide) rfl (by decide +kernel)) s_Image_put_30 (fun x17 => ⟨_, _, ⟨rfl, rfl⟩, ?_⟩)
                refine Sp.id (pc := 156) (l := [some (.ref 10), some (.ref 30), some (.int x), some (.int y), some (.int (f_Linker_writtenOp x y))]) (st := [.int (if x17.1 = true then 1 else 0)]) (h := hS x17.2 M) ?_
                refine Sp.step rfl rfl rfl rfl ?_
                exact Sp.vret rfl rfl rfl (fun _ _ h => h)
            · refine Sp.step rfl rfl rfl rfl ?_
              refine Sp.step rfl rfl rfl rfl ?_
              refine Sp.step rfl rfl rfl (xg_F (c := 3) (f := 1) rfl rfl rfl rfl rfl) ?_
              refine Sp.step rfl rfl rfl rfl ?_
              refine Sp.callS rfl rfl rfl (xrecv (c := 6) (by decide) rfl (by decide +kernel)) s_Reach_newRoutine ⟨rfl, rfl⟩ ?_
              refine Sp.id (pc := 136) (l := [some (.ref 10), some (.ref 30), some (.int x), some (.int y), some (.int (f_Linker_writtenOp x y))]) (st := [.int (f_Reach_newRoutine y x1.2), .ref 30]) (h := hS x1.2 M) ?_
              refine Sp.call rfl rfl rfl (xrecv (c := 2) (by decide) rfl (by decide +kernel)) s_Image_put_30 (fun x18 => ⟨_, _, ⟨rfl, rfl⟩, ?_⟩)
              refine Sp.id (pc := 139) (l := [some (.ref 10), some (.ref 30), some (.int x), some (.int y), some (.int (f_Linker_writtenOp x y))]) (st := [.int (if x18.1 = true then 1 else 0)]) (h := hS x18.2 M) ?_
              refine Sp.step rfl rfl rfl rfl ?_
              refine Sp.step rfl rfl rfl rfl ?_
              exact Sp.vret rfl rfl rfl (fun _ _ h => h)
          · refine Sp.step rfl rfl rfl rfl ?_
            refine Sp.step rfl rfl rfl rfl ?_
            refine Sp.step rfl rfl rfl (xg_F (c := 3) (f := 1) rfl rfl rfl rfl rfl) ?_
            refine Sp.step rfl rfl rfl rfl ?_
            refine Sp.callS rfl rfl rfl (xrecv (c := 6) (by decide) rfl (by decide +kernel)) s_Reach_newKind ⟨rfl, rfl⟩ ?_
            refine Sp.id (pc := 114) (l := [some (.ref 10), some (.ref 30), some (.int x), some (.int y), some (.int (f_Linker_writtenOp x y))]) (st := [.int (f_Reach_newKind y x1.2), .ref 30]) (h := hS x1.2 M) ?_
            refine Sp.call rfl rfl rfl (xrecv (c := 2) (by decide) rfl (by decide +kernel)) s_Image_put_30 (fun x19 => ⟨_, _, ⟨rfl, rfl⟩, ?_⟩)
            refine Sp.id (pc := 117) (l := [some (.ref 10), some (.ref 30), some (.int x), some (.int y), some (.int (f_Linker_writtenOp x y))]) (st := [.int (if x19.1 = true then 1 else 0)]) (h := hS x19.2 M) ?_
            refine Sp.step rfl rfl rfl rfl ?_
            refine Sp.step rfl rfl rfl rfl ?_
            exact Sp.vret rfl rfl rfl (fun _ _ h => h)
      · refine Sp.step rfl rfl rfl rfl ?_
        refine Sp.step rfl rfl rfl rfl ?_
        refine Sp.call rfl rfl rfl (xrecv (c := 2) (by decide) rfl (by decide +kernel)) s_Image_putTwo_30 (fun x20 => ⟨_, _, ⟨rfl, rfl⟩, ?_⟩)
        refine Sp.id (pc := 90) (l := [some (.ref 10), some (.ref 30), some (.int x), some (.int y), some (.int (f_Linker_writtenOp x y))]) (st := []) (h := hS x20 M) ?_
        refine Sp.step rfl rfl rfl rfl ?_
        exact Sp.vret rfl rfl rfl (fun _ _ h => h)
def b31_Linker_writeCode_30 (x : Int32) (a3 : Nat) (x26 : (Int32 × XS)) : Option ((Int32 × XS) ⊕ (Int32 × XS)) := (if (xT x26.2 a3 = some (12, 0)) then (if x26.2.1 a3 6 ≤ x26.1 then some (.inr (x26.1, x26.2)) else (if 60 ≤ x26.1 then some (.inr (x26.1, x26.2)) else ((f_Linker_wasSeen x x26.1 x26.2).bind fun x30 => (if x30 = true then (ocz (x26.2.2.1 a3 7) none (fun a33 => (ocz (xL x26.2 0 a33) none (fun n35 => (if ixo x26.1 n35 then (ocz (x26.2.2.1 a3 8) none (fun a38 => (ocz (xL x26.2 0 a38) none (fun n40 => (if ixo x26.1 n40 then ((f_Linker_writeInstruction_30 (x26.2.1 a33 x26.1.toNatClampNeg) (x26.2.1 a38 x26.1.toNatClampNeg) x26.2).bind fun x43 => some (.inl (x26.1 + 1, x43))) else none))))) else none))))) else ((f_Image_put_30 0 x26.2).bind fun x45 => some (.inl (x26.1 + 1, x45.2))))))) else none)
def f_Linker_writeCode_30 (x : Int32) (X : XS) : Option XS := (if f_Reach_hasRoutine x X = true then (ocz (X.2.1 2 x.toNatClampNeg) none (fun a3 => ((f_Linker_findOffsets a3 x X).bind fun x5 => ((lp (b31_Linker_writeCode_30 x a3) 10000 ((0 : Int32), x5)).bind fun x46 => some x46.2)))) else some X)
set_option maxRecDepth 100000 in
set_option maxHeartbeats 4000000 in
theorem s_Linker_writeCode_30 {L : Nat} {xs : Nat → Int32} {X : XS} {M : MS} {x : Int32} : Sp (mjOO L xs) 191 0 [some (.ref 10), some (.ref 30), some (.int x), none, none] [] (hS X M) (f_Linker_writeCode_30 x X) (KVX M) := by
  unfold f_Linker_writeCode_30
  refine Sp.step rfl rfl rfl rfl ?_
  refine Sp.step rfl rfl rfl (xg_F (c := 3) (f := 1) rfl rfl rfl rfl rfl) ?_
  refine Sp.step rfl rfl rfl rfl ?_
  refine Sp.callS rfl rfl rfl (xrecv (c := 6) (by decide) rfl (by decide +kernel)) s_Reach_hasRoutine ⟨rfl, rfl⟩ ?_
  refine Sp.bool (fun e1 => ?_) (fun e1 => ?_)
  · refine Sp.id (pc := 8) (l := [some (.ref 10), some (.ref 30), some (.int x), none, none]) (st := [.int 1]) (h := hS X M) ?_
    refine Sp.step rfl rfl rfl rfl ?_
    refine Sp.step rfl rfl rfl rfl ?_
    refine Sp.step rfl rfl rfl (xg_F (c := 3) (f := 0) rfl rfl rfl rfl rfl) ?_
    refine Sp.step rfl rfl rfl (xg_F (c := 8) (f := 0) rfl rfl rfl rfl rfl) ?_
    refine Sp.step rfl rfl rfl rfl ?_
    refine Sp.step rfl rfl rfl (xald (t := 3) rfl (by decide) (fun _ => rfl) (hasRoutine_ix e1)) ?_
    refine Sp.ocrn (fun a3 e4 => ?_)
    refine Sp.step rfl rfl rfl rfl ?_
    refine Sp.step rfl rfl rfl rfl ?_
    refine Sp.step rfl rfl rfl rfl ?_
    refine Sp.step rfl rfl rfl rfl ?_
    refine Sp.call rfl rfl rfl (xrecv (c := 3) (by decide) rfl (by decide +kernel)) s_Linker_findOffsets (fun x5 => ⟨_, _, ⟨rfl, rfl⟩, ?_⟩)
    refine Sp.id (pc := 28) (l := [some (.ref 10), some (.ref 30), some (.int x), some (.ref a3), none]) (st := []) (h := hS x5 M) ?_
    refine Sp.step rfl rfl rfl rfl ?_
    refine Sp.step rfl rfl rfl rfl ?_
    refine Sp.weak (l0 := [some (.ref 10), some (.ref 30), some (.int x), some (.ref a3), some (.int 0)]) ⟨rfl, rfl, rfl, rfl, rfl, trivial⟩ ?_
    refine Sp.loopX (pe := 91) (mf := (fun (x26 : (Int32 × XS)) => [some (.ref 10), some (.ref 30), some (.int x), some (.ref a3), some (.int x26.1)])) (hf := (fun (x26 : (Int32 × XS)) => hS x26.2 M)) (fun x26 => ?_) (fun x46 => ?_) _ _
    · unfold b31_Linker_writeCode_30
      refine Sp.step rfl rfl rfl rfl ?_
      refine Sp.step rfl rfl rfl rfl ?_
      refine Sp.guard (fun e27 => ?_)
      refine Sp.step rfl rfl rfl (xg_I (c := 7) (f := 6) rfl rfl e27 rfl) ?_
      refine Sp.if2 rfl rfl rfl rfl (fun e28 => ?_) (fun e28 => ?_)
      · exact Sp.jmp (l0 := [some (.ref 10), some (.ref 30), some (.int x), some (.ref a3), some (.int x26.1)]) ⟨rfl, rfl, rfl, rfl, rfl, trivial⟩ (fun _ _ h => h)
      · refine Sp.step rfl rfl rfl rfl ?_
        refine Sp.step rfl rfl rfl rfl ?_
        refine Sp.if2 rfl rfl rfl rfl (fun e29 => ?_) (fun e29 => ?_)
        · exact Sp.jmp (l0 := [some (.ref 10), some (.ref 30), some (.int x), some (.ref a3), some (.int x26.1)]) ⟨rfl, rfl, rfl, rfl, rfl, trivial⟩ (fun _ _ h => h)
        · refine Sp.step rfl rfl rfl rfl ?_
          refine Sp.step rfl rfl rfl rfl ?_
          refine Sp.step rfl rfl rfl rfl ?_
          refine Sp.call rfl rfl rfl (xrecv (c := 3) (by decide) rfl (by decide +kernel)) s_Linker_wasSeen (fun x30 => ⟨_, _, ⟨rfl, rfl⟩, ?_⟩)
          refine Sp.bool (fun e31 => ?_) (fun e31 => ?_)
          · refine Sp.id (pc := 54) (l := [some (.ref 10), some (.ref 30), some (.int x), some (.ref a3), some (.int x26.1)]) (st := [.int 1]) (h := hS x26.2 M) ?_
            refine Sp.step rfl rfl rfl rfl ?_
            refine Sp.step rfl rfl rfl rfl ?_
            refine Sp.step rfl rfl rfl rfl ?_
            refine Sp.step rfl rfl rfl rfl ?_
            refine Sp.step rfl rfl rfl (xg_D (c := 7) (f := 7) rfl rfl e27 rfl (fxP_big (dyn_of (c := 7) e27 rfl))) ?_
            refine Sp.ocrn (fun a33 e34 => ?_)
            refine Sp.step rfl rfl rfl rfl ?_
            refine Sp.ocn (fun n35 e36 => ?_)
            refine Sp.guard (fun e37 => ?_)
            refine Sp.step rfl rfl rfl (xld (xL_ok e36) (by decide) e37) ?_
            refine Sp.step rfl rfl rfl rfl ?_
            refine Sp.step rfl rfl rfl (xg_D (c := 7) (f := 8) rfl rfl e27 rfl (fxP_big (dyn_of (c := 7) e27 rfl))) ?_
            refine Sp.ocrn (fun a38 e39 => ?_)
            refine Sp.step rfl rfl rfl rfl ?_
            refine Sp.ocn (fun n40 e41 => ?_)
            refine Sp.guard (fun e42 => ?_)
            refine Sp.step rfl rfl rfl (xld (xL_ok e41) (by decide) e42) ?_
            refine Sp.call rfl rfl rfl (xrecv (c := 3) (by decide) rfl (by decide +kernel)) s_Linker_writeInstruction_30 (fun x43 => ⟨_, _, ⟨rfl, rfl⟩, ?_⟩)
            refine Sp.id (pc := 76) (l := [some (.ref 10), some (.ref 30), some (.int x), some (.ref a3), some (.int x26.1)]) (st := []) (h := hS x43 M) ?_
            refine Sp.step rfl rfl rfl rfl ?_
            refine Sp.step rfl rfl rfl rfl ?_
            refine Sp.step rfl rfl rfl rfl ?_
            exact Sp.jmp (l0 := [some (.ref 10), some (.ref 30), some (.int x), some (.ref a3), some (.int (x26.1 + 1))]) ⟨rfl, rfl, rfl, rfl, rfl, trivial⟩ (fun _ _ h => h)
          · refine Sp.id (pc := 54) (l := [some (.ref 10), some (.ref 30), some (.int x), some (.ref a3), some (.int x26.1)]) (st := [.int 0]) (h := hS x26.2 M) ?_
            refine Sp.step rfl rfl rfl rfl ?_
            refine Sp.step rfl rfl rfl rfl ?_
            refine Sp.step rfl rfl rfl rfl ?_
            refine Sp.call rfl rfl rfl (xrecv (c := 2) (by decide) rfl (by decide +kernel)) s_Image_put_30 (fun x45 => ⟨_, _, ⟨rfl, rfl⟩, ?_⟩)
            refine Sp.id (pc := 84) (l := [some (.ref 10), some (.ref 30), some (.int x), some (.ref a3), some (.int x26.1)]) (st := [.int (if x45.1 = true then 1 else 0)]) (h := hS x45.2 M) ?_
            refine Sp.step rfl rfl rfl rfl ?_
            refine Sp.step rfl rfl rfl rfl ?_
            refine Sp.step rfl rfl rfl rfl ?_
            exact Sp.jmp (l0 := [some (.ref 10), some (.ref 30), some (.int x), some (.ref a3), some (.int (x26.1 + 1))]) ⟨rfl, rfl, rfl, rfl, rfl, trivial⟩ (fun _ _ h => h)
    · exact Sp.vret rfl rfl rfl (fun _ _ h => h)
  · refine Sp.id (pc := 8) (l := [some (.ref 10), some (.ref 30), some (.int x), none, none]) (st := [.int 0]) (h := hS X M) ?_
    refine Sp.step rfl rfl rfl rfl ?_
    exact Sp.vret rfl rfl rfl (fun _ _ h => h)
def b4_Image_sum_30 (X : XS) (x1 : (Int32 × Int32)) : Option ((Int32 × Int32) ⊕ (Int32 × Int32)) := (if X.1 30 0 ≤ x1.2 then some (.inr (x1.1, x1.2)) else (ocz (X.2.1 30 2) none (fun a3 => (ocz (xL X 0 a3) none (fun n5 => (if Int32.ofNat n5 ≤ x1.2 then some (.inr (x1.1, x1.2)) else (if x1.2 = 7 then some (.inl (x1.1 + 0, x1.2 + 1)) else (if ¬ x1.2 = 8 then (ocz (X.2.1 30 2) none (fun a10 => (ocz (xL X 0 a10) none (fun n12 => (if ixo x1.2 n12 then some (.inl (x1.1 + (X.1 a10 x1.2.toNatClampNeg), x1.2 + 1)) else none))))) else some (.inl (x1.1 + 0, x1.2 + 1))))))))))
def f_Image_sum_30 (X : XS) : Option Int32 := ((lp (b4_Image_sum_30 X) 10000 ((0 : Int32), (0 : Int32))).bind fun x15 => some (x15.1 &&& 65535))
set_option maxRecDepth 100000 in
set_option maxHeartbeats 4000000 in
theorem s_Image_sum_30 {L : Nat} {xs : Nat → Int32} {X : XS} {M : MS} : Sp (mjOO L xs) 162 0 [some (.ref 30), none, none] [] (hS X M) (f_Image_sum_30 X) (KQ (hS X M)) := by
  unfold f_Image_sum_30
  refine Sp.step rfl rfl rfl rfl ?_
  refine Sp.step rfl rfl rfl rfl ?_
  refine Sp.step rfl rfl rfl rfl ?_
  refine Sp.step rfl rfl rfl rfl ?_
  refine Sp.weak (l0 := [some (.ref 30), some (.int 0), some (.int 0)]) ⟨rfl, rfl, rfl, trivial⟩ ?_
  refine Sp.loopX (pe := 52) (mf := (fun (x1 : (Int32 × Int32)) => [some (.ref 30), some (.int x1.1), some (.int x1.2)])) (hf := (fun (x1 : (Int32 × Int32)) => hS X M)) (fun x1 => ?_) (fun x15 => ?_) _ _
  · unfold b4_Image_sum_30
    refine Sp.step rfl rfl rfl rfl ?_
    refine Sp.step rfl rfl rfl rfl ?_
    refine Sp.step rfl rfl rfl (xg_I (c := 2) (f := 0) rfl rfl rfl rfl) ?_
    refine Sp.if2 rfl rfl rfl rfl (fun e2 => ?_) (fun e2 => ?_)
    · exact Sp.jmp (l0 := [some (.ref 30), some (.int x1.1), some (.int x1.2)]) ⟨rfl, rfl, rfl, trivial⟩ (fun _ _ h => h)
    · refine Sp.step rfl rfl rfl rfl ?_
      refine Sp.step rfl rfl rfl rfl ?_
      refine Sp.step rfl rfl rfl (xg_D (c := 2) (f := 2) rfl rfl rfl rfl rfl) ?_
      refine Sp.ocrn (fun a3 e4 => ?_)
      refine Sp.ocn (fun n5 e6 => ?_)
      refine Sp.step rfl rfl rfl (xlen (xL_ok e6) (by decide)) ?_
      refine Sp.if2 rfl rfl rfl rfl (fun e7 => ?_) (fun e7 => ?_)
      · exact Sp.jmp (l0 := [some (.ref 30), some (.int x1.1), some (.int x1.2)]) ⟨rfl, rfl, rfl, trivial⟩ (fun _ _ h => h)
      · refine Sp.step rfl rfl rfl rfl ?_
        refine Sp.step rfl rfl rfl rfl ?_
        refine Sp.step rfl rfl rfl rfl ?_
        refine Sp.if2 rfl rfl rfl rfl (fun e8 => ?_) (fun e8 => ?_)
        · refine Sp.step rfl rfl rfl rfl ?_
          refine Sp.step rfl rfl rfl rfl ?_
          refine Sp.step rfl rfl rfl rfl ?_
          refine Sp.step rfl rfl rfl rfl ?_
          refine Sp.step rfl rfl rfl rfl ?_
          refine Sp.step rfl rfl rfl rfl ?_
          exact Sp.jmp (l0 := [some (.ref 30), some (.int (x1.1 + 0)), some (.int (x1.2 + 1))]) ⟨rfl, rfl, rfl, trivial⟩ (fun _ _ h => h)
        · refine Sp.step rfl rfl rfl rfl ?_
          refine Sp.step rfl rfl rfl rfl ?_
          refine Sp.if2 rfl rfl rfl rfl (fun e9 => ?_) (fun e9 => ?_)
          · refine Sp.step rfl rfl rfl rfl ?_
            refine Sp.step rfl rfl rfl (xg_D (c := 2) (f := 2) rfl rfl rfl rfl rfl) ?_
            refine Sp.ocrn (fun a10 e11 => ?_)
            refine Sp.step rfl rfl rfl rfl ?_
            refine Sp.ocn (fun n12 e13 => ?_)
            refine Sp.guard (fun e14 => ?_)
            refine Sp.step rfl rfl rfl (xld (xL_ok e13) (by decide) e14) ?_
            refine Sp.step rfl rfl rfl rfl ?_
            refine Sp.step rfl rfl rfl rfl ?_
            refine Sp.step rfl rfl rfl rfl ?_
            refine Sp.step rfl rfl rfl rfl ?_
            exact Sp.jmp (l0 := [some (.ref 30), some (.int (x1.1 + (X.1 a10 x1.2.toNatClampNeg))), some (.int (x1.2 + 1))]) ⟨rfl, rfl, rfl, trivial⟩ (fun _ _ h => h)
          · refine Sp.step rfl rfl rfl rfl ?_
            refine Sp.step rfl rfl rfl rfl ?_
            refine Sp.step rfl rfl rfl rfl ?_
            refine Sp.step rfl rfl rfl rfl ?_
            refine Sp.step rfl rfl rfl rfl ?_
            refine Sp.step rfl rfl rfl rfl ?_
            exact Sp.jmp (l0 := [some (.ref 30), some (.int (x1.1 + 0)), some (.int (x1.2 + 1))]) ⟨rfl, rfl, rfl, trivial⟩ (fun _ _ h => h)
  · refine Sp.step rfl rfl rfl rfl ?_
    refine Sp.step rfl rfl rfl rfl ?_
    refine Sp.step rfl rfl rfl rfl ?_
    exact Sp.iret rfl rfl rfl rfl (fun _ _ h => h)
def f_Image_seal_30 (X : XS) : Option XS := (if X.1 30 0 < 9 then some X else (ocz (X.2.1 30 2) none (fun a2 => (ocz (xL X 0 a2) none (fun n4 => (if 9 ≤ Int32.ofNat n4 then (ocz (X.2.1 30 2) none (fun a7 => (ocz (xL X 0 a7) none (fun n9 => (if ixo 5 n9 then (lt (xw X a7 5 (((X.1 30 0 : Int32) >>> ((8 : Int32) &&& 31)) &&& 255)) fun X12 => (ocz (X12.2.1 30 2) none (fun a13 => (ocz (xL X12 0 a13) none (fun n15 => (if ixo 6 n15 then (lt (xw X12 a13 6 ((X12.1 30 0) &&& 255)) fun X18 => ((f_Image_sum_30 X18).bind fun x19 => (ocz (X18.2.1 30 2) none (fun a20 => (ocz (xL X18 0 a20) none (fun n22 => (if ixo 7 n22 then (lt (xw X18 a20 7 ((x19 : Int32) >>> ((8 : Int32) &&& 31))) fun X25 => (ocz (X25.2.1 30 2) none (fun a26 => (ocz (xL X25 0 a26) none (fun n28 => (if ixo 8 n28 then (lt (xw X25 a26 8 (x19 &&& 255)) fun X31 => some X31) else none)))))) else none))))))) else none)))))) else none))))) else some X))))))
set_option maxRecDepth 100000 in
set_option maxHeartbeats 4000000 in
theorem s_Image_seal_30 {L : Nat} {xs : Nat → Int32} {X : XS} {M : MS} : Sp (mjOO L xs) 161 0 [some (.ref 30), none] [] (hS X M) (f_Image_seal_30 X) (KVX M) := by
  unfold f_Image_seal_30
  refine Sp.step rfl rfl rfl rfl ?_
  refine Sp.step rfl rfl rfl (xg_I (c := 2) (f := 0) rfl rfl rfl rfl) ?_
  refine Sp.step rfl rfl rfl rfl ?_
  refine Sp.if2 rfl rfl rfl rfl (fun e1 => ?_) (fun e1 => ?_)
  · exact Sp.vret rfl rfl rfl (fun _ _ h => h)
  · refine Sp.step rfl rfl rfl rfl ?_
    refine Sp.step rfl rfl rfl (xg_D (c := 2) (f := 2) rfl rfl rfl rfl rfl) ?_
    refine Sp.ocrn (fun a2 e3 => ?_)
    refine Sp.ocn (fun n4 e5 => ?_)
    refine Sp.step rfl rfl rfl (xlen (xL_ok e5) (by decide)) ?_
    refine Sp.step rfl rfl rfl rfl ?_
    refine Sp.if2 rfl rfl rfl rfl (fun e6 => ?_) (fun e6 => ?_)
    · refine Sp.step rfl rfl rfl rfl ?_
      refine Sp.step rfl rfl rfl (xg_D (c := 2) (f := 2) rfl rfl rfl rfl rfl) ?_
      refine Sp.ocrn (fun a7 e8 => ?_)
      refine Sp.step rfl rfl rfl rfl ?_
      refine Sp.step rfl rfl rfl rfl ?_
      refine Sp.step rfl rfl rfl (xg_I (c := 2) (f := 0) rfl rfl rfl rfl) ?_
      refine Sp.step rfl rfl rfl rfl ?_
      refine Sp.step rfl rfl rfl rfl ?_
      refine Sp.step rfl rfl rfl rfl ?_
      refine Sp.step rfl rfl rfl rfl ?_
      refine Sp.ocn (fun n9 e10 => ?_)
      refine Sp.guard (fun e11 => ?_)
      refine Sp.step rfl rfl rfl (xst (xL_ok e10) (by decide) e11) ?_
      refine Sp.step rfl rfl rfl rfl ?_
      refine Sp.step rfl rfl rfl (xg_D (c := 2) (f := 2) rfl rfl rfl rfl rfl) ?_
      refine Sp.ocrn (fun a13 e14 => ?_)
      refine Sp.step rfl rfl rfl rfl ?_
      refine Sp.step rfl rfl rfl rfl ?_
      refine Sp.step rfl rfl rfl (xg_I (c := 2) (f := 0) rfl rfl rfl rfl) ?_
      refine Sp.step rfl rfl rfl rfl ?_
      refine Sp.step rfl rfl rfl rfl ?_
      refine Sp.ocn (fun n15 e16 => ?_)
      refine Sp.guard (fun e17 => ?_)
      refine Sp.step rfl rfl rfl (xst (xL_ok e16) (by decide) e17) ?_
      refine Sp.step rfl rfl rfl rfl ?_
      refine Sp.call rfl rfl rfl (xrecv (c := 2) (by decide) rfl (by decide +kernel)) s_Image_sum_30 (fun x19 => ⟨_, _, ⟨rfl, rfl⟩, ?_⟩)
      refine Sp.id (pc := 56) (l := [some (.ref 30), none]) (st := [.int x19]) (h := hS (xw (xw X a7 5 (((X.1 30 0 : Int32) >>> ((8 : Int32) &&& 31)) &&& 255)) a13 6 (((xw X a7 5 (((X.1 30 0 : Int32) >>> ((8 : Int32) &&& 31)) &&& 255)).1 30 0) &&& 255)) M) ?_
      refine Sp.step rfl rfl rfl rfl ?_
      refine Sp.step rfl rfl rfl rfl ?_
      refine Sp.step rfl rfl rfl (xg_D (c := 2) (f := 2) rfl rfl rfl rfl rfl) ?_
      refine Sp.ocrn (fun a20 e21 => ?_)
      refine Sp.step rfl rfl rfl rfl ?_
      refine Sp.step rfl rfl rfl rfl ?_
      refine Sp.step rfl rfl rfl rfl ?_
      refine Sp.step rfl rfl rfl rfl ?_
      refine Sp.ocn (fun n22 e23 => ?_)
      refine Sp.guard (fun e24 => ?_)
      refine Sp.step rfl rfl rfl (xst (xL_ok e23) (by decide) e24) ?_
      refine Sp.step rfl rfl rfl rfl ?_
      refine Sp.step rfl rfl rfl (xg_D (c := 2) (f := 2) rfl rfl rfl rfl rfl) ?_
      refine Sp.ocrn (fun a26 e27 => ?_)
      refine Sp.step rfl rfl rfl rfl ?_
      refine Sp.step rfl rfl rfl rfl ?_
      refine Sp.step rfl rfl rfl rfl ?_
      refine Sp.step rfl rfl rfl rfl ?_
      refine Sp.ocn (fun n28 e29 => ?_)
      refine Sp.guard (fun e30 => ?_)
      refine Sp.step rfl rfl rfl (xst (xL_ok e29) (by decide) e30) ?_
      exact Sp.vret rfl rfl rfl (fun _ _ h => h)
    · exact Sp.vret rfl rfl rfl (fun _ _ h => h)
