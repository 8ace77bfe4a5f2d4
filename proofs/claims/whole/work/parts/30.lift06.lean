/-! methods as functions, by program -/
def f_Image_routineFor_51 (x : Int32) (y : Int32) (X : XS) : Option Int32 := ((f_Image_at_51 (((f_Image_kindAt_51 x) + 3) + y) X).bind fun x1 => some x1)
set_option maxRecDepth 100000 in
set_option maxHeartbeats 4000000 in
theorem s_Image_routineFor_51 {L : Nat} {xs : Nat → Int32} {X : XS} {M : MS} {x : Int32} {y : Int32} : Sp (mjOO L xs) 178 0 [some (.ref 51), some (.int x), some (.int y)] [] (hS X M) (f_Image_routineFor_51 x y X) (KQ (hS X M)) := by
  unfold f_Image_routineFor_51
  refine Sp.step rfl rfl rfl rfl ?_
  refine Sp.step rfl rfl rfl rfl ?_
  refine Sp.step rfl rfl rfl rfl ?_
  refine Sp.callS rfl rfl rfl (xrecv (c := 2) (by decide) rfl (by decide +kernel)) s_Image_kindAt_51 ⟨rfl, rfl⟩ ?_
  refine Sp.id (pc := 6) (l := [some (.ref 51), some (.int x), some (.int y)]) (st := [.int (f_Image_kindAt_51 x), .ref 51]) (h := hS X M) ?_
  refine Sp.step rfl rfl rfl rfl ?_
  refine Sp.step rfl rfl rfl rfl ?_
  refine Sp.step rfl rfl rfl rfl ?_
  refine Sp.step rfl rfl rfl rfl ?_
  refine Sp.call rfl rfl rfl (xrecv (c := 2) (by decide) rfl (by decide +kernel)) s_Image_at_51 (fun x1 => ⟨_, _, ⟨rfl, rfl⟩, ?_⟩)
  refine Sp.id (pc := 13) (l := [some (.ref 51), some (.int x), some (.int y)]) (st := [.int x1]) (h := hS X M) ?_
  exact Sp.iret rfl rfl rfl rfl (fun _ _ h => h)
def f_Engine_routineOf (x : Int32) (y : Int32) (X : XS) : Option Int32 := ((f_Memory_isArray x X).bind fun x1 => (if x1 = true then some 255 else ((f_Memory_kindOf x X).bind fun x5 => ((f_Image_routineFor_51 x5 y X).bind fun x6 => some x6))))
set_option maxRecDepth 100000 in
set_option maxHeartbeats 4000000 in
theorem s_Engine_routineOf {L : Nat} {xs : Nat → Int32} {X : XS} {M : MS} {x : Int32} {y : Int32} : Sp (mjOO L xs) 124 0 [some (.ref 40), some (.int x), some (.int y)] [] (hS X M) (f_Engine_routineOf x y X) (KQ (hS X M)) := by
  unfold f_Engine_routineOf
  refine Sp.step rfl rfl rfl rfl ?_
  refine Sp.step rfl rfl rfl (xg_F (c := 0) (f := 3) rfl rfl rfl rfl rfl) ?_
  refine Sp.step rfl rfl rfl rfl ?_
  refine Sp.call rfl rfl rfl (xrecv (c := 4) (by decide) rfl (by decide +kernel)) s_Memory_isArray (fun x1 => ⟨_, _, ⟨rfl, rfl⟩, ?_⟩)
  refine Sp.bool (fun e2 => ?_) (fun e2 => ?_)
  · refine Sp.id (pc := 8) (l := [some (.ref 40), some (.int x), some (.int y)]) (st := [.int 1]) (h := hS X M) ?_
    refine Sp.step rfl rfl rfl rfl ?_
    refine Sp.step rfl rfl rfl rfl ?_
    refine Sp.step rfl rfl rfl rfl ?_
    exact Sp.iret rfl rfl rfl rfl (fun _ _ h => h)
  · refine Sp.id (pc := 8) (l := [some (.ref 40), some (.int x), some (.int y)]) (st := [.int 0]) (h := hS X M) ?_
    refine Sp.step rfl rfl rfl rfl ?_
    refine Sp.step rfl rfl rfl rfl ?_
    refine Sp.step rfl rfl rfl (xg_F (c := 0) (f := 6) rfl rfl rfl rfl rfl) ?_
    refine Sp.step rfl rfl rfl rfl ?_
    refine Sp.step rfl rfl rfl (xg_F (c := 0) (f := 3) rfl rfl rfl rfl rfl) ?_
    refine Sp.step rfl rfl rfl rfl ?_
    refine Sp.call rfl rfl rfl (xrecv (c := 4) (by decide) rfl (by decide +kernel)) s_Memory_kindOf (fun x5 => ⟨_, _, ⟨rfl, rfl⟩, ?_⟩)
    refine Sp.id (pc := 29) (l := [some (.ref 40), some (.int x), some (.int y)]) (st := [.int x5, .ref 51]) (h := hS X M) ?_
    refine Sp.step rfl rfl rfl rfl ?_
    refine Sp.call rfl rfl rfl (xrecv (c := 2) (by decide) rfl (by decide +kernel)) s_Image_routineFor_51 (fun x6 => ⟨_, _, ⟨rfl, rfl⟩, ?_⟩)
    refine Sp.id (pc := 33) (l := [some (.ref 40), some (.int x), some (.int y)]) (st := [.int x6]) (h := hS X M) ?_
    exact Sp.iret rfl rfl rfl rfl (fun _ _ h => h)
def f_Engine_callName (x : Nat) (y : Int32) (X : XS) : Option (Int32 × XS) := (if (xT X x = some (14, 0)) then ((f_Strand_peek x ((f_Image_takenByName_51 y X) - 1) X).bind fun x2 => (if ¬ x2 = 0 then ((f_Engine_routineOf x2 y X).bind fun x4 => (if ¬ x4 = 255 then ((f_Image_codeAt_51 x4 X).bind fun x6 => ((f_Strand_enterTaking x x4 x6 (f_Image_takenByName_51 y X) X).bind fun x7 => (if x7.1 = true then some ((-1), x7.2) else some (9, x7.2)))) else some (6, X))) else some (1, X))) else none)
set_option maxRecDepth 100000 in
set_option maxHeartbeats 4000000 in
theorem s_Engine_callName {L : Nat} {xs : Nat → Int32} {X : XS} {M : MS} {x : Nat} {y : Int32} : Sp (mjOO L xs) 123 0 [some (.ref 40), some (.ref x), some (.int y), none, none, none] [] (hS X M) (f_Engine_callName x y X) (KEX M) := by
  unfold f_Engine_callName
  refine Sp.step rfl rfl rfl rfl ?_
  refine Sp.step rfl rfl rfl (xg_F (c := 0) (f := 6) rfl rfl rfl rfl rfl) ?_
  refine Sp.step rfl rfl rfl rfl ?_
  refine Sp.callS rfl rfl rfl (xrecv (c := 2) (by decide) rfl (by decide +kernel)) s_Image_takenByName_51 ⟨rfl, rfl⟩ ?_
  refine Sp.id (pc := 8) (l := [some (.ref 40), some (.ref x), some (.int y), none, none, none]) (st := [.int (f_Image_takenByName_51 y X)]) (h := hS X M) ?_
  refine Sp.step rfl rfl rfl rfl ?_
  refine Sp.step rfl rfl rfl rfl ?_
  refine Sp.step rfl rfl rfl rfl ?_
  refine Sp.step rfl rfl rfl rfl ?_
  refine Sp.step rfl rfl rfl rfl ?_
  refine Sp.guard (fun e1 => ?_)
  refine Sp.call rfl rfl rfl (xrecv (c := 9) (by decide) e1 (by decide +kernel)) s_Strand_peek (fun x2 => ⟨_, _, ⟨rfl, rfl⟩, ?_⟩)
  refine Sp.id (pc := 16) (l := [some (.ref 40), some (.ref x), some (.int y), some (.int (f_Image_takenByName_51 y X)), none, none]) (st := [.int x2]) (h := hS X M) ?_
  refine Sp.step rfl rfl rfl rfl ?_
  refine Sp.step rfl rfl rfl rfl ?_
  refine Sp.if1 rfl rfl rfl rfl (fun e3 => ?_) (fun e3 => ?_)
  · refine Sp.step rfl rfl rfl rfl ?_
    refine Sp.step rfl rfl rfl rfl ?_
    refine Sp.step rfl rfl rfl rfl ?_
    refine Sp.call rfl rfl rfl (xrecv (c := 0) (by decide) rfl (by decide +kernel)) s_Engine_routineOf (fun x4 => ⟨_, _, ⟨rfl, rfl⟩, ?_⟩)
    refine Sp.id (pc := 32) (l := [some (.ref 40), some (.ref x), some (.int y), some (.int (f_Image_takenByName_51 y X)), some (.int x2), none]) (st := [.int x4]) (h := hS X M) ?_
    refine Sp.step rfl rfl rfl rfl ?_
    refine Sp.step rfl rfl rfl rfl ?_
    refine Sp.step rfl rfl rfl rfl ?_
    refine Sp.if2 rfl rfl rfl rfl (fun e5 => ?_) (fun e5 => ?_)
    · refine Sp.step rfl rfl rfl rfl ?_
      refine Sp.step rfl rfl rfl rfl ?_
      refine Sp.step rfl rfl rfl rfl ?_
      refine Sp.step rfl rfl rfl (xg_F (c := 0) (f := 6) rfl rfl rfl rfl rfl) ?_
      refine Sp.step rfl rfl rfl rfl ?_
      refine Sp.call rfl rfl rfl (xrecv (c := 2) (by decide) rfl (by decide +kernel)) s_Image_codeAt_51 (fun x6 => ⟨_, _, ⟨rfl, rfl⟩, ?_⟩)
      refine Sp.id (pc := 57) (l := [some (.ref 40), some (.ref x), some (.int y), some (.int (f_Image_takenByName_51 y X)), some (.int x2), some (.int x4)]) (st := [.int x6, .int x4, .ref x]) (h := hS X M) ?_
      refine Sp.step rfl rfl rfl rfl ?_
      refine Sp.call rfl rfl rfl (xrecv (c := 9) (by decide) e1 (by decide +kernel)) s_Strand_enterTaking (fun x7 => ⟨_, _, ⟨rfl, rfl⟩, ?_⟩)
      refine Sp.bool (fun e8 => ?_) (fun e8 => ?_)
      · refine Sp.id (pc := 61) (l := [some (.ref 40), some (.ref x), some (.int y), some (.int (f_Image_takenByName_51 y X)), some (.int x2), some (.int x4)]) (st := [.int 1]) (h := hS x7.2 M) ?_
        refine Sp.step rfl rfl rfl rfl ?_
        refine Sp.step rfl rfl rfl rfl ?_
        refine Sp.step rfl rfl rfl rfl ?_
        exact Sp.iret rfl rfl rfl rfl (fun _ _ h => h)
      · refine Sp.id (pc := 61) (l := [some (.ref 40), some (.ref x), some (.int y), some (.int (f_Image_takenByName_51 y X)), some (.int x2), some (.int x4)]) (st := [.int 0]) (h := hS x7.2 M) ?_
        refine Sp.step rfl rfl rfl rfl ?_
        refine Sp.step rfl rfl rfl rfl ?_
        exact Sp.iret rfl rfl rfl rfl (fun _ _ h => h)
    · refine Sp.step rfl rfl rfl rfl ?_
      exact Sp.iret rfl rfl rfl rfl (fun _ _ h => h)
  · refine Sp.step rfl rfl rfl rfl ?_
    exact Sp.iret rfl rfl rfl rfl (fun _ _ h => h)
def f_Strand_leave (x : Nat) (X : XS) : Option XS := (if (xT X x = some (14, 0)) then (lt (xw X x 2 ((X.1 x 2) - 1)) fun X2 => (if X2.1 x 2 < 1 then some X2 else (if 20 < X2.1 x 2 then some X2 else (ocz (X2.2.1 x 9) none (fun a5 => (ocz (xL X2 0 a5) none (fun n7 => (if ixo ((X2.1 x 2) - 1) n7 then (lt (xw X2 x 3 (X2.1 a5 ((X2.1 x 2) - 1).toNatClampNeg)) fun X10 => (ocz (X10.2.1 x 10) none (fun a11 => (ocz (xL X10 0 a11) none (fun n13 => (if ixo ((X10.1 x 2) - 1) n13 then (lt (xw X10 x 4 (X10.1 a11 ((X10.1 x 2) - 1).toNatClampNeg)) fun X16 => (ocz (X16.2.1 x 11) none (fun a17 => (ocz (xL X16 0 a17) none (fun n19 => (if ixo ((X16.1 x 2) - 1) n19 then (lt (xw X16 x 8 (X16.1 a17 ((X16.1 x 2) - 1).toNatClampNeg)) fun X22 => (lt (xw X22 x 7 ((((X22.1 x 2) - 1) * 22) + 12)) fun X23 => some X23)) else none)))))) else none)))))) else none)))))))) else none)
set_option maxRecDepth 100000 in
set_option maxHeartbeats 4000000 in
theorem s_Strand_leave {L : Nat} {xs : Nat → Int32} {X : XS} {M : MS} {x : Nat} : Sp (mjOO L xs) 286 0 [some (.ref x)] [] (hS X M) (f_Strand_leave x X) (KVX M) := by
  unfold f_Strand_leave
  refine Sp.step rfl rfl rfl rfl ?_
  refine Sp.step rfl rfl rfl rfl ?_
  refine Sp.guard (fun e1 => ?_)
  refine Sp.step rfl rfl rfl (xg_I (c := 9) (f := 2) rfl rfl e1 rfl) ?_
  refine Sp.step rfl rfl rfl rfl ?_
  refine Sp.step rfl rfl rfl rfl ?_
  refine Sp.step rfl rfl rfl (xp_I (c := 9) (f := 2) rfl rfl e1 rfl rfl) ?_
  refine Sp.step rfl rfl rfl rfl ?_
  refine Sp.step rfl rfl rfl (xg_I (c := 9) (f := 2) rfl rfl e1 rfl) ?_
  refine Sp.step rfl rfl rfl rfl ?_
  refine Sp.if2 rfl rfl rfl rfl (fun e3 => ?_) (fun e3 => ?_)
  · exact Sp.vret rfl rfl rfl (fun _ _ h => h)
  · refine Sp.step rfl rfl rfl rfl ?_
    refine Sp.step rfl rfl rfl (xg_I (c := 9) (f := 2) rfl rfl e1 rfl) ?_
    refine Sp.step rfl rfl rfl rfl ?_
    refine Sp.if2 rfl rfl rfl rfl (fun e4 => ?_) (fun e4 => ?_)
    · exact Sp.vret rfl rfl rfl (fun _ _ h => h)
    · refine Sp.step rfl rfl rfl rfl ?_
      refine Sp.step rfl rfl rfl rfl ?_
      refine Sp.step rfl rfl rfl (xg_D (c := 9) (f := 9) rfl rfl e1 rfl (fxP_big (dyn_of (c := 9) e1 rfl))) ?_
      refine Sp.ocrn (fun a5 e6 => ?_)
      refine Sp.step rfl rfl rfl rfl ?_
      refine Sp.step rfl rfl rfl (xg_I (c := 9) (f := 2) rfl rfl e1 rfl) ?_
      refine Sp.step rfl rfl rfl rfl ?_
      refine Sp.step rfl rfl rfl rfl ?_
      refine Sp.ocn (fun n7 e8 => ?_)
      refine Sp.guard (fun e9 => ?_)
      refine Sp.step rfl rfl rfl (xld (xL_ok e8) (by decide) e9) ?_
      refine Sp.step rfl rfl rfl (xp_I (c := 9) (f := 3) rfl rfl e1 rfl rfl) ?_
      refine Sp.step rfl rfl rfl rfl ?_
      refine Sp.step rfl rfl rfl rfl ?_
      refine Sp.step rfl rfl rfl (xg_D (c := 9) (f := 10) rfl rfl e1 rfl (fxP_big (dyn_of (c := 9) e1 rfl))) ?_
      refine Sp.ocrn (fun a11 e12 => ?_)
      refine Sp.step rfl rfl rfl rfl ?_
      refine Sp.step rfl rfl rfl (xg_I (c := 9) (f := 2) rfl rfl e1 rfl) ?_
      refine Sp.step rfl rfl rfl rfl ?_
      refine Sp.step rfl rfl rfl rfl ?_
      refine Sp.ocn (fun n13 e14 => ?_)
      refine Sp.guard (fun e15 => ?_)
      refine Sp.step rfl rfl rfl (xld (xL_ok e14) (by decide) e15) ?_
      refine Sp.step rfl rfl rfl (xp_I (c := 9) (f := 4) rfl rfl e1 rfl rfl) ?_
      refine Sp.step rfl rfl rfl rfl ?_
      refine Sp.step rfl rfl rfl rfl ?_
      refine Sp.step rfl rfl rfl (xg_D (c := 9) (f := 11) rfl rfl e1 rfl (fxP_big (dyn_of (c := 9) e1 rfl))) ?_
      refine Sp.ocrn (fun a17 e18 => ?_)
      refine Sp.step rfl rfl rfl rfl ?_
      refine Sp.step rfl rfl rfl (xg_I (c := 9) (f := 2) rfl rfl e1 rfl) ?_
      refine Sp.step rfl rfl rfl rfl ?_
      refine Sp.step rfl rfl rfl rfl ?_
      refine Sp.ocn (fun n19 e20 => ?_)
      refine Sp.guard (fun e21 => ?_)
      refine Sp.step rfl rfl rfl (xld (xL_ok e20) (by decide) e21) ?_
      refine Sp.step rfl rfl rfl (xp_I (c := 9) (f := 8) rfl rfl e1 rfl rfl) ?_
      refine Sp.step rfl rfl rfl rfl ?_
      refine Sp.step rfl rfl rfl rfl ?_
      refine Sp.step rfl rfl rfl (xg_I (c := 9) (f := 2) rfl rfl e1 rfl) ?_
      refine Sp.step rfl rfl rfl rfl ?_
      refine Sp.step rfl rfl rfl rfl ?_
      refine Sp.step rfl rfl rfl rfl ?_
      refine Sp.step rfl rfl rfl rfl ?_
      refine Sp.step rfl rfl rfl rfl ?_
      refine Sp.step rfl rfl rfl rfl ?_
      refine Sp.step rfl rfl rfl (xp_I (c := 9) (f := 7) rfl rfl e1 rfl rfl) ?_
      exact Sp.vret rfl rfl rfl (fun _ _ h => h)
def f_Strand_finish (x : Nat) (y : Int32) (z : Int32) (X : XS) : Option XS := (if (xT X x = some (14, 0)) then (lt (xw X x 2 0) fun X2 => (lt (xw X2 x 0 y) fun X3 => (lt (xw X3 x 1 z) fun X4 => some X4))) else none)
set_option maxRecDepth 100000 in
set_option maxHeartbeats 4000000 in
theorem s_Strand_finish {L : Nat} {xs : Nat → Int32} {X : XS} {M : MS} {x : Nat} {y : Int32} {z : Int32} : Sp (mjOO L xs) 287 0 [some (.ref x), some (.int y), some (.int z)] [] (hS X M) (f_Strand_finish x y z X) (KVX M) := by
  unfold f_Strand_finish
  refine Sp.step rfl rfl rfl rfl ?_
  refine Sp.step rfl rfl rfl rfl ?_
  refine Sp.guard (fun e1 => ?_)
  refine Sp.step rfl rfl rfl (xp_I (c := 9) (f := 2) rfl rfl e1 rfl rfl) ?_
  refine Sp.step rfl rfl rfl rfl ?_
  refine Sp.step rfl rfl rfl rfl ?_
  refine Sp.step rfl rfl rfl (xp_I (c := 9) (f := 0) rfl rfl e1 rfl rfl) ?_
  refine Sp.step rfl rfl rfl rfl ?_
  refine Sp.step rfl rfl rfl rfl ?_
  refine Sp.step rfl rfl rfl (xp_I (c := 9) (f := 1) rfl rfl e1 rfl rfl) ?_
  exact Sp.vret rfl rfl rfl (fun _ _ h => h)
def f_Engine_giveBack (x : Nat) (y : Int32) (X : XS) : Option (Int32 × XS) := (((if ¬ y = 40 then (if (xT X x = some (14, 0)) then ((f_Strand_pop x X).bind fun x3 => some (x3.1, x3.2)) else none) else some (0, X)) : Option (Int32 × XS)).bind fun x4 => (if (xT x4.2 x = some (14, 0)) then ((f_Strand_leave x x4.2).bind fun x6 => (if (xT x6 x = some (14, 0)) then (if ¬ x6.1 x 2 = 0 then (lt (xw x6 x 4 ((x6.1 x 4) + (f_P_bytesOf 38))) fun X9 => (if ¬ y = 41 then (if ¬ y = 42 then some ((-1), X9) else ((f_Strand_pushRef x x4.1 X9).bind fun x12 => some ((-1), x12))) else ((f_Strand_push x x4.1 X9).bind fun x13 => some ((-1), x13)))) else ((f_Strand_finish x 1 0 x6).bind fun x14 => some ((-1), x14))) else none)) else none))
set_option maxRecDepth 100000 in
set_option maxHeartbeats 4000000 in
theorem s_Engine_giveBack {L : Nat} {xs : Nat → Int32} {X : XS} {M : MS} {x : Nat} {y : Int32} : Sp (mjOO L xs) 125 0 [some (.ref 40), some (.ref x), some (.int y), none] [] (hS X M) (f_Engine_giveBack x y X) (KEX M) := by
  unfold f_Engine_giveBack
  refine Sp.step rfl rfl rfl rfl ?_
  refine Sp.step rfl rfl rfl rfl ?_
  refine Sp.piece (pe := 14) (mf := (fun (x4 : Int32 × XS) => [none, some (.ref x), some (.int y), none])) (sf := (fun (x4 : Int32 × XS) => [.int x4.1])) (hf := (fun (x4 : Int32 × XS) => hS x4.2 M)) ?_ (fun x4 => ?_)
  · refine Sp.if2 rfl rfl rfl rfl (fun e1 => ?_) (fun e1 => ?_)
    · refine Sp.step rfl rfl rfl rfl ?_
      refine Sp.guard (fun e2 => ?_)
      refine Sp.call rfl rfl rfl (xrecv (c := 9) (by decide) e2 (by decide +kernel)) s_Strand_pop (fun x3 => ⟨_, _, ⟨rfl, rfl⟩, ?_⟩)
      refine Sp.id (pc := 14) (l := [some (.ref 40), some (.ref x), some (.int y), none]) (st := [.int x3.1]) (h := hS x3.2 M) ?_
      exact Sp.jmp (l0 := [none, some (.ref x), some (.int y), none]) ⟨rfl, rfl, trivial⟩ (fun _ _ h => h)
    · refine Sp.step rfl rfl rfl rfl ?_
      refine Sp.step rfl rfl rfl rfl ?_
      exact Sp.jmp (l0 := [none, some (.ref x), some (.int y), none]) ⟨rfl, rfl, trivial⟩ (fun _ _ h => h)
  · refine Sp.step rfl rfl rfl rfl ?_
    refine Sp.step rfl rfl rfl rfl ?_
    refine Sp.guard (fun e5 => ?_)
    refine Sp.call rfl rfl rfl (xrecv (c := 9) (by decide) e5 (by decide +kernel)) s_Strand_leave (fun x6 => ⟨_, _, ⟨rfl, rfl⟩, ?_⟩)
    refine Sp.id (pc := 19) (l := [none, some (.ref x), some (.int y), some (.int x4.1)]) (st := []) (h := hS x6 M) ?_
    refine Sp.step rfl rfl rfl rfl ?_
    refine Sp.guard (fun e7 => ?_)
    refine Sp.step rfl rfl rfl (xg_I (c := 9) (f := 2) rfl rfl e7 rfl) ?_
    refine Sp.if1 rfl rfl rfl rfl (fun e8 => ?_) (fun e8 => ?_)
    · refine Sp.step rfl rfl rfl rfl ?_
      refine Sp.step rfl rfl rfl rfl ?_
      refine Sp.step rfl rfl rfl (xg_I (c := 9) (f := 4) rfl rfl e7 rfl) ?_
      refine Sp.step rfl rfl rfl rfl ?_
      refine Sp.callS rfl rfl rfl rfl s_P_bytesOf ⟨rfl, rfl⟩ ?_
      refine Sp.id (pc := 44) (l := [none, some (.ref x), some (.int y), some (.int x4.1)]) (st := [.int (f_P_bytesOf 38), .int (x6.1 x 4), .ref x]) (h := hS x6 M) ?_
      refine Sp.step rfl rfl rfl rfl ?_
      refine Sp.step rfl rfl rfl (xp_I (c := 9) (f := 4) rfl rfl e7 rfl rfl) ?_
      refine Sp.step rfl rfl rfl rfl ?_
      refine Sp.step rfl rfl rfl rfl ?_
      refine Sp.if2 rfl rfl rfl rfl (fun e10 => ?_) (fun e10 => ?_)
      · refine Sp.step rfl rfl rfl rfl ?_
        refine Sp.step rfl rfl rfl rfl ?_
        refine Sp.if2 rfl rfl rfl rfl (fun e11 => ?_) (fun e11 => ?_)
        · refine Sp.step rfl rfl rfl rfl ?_
          exact Sp.iret rfl rfl rfl rfl (fun _ _ h => h)
        · refine Sp.step rfl rfl rfl rfl ?_
          refine Sp.step rfl rfl rfl rfl ?_
          refine Sp.call rfl rfl rfl (xrecv (c := 9) (by decide) e7 (by decide +kernel)) s_Strand_pushRef (fun x12 => ⟨_, _, ⟨rfl, rfl⟩, ?_⟩)
          refine Sp.id (pc := 73) (l := [none, some (.ref x), some (.int y), some (.int x4.1)]) (st := []) (h := hS x12 M) ?_
          refine Sp.step rfl rfl rfl rfl ?_
          exact Sp.iret rfl rfl rfl rfl (fun _ _ h => h)
      · refine Sp.step rfl rfl rfl rfl ?_
        refine Sp.step rfl rfl rfl rfl ?_
        refine Sp.call rfl rfl rfl (xrecv (c := 9) (by decide) e7 (by decide +kernel)) s_Strand_push (fun x13 => ⟨_, _, ⟨rfl, rfl⟩, ?_⟩)
        refine Sp.id (pc := 59) (l := [none, some (.ref x), some (.int y), some (.int x4.1)]) (st := []) (h := hS x13 M) ?_
        refine Sp.step rfl rfl rfl rfl ?_
        refine Sp.step rfl rfl rfl rfl ?_
        exact Sp.iret rfl rfl rfl rfl (fun _ _ h => h)
    · refine Sp.step rfl rfl rfl rfl ?_
      refine Sp.step rfl rfl rfl rfl ?_
      refine Sp.step rfl rfl rfl rfl ?_
      refine Sp.call rfl rfl rfl (xrecv (c := 9) (by decide) e7 (by decide +kernel)) s_Strand_finish (fun x14 => ⟨_, _, ⟨rfl, rfl⟩, ?_⟩)
      refine Sp.id (pc := 32) (l := [none, some (.ref x), some (.int y), some (.int x4.1)]) (st := []) (h := hS x14 M) ?_
      refine Sp.step rfl rfl rfl rfl ?_
      exact Sp.iret rfl rfl rfl rfl (fun _ _ h => h)
def f_Engine_doCall (x : Nat) (y : Int32) (z : Int32) (X : XS) : Option (Int32 × XS) := (if y = 38 then ((f_Engine_callStatic x z X).bind fun x2 => some (x2.1, x2.2)) else (if y = 39 then ((f_Engine_callName x z X).bind fun x4 => some (x4.1, x4.2)) else (if y = 43 then (if (xT X x = some (14, 0)) then ((f_Strand_pop x X).bind fun x7 => (lt (xw x7.2 40 10 x7.1) fun X8 => (if ¬ X8.1 40 10 = 0 then some (10, X8) else some (1, X8)))) else none) else ((f_Engine_giveBack x y X).bind fun x10 => some (x10.1, x10.2)))))
set_option maxRecDepth 100000 in
set_option maxHeartbeats 4000000 in
theorem s_Engine_doCall {L : Nat} {xs : Nat → Int32} {X : XS} {M : MS} {x : Nat} {y : Int32} {z : Int32} : Sp (mjOO L xs) 121 0 [some (.ref 40), some (.ref x), some (.int y), some (.int z)] [] (hS X M) (f_Engine_doCall x y z X) (KEX M) := by
  unfold f_Engine_doCall
  refine Sp.step rfl rfl rfl rfl ?_
  refine Sp.ite (fun e1 => ?_) (fun e1 => ?_)
  · refine Sp.step rfl rfl rfl (go_sw (t := 36) (sw_of e1 rfl)) ?_
    refine Sp.step rfl rfl rfl rfl ?_
    refine Sp.step rfl rfl rfl rfl ?_
    refine Sp.step rfl rfl rfl rfl ?_
    refine Sp.call rfl rfl rfl (xrecv (c := 0) (by decide) rfl (by decide +kernel)) s_Engine_callStatic (fun x2 => ⟨_, _, ⟨rfl, rfl⟩, ?_⟩)
    refine Sp.id (pc := 42) (l := [some (.ref 40), some (.ref x), some (.int y), some (.int z)]) (st := [.int x2.1]) (h := hS x2.2 M) ?_
    exact Sp.iret rfl rfl rfl rfl (fun _ _ h => h)
  · refine Sp.ite (fun e3 => ?_) (fun e3 => ?_)
    · refine Sp.step rfl rfl rfl (go_sw (t := 43) (sw_of e3 rfl)) ?_
      refine Sp.step rfl rfl rfl rfl ?_
      refine Sp.step rfl rfl rfl rfl ?_
      refine Sp.step rfl rfl rfl rfl ?_
      refine Sp.call rfl rfl rfl (xrecv (c := 0) (by decide) rfl (by decide +kernel)) s_Engine_callName (fun x4 => ⟨_, _, ⟨rfl, rfl⟩, ?_⟩)
      refine Sp.id (pc := 49) (l := [some (.ref 40), some (.ref x), some (.int y), some (.int z)]) (st := [.int x4.1]) (h := hS x4.2 M) ?_
      exact Sp.iret rfl rfl rfl rfl (fun _ _ h => h)
    · refine Sp.ite (fun e5 => ?_) (fun e5 => ?_)
      · refine Sp.step rfl rfl rfl (go_sw (t := 50) (sw_of e5 rfl)) ?_
        refine Sp.step rfl rfl rfl rfl ?_
        refine Sp.step rfl rfl rfl rfl ?_
        refine Sp.guard (fun e6 => ?_)
        refine Sp.call rfl rfl rfl (xrecv (c := 9) (by decide) e6 (by decide +kernel)) s_Strand_pop (fun x7 => ⟨_, _, ⟨rfl, rfl⟩, ?_⟩)
        refine Sp.id (pc := 55) (l := [some (.ref 40), some (.ref x), some (.int y), some (.int z)]) (st := [.int x7.1, .ref 40]) (h := hS x7.2 M) ?_
        refine Sp.step rfl rfl rfl (xp_I (c := 0) (f := 10) rfl rfl rfl rfl rfl) ?_
        refine Sp.step rfl rfl rfl rfl ?_
        refine Sp.step rfl rfl rfl (xg_I (c := 0) (f := 10) rfl rfl rfl rfl) ?_
        refine Sp.if1 rfl rfl rfl rfl (fun e9 => ?_) (fun e9 => ?_)
        · refine Sp.step rfl rfl rfl rfl ?_
          exact Sp.iret rfl rfl rfl rfl (fun _ _ h => h)
        · refine Sp.step rfl rfl rfl rfl ?_
          refine Sp.step rfl rfl rfl rfl ?_
          exact Sp.iret rfl rfl rfl rfl (fun _ _ h => h)
      · refine Sp.step rfl rfl rfl (go_sw (t := 72) (mjSw_dflt _ (by
          intro q hq
          simp only [List.mem_cons, List.not_mem_nil, or_false] at hq
          rcases hq with rfl | rfl | rfl
          · exact fun h => absurd h (fun h => e1 h)
          · exact fun h => absurd h (fun h => e3 h)
          · exact fun h => absurd h (fun h => e5 h)))) ?_
        refine Sp.step rfl rfl rfl rfl ?_
        refine Sp.step rfl rfl rfl rfl ?_
        refine Sp.step rfl rfl rfl rfl ?_
        refine Sp.call rfl rfl rfl (xrecv (c := 0) (by decide) rfl (by decide +kernel)) s_Engine_giveBack (fun x10 => ⟨_, _, ⟨rfl, rfl⟩, ?_⟩)
        refine Sp.id (pc := 78) (l := [some (.ref 40), some (.ref x), some (.int y), some (.int z)]) (st := [.int x10.1]) (h := hS x10.2 M) ?_
        exact Sp.iret rfl rfl rfl rfl (fun _ _ h => h)
def f_Memory_entriesOf (x : Int32) (X : XS) : Option Int32 := ((f_Memory_word (x + 2) X).bind fun x1 => some x1)
set_option maxRecDepth 100000 in
set_option maxHeartbeats 4000000 in
theorem s_Memory_entriesOf {L : Nat} {xs : Nat → Int32} {X : XS} {M : MS} {x : Int32} : Sp (mjOO L xs) 217 0 [some (.ref 41), some (.int x)] [] (hS X M) (f_Memory_entriesOf x X) (KQ (hS X M)) := by
  unfold f_Memory_entriesOf
  refine Sp.step rfl rfl rfl rfl ?_
  refine Sp.step rfl rfl rfl rfl ?_
  refine Sp.step rfl rfl rfl rfl ?_
  refine Sp.step rfl rfl rfl rfl ?_
  refine Sp.call rfl rfl rfl (xrecv (c := 4) (by decide) rfl (by decide +kernel)) s_Memory_word (fun x1 => ⟨_, _, ⟨rfl, rfl⟩, ?_⟩)
  refine Sp.id (pc := 7) (l := [some (.ref 41), some (.int x)]) (st := [.int x1]) (h := hS X M) ?_
  exact Sp.iret rfl rfl rfl rfl (fun _ _ h => h)
def f_Memory_setMonitor (x : Int32) (y : Int32) (z : Int32) (X : XS) : Option XS := ((f_Memory_setWord (x + 1) y X).bind fun x1 => ((f_Memory_setWord (x + 2) z x1).bind fun x2 => some x2))
set_option maxRecDepth 100000 in
set_option maxHeartbeats 4000000 in
theorem s_Memory_setMonitor {L : Nat} {xs : Nat → Int32} {X : XS} {M : MS} {x : Int32} {y : Int32} {z : Int32} : Sp (mjOO L xs) 218 0 [some (.ref 41), some (.int x), some (.int y), some (.int z)] [] (hS X M) (f_Memory_setMonitor x y z X) (KVX M) := by
  unfold f_Memory_setMonitor
  refine Sp.step rfl rfl rfl rfl ?_
  refine Sp.step rfl rfl rfl rfl ?_
  refine Sp.step rfl rfl rfl rfl ?_
  refine Sp.step rfl rfl rfl rfl ?_
  refine Sp.step rfl rfl rfl rfl ?_
  refine Sp.call rfl rfl rfl (xrecv (c := 4) (by decide) rfl (by decide +kernel)) s_Memory_setWord (fun x1 => ⟨_, _, ⟨rfl, rfl⟩, ?_⟩)
  refine Sp.id (pc := 8) (l := [some (.ref 41), some (.int x), some (.int y), some (.int z)]) (st := []) (h := hS x1 M) ?_
  refine Sp.step rfl rfl rfl rfl ?_
  refine Sp.step rfl rfl rfl rfl ?_
  refine Sp.step rfl rfl rfl rfl ?_
  refine Sp.step rfl rfl rfl rfl ?_
  refine Sp.step rfl rfl rfl rfl ?_
  refine Sp.call rfl rfl rfl (xrecv (c := 4) (by decide) rfl (by decide +kernel)) s_Memory_setWord (fun x2 => ⟨_, _, ⟨rfl, rfl⟩, ?_⟩)
  refine Sp.id (pc := 16) (l := [some (.ref 41), some (.int x), some (.int y), some (.int z)]) (st := []) (h := hS x2 M) ?_
  exact Sp.vret rfl rfl rfl (fun _ _ h => h)
def f_Engine_doMonitor (x : Int32) (y : Int32) (z : Int32) (X : XS) : Option (Int32 × XS) := (if ¬ x = 0 then ((f_Memory_entriesOf x X).bind fun x2 => (if ¬ y = 49 then ((f_Memory_ownerOf x X).bind fun x4 => (if x4 = z then (if x2 ≤ 1 then ((f_Memory_setMonitor x 0 (x2 - 1) X).bind fun x7 => some (0, x7)) else ((f_Memory_setMonitor x z (x2 - 1) X).bind fun x8 => some (0, x8))) else some (8, X))) else (if x2 < 60000 then ((f_Memory_setMonitor x z (x2 + 1) X).bind fun x10 => some (0, x10)) else some (8, X)))) else some (1, X))
set_option maxRecDepth 100000 in
set_option maxHeartbeats 4000000 in
theorem s_Engine_doMonitor {L : Nat} {xs : Nat → Int32} {X : XS} {M : MS} {x : Int32} {y : Int32} {z : Int32} : Sp (mjOO L xs) 127 0 [some (.ref 40), some (.int x), some (.int y), some (.int z), none] [] (hS X M) (f_Engine_doMonitor x y z X) (KEX M) := by
  unfold f_Engine_doMonitor
  refine Sp.step rfl rfl rfl rfl ?_
  refine Sp.if1 rfl rfl rfl rfl (fun e1 => ?_) (fun e1 => ?_)
  · refine Sp.step rfl rfl rfl rfl ?_
    refine Sp.step rfl rfl rfl (xg_F (c := 0) (f := 3) rfl rfl rfl rfl rfl) ?_
    refine Sp.step rfl rfl rfl rfl ?_
    refine Sp.call rfl rfl rfl (xrecv (c := 4) (by decide) rfl (by decide +kernel)) s_Memory_entriesOf (fun x2 => ⟨_, _, ⟨rfl, rfl⟩, ?_⟩)
    refine Sp.id (pc := 14) (l := [some (.ref 40), some (.int x), some (.int y), some (.int z), none]) (st := [.int x2]) (h := hS X M) ?_
    refine Sp.step rfl rfl rfl rfl ?_
    refine Sp.step rfl rfl rfl rfl ?_
    refine Sp.step rfl rfl rfl rfl ?_
    refine Sp.if2 rfl rfl rfl rfl (fun e3 => ?_) (fun e3 => ?_)
    · refine Sp.step rfl rfl rfl rfl ?_
      refine Sp.step rfl rfl rfl (xg_F (c := 0) (f := 3) rfl rfl rfl rfl rfl) ?_
      refine Sp.step rfl rfl rfl rfl ?_
      refine Sp.call rfl rfl rfl (xrecv (c := 4) (by decide) rfl (by decide +kernel)) s_Memory_ownerOf (fun x4 => ⟨_, _, ⟨rfl, rfl⟩, ?_⟩)
      refine Sp.id (pc := 56) (l := [some (.ref 40), some (.int x), some (.int y), some (.int z), some (.int x2)]) (st := [.int x4]) (h := hS X M) ?_
      refine Sp.step rfl rfl rfl rfl ?_
      refine Sp.if2 rfl rfl rfl rfl (fun e5 => ?_) (fun e5 => ?_)
      · refine Sp.step rfl rfl rfl rfl ?_
        refine Sp.step rfl rfl rfl (xg_F (c := 0) (f := 3) rfl rfl rfl rfl rfl) ?_
        refine Sp.step rfl rfl rfl rfl ?_
        refine Sp.step rfl rfl rfl rfl ?_
        refine Sp.step rfl rfl rfl rfl ?_
        refine Sp.if2 rfl rfl rfl rfl (fun e6 => ?_) (fun e6 => ?_)
        · refine Sp.step rfl rfl rfl rfl ?_
          refine Sp.step rfl rfl rfl rfl ?_
          refine Sp.step rfl rfl rfl rfl ?_
          refine Sp.step rfl rfl rfl rfl ?_
          refine Sp.call rfl rfl rfl (xrecv (c := 4) (by decide) rfl (by decide +kernel)) s_Memory_setMonitor (fun x7 => ⟨_, _, ⟨rfl, rfl⟩, ?_⟩)
          refine Sp.id (pc := 86) (l := [some (.ref 40), some (.int x), some (.int y), some (.int z), some (.int x2)]) (st := []) (h := hS x7 M) ?_
          refine Sp.step rfl rfl rfl rfl ?_
          exact Sp.iret rfl rfl rfl rfl (fun _ _ h => h)
        · refine Sp.step rfl rfl rfl rfl ?_
          refine Sp.step rfl rfl rfl rfl ?_
          refine Sp.step rfl rfl rfl rfl ?_
          refine Sp.step rfl rfl rfl rfl ?_
          refine Sp.step rfl rfl rfl rfl ?_
          refine Sp.call rfl rfl rfl (xrecv (c := 4) (by decide) rfl (by decide +kernel)) s_Memory_setMonitor (fun x8 => ⟨_, _, ⟨rfl, rfl⟩, ?_⟩)
          refine Sp.id (pc := 86) (l := [some (.ref 40), some (.int x), some (.int y), some (.int z), some (.int x2)]) (st := []) (h := hS x8 M) ?_
          refine Sp.step rfl rfl rfl rfl ?_
          exact Sp.iret rfl rfl rfl rfl (fun _ _ h => h)
      · refine Sp.step rfl rfl rfl rfl ?_
        exact Sp.iret rfl rfl rfl rfl (fun _ _ h => h)
    · refine Sp.step rfl rfl rfl rfl ?_
      refine Sp.step rfl rfl rfl rfl ?_
      refine Sp.if2 rfl rfl rfl rfl (fun e9 => ?_) (fun e9 => ?_)
      · refine Sp.step rfl rfl rfl rfl ?_
        refine Sp.step rfl rfl rfl (xg_F (c := 0) (f := 3) rfl rfl rfl rfl rfl) ?_
        refine Sp.step rfl rfl rfl rfl ?_
        refine Sp.step rfl rfl rfl rfl ?_
        refine Sp.step rfl rfl rfl rfl ?_
        refine Sp.step rfl rfl rfl rfl ?_
        refine Sp.step rfl rfl rfl rfl ?_
        refine Sp.call rfl rfl rfl (xrecv (c := 4) (by decide) rfl (by decide +kernel)) s_Memory_setMonitor (fun x10 => ⟨_, _, ⟨rfl, rfl⟩, ?_⟩)
        refine Sp.id (pc := 46) (l := [some (.ref 40), some (.int x), some (.int y), some (.int z), some (.int x2)]) (st := []) (h := hS x10 M) ?_
        refine Sp.step rfl rfl rfl rfl ?_
        exact Sp.iret rfl rfl rfl rfl (fun _ _ h => h)
      · refine Sp.step rfl rfl rfl rfl ?_
        exact Sp.iret rfl rfl rfl rfl (fun _ _ h => h)
  · refine Sp.step rfl rfl rfl rfl ?_
    exact Sp.iret rfl rfl rfl rfl (fun _ _ h => h)
def f_Engine_doStatic (x : Nat) (y : Int32) (z : Int32) (X : XS) : Option (Int32 × XS) := (if 0 ≤ z ∧ z ≤ 7 then (if y = 52 then (if (xT X x = some (14, 0)) then ((f_Strand_push x (X.1 56 z.toNatClampNeg) X).bind fun x5 => some (0, x5)) else none) else (if y = 53 then (if (xT X x = some (14, 0)) then ((f_Strand_pop x X).bind fun x8 => (lt (xw x8.2 56 z.toNatClampNeg x8.1) fun X9 => some (0, X9))) else none) else (if y = 54 then (if (xT X x = some (14, 0)) then ((f_Strand_pushRef x (X.1 57 z.toNatClampNeg) X).bind fun x12 => some (0, x12)) else none) else (if (xT X x = some (14, 0)) then ((f_Strand_pop x X).bind fun x14 => (lt (xw x14.2 57 z.toNatClampNeg x14.1) fun X15 => some (0, X15))) else none)))) else some (0, X))
set_option maxRecDepth 100000 in
set_option maxHeartbeats 4000000 in
theorem s_Engine_doStatic {L : Nat} {xs : Nat → Int32} {X : XS} {M : MS} {x : Nat} {y : Int32} {z : Int32} : Sp (mjOO L xs) 128 0 [some (.ref 40), some (.ref x), some (.int y), some (.int z)] [] (hS X M) (f_Engine_doStatic x y z X) (KEX M) := by
  unfold f_Engine_doStatic
  refine Sp.step rfl rfl rfl rfl ?_
  refine Sp.step rfl rfl rfl rfl ?_
  refine Sp.step rfl rfl rfl rfl ?_
  refine Sp.callP rfl rfl rfl rfl s_within (fun e1 => ?_) (fun e1 => ?_)
  · refine Sp.id (pc := 7) (l := [some (.ref 40), some (.ref x), some (.int y), some (.int z)]) (st := [.int 1]) (h := hS X M) ?_
    refine Sp.step rfl rfl rfl rfl ?_
    refine Sp.step rfl rfl rfl rfl ?_
    refine Sp.ite (fun e3 => ?_) (fun e3 => ?_)
    · refine Sp.step rfl rfl rfl (go_sw (t := 40) (sw_of e3 rfl)) ?_
      refine Sp.step rfl rfl rfl rfl ?_
      refine Sp.step rfl rfl rfl rfl ?_
      refine Sp.step rfl rfl rfl (xg_F (c := 0) (f := 7) rfl rfl rfl rfl rfl) ?_
      refine Sp.step rfl rfl rfl rfl ?_
      refine Sp.step rfl rfl rfl (xld rfl (by decide) (ix_le (N := 7) rfl e1.1 e1.2)) ?_
      refine Sp.guard (fun e4 => ?_)
      refine Sp.call rfl rfl rfl (xrecv (c := 9) (by decide) e4 (by decide +kernel)) s_Strand_push (fun x5 => ⟨_, _, ⟨rfl, rfl⟩, ?_⟩)
      refine Sp.id (pc := 50) (l := [some (.ref 40), some (.ref x), some (.int y), some (.int z)]) (st := []) (h := hS x5 M) ?_
      refine Sp.step rfl rfl rfl rfl ?_
      refine Sp.step rfl rfl rfl rfl ?_
      exact Sp.iret rfl rfl rfl rfl (fun _ _ h => h)
    · refine Sp.ite (fun e6 => ?_) (fun e6 => ?_)
      · refine Sp.step rfl rfl rfl (go_sw (t := 53) (sw_of e6 rfl)) ?_
        refine Sp.step rfl rfl rfl rfl ?_
        refine Sp.step rfl rfl rfl (xg_F (c := 0) (f := 7) rfl rfl rfl rfl rfl) ?_
        refine Sp.step rfl rfl rfl rfl ?_
        refine Sp.step rfl rfl rfl rfl ?_
        refine Sp.guard (fun e7 => ?_)
        refine Sp.call rfl rfl rfl (xrecv (c := 9) (by decide) e7 (by decide +kernel)) s_Strand_pop (fun x8 => ⟨_, _, ⟨rfl, rfl⟩, ?_⟩)
        refine Sp.id (pc := 62) (l := [some (.ref 40), some (.ref x), some (.int y), some (.int z)]) (st := [.int x8.1, .int z, .ref 56]) (h := hS x8.2 M) ?_
        refine Sp.step rfl rfl rfl (xst rfl (by decide) (ix_le (N := 7) rfl e1.1 e1.2)) ?_
        refine Sp.step rfl rfl rfl rfl ?_
        refine Sp.step rfl rfl rfl rfl ?_
        exact Sp.iret rfl rfl rfl rfl (fun _ _ h => h)
      · refine Sp.ite (fun e10 => ?_) (fun e10 => ?_)
        · refine Sp.step rfl rfl rfl (go_sw (t := 66) (sw_of e10 rfl)) ?_
          refine Sp.step rfl rfl rfl rfl ?_
          refine Sp.step rfl rfl rfl rfl ?_
          refine Sp.step rfl rfl rfl (xg_F (c := 0) (f := 8) rfl rfl rfl rfl rfl) ?_
          refine Sp.step rfl rfl rfl rfl ?_
          refine Sp.step rfl rfl rfl (xld rfl (by decide) (ix_le (N := 7) rfl e1.1 e1.2)) ?_
          refine Sp.guard (fun e11 => ?_)
          refine Sp.call rfl rfl rfl (xrecv (c := 9) (by decide) e11 (by decide +kernel)) s_Strand_pushRef (fun x12 => ⟨_, _, ⟨rfl, rfl⟩, ?_⟩)
          refine Sp.id (pc := 76) (l := [some (.ref 40), some (.ref x), some (.int y), some (.int z)]) (st := []) (h := hS x12 M) ?_
          refine Sp.step rfl rfl rfl rfl ?_
          refine Sp.step rfl rfl rfl rfl ?_
          exact Sp.iret rfl rfl rfl rfl (fun _ _ h => h)
        · refine Sp.step rfl rfl rfl (go_sw (t := 79) (mjSw_dflt _ (by
            intro q hq
            simp only [List.mem_cons, List.not_mem_nil, or_false] at hq
            rcases hq with rfl | rfl | rfl
            · exact fun h => absurd h (fun h => e3 h)
            · exact fun h => absurd h (fun h => e6 h)
            · exact fun h => absurd h (fun h => e10 h)))) ?_
          refine Sp.step rfl rfl rfl rfl ?_
          refine Sp.step rfl rfl rfl (xg_F (c := 0) (f := 8) rfl rfl rfl rfl rfl) ?_
          refine Sp.step rfl rfl rfl rfl ?_
          refine Sp.step rfl rfl rfl rfl ?_
          refine Sp.guard (fun e13 => ?_)
          refine Sp.call rfl rfl rfl (xrecv (c := 9) (by decide) e13 (by decide +kernel)) s_Strand_pop (fun x14 => ⟨_, _, ⟨rfl, rfl⟩, ?_⟩)
          refine Sp.id (pc := 88) (l := [some (.ref 40), some (.ref x), some (.int y), some (.int z)]) (st := [.int x14.1, .int z, .ref 57]) (h := hS x14.2 M) ?_
          refine Sp.step rfl rfl rfl (xst rfl (by decide) (ix_le (N := 7) rfl e1.1 e1.2)) ?_
          refine Sp.step rfl rfl rfl rfl ?_
          exact Sp.iret rfl rfl rfl rfl (fun _ _ h => h)
  · refine Sp.id (pc := 7) (l := [some (.ref 40), some (.ref x), some (.int y), some (.int z)]) (st := [.int 0]) (h := hS X M) ?_
    refine Sp.step rfl rfl rfl rfl ?_
    refine Sp.step rfl rfl rfl rfl ?_
    exact Sp.iret rfl rfl rfl rfl (fun _ _ h => h)
def f_Strand_slotOfLocal (x : Nat) (y : Int32) (X : XS) : Option Int32 := (if (xT X x = some (14, 0)) then (if y < 0 then some (-1) else (if 12 ≤ y then some (-1) else (if ((X.1 x 7) - 12) + y < 0 then some (-1) else (if 440 ≤ ((X.1 x 7) - 12) + y then some (-1) else some (((X.1 x 7) - 12) + y))))) else none)
set_option maxRecDepth 100000 in
set_option maxHeartbeats 4000000 in
theorem s_Strand_slotOfLocal {L : Nat} {xs : Nat → Int32} {X : XS} {M : MS} {x : Nat} {y : Int32} : Sp (mjOO L xs) 289 0 [some (.ref x), some (.int y), none] [] (hS X M) (f_Strand_slotOfLocal x y X) (KQ (hS X M)) := by
  unfold f_Strand_slotOfLocal
  refine Sp.step rfl rfl rfl rfl ?_
  refine Sp.guard (fun e1 => ?_)
  refine Sp.step rfl rfl rfl (xg_I (c := 9) (f := 7) rfl rfl e1 rfl) ?_
  refine Sp.step rfl rfl rfl rfl ?_
  refine Sp.step rfl rfl rfl rfl ?_
  refine Sp.step rfl rfl rfl rfl ?_
  refine Sp.step rfl rfl rfl rfl ?_
  refine Sp.step rfl rfl rfl rfl ?_
  refine Sp.step rfl rfl rfl rfl ?_
  refine Sp.if1 rfl rfl rfl rfl (fun e2 => ?_) (fun e2 => ?_)
  · refine Sp.step rfl rfl rfl rfl ?_
    exact Sp.iret rfl rfl rfl rfl (fun _ _ h => h)
  · refine Sp.step rfl rfl rfl rfl ?_
    refine Sp.step rfl rfl rfl rfl ?_
    refine Sp.if2 rfl rfl rfl rfl (fun e3 => ?_) (fun e3 => ?_)
    · refine Sp.step rfl rfl rfl rfl ?_
      exact Sp.iret rfl rfl rfl rfl (fun _ _ h => h)
    · refine Sp.step rfl rfl rfl rfl ?_
      refine Sp.if1 rfl rfl rfl rfl (fun e4 => ?_) (fun e4 => ?_)
      · refine Sp.step rfl rfl rfl rfl ?_
        exact Sp.iret rfl rfl rfl rfl (fun _ _ h => h)
      · refine Sp.step rfl rfl rfl rfl ?_
        refine Sp.step rfl rfl rfl rfl ?_
        refine Sp.if2 rfl rfl rfl rfl (fun e5 => ?_) (fun e5 => ?_)
        · refine Sp.step rfl rfl rfl rfl ?_
          exact Sp.iret rfl rfl rfl rfl (fun _ _ h => h)
        · refine Sp.step rfl rfl rfl rfl ?_
          refine Sp.step rfl rfl rfl rfl ?_
          exact Sp.iret rfl rfl rfl rfl (fun _ _ h => h)
def f_Strand_load (x : Nat) (y : Int32) (X : XS) : Option XS := (if (xT X x = some (14, 0)) then ((f_Strand_slotOfLocal x y X).bind fun x2 => (if x2 < 0 then some X else (ocz (X.2.1 x 5) none (fun a4 => (ocz (xL X 0 a4) none (fun n6 => (if ixo x2 n6 then (ocz (X.2.1 x 6) none (fun a9 => (ocz (xL X 0 a9) none (fun n11 => (if ixo x2 n11 then ((f_Strand_pushMarked x (X.1 a4 x2.toNatClampNeg) (X.1 a9 x2.toNatClampNeg) X).bind fun x14 => some x14) else none))))) else none))))))) else none)
set_option maxRecDepth 100000 in
set_option maxHeartbeats 4000000 in
theorem s_Strand_load {L : Nat} {xs : Nat → Int32} {X : XS} {M : MS} {x : Nat} {y : Int32} : Sp (mjOO L xs) 295 0 [some (.ref x), some (.int y), none] [] (hS X M) (f_Strand_load x y X) (KVX M) := by
  unfold f_Strand_load
  refine Sp.step rfl rfl rfl rfl ?_
  refine Sp.step rfl rfl rfl rfl ?_
  refine Sp.guard (fun e1 => ?_)
  refine Sp.call rfl rfl rfl (xrecv (c := 9) (by decide) e1 (by decide +kernel)) s_Strand_slotOfLocal (fun x2 => ⟨_, _, ⟨rfl, rfl⟩, ?_⟩)
  refine Sp.id (pc := 5) (l := [some (.ref x), some (.int y), none]) (st := [.int x2]) (h := hS X M) ?_
  refine Sp.step rfl rfl rfl rfl ?_
  refine Sp.step rfl rfl rfl rfl ?_
  refine Sp.if1 rfl rfl rfl rfl (fun e3 => ?_) (fun e3 => ?_)
  · exact Sp.vret rfl rfl rfl (fun _ _ h => h)
  · refine Sp.step rfl rfl rfl rfl ?_
    refine Sp.step rfl rfl rfl rfl ?_
    refine Sp.step rfl rfl rfl (xg_D (c := 9) (f := 5) rfl rfl e1 rfl (fxP_big (dyn_of (c := 9) e1 rfl))) ?_
    refine Sp.ocrn (fun a4 e5 => ?_)
    refine Sp.step rfl rfl rfl rfl ?_
    refine Sp.ocn (fun n6 e7 => ?_)
    refine Sp.guard (fun e8 => ?_)
    refine Sp.step rfl rfl rfl (xld (xL_ok e7) (by decide) e8) ?_
    refine Sp.step rfl rfl rfl rfl ?_
    refine Sp.step rfl rfl rfl (xg_D (c := 9) (f := 6) rfl rfl e1 rfl (fxP_big (dyn_of (c := 9) e1 rfl))) ?_
    refine Sp.ocrn (fun a9 e10 => ?_)
    refine Sp.step rfl rfl rfl rfl ?_
    refine Sp.ocn (fun n11 e12 => ?_)
    refine Sp.guard (fun e13 => ?_)
    refine Sp.step rfl rfl rfl (xld (xL_ok e12) (by decide) e13) ?_
    refine Sp.call rfl rfl rfl (xrecv (c := 9) (by decide) e1 (by decide +kernel)) s_Strand_pushMarked (fun x14 => ⟨_, _, ⟨rfl, rfl⟩, ?_⟩)
    refine Sp.id (pc := 26) (l := [some (.ref x), some (.int y), some (.int x2)]) (st := []) (h := hS x14 M) ?_
    exact Sp.vret rfl rfl rfl (fun _ _ h => h)
def f_Strand_store (x : Nat) (y : Int32) (X : XS) : Option XS := (if (xT X x = some (14, 0)) then ((f_Strand_slotUnder x 0 X).bind fun x2 => ((f_Strand_slotOfLocal x y X).bind fun x3 => (if x2 < 0 then some X else (if x3 < 0 then some X else (ocz (X.2.1 x 6) none (fun a6 => (ocz (X.2.1 x 6) none (fun a8 => (ocz (xL X 0 a8) none (fun n10 => (if ixo x2 n10 then (ocz (xL X 0 a6) none (fun n13 => (if ixo x3 n13 then (lt (xw X a6 x3.toNatClampNeg (X.1 a8 x2.toNatClampNeg)) fun X16 => (ocz (X16.2.1 x 5) none (fun a17 => ((f_Strand_pop x X16).bind fun x19 => (ocz (xL x19.2 0 a17) none (fun n20 => (if ixo x3 n20 then (lt (xw x19.2 a17 x3.toNatClampNeg x19.1) fun X23 => some X23) else none))))))) else none))) else none))))))))))) else none)
set_option maxRecDepth 100000 in
set_option maxHeartbeats 4000000 in
theorem s_Strand_store {L : Nat} {xs : Nat → Int32} {X : XS} {M : MS} {x : Nat} {y : Int32} : Sp (mjOO L xs) 296 0 [some (.ref x), some (.int y), none, none] [] (hS X M) (f_Strand_store x y X) (KVX M) := by
  unfold f_Strand_store
  refine Sp.step rfl rfl rfl rfl ?_
  refine Sp.step rfl rfl rfl rfl ?_
  refine Sp.guard (fun e1 => ?_)
  refine Sp.call rfl rfl rfl (xrecv (c := 9) (by decide) e1 (by decide +kernel)) s_Strand_slotUnder (fun x2 => ⟨_, _, ⟨rfl, rfl⟩, ?_⟩)
  refine Sp.id (pc := 5) (l := [some (.ref x), some (.int y), none, none]) (st := [.int x2]) (h := hS X M) ?_
  refine Sp.step rfl rfl rfl rfl ?_
  refine Sp.step rfl rfl rfl rfl ?_
  refine Sp.step rfl rfl rfl rfl ?_
  refine Sp.call rfl rfl rfl (xrecv (c := 9) (by decide) e1 (by decide +kernel)) s_Strand_slotOfLocal (fun x3 => ⟨_, _, ⟨rfl, rfl⟩, ?_⟩)
  refine Sp.id (pc := 11) (l := [some (.ref x), some (.int y), some (.int x2), none]) (st := [.int x3]) (h := hS X M) ?_
  refine Sp.step rfl rfl rfl rfl ?_
  refine Sp.step rfl rfl rfl rfl ?_
  refine Sp.if1 rfl rfl rfl rfl (fun e4 => ?_) (fun e4 => ?_)
  · exact Sp.vret rfl rfl rfl (fun _ _ h => h)
  · refine Sp.step rfl rfl rfl rfl ?_
    refine Sp.if1 rfl rfl rfl rfl (fun e5 => ?_) (fun e5 => ?_)
    · exact Sp.vret rfl rfl rfl (fun _ _ h => h)
    · refine Sp.step rfl rfl rfl rfl ?_
      refine Sp.step rfl rfl rfl (xg_D (c := 9) (f := 6) rfl rfl e1 rfl (fxP_big (dyn_of (c := 9) e1 rfl))) ?_
      refine Sp.ocrn (fun a6 e7 => ?_)
      refine Sp.step rfl rfl rfl rfl ?_
      refine Sp.step rfl rfl rfl rfl ?_
      refine Sp.step rfl rfl rfl (xg_D (c := 9) (f := 6) rfl rfl e1 rfl (fxP_big (dyn_of (c := 9) e1 rfl))) ?_
      refine Sp.ocrn (fun a8 e9 => ?_)
      refine Sp.step rfl rfl rfl rfl ?_
      refine Sp.ocn (fun n10 e11 => ?_)
      refine Sp.guard (fun e12 => ?_)
      refine Sp.step rfl rfl rfl (xld (xL_ok e11) (by decide) e12) ?_
      refine Sp.ocn (fun n13 e14 => ?_)
      refine Sp.guard (fun e15 => ?_)
      refine Sp.step rfl rfl rfl (xst (xL_ok e14) (by decide) e15) ?_
      refine Sp.step rfl rfl rfl rfl ?_
      refine Sp.step rfl rfl rfl (xg_D (c := 9) (f := 5) rfl rfl e1 rfl (fxP_big (dyn_of (c := 9) e1 rfl))) ?_
      refine Sp.ocrn (fun a17 e18 => ?_)
      refine Sp.step rfl rfl rfl rfl ?_
      refine Sp.step rfl rfl rfl rfl ?_
      refine Sp.call rfl rfl rfl (xrecv (c := 9) (by decide) e1 (by decide +kernel)) s_Strand_pop (fun x19 => ⟨_, _, ⟨rfl, rfl⟩, ?_⟩)
      refine Sp.id (pc := 41) (l := [some (.ref x), some (.int y), some (.int x2), some (.int x3)]) (st := [.int x19.1, .int x3, .ref a17]) (h := hS x19.2 M) ?_
      refine Sp.ocn (fun n20 e21 => ?_)
      refine Sp.guard (fun e22 => ?_)
      refine Sp.step rfl rfl rfl (xst (xL_ok e21) (by decide) e22) ?_
      exact Sp.vret rfl rfl rfl (fun _ _ h => h)
def f_Strand_copyTop (x : Nat) (X : XS) : Option XS := (if (xT X x = some (14, 0)) then ((f_Strand_slotUnder x 0 X).bind fun x2 => (if x2 < 0 then some X else (ocz (X.2.1 x 5) none (fun a4 => (ocz (xL X 0 a4) none (fun n6 => (if ixo x2 n6 then (ocz (X.2.1 x 6) none (fun a9 => (ocz (xL X 0 a9) none (fun n11 => (if ixo x2 n11 then ((f_Strand_pushMarked x (X.1 a4 x2.toNatClampNeg) (X.1 a9 x2.toNatClampNeg) X).bind fun x14 => some x14) else none))))) else none))))))) else none)
set_option maxRecDepth 100000 in
set_option maxHeartbeats 4000000 in
theorem s_Strand_copyTop {L : Nat} {xs : Nat → Int32} {X : XS} {M : MS} {x : Nat} : Sp (mjOO L xs) 297 0 [some (.ref x), none] [] (hS X M) (f_Strand_copyTop x X) (KVX M) := by
  unfold f_Strand_copyTop
  refine Sp.step rfl rfl rfl rfl ?_
  refine Sp.step rfl rfl rfl rfl ?_
  refine Sp.guard (fun e1 => ?_)
  refine Sp.call rfl rfl rfl (xrecv (c := 9) (by decide) e1 (by decide +kernel)) s_Strand_slotUnder (fun x2 => ⟨_, _, ⟨rfl, rfl⟩, ?_⟩)
  refine Sp.id (pc := 5) (l := [some (.ref x), none]) (st := [.int x2]) (h := hS X M) ?_
  refine Sp.step rfl rfl rfl rfl ?_
  refine Sp.step rfl rfl rfl rfl ?_
  refine Sp.if1 rfl rfl rfl rfl (fun e3 => ?_) (fun e3 => ?_)
  · exact Sp.vret rfl rfl rfl (fun _ _ h => h)
  · refine Sp.step rfl rfl rfl rfl ?_
    refine Sp.step rfl rfl rfl rfl ?_
    refine Sp.step rfl rfl rfl (xg_D (c := 9) (f := 5) rfl rfl e1 rfl (fxP_big (dyn_of (c := 9) e1 rfl))) ?_
    refine Sp.ocrn (fun a4 e5 => ?_)
    refine Sp.step rfl rfl rfl rfl ?_
    refine Sp.ocn (fun n6 e7 => ?_)
    refine Sp.guard (fun e8 => ?_)
    refine Sp.step rfl rfl rfl (xld (xL_ok e7) (by decide) e8) ?_
    refine Sp.step rfl rfl rfl rfl ?_
    refine Sp.step rfl rfl rfl (xg_D (c := 9) (f := 6) rfl rfl e1 rfl (fxP_big (dyn_of (c := 9) e1 rfl))) ?_
    refine Sp.ocrn (fun a9 e10 => ?_)
    refine Sp.step rfl rfl rfl rfl ?_
    refine Sp.ocn (fun n11 e12 => ?_)
    refine Sp.guard (fun e13 => ?_)
    refine Sp.step rfl rfl rfl (xld (xL_ok e12) (by decide) e13) ?_
    refine Sp.call rfl rfl rfl (xrecv (c := 9) (by decide) e1 (by decide +kernel)) s_Strand_pushMarked (fun x14 => ⟨_, _, ⟨rfl, rfl⟩, ?_⟩)
    refine Sp.id (pc := 26) (l := [some (.ref x), some (.int x2)]) (st := []) (h := hS x14 M) ?_
    exact Sp.vret rfl rfl rfl (fun _ _ h => h)
def f_Strand_swap (x : Nat) (X : XS) : Option XS := (if (xT X x = some (14, 0)) then ((f_Strand_slotUnder x 0 X).bind fun x2 => ((f_Strand_slotUnder x 1 X).bind fun x3 => (if x2 < 0 then some X else (if 0 ≤ x3 then (ocz (X.2.1 x 5) none (fun a6 => (ocz (xL X 0 a6) none (fun n8 => (if ixo x2 n8 then (ocz (X.2.1 x 6) none (fun a11 => (ocz (xL X 0 a11) none (fun n13 => (if ixo x2 n13 then (ocz (X.2.1 x 5) none (fun a16 => (ocz (X.2.1 x 5) none (fun a18 => (ocz (xL X 0 a18) none (fun n20 => (if ixo x3 n20 then (ocz (xL X 0 a16) none (fun n23 => (if ixo x2 n23 then (lt (xw X a16 x2.toNatClampNeg (X.1 a18 x3.toNatClampNeg)) fun X26 => (ocz (X26.2.1 x 6) none (fun a27 => (ocz (X26.2.1 x 6) none (fun a29 => (ocz (xL X26 0 a29) none (fun n31 => (if ixo x3 n31 then (ocz (xL X26 0 a27) none (fun n34 => (if ixo x2 n34 then (lt (xw X26 a27 x2.toNatClampNeg (X26.1 a29 x3.toNatClampNeg)) fun X37 => (ocz (X37.2.1 x 5) none (fun a38 => (ocz (xL X37 0 a38) none (fun n40 => (if ixo x3 n40 then (lt (xw X37 a38 x3.toNatClampNeg (X.1 a6 x2.toNatClampNeg)) fun X43 => (ocz (X43.2.1 x 6) none (fun a44 => (ocz (xL X43 0 a44) none (fun n46 => (if ixo x3 n46 then (lt (xw X43 a44 x3.toNatClampNeg (X.1 a11 x2.toNatClampNeg)) fun X49 => some X49) else none)))))) else none)))))) else none))) else none)))))))) else none))) else none))))))) else none))))) else none))))) else some X)))) else none)
set_option maxRecDepth 100000 in
set_option maxHeartbeats 4000000 in
theorem s_Strand_swap {L : Nat} {xs : Nat → Int32} {X : XS} {M : MS} {x : Nat} : Sp (mjOO L xs) 298 0 [some (.ref x), none, none, none, none] [] (hS X M) (f_Strand_swap x X) (KVX M) := by
  unfold f_Strand_swap
  refine Sp.step rfl rfl rfl rfl ?_
  refine Sp.step rfl rfl rfl rfl ?_
  refine Sp.guard (fun e1 => ?_)
  refine Sp.call rfl rfl rfl (xrecv (c := 9) (by decide) e1 (by decide +kernel)) s_Strand_slotUnder (fun x2 => ⟨_, _, ⟨rfl, rfl⟩, ?_⟩)
  refine Sp.id (pc := 5) (l := [some (.ref x), none, none, none, none]) (st := [.int x2]) (h := hS X M) ?_
  refine Sp.step rfl rfl rfl rfl ?_
  refine Sp.step rfl rfl rfl rfl ?_
  refine Sp.step rfl rfl rfl rfl ?_
  refine Sp.call rfl rfl rfl (xrecv (c := 9) (by decide) e1 (by decide +kernel)) s_Strand_slotUnder (fun x3 => ⟨_, _, ⟨rfl, rfl⟩, ?_⟩)
  refine Sp.id (pc := 11) (l := [some (.ref x), some (.int x2), none, none, none]) (st := [.int x3]) (h := hS X M) ?_
  refine Sp.step rfl rfl rfl rfl ?_
  refine Sp.step rfl rfl rfl rfl ?_
  refine Sp.if1 rfl rfl rfl rfl (fun e4 => ?_) (fun e4 => ?_)
  · exact Sp.vret rfl rfl rfl (fun _ _ h => h)
  · refine Sp.step rfl rfl rfl rfl ?_
    refine Sp.if1 rfl rfl rfl rfl (fun e5 => ?_) (fun e5 => ?_)
    · refine Sp.step rfl rfl rfl rfl ?_
      refine Sp.step rfl rfl rfl (xg_D (c := 9) (f := 5) rfl rfl e1 rfl (fxP_big (dyn_of (c := 9) e1 rfl))) ?_
      refine Sp.ocrn (fun a6 e7 => ?_)
      refine Sp.step rfl rfl rfl rfl ?_
      refine Sp.ocn (fun n8 e9 => ?_)
      refine Sp.guard (fun e10 => ?_)
      refine Sp.step rfl rfl rfl (xld (xL_ok e9) (by decide) e10) ?_
      refine Sp.step rfl rfl rfl rfl ?_
      refine Sp.step rfl rfl rfl rfl ?_
      refine Sp.step rfl rfl rfl (xg_D (c := 9) (f := 6) rfl rfl e1 rfl (fxP_big (dyn_of (c := 9) e1 rfl))) ?_
      refine Sp.ocrn (fun a11 e12 => ?_)
      refine Sp.step rfl rfl rfl rfl ?_
      refine Sp.ocn (fun n13 e14 => ?_)
      refine Sp.guard (fun e15 => ?_)
      refine Sp.step rfl rfl rfl (xld (xL_ok e14) (by decide) e15) ?_
      refine Sp.step rfl rfl rfl rfl ?_
      refine Sp.step rfl rfl rfl rfl ?_
      refine Sp.step rfl rfl rfl (xg_D (c := 9) (f := 5) rfl rfl e1 rfl (fxP_big (dyn_of (c := 9) e1 rfl))) ?_
      refine Sp.ocrn (fun a16 e17 => ?_)
      refine Sp.step rfl rfl rfl rfl ?_
      refine Sp.step rfl rfl rfl rfl ?_
      refine Sp.step rfl rfl rfl (xg_D (c := 9) (f := 5) rfl rfl e1 rfl (fxP_big (dyn_of (c := 9) e1 rfl))) ?_
      refine Sp.ocrn (fun a18 e19 => ?_)
      refine Sp.step rfl rfl rfl rfl ?_
      refine Sp.ocn (fun n20 e21 => ?_)
      refine Sp.guard (fun e22 => ?_)
      refine Sp.step rfl rfl rfl (xld (xL_ok e21) (by decide) e22) ?_
      refine Sp.ocn (fun n23 e24 => ?_)
      refine Sp.guard (fun e25 => ?_)
      refine Sp.step rfl rfl rfl (xst (xL_ok e24) (by decide) e25) ?_
      refine Sp.step rfl rfl rfl rfl ?_
      refine Sp.step rfl rfl rfl (xg_D (c := 9) (f := 6) rfl rfl e1 rfl (fxP_big (dyn_of (c := 9) e1 rfl))) ?_
      refine Sp.ocrn (fun a27 e28 => ?_)
      refine Sp.step rfl rfl rfl rfl ?_
      refine Sp.step rfl rfl rfl rfl ?_
      refine Sp.step rfl rfl rfl (xg_D (c := 9) (f := 6) rfl rfl e1 rfl (fxP_big (dyn_of (c := 9) e1 rfl))) ?_
      refine Sp.ocrn (fun a29 e30 => ?_)
      refine Sp.step rfl rfl rfl rfl ?_
      refine Sp.ocn (fun n31 e32 => ?_)
      refine Sp.guard (fun e33 => ?_)
      refine Sp.step rfl rfl rfl (xld (xL_ok e32) (by decide) e33) ?_
      refine Sp.ocn (fun n34 e35 => ?_)
      refine Sp.guard (fun e36 => ?_)
      refine Sp.step rfl rfl rfl (xst (xL_ok e35) (by decide) e36) ?_
      refine Sp.step rfl rfl rfl rfl ?_
      refine Sp.step rfl rfl rfl (xg_D (c := 9) (f := 5) rfl rfl e1 rfl (fxP_big (dyn_of (c := 9) e1 rfl))) ?_
      refine Sp.ocrn (fun a38 e39 => ?_)
      refine Sp.step rfl rfl rfl rfl ?_
      refine Sp.step rfl rfl rfl rfl ?_
      refine Sp.ocn (fun n40 e41 => ?_)
      refine Sp.guard (fun e42 => ?_)
      refine Sp.step rfl rfl rfl (xst (xL_ok e41) (by decide) e42) ?_
      refine Sp.step rfl rfl rfl rfl ?_
      refine Sp.step rfl rfl rfl (xg_D (c := 9) (f := 6) rfl rfl e1 rfl (fxP_big (dyn_of (c := 9) e1 rfl))) ?_
      refine Sp.ocrn (fun a44 e45 => ?_)
      refine Sp.step rfl rfl rfl rfl ?_
      refine Sp.step rfl rfl rfl rfl ?_
      refine Sp.ocn (fun n46 e47 => ?_)
      refine Sp.guard (fun e48 => ?_)
      refine Sp.step rfl rfl rfl (xst (xL_ok e47) (by decide) e48) ?_
      exact Sp.vret rfl rfl rfl (fun _ _ h => h)
    · exact Sp.vret rfl rfl rfl (fun _ _ h => h)
def f_Ports_send (x : Int32) (X : XS) : Option XS := (if 0 ≤ X.1 47 1 ∧ X.1 47 1 ≤ 299 then (lt (xw X 49 (X.1 47 1).toNatClampNeg x) fun X3 => (lt (xw X3 47 1 ((X3.1 47 1) + 1)) fun X4 => some X4)) else (lt (xw X 47 1 ((X.1 47 1) + 1)) fun X6 => some X6))
set_option maxRecDepth 100000 in
set_option maxHeartbeats 4000000 in
theorem s_Ports_send {L : Nat} {xs : Nat → Int32} {X : XS} {M : MS} {x : Int32} : Sp (mjOO L xs) 238 0 [some (.ref 47), some (.int x)] [] (hS X M) (f_Ports_send x X) (KVX M) := by
  unfold f_Ports_send
  refine Sp.step rfl rfl rfl rfl ?_
  refine Sp.step rfl rfl rfl (xg_I (c := 5) (f := 1) rfl rfl rfl rfl) ?_
  refine Sp.step rfl rfl rfl rfl ?_
  refine Sp.step rfl rfl rfl rfl ?_
  refine Sp.callP rfl rfl rfl rfl s_within (fun e1 => ?_) (fun e1 => ?_)
  · refine Sp.id (pc := 11) (l := [some (.ref 47), some (.int x)]) (st := [.int 1]) (h := hS X M) ?_
    refine Sp.step rfl rfl rfl rfl ?_
    refine Sp.step rfl rfl rfl rfl ?_
    refine Sp.step rfl rfl rfl (xg_F (c := 5) (f := 4) rfl rfl rfl rfl rfl) ?_
    refine Sp.step rfl rfl rfl rfl ?_
    refine Sp.step rfl rfl rfl (xg_I (c := 5) (f := 1) rfl rfl rfl rfl) ?_
    refine Sp.step rfl rfl rfl rfl ?_
    refine Sp.step rfl rfl rfl (xst rfl (by decide) (ix_le (N := 299) rfl e1.1 e1.2)) ?_
    refine Sp.step rfl rfl rfl rfl ?_
    refine Sp.step rfl rfl rfl rfl ?_
    refine Sp.step rfl rfl rfl (xg_I (c := 5) (f := 1) rfl rfl rfl rfl) ?_
    refine Sp.step rfl rfl rfl rfl ?_
    refine Sp.step rfl rfl rfl rfl ?_
    refine Sp.step rfl rfl rfl (xp_I (c := 5) (f := 1) rfl rfl rfl rfl rfl) ?_
    exact Sp.vret rfl rfl rfl (fun _ _ h => h)
  · refine Sp.id (pc := 11) (l := [some (.ref 47), some (.int x)]) (st := [.int 0]) (h := hS X M) ?_
    refine Sp.step rfl rfl rfl rfl ?_
    refine Sp.step rfl rfl rfl rfl ?_
    refine Sp.step rfl rfl rfl rfl ?_
    refine Sp.step rfl rfl rfl (xg_I (c := 5) (f := 1) rfl rfl rfl rfl) ?_
    refine Sp.step rfl rfl rfl rfl ?_
    refine Sp.step rfl rfl rfl rfl ?_
    refine Sp.step rfl rfl rfl (xp_I (c := 5) (f := 1) rfl rfl rfl rfl rfl) ?_
    exact Sp.vret rfl rfl rfl (fun _ _ h => h)
def f_Ports_receive (X : XS) : Option (Int32 × XS) := (if X.1 47 0 ≤ 0 then some (0, X) else (if 0 ≤ X.1 47 2 ∧ X.1 47 2 ≤ 99 then (if 100 ≤ (X.1 47 2) + 1 then (lt (xw X 47 2 0) fun X5 => (lt (xw X5 47 0 ((X5.1 47 0) - 1)) fun X6 => some (X.1 48 (X.1 47 2).toNatClampNeg, X6))) else (lt (xw X 47 2 ((X.1 47 2) + 1)) fun X7 => (lt (xw X7 47 0 ((X7.1 47 0) - 1)) fun X8 => some (X.1 48 (X.1 47 2).toNatClampNeg, X8)))) else some (0, X)))
set_option maxRecDepth 100000 in
set_option maxHeartbeats 4000000 in
theorem s_Ports_receive {L : Nat} {xs : Nat → Int32} {X : XS} {M : MS} : Sp (mjOO L xs) 237 0 [some (.ref 47), none] [] (hS X M) (f_Ports_receive X) (KEX M) := by
  unfold f_Ports_receive
  refine Sp.step rfl rfl rfl rfl ?_
  refine Sp.step rfl rfl rfl (xg_I (c := 5) (f := 0) rfl rfl rfl rfl) ?_
  refine Sp.if1 rfl rfl rfl rfl (fun e1 => ?_) (fun e1 => ?_)
  · refine Sp.step rfl rfl rfl rfl ?_
    exact Sp.iret rfl rfl rfl rfl (fun _ _ h => h)
  · refine Sp.step rfl rfl rfl rfl ?_
    refine Sp.step rfl rfl rfl (xg_I (c := 5) (f := 2) rfl rfl rfl rfl) ?_
    refine Sp.step rfl rfl rfl rfl ?_
    refine Sp.step rfl rfl rfl rfl ?_
    refine Sp.callP rfl rfl rfl rfl s_within (fun e2 => ?_) (fun e2 => ?_)
    · refine Sp.id (pc := 17) (l := [some (.ref 47), none]) (st := [.int 1]) (h := hS X M) ?_
      refine Sp.step rfl rfl rfl rfl ?_
      refine Sp.step rfl rfl rfl rfl ?_
      refine Sp.step rfl rfl rfl (xg_F (c := 5) (f := 3) rfl rfl rfl rfl rfl) ?_
      refine Sp.step rfl rfl rfl rfl ?_
      refine Sp.step rfl rfl rfl (xg_I (c := 5) (f := 2) rfl rfl rfl rfl) ?_
      refine Sp.step rfl rfl rfl (xld rfl (by decide) (ix_le (N := 99) rfl e2.1 e2.2)) ?_
      refine Sp.step rfl rfl rfl rfl ?_
      refine Sp.step rfl rfl rfl rfl ?_
      refine Sp.step rfl rfl rfl rfl ?_
      refine Sp.step rfl rfl rfl (xg_I (c := 5) (f := 2) rfl rfl rfl rfl) ?_
      refine Sp.step rfl rfl rfl rfl ?_
      refine Sp.step rfl rfl rfl rfl ?_
      refine Sp.step rfl rfl rfl rfl ?_
      refine Sp.if2 rfl rfl rfl rfl (fun e4 => ?_) (fun e4 => ?_)
      · refine Sp.step rfl rfl rfl rfl ?_
        refine Sp.step rfl rfl rfl (xp_I (c := 5) (f := 2) rfl rfl rfl rfl rfl) ?_
        refine Sp.step rfl rfl rfl rfl ?_
        refine Sp.step rfl rfl rfl rfl ?_
        refine Sp.step rfl rfl rfl (xg_I (c := 5) (f := 0) rfl rfl rfl rfl) ?_
        refine Sp.step rfl rfl rfl rfl ?_
        refine Sp.step rfl rfl rfl rfl ?_
        refine Sp.step rfl rfl rfl (xp_I (c := 5) (f := 0) rfl rfl rfl rfl rfl) ?_
        refine Sp.step rfl rfl rfl rfl ?_
        exact Sp.iret rfl rfl rfl rfl (fun _ _ h => h)
      · refine Sp.step rfl rfl rfl rfl ?_
        refine Sp.step rfl rfl rfl (xg_I (c := 5) (f := 2) rfl rfl rfl rfl) ?_
        refine Sp.step rfl rfl rfl rfl ?_
        refine Sp.step rfl rfl rfl rfl ?_
        refine Sp.step rfl rfl rfl rfl ?_
        refine Sp.step rfl rfl rfl (xp_I (c := 5) (f := 2) rfl rfl rfl rfl rfl) ?_
        refine Sp.step rfl rfl rfl rfl ?_
        refine Sp.step rfl rfl rfl rfl ?_
        refine Sp.step rfl rfl rfl (xg_I (c := 5) (f := 0) rfl rfl rfl rfl) ?_
        refine Sp.step rfl rfl rfl rfl ?_
        refine Sp.step rfl rfl rfl rfl ?_
        refine Sp.step rfl rfl rfl (xp_I (c := 5) (f := 0) rfl rfl rfl rfl rfl) ?_
        refine Sp.step rfl rfl rfl rfl ?_
        exact Sp.iret rfl rfl rfl rfl (fun _ _ h => h)
    · refine Sp.id (pc := 17) (l := [some (.ref 47), none]) (st := [.int 0]) (h := hS X M) ?_
      refine Sp.step rfl rfl rfl rfl ?_
      refine Sp.step rfl rfl rfl rfl ?_
      exact Sp.iret rfl rfl rfl rfl (fun _ _ h => h)
def f_Engine_doPlain (x : Nat) (y : Int32) (z : Int32) (X : XS) : Option (Int32 × XS) := ((f_Image_at_51 z X).bind fun x1 => (if y = 1 then (if (xT X x = some (14, 0)) then ((f_Strand_push x ((x1 : Int32).toInt8.toInt32) X).bind fun x4 => some (0, x4)) else none) else (if y = 2 then (if (xT X x = some (14, 0)) then ((f_Strand_load x x1 X).bind fun x7 => some (0, x7)) else none) else (if y = 3 then (if (xT X x = some (14, 0)) then ((f_Strand_store x x1 X).bind fun x10 => some (0, x10)) else none) else (if y = 16 then (if (xT X x = some (14, 0)) then ((f_Strand_copyTop x X).bind fun x13 => some (0, x13)) else none) else (if y = 17 then (if (xT X x = some (14, 0)) then ((f_Strand_pop x X).bind fun x16 => some (0, x16.2)) else none) else (if y = 18 then (if (xT X x = some (14, 0)) then ((f_Strand_swap x X).bind fun x19 => some (0, x19)) else none) else (if y = 44 then (if (xT X x = some (14, 0)) then ((f_Strand_pop x X).bind fun x22 => ((f_Engine_isOf x22.1 x1 x22.2).bind fun x23 => (if x23 = true then (if (xT x22.2 x = some (14, 0)) then ((f_Strand_push x 1 x22.2).bind fun x27 => some (0, x27)) else none) else (if (xT x22.2 x = some (14, 0)) then ((f_Strand_push x 0 x22.2).bind fun x30 => some (0, x30)) else none)))) else none) else (if y = 45 then (if (xT X x = some (14, 0)) then ((f_Strand_pushRef x 0 X).bind fun x33 => some (0, x33)) else none) else (if y = 46 then (if (xT X x = some (14, 0)) then ((f_Strand_pop x X).bind fun x36 => ((f_Ports_send x36.1 x36.2).bind fun x37 => some (0, x37))) else none) else (if y = 47 then ((f_Ports_receive X).bind fun x39 => (if (xT x39.2 x = some (14, 0)) then ((f_Strand_push x x39.1 x39.2).bind fun x41 => some (0, x41)) else none)) else (if y = 61 then ((f_Image_two_51 z X).bind fun x43 => (if (xT X x = some (14, 0)) then ((f_Strand_push x ((x43 : Int32).toInt16.toInt32) X).bind fun x45 => some (0, x45)) else none)) else some (0, X)))))))))))))
set_option maxRecDepth 100000 in
set_option maxHeartbeats 4000000 in
theorem s_Engine_doPlain {L : Nat} {xs : Nat → Int32} {X : XS} {M : MS} {x : Nat} {y : Int32} {z : Int32} : Sp (mjOO L xs) 110 0 [some (.ref 40), some (.ref x), some (.int y), some (.int z), none] [] (hS X M) (f_Engine_doPlain x y z X) (KEX M) := by
  unfold f_Engine_doPlain
  refine Sp.step rfl rfl rfl rfl ?_
  refine Sp.step rfl rfl rfl (xg_F (c := 0) (f := 6) rfl rfl rfl rfl rfl) ?_
  refine Sp.step rfl rfl rfl rfl ?_
  refine Sp.call rfl rfl rfl (xrecv (c := 2) (by decide) rfl (by decide +kernel)) s_Image_at_51 (fun x1 => ⟨_, _, ⟨rfl, rfl⟩, ?_⟩)
  refine Sp.id (pc := 8) (l := [some (.ref 40), some (.ref x), some (.int y), some (.int z), none]) (st := [.int x1]) (h := hS X M) ?_
  refine Sp.step rfl rfl rfl rfl ?_
  refine Sp.step rfl rfl rfl rfl ?_
  refine Sp.ite (fun e2 => ?_) (fun e2 => ?_)
  · refine Sp.step rfl rfl rfl (go_sw (t := 108) (sw_of e2 rfl)) ?_
    refine Sp.step rfl rfl rfl rfl ?_
    refine Sp.step rfl rfl rfl rfl ?_
    refine Sp.step rfl rfl rfl rfl ?_
    refine Sp.guard (fun e3 => ?_)
    refine Sp.call rfl rfl rfl (xrecv (c := 9) (by decide) e3 (by decide +kernel)) s_Strand_push (fun x4 => ⟨_, _, ⟨rfl, rfl⟩, ?_⟩)
    refine Sp.id (pc := 115) (l := [some (.ref 40), some (.ref x), some (.int y), some (.int z), some (.int x1)]) (st := []) (h := hS x4 M) ?_
    refine Sp.step rfl rfl rfl rfl ?_
    refine Sp.step rfl rfl rfl rfl ?_
    exact Sp.iret rfl rfl rfl rfl (fun _ _ h => h)
  · refine Sp.ite (fun e5 => ?_) (fun e5 => ?_)
    · refine Sp.step rfl rfl rfl (go_sw (t := 134) (sw_of e5 rfl)) ?_
      refine Sp.step rfl rfl rfl rfl ?_
      refine Sp.step rfl rfl rfl rfl ?_
      refine Sp.guard (fun e6 => ?_)
      refine Sp.call rfl rfl rfl (xrecv (c := 9) (by decide) e6 (by decide +kernel)) s_Strand_load (fun x7 => ⟨_, _, ⟨rfl, rfl⟩, ?_⟩)
      refine Sp.id (pc := 140) (l := [some (.ref 40), some (.ref x), some (.int y), some (.int z), some (.int x1)]) (st := []) (h := hS x7 M) ?_
      refine Sp.step rfl rfl rfl rfl ?_
      refine Sp.step rfl rfl rfl rfl ?_
      exact Sp.iret rfl rfl rfl rfl (fun _ _ h => h)
    · refine Sp.ite (fun e8 => ?_) (fun e8 => ?_)
      · refine Sp.step rfl rfl rfl (go_sw (t := 143) (sw_of e8 rfl)) ?_
        refine Sp.step rfl rfl rfl rfl ?_
        refine Sp.step rfl rfl rfl rfl ?_
        refine Sp.guard (fun e9 => ?_)
        refine Sp.call rfl rfl rfl (xrecv (c := 9) (by decide) e9 (by decide +kernel)) s_Strand_store (fun x10 => ⟨_, _, ⟨rfl, rfl⟩, ?_⟩)
        refine Sp.id (pc := 149) (l := [some (.ref 40), some (.ref x), some (.int y), some (.int z), some (.int x1)]) (st := []) (h := hS x10 M) ?_
        refine Sp.step rfl rfl rfl rfl ?_
        refine Sp.step rfl rfl rfl rfl ?_
        exact Sp.iret rfl rfl rfl rfl (fun _ _ h => h)
      · refine Sp.ite (fun e11 => ?_) (fun e11 => ?_)
        · refine Sp.step rfl rfl rfl (go_sw (t := 152) (sw_of e11 rfl)) ?_
          refine Sp.step rfl rfl rfl rfl ?_
          refine Sp.guard (fun e12 => ?_)
          refine Sp.call rfl rfl rfl (xrecv (c := 9) (by decide) e12 (by decide +kernel)) s_Strand_copyTop (fun x13 => ⟨_, _, ⟨rfl, rfl⟩, ?_⟩)
          refine Sp.id (pc := 156) (l := [some (.ref 40), some (.ref x), some (.int y), some (.int z), some (.int x1)]) (st := []) (h := hS x13 M) ?_
          refine Sp.step rfl rfl rfl rfl ?_
          refine Sp.step rfl rfl rfl rfl ?_
          exact Sp.iret rfl rfl rfl rfl (fun _ _ h => h)
        · refine Sp.ite (fun e14 => ?_) (fun e14 => ?_)
          · refine Sp.step rfl rfl rfl (go_sw (t := 159) (sw_of e14 rfl)) ?_
            refine Sp.step rfl rfl rfl rfl ?_
            refine Sp.guard (fun e15 => ?_)
            refine Sp.call rfl rfl rfl (xrecv (c := 9) (by decide) e15 (by decide +kernel)) s_Strand_pop (fun x16 => ⟨_, _, ⟨rfl, rfl⟩, ?_⟩)
            refine Sp.id (pc := 163) (l := [some (.ref 40), some (.ref x), some (.int y), some (.int z), some (.int x1)]) (st := [.int x16.1]) (h := hS x16.2 M) ?_
            refine Sp.step rfl rfl rfl rfl ?_
            refine Sp.step rfl rfl rfl rfl ?_
            refine Sp.step rfl rfl rfl rfl ?_
            exact Sp.iret rfl rfl rfl rfl (fun _ _ h => h)
          · refine Sp.ite (fun e17 => ?_) (fun e17 => ?_)
            · refine Sp.step rfl rfl rfl (go_sw (t := 167) (sw_of e17 rfl)) ?_
              refine Sp.step rfl rfl rfl rfl ?_
              refine Sp.guard (fun e18 => ?_)
              refine Sp.call rfl rfl rfl (xrecv (c := 9) (by decide) e18 (by decide +kernel)) s_Strand_swap (fun x19 => ⟨_, _, ⟨rfl, rfl⟩, ?_⟩)
              refine Sp.id (pc := 171) (l := [some (.ref 40), some (.ref x), some (.int y), some (.int z), some (.int x1)]) (st := []) (h := hS x19 M) ?_
              refine Sp.step rfl rfl rfl rfl ?_
              refine Sp.step rfl rfl rfl rfl ?_
              exact Sp.iret rfl rfl rfl rfl (fun _ _ h => h)
            · refine Sp.ite (fun e20 => ?_) (fun e20 => ?_)
              · refine Sp.step rfl rfl rfl (go_sw (t := 174) (sw_of e20 rfl)) ?_
                refine Sp.step rfl rfl rfl rfl ?_
                refine Sp.step rfl rfl rfl rfl ?_
                refine Sp.step rfl rfl rfl rfl ?_
                refine Sp.guard (fun e21 => ?_)
                refine Sp.call rfl rfl rfl (xrecv (c := 9) (by decide) e21 (by decide +kernel)) s_Strand_pop (fun x22 => ⟨_, _, ⟨rfl, rfl⟩, ?_⟩)
                refine Sp.id (pc := 180) (l := [some (.ref 40), some (.ref x), some (.int y), some (.int z), some (.int x1)]) (st := [.int x22.1, .ref 40, .ref x]) (h := hS x22.2 M) ?_
                refine Sp.step rfl rfl rfl rfl ?_
                refine Sp.call rfl rfl rfl (xrecv (c := 0) (by decide) rfl (by decide +kernel)) s_Engine_isOf (fun x23 => ⟨_, _, ⟨rfl, rfl⟩, ?_⟩)
                refine Sp.bool (fun e24 => ?_) (fun e24 => ?_)
                · refine Sp.id (pc := 185) (l := [some (.ref 40), some (.ref x), some (.int y), some (.int z), some (.int x1)]) (st := [.int 1, .ref x]) (h := hS x22.2 M) ?_
                  refine Sp.step rfl rfl rfl rfl ?_
                  refine Sp.step rfl rfl rfl rfl ?_
                  refine Sp.step rfl rfl rfl rfl ?_
                  refine Sp.guard (fun e26 => ?_)
                  refine Sp.call rfl rfl rfl (xrecv (c := 9) (by decide) e26 (by decide +kernel)) s_Strand_push (fun x27 => ⟨_, _, ⟨rfl, rfl⟩, ?_⟩)
                  refine Sp.id (pc := 196) (l := [some (.ref 40), some (.ref x), some (.int y), some (.int z), some (.int x1)]) (st := []) (h := hS x27 M) ?_
                  refine Sp.step rfl rfl rfl rfl ?_
                  refine Sp.step rfl rfl rfl rfl ?_
                  exact Sp.iret rfl rfl rfl rfl (fun _ _ h => h)
                · refine Sp.id (pc := 185) (l := [some (.ref 40), some (.ref x), some (.int y), some (.int z), some (.int x1)]) (st := [.int 0, .ref x]) (h := hS x22.2 M) ?_
                  refine Sp.step rfl rfl rfl rfl ?_
                  refine Sp.step rfl rfl rfl rfl ?_
                  refine Sp.guard (fun e29 => ?_)
                  refine Sp.call rfl rfl rfl (xrecv (c := 9) (by decide) e29 (by decide +kernel)) s_Strand_push (fun x30 => ⟨_, _, ⟨rfl, rfl⟩, ?_⟩)
                  refine Sp.id (pc := 196) (l := [some (.ref 40), some (.ref x), some (.int y), some (.int z), some (.int x1)]) (st := []) (h := hS x30 M) ?_
                  refine Sp.step rfl rfl rfl rfl ?_
                  refine Sp.step rfl rfl rfl rfl ?_
                  exact Sp.iret rfl rfl rfl rfl (fun _ _ h => h)
              · refine Sp.ite (fun e31 => ?_) (fun e31 => ?_)
                · refine Sp.step rfl rfl rfl (go_sw (t := 199) (sw_of e31 rfl)) ?_
                  refine Sp.step rfl rfl rfl rfl ?_
                  refine Sp.step rfl rfl rfl rfl ?_
                  refine Sp.guard (fun e32 => ?_)
                  refine Sp.call rfl rfl rfl (xrecv (c := 9) (by decide) e32 (by decide +kernel)) s_Strand_pushRef (fun x33 => ⟨_, _, ⟨rfl, rfl⟩, ?_⟩)
                  refine Sp.id (pc := 204) (l := [some (.ref 40), some (.ref x), some (.int y), some (.int z), some (.int x1)]) (st := []) (h := hS x33 M) ?_
                  refine Sp.step rfl rfl rfl rfl ?_
                  refine Sp.step rfl rfl rfl rfl ?_
                  exact Sp.iret rfl rfl rfl rfl (fun _ _ h => h)
                · refine Sp.ite (fun e34 => ?_) (fun e34 => ?_)
                  · refine Sp.step rfl rfl rfl (go_sw (t := 207) (sw_of e34 rfl)) ?_
                    refine Sp.step rfl rfl rfl rfl ?_
                    refine Sp.step rfl rfl rfl (xg_F (c := 0) (f := 4) rfl rfl rfl rfl rfl) ?_
                    refine Sp.step rfl rfl rfl rfl ?_
                    refine Sp.guard (fun e35 => ?_)
                    refine Sp.call rfl rfl rfl (xrecv (c := 9) (by decide) e35 (by decide +kernel)) s_Strand_pop (fun x36 => ⟨_, _, ⟨rfl, rfl⟩, ?_⟩)
                    refine Sp.id (pc := 215) (l := [some (.ref 40), some (.ref x), some (.int y), some (.int z), some (.int x1)]) (st := [.int x36.1, .ref 47]) (h := hS x36.2 M) ?_
                    refine Sp.call rfl rfl rfl (xrecv (c := 5) (by decide) rfl (by decide +kernel)) s_Ports_send (fun x37 => ⟨_, _, ⟨rfl, rfl⟩, ?_⟩)
                    refine Sp.id (pc := 218) (l := [some (.ref 40), some (.ref x), some (.int y), some (.int z), some (.int x1)]) (st := []) (h := hS x37 M) ?_
                    refine Sp.step rfl rfl rfl rfl ?_
                    refine Sp.step rfl rfl rfl rfl ?_
                    exact Sp.iret rfl rfl rfl rfl (fun _ _ h => h)
                  · refine Sp.ite (fun e38 => ?_) (fun e38 => ?_)
                    · refine Sp.step rfl rfl rfl (go_sw (t := 221) (sw_of e38 rfl)) ?_
                      refine Sp.step rfl rfl rfl rfl ?_
                      refine Sp.step rfl rfl rfl rfl ?_
                      refine Sp.step rfl rfl rfl (xg_F (c := 0) (f := 4) rfl rfl rfl rfl rfl) ?_
                      refine Sp.call rfl rfl rfl (xrecv (c := 5) (by decide) rfl (by decide +kernel)) s_Ports_receive (fun x39 => ⟨_, _, ⟨rfl, rfl⟩, ?_⟩)
                      refine Sp.id (pc := 229) (l := [some (.ref 40), some (.ref x), some (.int y), some (.int z), some (.int x1)]) (st := [.int x39.1, .ref x]) (h := hS x39.2 M) ?_
                      refine Sp.guard (fun e40 => ?_)
                      refine Sp.call rfl rfl rfl (xrecv (c := 9) (by decide) e40 (by decide +kernel)) s_Strand_push (fun x41 => ⟨_, _, ⟨rfl, rfl⟩, ?_⟩)
                      refine Sp.id (pc := 232) (l := [some (.ref 40), some (.ref x), some (.int y), some (.int z), some (.int x1)]) (st := []) (h := hS x41 M) ?_
                      refine Sp.step rfl rfl rfl rfl ?_
                      refine Sp.step rfl rfl rfl rfl ?_
                      exact Sp.iret rfl rfl rfl rfl (fun _ _ h => h)
                    · refine Sp.ite (fun e42 => ?_) (fun e42 => ?_)
                      · refine Sp.step rfl rfl rfl (go_sw (t := 118) (sw_of e42 rfl)) ?_
                        refine Sp.step rfl rfl rfl rfl ?_
                        refine Sp.step rfl rfl rfl rfl ?_
                        refine Sp.step rfl rfl rfl (xg_F (c := 0) (f := 6) rfl rfl rfl rfl rfl) ?_
                        refine Sp.step rfl rfl rfl rfl ?_
                        refine Sp.call rfl rfl rfl (xrecv (c := 2) (by decide) rfl (by decide +kernel)) s_Image_two_51 (fun x43 => ⟨_, _, ⟨rfl, rfl⟩, ?_⟩)
                        refine Sp.id (pc := 127) (l := [some (.ref 40), some (.ref x), some (.int y), some (.int z), some (.int x1)]) (st := [.int x43, .ref x]) (h := hS X M) ?_
                        refine Sp.step rfl rfl rfl rfl ?_
                        refine Sp.guard (fun e44 => ?_)
                        refine Sp.call rfl rfl rfl (xrecv (c := 9) (by decide) e44 (by decide +kernel)) s_Strand_push (fun x45 => ⟨_, _, ⟨rfl, rfl⟩, ?_⟩)
                        refine Sp.id (pc := 131) (l := [some (.ref 40), some (.ref x), some (.int y), some (.int z), some (.int x1)]) (st := []) (h := hS x45 M) ?_
                        refine Sp.step rfl rfl rfl rfl ?_
                        refine Sp.step rfl rfl rfl rfl ?_
                        exact Sp.iret rfl rfl rfl rfl (fun _ _ h => h)
                      · refine Sp.step rfl rfl rfl (go_sw (t := 235) (mjSw_dflt _ (by
                          intro q hq
                          simp only [List.mem_cons, List.not_mem_nil, or_false] at hq
                          rcases hq with rfl | rfl | rfl | rfl | rfl | rfl | rfl | rfl | rfl | rfl | rfl
                          · exact fun h => absurd h (fun h => e2 h)
                          · exact fun h => absurd h (fun h => e5 h)
                          · exact fun h => absurd h (fun h => e8 h)
                          · exact fun h => absurd h (fun h => e11 h)
                          · exact fun h => absurd h (fun h => e14 h)
                          · exact fun h => absurd h (fun h => e17 h)
                          · exact fun h => absurd h (fun h => e20 h)
                          · exact fun h => absurd h (fun h => e31 h)
                          · exact fun h => absurd h (fun h => e34 h)
                          · exact fun h => absurd h (fun h => e38 h)
                          · exact fun h => absurd h (fun h => e42 h)))) ?_
                        refine Sp.step rfl rfl rfl rfl ?_
                        exact Sp.iret rfl rfl rfl rfl (fun _ _ h => h)
def f_Engine_doBegin (x : Int32) (X : XS) : Option (Int32 × XS) := (if ¬ x = 0 then ((f_Engine_routineOf x 0 X).bind fun x2 => (if ¬ x2 = 255 then (if X.1 40 2 < 6 then ((f_Engine_beginStrand x2 x 1 X).bind fun x5 => some (0, x5)) else some (7, X)) else some (6, X))) else some (1, X))
set_option maxRecDepth 100000 in
set_option maxHeartbeats 4000000 in
theorem s_Engine_doBegin {L : Nat} {xs : Nat → Int32} {X : XS} {M : MS} {x : Int32} : Sp (mjOO L xs) 126 0 [some (.ref 40), some (.int x), none] [] (hS X M) (f_Engine_doBegin x X) (KEX M) := by
  unfold f_Engine_doBegin
  refine Sp.step rfl rfl rfl rfl ?_
  refine Sp.if1 rfl rfl rfl rfl (fun e1 => ?_) (fun e1 => ?_)
  · refine Sp.step rfl rfl rfl rfl ?_
    refine Sp.step rfl rfl rfl rfl ?_
    refine Sp.step rfl rfl rfl rfl ?_
    refine Sp.call rfl rfl rfl (xrecv (c := 0) (by decide) rfl (by decide +kernel)) s_Engine_routineOf (fun x2 => ⟨_, _, ⟨rfl, rfl⟩, ?_⟩)
    refine Sp.id (pc := 12) (l := [some (.ref 40), some (.int x), none]) (st := [.int x2]) (h := hS X M) ?_
    refine Sp.step rfl rfl rfl rfl ?_
    refine Sp.step rfl rfl rfl rfl ?_
    refine Sp.step rfl rfl rfl rfl ?_
    refine Sp.if2 rfl rfl rfl rfl (fun e3 => ?_) (fun e3 => ?_)
    · refine Sp.step rfl rfl rfl rfl ?_
      refine Sp.step rfl rfl rfl (xg_I (c := 0) (f := 2) rfl rfl rfl rfl) ?_
      refine Sp.step rfl rfl rfl rfl ?_
      refine Sp.if2 rfl rfl rfl rfl (fun e4 => ?_) (fun e4 => ?_)
      · refine Sp.step rfl rfl rfl rfl ?_
        refine Sp.step rfl rfl rfl rfl ?_
        refine Sp.step rfl rfl rfl rfl ?_
        refine Sp.step rfl rfl rfl rfl ?_
        refine Sp.call rfl rfl rfl (xrecv (c := 0) (by decide) rfl (by decide +kernel)) s_Engine_beginStrand (fun x5 => ⟨_, _, ⟨rfl, rfl⟩, ?_⟩)
        refine Sp.id (pc := 42) (l := [some (.ref 40), some (.int x), some (.int x2)]) (st := []) (h := hS x5 M) ?_
        refine Sp.step rfl rfl rfl rfl ?_
        exact Sp.iret rfl rfl rfl rfl (fun _ _ h => h)
      · refine Sp.step rfl rfl rfl rfl ?_
        exact Sp.iret rfl rfl rfl rfl (fun _ _ h => h)
    · refine Sp.step rfl rfl rfl rfl ?_
      exact Sp.iret rfl rfl rfl rfl (fun _ _ h => h)
  · refine Sp.step rfl rfl rfl rfl ?_
    exact Sp.iret rfl rfl rfl rfl (fun _ _ h => h)
def f_Engine_doLength (x : Nat) (X : XS) : Option (Int32 × XS) := (if (xT X x = some (14, 0)) then ((f_Strand_pop x X).bind fun x2 => (if ¬ x2.1 = 0 then ((f_Memory_isArray x2.1 x2.2).bind fun x4 => (if x4 = true then ((f_Memory_lengthOf x2.1 x2.2).bind fun x7 => (if (xT x2.2 x = some (14, 0)) then ((f_Strand_push x x7 x2.2).bind fun x9 => some (0, x9)) else none)) else some (3, x2.2))) else some (1, x2.2))) else none)
set_option maxRecDepth 100000 in
set_option maxHeartbeats 4000000 in
theorem s_Engine_doLength {L : Nat} {xs : Nat → Int32} {X : XS} {M : MS} {x : Nat} : Sp (mjOO L xs) 119 0 [some (.ref 40), some (.ref x), none] [] (hS X M) (f_Engine_doLength x X) (KEX M) := by
  unfold f_Engine_doLength
  refine Sp.step rfl rfl rfl rfl ?_
  refine Sp.guard (fun e1 => ?_)
  refine Sp.call rfl rfl rfl (xrecv (c := 9) (by decide) e1 (by decide +kernel)) s_Strand_pop (fun x2 => ⟨_, _, ⟨rfl, rfl⟩, ?_⟩)
  refine Sp.id (pc := 4) (l := [some (.ref 40), some (.ref x), none]) (st := [.int x2.1]) (h := hS x2.2 M) ?_
  refine Sp.step rfl rfl rfl rfl ?_
  refine Sp.step rfl rfl rfl rfl ?_
  refine Sp.if1 rfl rfl rfl rfl (fun e3 => ?_) (fun e3 => ?_)
  · refine Sp.step rfl rfl rfl rfl ?_
    refine Sp.step rfl rfl rfl (xg_F (c := 0) (f := 3) rfl rfl rfl rfl rfl) ?_
    refine Sp.step rfl rfl rfl rfl ?_
    refine Sp.call rfl rfl rfl (xrecv (c := 4) (by decide) rfl (by decide +kernel)) s_Memory_isArray (fun x4 => ⟨_, _, ⟨rfl, rfl⟩, ?_⟩)
    refine Sp.bool (fun e5 => ?_) (fun e5 => ?_)
    · refine Sp.id (pc := 19) (l := [some (.ref 40), some (.ref x), some (.int x2.1)]) (st := [.int 1]) (h := hS x2.2 M) ?_
      refine Sp.step rfl rfl rfl rfl ?_
      refine Sp.step rfl rfl rfl rfl ?_
      refine Sp.step rfl rfl rfl rfl ?_
      refine Sp.step rfl rfl rfl (xg_F (c := 0) (f := 3) rfl rfl rfl rfl rfl) ?_
      refine Sp.step rfl rfl rfl rfl ?_
      refine Sp.call rfl rfl rfl (xrecv (c := 4) (by decide) rfl (by decide +kernel)) s_Memory_lengthOf (fun x7 => ⟨_, _, ⟨rfl, rfl⟩, ?_⟩)
      refine Sp.id (pc := 33) (l := [some (.ref 40), some (.ref x), some (.int x2.1)]) (st := [.int x7, .ref x]) (h := hS x2.2 M) ?_
      refine Sp.guard (fun e8 => ?_)
      refine Sp.call rfl rfl rfl (xrecv (c := 9) (by decide) e8 (by decide +kernel)) s_Strand_push (fun x9 => ⟨_, _, ⟨rfl, rfl⟩, ?_⟩)
      refine Sp.id (pc := 36) (l := [some (.ref 40), some (.ref x), some (.int x2.1)]) (st := []) (h := hS x9 M) ?_
      refine Sp.step rfl rfl rfl rfl ?_
      exact Sp.iret rfl rfl rfl rfl (fun _ _ h => h)
    · refine Sp.id (pc := 19) (l := [some (.ref 40), some (.ref x), some (.int x2.1)]) (st := [.int 0]) (h := hS x2.2 M) ?_
      refine Sp.step rfl rfl rfl rfl ?_
      refine Sp.step rfl rfl rfl rfl ?_
      exact Sp.iret rfl rfl rfl rfl (fun _ _ h => h)
  · refine Sp.step rfl rfl rfl rfl ?_
    exact Sp.iret rfl rfl rfl rfl (fun _ _ h => h)
def f_Engine_reckon (x : Int32) (y : Int32) (z : Int32) : Option Int32 := (if x = 4 then some (y + z) else (if x = 5 then some (y - z) else (if x = 6 then some (y * z) else (if x = 7 then (if ¬ z = 0 then (if ¬ z = 0 then some (y / z) else none) else some 0) else (if x = 8 then (if ¬ z = 0 then (if ¬ z = 0 then some (y - y / z * z) else none) else some 0) else (if x = 10 then some (y &&& z) else (if x = 11 then some (y ||| z) else (if x = 12 then some (y ^^^ z) else (if x = 13 then some ((y : Int32) <<< ((z : Int32) &&& 31)) else (if x = 14 then some ((y : Int32) >>> ((z : Int32) &&& 31)) else (if x = 15 then some (((y : Int32).toUInt32 >>> ((z : Int32).toUInt32 &&& Int32.toUInt32 31)).toInt32) else some 0)))))))))))
set_option maxRecDepth 100000 in
set_option maxHeartbeats 4000000 in
theorem s_Engine_reckon {L : Nat} {xs : Nat → Int32} {X : XS} {M : MS} {x : Int32} {y : Int32} {z : Int32} : Sp (mjOO L xs) 112 0 [some (.int x), some (.int y), some (.int z)] [] (hS X M) (f_Engine_reckon x y z) (KQ (hS X M)) := by
  unfold f_Engine_reckon
  refine Sp.step rfl rfl rfl rfl ?_
  refine Sp.ite (fun e1 => ?_) (fun e1 => ?_)
  · refine Sp.step rfl rfl rfl (go_sw (t := 64) (sw_of e1 rfl)) ?_
    refine Sp.step rfl rfl rfl rfl ?_
    refine Sp.step rfl rfl rfl rfl ?_
    refine Sp.step rfl rfl rfl rfl ?_
    exact Sp.iret rfl rfl rfl rfl (fun _ _ h => h)
  · refine Sp.ite (fun e2 => ?_) (fun e2 => ?_)
    · refine Sp.step rfl rfl rfl (go_sw (t := 68) (sw_of e2 rfl)) ?_
      refine Sp.step rfl rfl rfl rfl ?_
      refine Sp.step rfl rfl rfl rfl ?_
      refine Sp.step rfl rfl rfl rfl ?_
      exact Sp.iret rfl rfl rfl rfl (fun _ _ h => h)
    · refine Sp.ite (fun e3 => ?_) (fun e3 => ?_)
      · refine Sp.step rfl rfl rfl (go_sw (t := 72) (sw_of e3 rfl)) ?_
        refine Sp.step rfl rfl rfl rfl ?_
        refine Sp.step rfl rfl rfl rfl ?_
        refine Sp.step rfl rfl rfl rfl ?_
        exact Sp.iret rfl rfl rfl rfl (fun _ _ h => h)
      · refine Sp.ite (fun e4 => ?_) (fun e4 => ?_)
        · refine Sp.step rfl rfl rfl (go_sw (t := 76) (sw_of e4 rfl)) ?_
          refine Sp.step rfl rfl rfl rfl ?_
          refine Sp.if1 rfl rfl rfl rfl (fun e5 => ?_) (fun e5 => ?_)
          · refine Sp.step rfl rfl rfl rfl ?_
            refine Sp.step rfl rfl rfl rfl ?_
            refine Sp.guard (fun e6 => ?_)
            refine Sp.step rfl rfl rfl (go_div e6) ?_
            exact Sp.iret rfl rfl rfl rfl (fun _ _ h => h)
          · refine Sp.step rfl rfl rfl rfl ?_
            refine Sp.step rfl rfl rfl rfl ?_
            exact Sp.iret rfl rfl rfl rfl (fun _ _ h => h)
        · refine Sp.ite (fun e7 => ?_) (fun e7 => ?_)
          · refine Sp.step rfl rfl rfl (go_sw (t := 88) (sw_of e7 rfl)) ?_
            refine Sp.step rfl rfl rfl rfl ?_
            refine Sp.if1 rfl rfl rfl rfl (fun e8 => ?_) (fun e8 => ?_)
            · refine Sp.step rfl rfl rfl rfl ?_
              refine Sp.step rfl rfl rfl rfl ?_
              refine Sp.guard (fun e9 => ?_)
              refine Sp.step rfl rfl rfl (go_div e9) ?_
              exact Sp.iret rfl rfl rfl rfl (fun _ _ h => h)
            · refine Sp.step rfl rfl rfl rfl ?_
              refine Sp.step rfl rfl rfl rfl ?_
              exact Sp.iret rfl rfl rfl rfl (fun _ _ h => h)
          · refine Sp.ite (fun e10 => ?_) (fun e10 => ?_)
            · refine Sp.step rfl rfl rfl (go_sw (t := 100) (sw_of e10 rfl)) ?_
              refine Sp.step rfl rfl rfl rfl ?_
              refine Sp.step rfl rfl rfl rfl ?_
              refine Sp.step rfl rfl rfl rfl ?_
              exact Sp.iret rfl rfl rfl rfl (fun _ _ h => h)
            · refine Sp.ite (fun e11 => ?_) (fun e11 => ?_)
              · refine Sp.step rfl rfl rfl (go_sw (t := 104) (sw_of e11 rfl)) ?_
                refine Sp.step rfl rfl rfl rfl ?_
                refine Sp.step rfl rfl rfl rfl ?_
                refine Sp.step rfl rfl rfl rfl ?_
                exact Sp.iret rfl rfl rfl rfl (fun _ _ h => h)
              · refine Sp.ite (fun e12 => ?_) (fun e12 => ?_)
                · refine Sp.step rfl rfl rfl (go_sw (t := 108) (sw_of e12 rfl)) ?_
                  refine Sp.step rfl rfl rfl rfl ?_
                  refine Sp.step rfl rfl rfl rfl ?_
                  refine Sp.step rfl rfl rfl rfl ?_
                  exact Sp.iret rfl rfl rfl rfl (fun _ _ h => h)
                · refine Sp.ite (fun e13 => ?_) (fun e13 => ?_)
                  · refine Sp.step rfl rfl rfl (go_sw (t := 112) (sw_of e13 rfl)) ?_
                    refine Sp.step rfl rfl rfl rfl ?_
                    refine Sp.step rfl rfl rfl rfl ?_
                    refine Sp.step rfl rfl rfl rfl ?_
                    exact Sp.iret rfl rfl rfl rfl (fun _ _ h => h)
                  · refine Sp.ite (fun e14 => ?_) (fun e14 => ?_)
                    · refine Sp.step rfl rfl rfl (go_sw (t := 116) (sw_of e14 rfl)) ?_
                      refine Sp.step rfl rfl rfl rfl ?_
                      refine Sp.step rfl rfl rfl rfl ?_
                      refine Sp.step rfl rfl rfl rfl ?_
                      exact Sp.iret rfl rfl rfl rfl (fun _ _ h => h)
                    · refine Sp.ite (fun e15 => ?_) (fun e15 => ?_)
                      · refine Sp.step rfl rfl rfl (go_sw (t := 120) (sw_of e15 rfl)) ?_
                        refine Sp.step rfl rfl rfl rfl ?_
                        refine Sp.step rfl rfl rfl rfl ?_
                        refine Sp.step rfl rfl rfl rfl ?_
                        exact Sp.iret rfl rfl rfl rfl (fun _ _ h => h)
                      · refine Sp.step rfl rfl rfl (go_sw (t := 124) (mjSw_dflt _ (by
                          intro q hq
                          simp only [List.mem_cons, List.not_mem_nil, or_false] at hq
                          rcases hq with rfl | rfl | rfl | rfl | rfl | rfl | rfl | rfl | rfl | rfl | rfl | rfl
                          · exact fun h => absurd h (fun h => e1 h)
                          · exact fun h => absurd h (fun h => e2 h)
                          · exact fun h => absurd h (fun h => e3 h)
                          · exact fun h => absurd h (fun h => e4 h)
                          · exact fun h => absurd h (fun h => e7 h)
                          · exact fun h => rfl
                          · exact fun h => absurd h (fun h => e10 h)
                          · exact fun h => absurd h (fun h => e11 h)
                          · exact fun h => absurd h (fun h => e12 h)
                          · exact fun h => absurd h (fun h => e13 h)
                          · exact fun h => absurd h (fun h => e14 h)
                          · exact fun h => absurd h (fun h => e15 h)))) ?_
                        refine Sp.step rfl rfl rfl rfl ?_
                        exact Sp.iret rfl rfl rfl rfl (fun _ _ h => h)
def f_Engine_doArithmetic (x : Nat) (y : Int32) (X : XS) : Option (Int32 × XS) := (if (xT X x = some (14, 0)) then ((f_Strand_pop x X).bind fun x2 => (if ¬ y = 9 then (if (xT x2.2 x = some (14, 0)) then ((f_Strand_pop x x2.2).bind fun x5 => (if y = 7 then (if ¬ x2.1 = 0 then ((f_Engine_reckon y x5.1 x2.1).bind fun x8 => (if (xT x5.2 x = some (14, 0)) then ((f_Strand_push x x8 x5.2).bind fun x10 => some (0, x10)) else none)) else some (2, x5.2)) else (if ¬ y = 8 then ((f_Engine_reckon y x5.1 x2.1).bind fun x12 => (if (xT x5.2 x = some (14, 0)) then ((f_Strand_push x x12 x5.2).bind fun x14 => some (0, x14)) else none)) else (if ¬ x2.1 = 0 then ((f_Engine_reckon y x5.1 x2.1).bind fun x16 => (if (xT x5.2 x = some (14, 0)) then ((f_Strand_push x x16 x5.2).bind fun x18 => some (0, x18)) else none)) else some (2, x5.2))))) else none) else (if (xT x2.2 x = some (14, 0)) then ((f_Strand_push x (-x2.1) x2.2).bind fun x20 => some (0, x20)) else none))) else none)
set_option maxRecDepth 100000 in
set_option maxHeartbeats 4000000 in
theorem s_Engine_doArithmetic {L : Nat} {xs : Nat → Int32} {X : XS} {M : MS} {x : Nat} {y : Int32} : Sp (mjOO L xs) 111 0 [some (.ref 40), some (.ref x), some (.int y), none, none] [] (hS X M) (f_Engine_doArithmetic x y X) (KEX M) := by
  unfold f_Engine_doArithmetic
  refine Sp.step rfl rfl rfl rfl ?_
  refine Sp.guard (fun e1 => ?_)
  refine Sp.call rfl rfl rfl (xrecv (c := 9) (by decide) e1 (by decide +kernel)) s_Strand_pop (fun x2 => ⟨_, _, ⟨rfl, rfl⟩, ?_⟩)
  refine Sp.id (pc := 4) (l := [some (.ref 40), some (.ref x), some (.int y), none, none]) (st := [.int x2.1]) (h := hS x2.2 M) ?_
  refine Sp.step rfl rfl rfl rfl ?_
  refine Sp.step rfl rfl rfl rfl ?_
  refine Sp.step rfl rfl rfl rfl ?_
  refine Sp.if2 rfl rfl rfl rfl (fun e3 => ?_) (fun e3 => ?_)
  · refine Sp.step rfl rfl rfl rfl ?_
    refine Sp.guard (fun e4 => ?_)
    refine Sp.call rfl rfl rfl (xrecv (c := 9) (by decide) e4 (by decide +kernel)) s_Strand_pop (fun x5 => ⟨_, _, ⟨rfl, rfl⟩, ?_⟩)
    refine Sp.id (pc := 23) (l := [some (.ref 40), some (.ref x), some (.int y), some (.int x2.1), none]) (st := [.int x5.1]) (h := hS x5.2 M) ?_
    refine Sp.step rfl rfl rfl rfl ?_
    refine Sp.step rfl rfl rfl rfl ?_
    refine Sp.step rfl rfl rfl rfl ?_
    refine Sp.if2 rfl rfl rfl rfl (fun e6 => ?_) (fun e6 => ?_)
    · refine Sp.step rfl rfl rfl rfl ?_
      refine Sp.if1 rfl rfl rfl rfl (fun e7 => ?_) (fun e7 => ?_)
      · refine Sp.step rfl rfl rfl rfl ?_
        refine Sp.step rfl rfl rfl rfl ?_
        refine Sp.step rfl rfl rfl rfl ?_
        refine Sp.step rfl rfl rfl rfl ?_
        refine Sp.call rfl rfl rfl rfl s_Engine_reckon (fun x8 => ⟨_, _, ⟨rfl, rfl⟩, ?_⟩)
        refine Sp.id (pc := 51) (l := [some (.ref 40), some (.ref x), some (.int y), some (.int x2.1), some (.int x5.1)]) (st := [.int x8, .ref x]) (h := hS x5.2 M) ?_
        refine Sp.guard (fun e9 => ?_)
        refine Sp.call rfl rfl rfl (xrecv (c := 9) (by decide) e9 (by decide +kernel)) s_Strand_push (fun x10 => ⟨_, _, ⟨rfl, rfl⟩, ?_⟩)
        refine Sp.id (pc := 54) (l := [some (.ref 40), some (.ref x), some (.int y), some (.int x2.1), some (.int x5.1)]) (st := []) (h := hS x10 M) ?_
        refine Sp.step rfl rfl rfl rfl ?_
        exact Sp.iret rfl rfl rfl rfl (fun _ _ h => h)
      · refine Sp.step rfl rfl rfl rfl ?_
        exact Sp.iret rfl rfl rfl rfl (fun _ _ h => h)
    · refine Sp.step rfl rfl rfl rfl ?_
      refine Sp.step rfl rfl rfl rfl ?_
      refine Sp.if2 rfl rfl rfl rfl (fun e11 => ?_) (fun e11 => ?_)
      · refine Sp.step rfl rfl rfl rfl ?_
        refine Sp.step rfl rfl rfl rfl ?_
        refine Sp.step rfl rfl rfl rfl ?_
        refine Sp.step rfl rfl rfl rfl ?_
        refine Sp.call rfl rfl rfl rfl s_Engine_reckon (fun x12 => ⟨_, _, ⟨rfl, rfl⟩, ?_⟩)
        refine Sp.id (pc := 51) (l := [some (.ref 40), some (.ref x), some (.int y), some (.int x2.1), some (.int x5.1)]) (st := [.int x12, .ref x]) (h := hS x5.2 M) ?_
        refine Sp.guard (fun e13 => ?_)
        refine Sp.call rfl rfl rfl (xrecv (c := 9) (by decide) e13 (by decide +kernel)) s_Strand_push (fun x14 => ⟨_, _, ⟨rfl, rfl⟩, ?_⟩)
        refine Sp.id (pc := 54) (l := [some (.ref 40), some (.ref x), some (.int y), some (.int x2.1), some (.int x5.1)]) (st := []) (h := hS x14 M) ?_
        refine Sp.step rfl rfl rfl rfl ?_
        exact Sp.iret rfl rfl rfl rfl (fun _ _ h => h)
      · refine Sp.step rfl rfl rfl rfl ?_
        refine Sp.if1 rfl rfl rfl rfl (fun e15 => ?_) (fun e15 => ?_)
        · refine Sp.step rfl rfl rfl rfl ?_
          refine Sp.step rfl rfl rfl rfl ?_
          refine Sp.step rfl rfl rfl rfl ?_
          refine Sp.step rfl rfl rfl rfl ?_
          refine Sp.call rfl rfl rfl rfl s_Engine_reckon (fun x16 => ⟨_, _, ⟨rfl, rfl⟩, ?_⟩)
          refine Sp.id (pc := 51) (l := [some (.ref 40), some (.ref x), some (.int y), some (.int x2.1), some (.int x5.1)]) (st := [.int x16, .ref x]) (h := hS x5.2 M) ?_
          refine Sp.guard (fun e17 => ?_)
          refine Sp.call rfl rfl rfl (xrecv (c := 9) (by decide) e17 (by decide +kernel)) s_Strand_push (fun x18 => ⟨_, _, ⟨rfl, rfl⟩, ?_⟩)
          refine Sp.id (pc := 54) (l := [some (.ref 40), some (.ref x), some (.int y), some (.int x2.1), some (.int x5.1)]) (st := []) (h := hS x18 M) ?_
          refine Sp.step rfl rfl rfl rfl ?_
          exact Sp.iret rfl rfl rfl rfl (fun _ _ h => h)
        · refine Sp.step rfl rfl rfl rfl ?_
          exact Sp.iret rfl rfl rfl rfl (fun _ _ h => h)
  · refine Sp.step rfl rfl rfl rfl ?_
    refine Sp.step rfl rfl rfl rfl ?_
    refine Sp.step rfl rfl rfl rfl ?_
    refine Sp.guard (fun e19 => ?_)
    refine Sp.call rfl rfl rfl (xrecv (c := 9) (by decide) e19 (by decide +kernel)) s_Strand_push (fun x20 => ⟨_, _, ⟨rfl, rfl⟩, ?_⟩)
    refine Sp.id (pc := 17) (l := [some (.ref 40), some (.ref x), some (.int y), some (.int x2.1), none]) (st := []) (h := hS x20 M) ?_
    refine Sp.step rfl rfl rfl rfl ?_
    exact Sp.iret rfl rfl rfl rfl (fun _ _ h => h)
def f_Engine_fits (x : Int32) (y : Int32) (X : XS) : Option Bool := ((f_Image_kinds_51 X).bind fun x1 => (if x1 ≤ x then (if (256 - x) - 1 = 0 then some true else (if ¬ (256 - x) - 1 = y then some false else some true)) else (if ¬ y = 10 then some false else ((f_Image_isBelow_51 (X.1 40 11) x X).bind fun x6 => (if x6 = true then some true else some false)))))
set_option maxRecDepth 100000 in
set_option maxHeartbeats 4000000 in
theorem s_Engine_fits {L : Nat} {xs : Nat → Int32} {X : XS} {M : MS} {x : Int32} {y : Int32} : Sp (mjOO L xs) 132 0 [some (.ref 40), some (.int x), some (.int y), none] [] (hS X M) (f_Engine_fits x y X) (KB (hS X M)) := by
  unfold f_Engine_fits
  refine Sp.step rfl rfl rfl rfl ?_
  refine Sp.step rfl rfl rfl rfl ?_
  refine Sp.step rfl rfl rfl (xg_F (c := 0) (f := 6) rfl rfl rfl rfl rfl) ?_
  refine Sp.call rfl rfl rfl (xrecv (c := 2) (by decide) rfl (by decide +kernel)) s_Image_kinds_51 (fun x1 => ⟨_, _, ⟨rfl, rfl⟩, ?_⟩)
  refine Sp.id (pc := 8) (l := [some (.ref 40), some (.int x), some (.int y), none]) (st := [.int x1, .int x]) (h := hS X M) ?_
  refine Sp.if2 rfl rfl rfl rfl (fun e2 => ?_) (fun e2 => ?_)
  · refine Sp.step rfl rfl rfl rfl ?_
    refine Sp.step rfl rfl rfl rfl ?_
    refine Sp.step rfl rfl rfl rfl ?_
    refine Sp.step rfl rfl rfl rfl ?_
    refine Sp.step rfl rfl rfl rfl ?_
    refine Sp.step rfl rfl rfl rfl ?_
    refine Sp.step rfl rfl rfl rfl ?_
    refine Sp.if1 rfl rfl rfl rfl (fun e3 => ?_) (fun e3 => ?_)
    · refine Sp.step rfl rfl rfl rfl ?_
      refine Sp.step rfl rfl rfl rfl ?_
      exact Sp.iret rfl rfl rfl rfl (fun _ _ h => h)
    · refine Sp.step rfl rfl rfl rfl ?_
      refine Sp.step rfl rfl rfl rfl ?_
      refine Sp.if2 rfl rfl rfl rfl (fun e4 => ?_) (fun e4 => ?_)
      · refine Sp.step rfl rfl rfl rfl ?_
        exact Sp.iret rfl rfl rfl rfl (fun _ _ h => h)
      · refine Sp.step rfl rfl rfl rfl ?_
        refine Sp.step rfl rfl rfl rfl ?_
        exact Sp.iret rfl rfl rfl rfl (fun _ _ h => h)
  · refine Sp.step rfl rfl rfl rfl ?_
    refine Sp.step rfl rfl rfl rfl ?_
    refine Sp.if2 rfl rfl rfl rfl (fun e5 => ?_) (fun e5 => ?_)
    · refine Sp.step rfl rfl rfl rfl ?_
      exact Sp.iret rfl rfl rfl rfl (fun _ _ h => h)
    · refine Sp.step rfl rfl rfl rfl ?_
      refine Sp.step rfl rfl rfl (xg_F (c := 0) (f := 6) rfl rfl rfl rfl rfl) ?_
      refine Sp.step rfl rfl rfl rfl ?_
      refine Sp.step rfl rfl rfl (xg_I (c := 0) (f := 11) rfl rfl rfl rfl) ?_
      refine Sp.step rfl rfl rfl rfl ?_
      refine Sp.call rfl rfl rfl (xrecv (c := 2) (by decide) rfl (by decide +kernel)) s_Image_isBelow_51 (fun x6 => ⟨_, _, ⟨rfl, rfl⟩, ?_⟩)
      refine Sp.bool (fun e7 => ?_) (fun e7 => ?_)
      · refine Sp.id (pc := 29) (l := [some (.ref 40), some (.int x), some (.int y), none]) (st := [.int 1]) (h := hS X M) ?_
        refine Sp.step rfl rfl rfl rfl ?_
        refine Sp.step rfl rfl rfl rfl ?_
        refine Sp.step rfl rfl rfl rfl ?_
        exact Sp.iret rfl rfl rfl rfl (fun _ _ h => h)
      · refine Sp.id (pc := 29) (l := [some (.ref 40), some (.int x), some (.int y), none]) (st := [.int 0]) (h := hS X M) ?_
        refine Sp.step rfl rfl rfl rfl ?_
        refine Sp.step rfl rfl rfl rfl ?_
        exact Sp.iret rfl rfl rfl rfl (fun _ _ h => h)
def b52_Engine_handlerFor (x : Nat) (y : Int32) (X : XS) (x2 : Int32) (x3 : Int32) (x4 : Int32) : Option (Int32 ⊕ Int32) := (if x3 ≤ x4 then some (.inr (-1)) else (if 6 ≤ x4 then some (.inr (-1)) else ((f_Image_two_51 (((f_Image_headAt_51 (X.1 x 3) X) + 9) + (7 * x4)) X).bind fun x7 => (if (X.1 x 4) - x2 < x7 then some (.inl (x4 + 1)) else ((f_Image_two_51 ((((f_Image_headAt_51 (X.1 x 3) X) + 9) + (7 * x4)) + 2) X).bind fun x10 => (if x10 ≤ (X.1 x 4) - x2 then some (.inl (x4 + 1)) else ((f_Image_at_51 ((((f_Image_headAt_51 (X.1 x 3) X) + 9) + (7 * x4)) + 6) X).bind fun x14 => ((f_Engine_fits x14 y X).bind fun x15 => (if x15 = true then ((f_Image_two_51 ((((f_Image_headAt_51 (X.1 x 3) X) + 9) + (7 * x4)) + 4) X).bind fun x18 => some (.inr (x2 + x18))) else some (.inl (x4 + 1)))))))))))
def f_Engine_handlerFor (x : Nat) (y : Int32) (X : XS) : Option Int32 := (if (xT X x = some (14, 0)) then ((f_Image_codeAt_51 (X.1 x 3) X).bind fun x2 => ((f_Image_at_51 (((f_Image_headAt_51 (X.1 x 3) X) + 9) - 1) X).bind fun x3 => (lp (b52_Engine_handlerFor x y X x2 x3) 10000 (0 : Int32)))) else none)
set_option maxRecDepth 100000 in
set_option maxHeartbeats 4000000 in
theorem s_Engine_handlerFor {L : Nat} {xs : Nat → Int32} {X : XS} {M : MS} {x : Nat} {y : Int32} : Sp (mjOO L xs) 131 0 [some (.ref 40), some (.ref x), some (.int y), none, none, none, none, none, none, none] [] (hS X M) (f_Engine_handlerFor x y X) (KQ (hS X M)) := by
  unfold f_Engine_handlerFor
  refine Sp.step rfl rfl rfl rfl ?_
  refine Sp.step rfl rfl rfl (xg_F (c := 0) (f := 6) rfl rfl rfl rfl rfl) ?_
  refine Sp.step rfl rfl rfl rfl ?_
  refine Sp.guard (fun e1 => ?_)
  refine Sp.step rfl rfl rfl (xg_I (c := 9) (f := 3) rfl rfl e1 rfl) ?_
  refine Sp.callS rfl rfl rfl (xrecv (c := 2) (by decide) rfl (by decide +kernel)) s_Image_headAt_51 ⟨rfl, rfl⟩ ?_
  refine Sp.id (pc := 11) (l := [some (.ref 40), some (.ref x), some (.int y), none, none, none, none, none, none, none]) (st := [.int (f_Image_headAt_51 (X.1 x 3) X)]) (h := hS X M) ?_
  refine Sp.step rfl rfl rfl rfl ?_
  refine Sp.step rfl rfl rfl rfl ?_
  refine Sp.step rfl rfl rfl (xg_F (c := 0) (f := 6) rfl rfl rfl rfl rfl) ?_
  refine Sp.step rfl rfl rfl rfl ?_
  refine Sp.step rfl rfl rfl (xg_I (c := 9) (f := 3) rfl rfl e1 rfl) ?_
  refine Sp.call rfl rfl rfl (xrecv (c := 2) (by decide) rfl (by decide +kernel)) s_Image_codeAt_51 (fun x2 => ⟨_, _, ⟨rfl, rfl⟩, ?_⟩)
  refine Sp.id (pc := 23) (l := [some (.ref 40), some (.ref x), some (.int y), some (.int (f_Image_headAt_51 (X.1 x 3) X)), none, none, none, none, none, none]) (st := [.int x2]) (h := hS X M) ?_
  refine Sp.step rfl rfl rfl rfl ?_
  refine Sp.step rfl rfl rfl rfl ?_
  refine Sp.step rfl rfl rfl (xg_I (c := 9) (f := 4) rfl rfl e1 rfl) ?_
  refine Sp.step rfl rfl rfl rfl ?_
  refine Sp.step rfl rfl rfl rfl ?_
  refine Sp.step rfl rfl rfl rfl ?_
  refine Sp.step rfl rfl rfl rfl ?_
  refine Sp.step rfl rfl rfl (xg_F (c := 0) (f := 6) rfl rfl rfl rfl rfl) ?_
  refine Sp.step rfl rfl rfl rfl ?_
  refine Sp.step rfl rfl rfl rfl ?_
  refine Sp.step rfl rfl rfl rfl ?_
  refine Sp.step rfl rfl rfl rfl ?_
  refine Sp.step rfl rfl rfl rfl ?_
  refine Sp.call rfl rfl rfl (xrecv (c := 2) (by decide) rfl (by decide +kernel)) s_Image_at_51 (fun x3 => ⟨_, _, ⟨rfl, rfl⟩, ?_⟩)
  refine Sp.id (pc := 47) (l := [some (.ref 40), some (.ref x), some (.int y), some (.int (f_Image_headAt_51 (X.1 x 3) X)), some (.int x2), some (.int ((X.1 x 4) - x2)), none, none, none, none]) (st := [.int x3]) (h := hS X M) ?_
  refine Sp.step rfl rfl rfl rfl ?_
  refine Sp.step rfl rfl rfl rfl ?_
  refine Sp.step rfl rfl rfl rfl ?_
  refine Sp.weak (l0 := [some (.ref 40), none, some (.int y), some (.int (f_Image_headAt_51 (X.1 x 3) X)), some (.int x2), some (.int ((X.1 x 4) - x2)), some (.int x3), some (.int 0), none, none]) ⟨rfl, rfl, rfl, rfl, rfl, rfl, rfl, trivial⟩ ?_
  refine Sp.loopL (mf := (fun (x4 : Int32) => [some (.ref 40), none, some (.int y), some (.int (f_Image_headAt_51 (X.1 x 3) X)), some (.int x2), some (.int ((X.1 x 4) - x2)), some (.int x3), some (.int x4), none, none])) (hf := (fun (x4 : Int32) => hS X M)) (fun x4 => ?_) _ _
  unfold b52_Engine_handlerFor
  refine Sp.step rfl rfl rfl rfl ?_
  refine Sp.step rfl rfl rfl rfl ?_
  refine Sp.if2 rfl rfl rfl rfl (fun e5 => ?_) (fun e5 => ?_)
  · refine Sp.step rfl rfl rfl rfl ?_
    exact Sp.iret rfl rfl rfl rfl (fun _ _ h => h)
  · refine Sp.step rfl rfl rfl rfl ?_
    refine Sp.step rfl rfl rfl rfl ?_
    refine Sp.if2 rfl rfl rfl rfl (fun e6 => ?_) (fun e6 => ?_)
    · refine Sp.step rfl rfl rfl rfl ?_
      exact Sp.iret rfl rfl rfl rfl (fun _ _ h => h)
    · refine Sp.step rfl rfl rfl rfl ?_
      refine Sp.step rfl rfl rfl rfl ?_
      refine Sp.step rfl rfl rfl rfl ?_
      refine Sp.step rfl rfl rfl rfl ?_
      refine Sp.step rfl rfl rfl rfl ?_
      refine Sp.step rfl rfl rfl rfl ?_
      refine Sp.step rfl rfl rfl rfl ?_
      refine Sp.step rfl rfl rfl rfl ?_
      refine Sp.step rfl rfl rfl rfl ?_
      refine Sp.step rfl rfl rfl (xg_F (c := 0) (f := 6) rfl rfl rfl rfl rfl) ?_
      refine Sp.step rfl rfl rfl rfl ?_
      refine Sp.call rfl rfl rfl (xrecv (c := 2) (by decide) rfl (by decide +kernel)) s_Image_two_51 (fun x7 => ⟨_, _, ⟨rfl, rfl⟩, ?_⟩)
      refine Sp.id (pc := 87) (l := [some (.ref 40), none, some (.int y), some (.int (f_Image_headAt_51 (X.1 x 3) X)), some (.int x2), some (.int ((X.1 x 4) - x2)), some (.int x3), some (.int x4), some (.int (((f_Image_headAt_51 (X.1 x 3) X) + 9) + (7 * x4))), none]) (st := [.int x7]) (h := hS X M) ?_
      refine Sp.step rfl rfl rfl rfl ?_
      refine Sp.if2 rfl rfl rfl rfl (fun e8 => ?_) (fun e8 => ?_)
      · refine Sp.step rfl rfl rfl rfl ?_
        refine Sp.step rfl rfl rfl rfl ?_
        refine Sp.step rfl rfl rfl rfl ?_
        refine Sp.step rfl rfl rfl rfl ?_
        refine Sp.step rfl rfl rfl rfl ?_
        refine Sp.step rfl rfl rfl rfl ?_
        exact Sp.jmp (l0 := [some (.ref 40), none, some (.int y), some (.int (f_Image_headAt_51 (X.1 x 3) X)), some (.int x2), some (.int ((X.1 x 4) - x2)), some (.int x3), some (.int (x4 + 1)), none, none]) ⟨rfl, rfl, rfl, rfl, rfl, rfl, rfl, trivial⟩ (fun _ _ h => h)
      · refine Sp.step rfl rfl rfl rfl ?_
        refine Sp.step rfl rfl rfl rfl ?_
        refine Sp.step rfl rfl rfl (xg_F (c := 0) (f := 6) rfl rfl rfl rfl rfl) ?_
        refine Sp.step rfl rfl rfl rfl ?_
        refine Sp.step rfl rfl rfl rfl ?_
        refine Sp.step rfl rfl rfl rfl ?_
        refine Sp.call rfl rfl rfl (xrecv (c := 2) (by decide) rfl (by decide +kernel)) s_Image_two_51 (fun x10 => ⟨_, _, ⟨rfl, rfl⟩, ?_⟩)
        refine Sp.id (pc := 105) (l := [some (.ref 40), none, some (.int y), some (.int (f_Image_headAt_51 (X.1 x 3) X)), some (.int x2), some (.int ((X.1 x 4) - x2)), some (.int x3), some (.int x4), some (.int (((f_Image_headAt_51 (X.1 x 3) X) + 9) + (7 * x4))), none]) (st := [.int x10, .int ((X.1 x 4) - x2)]) (h := hS X M) ?_
        refine Sp.if2 rfl rfl rfl rfl (fun e11 => ?_) (fun e11 => ?_)
        · refine Sp.step rfl rfl rfl rfl ?_
          refine Sp.step rfl rfl rfl rfl ?_
          refine Sp.step rfl rfl rfl rfl ?_
          refine Sp.step rfl rfl rfl rfl ?_
          refine Sp.step rfl rfl rfl rfl ?_
          refine Sp.step rfl rfl rfl rfl ?_
          exact Sp.jmp (l0 := [some (.ref 40), none, some (.int y), some (.int (f_Image_headAt_51 (X.1 x 3) X)), some (.int x2), some (.int ((X.1 x 4) - x2)), some (.int x3), some (.int (x4 + 1)), none, none]) ⟨rfl, rfl, rfl, rfl, rfl, rfl, rfl, trivial⟩ (fun _ _ h => h)
        · refine Sp.step rfl rfl rfl rfl ?_
          refine Sp.step rfl rfl rfl rfl ?_
          refine Sp.step rfl rfl rfl rfl ?_
          refine Sp.step rfl rfl rfl rfl ?_
          refine Sp.step rfl rfl rfl rfl ?_
          refine Sp.step rfl rfl rfl rfl ?_
          refine Sp.step rfl rfl rfl rfl ?_
          refine Sp.step rfl rfl rfl (xg_F (c := 0) (f := 6) rfl rfl rfl rfl rfl) ?_
          refine Sp.step rfl rfl rfl rfl ?_
          refine Sp.step rfl rfl rfl rfl ?_
          refine Sp.step rfl rfl rfl rfl ?_
          refine Sp.call rfl rfl rfl (xrecv (c := 2) (by decide) rfl (by decide +kernel)) s_Image_at_51 (fun x14 => ⟨_, _, ⟨rfl, rfl⟩, ?_⟩)
          refine Sp.id (pc := 133) (l := [some (.ref 40), none, some (.int y), some (.int (f_Image_headAt_51 (X.1 x 3) X)), some (.int x2), some (.int ((X.1 x 4) - x2)), some (.int x3), some (.int x4), some (.int (((f_Image_headAt_51 (X.1 x 3) X) + 9) + (7 * x4))), some (.int 1)]) (st := [.int x14, .ref 40]) (h := hS X M) ?_
          refine Sp.step rfl rfl rfl rfl ?_
          refine Sp.call rfl rfl rfl (xrecv (c := 0) (by decide) rfl (by decide +kernel)) s_Engine_fits (fun x15 => ⟨_, _, ⟨rfl, rfl⟩, ?_⟩)
          refine Sp.bool (fun e16 => ?_) (fun e16 => ?_)
          · refine Sp.id (pc := 137) (l := [some (.ref 40), none, some (.int y), some (.int (f_Image_headAt_51 (X.1 x 3) X)), some (.int x2), some (.int ((X.1 x 4) - x2)), some (.int x3), some (.int x4), some (.int (((f_Image_headAt_51 (X.1 x 3) X) + 9) + (7 * x4))), some (.int 1)]) (st := [.int 1]) (h := hS X M) ?_
            refine Sp.step rfl rfl rfl rfl ?_
            refine Sp.step rfl rfl rfl rfl ?_
            refine Sp.step rfl rfl rfl rfl ?_
            refine Sp.step rfl rfl rfl (xg_F (c := 0) (f := 6) rfl rfl rfl rfl rfl) ?_
            refine Sp.step rfl rfl rfl rfl ?_
            refine Sp.step rfl rfl rfl rfl ?_
            refine Sp.step rfl rfl rfl rfl ?_
            refine Sp.call rfl rfl rfl (xrecv (c := 2) (by decide) rfl (by decide +kernel)) s_Image_two_51 (fun x18 => ⟨_, _, ⟨rfl, rfl⟩, ?_⟩)
            refine Sp.id (pc := 153) (l := [some (.ref 40), none, some (.int y), some (.int (f_Image_headAt_51 (X.1 x 3) X)), some (.int x2), some (.int ((X.1 x 4) - x2)), some (.int x3), some (.int x4), some (.int (((f_Image_headAt_51 (X.1 x 3) X) + 9) + (7 * x4))), some (.int 1)]) (st := [.int x18, .int x2]) (h := hS X M) ?_
            refine Sp.step rfl rfl rfl rfl ?_
            exact Sp.iret rfl rfl rfl rfl (fun _ _ h => h)
          · refine Sp.id (pc := 137) (l := [some (.ref 40), none, some (.int y), some (.int (f_Image_headAt_51 (X.1 x 3) X)), some (.int x2), some (.int ((X.1 x 4) - x2)), some (.int x3), some (.int x4), some (.int (((f_Image_headAt_51 (X.1 x 3) X) + 9) + (7 * x4))), some (.int 1)]) (st := [.int 0]) (h := hS X M) ?_
            refine Sp.step rfl rfl rfl rfl ?_
            refine Sp.step rfl rfl rfl rfl ?_
            refine Sp.step rfl rfl rfl rfl ?_
            exact Sp.jmp (l0 := [some (.ref 40), none, some (.int y), some (.int (f_Image_headAt_51 (X.1 x 3) X)), some (.int x2), some (.int ((X.1 x 4) - x2)), some (.int x3), some (.int (x4 + 1)), none, none]) ⟨rfl, rfl, rfl, rfl, rfl, rfl, rfl, trivial⟩ (fun _ _ h => h)
def b2_Strand_catchAt (x : Nat) (x6 : (Int32 × XS)) : Option ((Int32 × XS) ⊕ (Int32 × XS)) := (if 10 ≤ x6.1 then some (.inr (x6.1, x6.2)) else (if (xT x6.2 x = some (14, 0)) then (if x6.2.1 x 8 ≤ 0 then some (.inr (x6.1, x6.2)) else ((f_Strand_pop x x6.2).bind fun x10 => some (.inl (x6.1 + 1, x10.2)))) else none))
def f_Strand_catchAt (x : Nat) (y : Int32) (z : Int32) (X : XS) : Option XS := ((lp (b2_Strand_catchAt x) 10000 ((0 : Int32), X)).bind fun x11 => (if (xT x11.2 x = some (14, 0)) then (lt (xw x11.2 x 4 y) fun X13 => ((f_Strand_pushMarked x z 1 X13).bind fun x14 => some x14)) else none))
set_option maxRecDepth 100000 in
set_option maxHeartbeats 4000000 in
theorem s_Strand_catchAt {L : Nat} {xs : Nat → Int32} {X : XS} {M : MS} {x : Nat} {y : Int32} {z : Int32} : Sp (mjOO L xs) 299 0 [some (.ref x), some (.int y), some (.int z), none] [] (hS X M) (f_Strand_catchAt x y z X) (KVX M) := by
  unfold f_Strand_catchAt
  refine Sp.step rfl rfl rfl rfl ?_
  refine Sp.step rfl rfl rfl rfl ?_
  refine Sp.weak (l0 := [some (.ref x), some (.int y), some (.int z), some (.int 0)]) ⟨rfl, rfl, rfl, rfl, trivial⟩ ?_
  refine Sp.loopX (pe := 26) (mf := (fun (x6 : (Int32 × XS)) => [some (.ref x), some (.int y), some (.int z), some (.int x6.1)])) (hf := (fun (x6 : (Int32 × XS)) => hS x6.2 M)) (fun x6 => ?_) (fun x11 => ?_) _ _
  · unfold b2_Strand_catchAt
    refine Sp.step rfl rfl rfl rfl ?_
    refine Sp.step rfl rfl rfl rfl ?_
    refine Sp.if2 rfl rfl rfl rfl (fun e7 => ?_) (fun e7 => ?_)
    · exact Sp.jmp (l0 := [some (.ref x), some (.int y), some (.int z), some (.int x6.1)]) ⟨rfl, rfl, rfl, rfl, trivial⟩ (fun _ _ h => h)
    · refine Sp.step rfl rfl rfl rfl ?_
      refine Sp.guard (fun e8 => ?_)
      refine Sp.step rfl rfl rfl (xg_I (c := 9) (f := 8) rfl rfl e8 rfl) ?_
      refine Sp.if1 rfl rfl rfl rfl (fun e9 => ?_) (fun e9 => ?_)
      · exact Sp.jmp (l0 := [some (.ref x), some (.int y), some (.int z), some (.int x6.1)]) ⟨rfl, rfl, rfl, rfl, trivial⟩ (fun _ _ h => h)
      · refine Sp.step rfl rfl rfl rfl ?_
        refine Sp.call rfl rfl rfl (xrecv (c := 9) (by decide) e8 (by decide +kernel)) s_Strand_pop (fun x10 => ⟨_, _, ⟨rfl, rfl⟩, ?_⟩)
        refine Sp.id (pc := 19) (l := [some (.ref x), some (.int y), some (.int z), some (.int x6.1)]) (st := [.int x10.1]) (h := hS x10.2 M) ?_
        refine Sp.step rfl rfl rfl rfl ?_
        refine Sp.step rfl rfl rfl rfl ?_
        refine Sp.step rfl rfl rfl rfl ?_
        exact Sp.jmp (l0 := [some (.ref x), some (.int y), some (.int z), some (.int (x6.1 + 1))]) ⟨rfl, rfl, rfl, rfl, trivial⟩ (fun _ _ h => h)
  · refine Sp.step rfl rfl rfl rfl ?_
    refine Sp.step rfl rfl rfl rfl ?_
    refine Sp.guard (fun e12 => ?_)
    refine Sp.step rfl rfl rfl (xp_I (c := 9) (f := 4) rfl rfl e12 rfl rfl) ?_
    refine Sp.step rfl rfl rfl rfl ?_
    refine Sp.step rfl rfl rfl rfl ?_
    refine Sp.step rfl rfl rfl rfl ?_
    refine Sp.call rfl rfl rfl (xrecv (c := 9) (by decide) e12 (by decide +kernel)) s_Strand_pushMarked (fun x14 => ⟨_, _, ⟨rfl, rfl⟩, ?_⟩)
    refine Sp.id (pc := 37) (l := [some (.ref x), some (.int y), some (.int z), some (.int x11.1)]) (st := []) (h := hS x14 M) ?_
    exact Sp.vret rfl rfl rfl (fun _ _ h => h)
def f_Image_sourceKind_51 (x : Int32) (X : XS) : Int32 := (if 0 ≤ x ∧ x ≤ 9 then X.1 55 x.toNatClampNeg else 0)
set_option maxRecDepth 100000 in
set_option maxHeartbeats 4000000 in
theorem s_Image_sourceKind_51 {L : Nat} {xs : Nat → Int32} {X : XS} {M : MS} {x : Int32} : Sp (mjOO L xs) 174 0 [some (.ref 51), some (.int x)] [] (hS X M) (some (f_Image_sourceKind_51 x X)) (KQ (hS X M)) := by
  unfold f_Image_sourceKind_51
  refine Sp.step rfl rfl rfl rfl ?_
  refine Sp.step rfl rfl rfl rfl ?_
  refine Sp.step rfl rfl rfl rfl ?_
  refine Sp.callPV rfl rfl rfl rfl s_within (fun e1 => ?_) (fun e1 => ?_)
  · refine Sp.id (pc := 7) (l := [some (.ref 51), some (.int x)]) (st := [.int 1]) (h := hS X M) ?_
    refine Sp.step rfl rfl rfl rfl ?_
    refine Sp.step rfl rfl rfl rfl ?_
    refine Sp.step rfl rfl rfl (xg_F (c := 2) (f := 5) rfl rfl rfl rfl rfl) ?_
    refine Sp.step rfl rfl rfl rfl ?_
    refine Sp.step rfl rfl rfl (xld rfl (by decide) (ix_le (N := 9) rfl e1.1 e1.2)) ?_
    refine Sp.step rfl rfl rfl rfl ?_
    exact Sp.iret rfl rfl rfl rfl (fun _ _ h => h)
  · refine Sp.id (pc := 7) (l := [some (.ref 51), some (.int x)]) (st := [.int 0]) (h := hS X M) ?_
    refine Sp.step rfl rfl rfl rfl ?_
    refine Sp.step rfl rfl rfl rfl ?_
    exact Sp.iret rfl rfl rfl rfl (fun _ _ h => h)
def f_Engine_thrownNumber (X : XS) : Option Int32 := ((f_Image_kinds_51 X).bind fun x1 => (if x1 ≤ X.1 40 11 then some 110 else some (100 + (f_Image_sourceKind_51 (X.1 40 11) X))))
set_option maxRecDepth 100000 in
set_option maxHeartbeats 4000000 in
theorem s_Engine_thrownNumber {L : Nat} {xs : Nat → Int32} {X : XS} {M : MS} : Sp (mjOO L xs) 130 0 [some (.ref 40)] [] (hS X M) (f_Engine_thrownNumber X) (KQ (hS X M)) := by
  unfold f_Engine_thrownNumber
  refine Sp.step rfl rfl rfl rfl ?_
  refine Sp.step rfl rfl rfl (xg_I (c := 0) (f := 11) rfl rfl rfl rfl) ?_
  refine Sp.step rfl rfl rfl rfl ?_
  refine Sp.step rfl rfl rfl (xg_F (c := 0) (f := 6) rfl rfl rfl rfl rfl) ?_
  refine Sp.call rfl rfl rfl (xrecv (c := 2) (by decide) rfl (by decide +kernel)) s_Image_kinds_51 (fun x1 => ⟨_, _, ⟨rfl, rfl⟩, ?_⟩)
  refine Sp.id (pc := 11) (l := [some (.ref 40)]) (st := [.int x1, .int (X.1 40 11)]) (h := hS X M) ?_
  refine Sp.if2 rfl rfl rfl rfl (fun e2 => ?_) (fun e2 => ?_)
  · refine Sp.step rfl rfl rfl rfl ?_
    exact Sp.iret rfl rfl rfl rfl (fun _ _ h => h)
  · refine Sp.step rfl rfl rfl rfl ?_
    refine Sp.step rfl rfl rfl rfl ?_
    refine Sp.step rfl rfl rfl (xg_F (c := 0) (f := 6) rfl rfl rfl rfl rfl) ?_
    refine Sp.step rfl rfl rfl rfl ?_
    refine Sp.step rfl rfl rfl (xg_I (c := 0) (f := 11) rfl rfl rfl rfl) ?_
    refine Sp.callS rfl rfl rfl (xrecv (c := 2) (by decide) rfl (by decide +kernel)) s_Image_sourceKind_51 ⟨rfl, rfl⟩ ?_
    refine Sp.id (pc := 27) (l := [some (.ref 40)]) (st := [.int (f_Image_sourceKind_51 (X.1 40 11) X), .int 100]) (h := hS X M) ?_
    refine Sp.step rfl rfl rfl rfl ?_
    refine Sp.step rfl rfl rfl rfl ?_
    exact Sp.iret rfl rfl rfl rfl (fun _ _ h => h)
def b30_Engine_raise (x : Nat) (y : Int32) (x2 : (Int32)) (x13 : (Int32 × XS)) : Option ((Int32 × XS) ⊕ ((Int32 × XS) ⊕ XS)) := (if 20 ≤ x13.1 then some (.inr (.inl (x13.1, x13.2))) else (if (xT x13.2 x = some (14, 0)) then (if x13.2.1 x 2 ≤ 0 then some (.inr (.inl (x13.1, x13.2))) else ((f_Engine_handlerFor x y x13.2).bind fun x17 => (if x17 = (-1) then ((f_Strand_leave x x13.2).bind fun x19 => some (.inl (x13.1 + 1, x19))) else ((f_Strand_catchAt x x17 x2 x13.2).bind fun x20 => some (.inr (.inr x20)))))) else none))
def f_Engine_raise (x : Nat) (y : Int32) (X : XS) : Option XS := (((if ¬ y = 10 then some 0 else some (X.1 40 10)) : Option (Int32)).bind fun x2 => ((f_Memory_kindOf x2 X).bind fun x3 => (lt (xw X 40 11 x3) fun X4 => ((lp (b30_Engine_raise x y x2) 10000 ((0 : Int32), X4)).bind fun s => sb s fun x21 => (if ¬ y = 10 then (if (xT x21.2 x = some (14, 0)) then ((f_Strand_finish x 2 (-y) x21.2).bind fun x24 => some x24) else none) else ((f_Engine_thrownNumber x21.2).bind fun x25 => (if (xT x21.2 x = some (14, 0)) then ((f_Strand_finish x 2 x25 x21.2).bind fun x27 => some x27) else none)))))))
set_option maxRecDepth 100000 in
set_option maxHeartbeats 4000000 in
theorem s_Engine_raise {L : Nat} {xs : Nat → Int32} {X : XS} {M : MS} {x : Nat} {y : Int32} : Sp (mjOO L xs) 129 0 [some (.ref 40), some (.ref x), some (.int y), none, none, none] [] (hS X M) (f_Engine_raise x y X) (KVX M) := by
  unfold f_Engine_raise
  refine Sp.step rfl rfl rfl rfl ?_
  refine Sp.step rfl rfl rfl rfl ?_
  refine Sp.piece (pe := 14) (mf := (fun (x2 : Int32) => [some (.ref 40), some (.ref x), some (.int y), none, none, none])) (sf := (fun (x2 : Int32) => [.int x2])) (hf := (fun (x2 : Int32) => hS X M)) ?_ (fun x2 => ?_)
  · refine Sp.if2 rfl rfl rfl rfl (fun e1 => ?_) (fun e1 => ?_)
    · refine Sp.step rfl rfl rfl rfl ?_
      exact Sp.jmp (l0 := [some (.ref 40), some (.ref x), some (.int y), none, none, none]) ⟨rfl, rfl, rfl, trivial⟩ (fun _ _ h => h)
    · refine Sp.step rfl rfl rfl rfl ?_
      refine Sp.step rfl rfl rfl (xg_I (c := 0) (f := 10) rfl rfl rfl rfl) ?_
      refine Sp.step rfl rfl rfl rfl ?_
      exact Sp.jmp (l0 := [some (.ref 40), some (.ref x), some (.int y), none, none, none]) ⟨rfl, rfl, rfl, trivial⟩ (fun _ _ h => h)
  · refine Sp.step rfl rfl rfl rfl ?_
    refine Sp.step rfl rfl rfl rfl ?_
    refine Sp.step rfl rfl rfl rfl ?_
    refine Sp.step rfl rfl rfl (xg_F (c := 0) (f := 3) rfl rfl rfl rfl rfl) ?_
    refine Sp.step rfl rfl rfl rfl ?_
    refine Sp.call rfl rfl rfl (xrecv (c := 4) (by decide) rfl (by decide +kernel)) s_Memory_kindOf (fun x3 => ⟨_, _, ⟨rfl, rfl⟩, ?_⟩)
    refine Sp.id (pc := 24) (l := [some (.ref 40), some (.ref x), some (.int y), some (.int x2), none, none]) (st := [.int x3, .ref 40]) (h := hS X M) ?_
    refine Sp.step rfl rfl rfl (xp_I (c := 0) (f := 11) rfl rfl rfl rfl rfl) ?_
    refine Sp.step rfl rfl rfl rfl ?_
    refine Sp.step rfl rfl rfl rfl ?_
    refine Sp.weak (l0 := [some (.ref 40), some (.ref x), some (.int y), some (.int x2), some (.int 0), none]) ⟨rfl, rfl, rfl, rfl, rfl, trivial⟩ ?_
    refine Sp.loopY (pe := 76) (mf := (fun (x13 : (Int32 × XS)) => [some (.ref 40), some (.ref x), some (.int y), some (.int x2), some (.int x13.1), none])) (hf := (fun (x13 : (Int32 × XS)) => hS x13.2 M)) (fun x13 => ?_) (fun x21 => ?_) _ _
    · unfold b30_Engine_raise
      refine Sp.step rfl rfl rfl rfl ?_
      refine Sp.step rfl rfl rfl rfl ?_
      refine Sp.if2 rfl rfl rfl rfl (fun e14 => ?_) (fun e14 => ?_)
      · exact Sp.jmp (l0 := [some (.ref 40), some (.ref x), some (.int y), some (.int x2), some (.int x13.1), none]) ⟨rfl, rfl, rfl, rfl, rfl, trivial⟩ (fun _ _ h => h)
      · refine Sp.step rfl rfl rfl rfl ?_
        refine Sp.guard (fun e15 => ?_)
        refine Sp.step rfl rfl rfl (xg_I (c := 9) (f := 2) rfl rfl e15 rfl) ?_
        refine Sp.if1 rfl rfl rfl rfl (fun e16 => ?_) (fun e16 => ?_)
        · exact Sp.jmp (l0 := [some (.ref 40), some (.ref x), some (.int y), some (.int x2), some (.int x13.1), none]) ⟨rfl, rfl, rfl, rfl, rfl, trivial⟩ (fun _ _ h => h)
        · refine Sp.step rfl rfl rfl rfl ?_
          refine Sp.step rfl rfl rfl rfl ?_
          refine Sp.step rfl rfl rfl rfl ?_
          refine Sp.call rfl rfl rfl (xrecv (c := 0) (by decide) rfl (by decide +kernel)) s_Engine_handlerFor (fun x17 => ⟨_, _, ⟨rfl, rfl⟩, ?_⟩)
          refine Sp.id (pc := 50) (l := [some (.ref 40), some (.ref x), some (.int y), some (.int x2), some (.int x13.1), none]) (st := [.int x17]) (h := hS x13.2 M) ?_
          refine Sp.step rfl rfl rfl rfl ?_
          refine Sp.step rfl rfl rfl rfl ?_
          refine Sp.step rfl rfl rfl rfl ?_
          refine Sp.if2 rfl rfl rfl rfl (fun e18 => ?_) (fun e18 => ?_)
          · refine Sp.step rfl rfl rfl rfl ?_
            refine Sp.call rfl rfl rfl (xrecv (c := 9) (by decide) e15 (by decide +kernel)) s_Strand_leave (fun x19 => ⟨_, _, ⟨rfl, rfl⟩, ?_⟩)
            refine Sp.id (pc := 70) (l := [some (.ref 40), some (.ref x), some (.int y), some (.int x2), some (.int x13.1), some (.int x17)]) (st := []) (h := hS x19 M) ?_
            refine Sp.step rfl rfl rfl rfl ?_
            refine Sp.step rfl rfl rfl rfl ?_
            exact Sp.jmp (l0 := [some (.ref 40), some (.ref x), some (.int y), some (.int x2), some (.int (x13.1 + 1)), none]) ⟨rfl, rfl, rfl, rfl, rfl, trivial⟩ (fun _ _ h => h)
          · refine Sp.step rfl rfl rfl rfl ?_
            refine Sp.step rfl rfl rfl rfl ?_
            refine Sp.step rfl rfl rfl rfl ?_
            refine Sp.call rfl rfl rfl (xrecv (c := 9) (by decide) e15 (by decide +kernel)) s_Strand_catchAt (fun x20 => ⟨_, _, ⟨rfl, rfl⟩, ?_⟩)
            refine Sp.id (pc := 65) (l := [some (.ref 40), some (.ref x), some (.int y), some (.int x2), some (.int x13.1), some (.int x17)]) (st := []) (h := hS x20 M) ?_
            exact Sp.vret rfl rfl rfl (fun _ _ h => h)
    · refine Sp.step rfl rfl rfl rfl ?_
      refine Sp.step rfl rfl rfl rfl ?_
      refine Sp.step rfl rfl rfl rfl ?_
      refine Sp.step rfl rfl rfl rfl ?_
      refine Sp.if2 rfl rfl rfl rfl (fun e22 => ?_) (fun e22 => ?_)
      · refine Sp.step rfl rfl rfl rfl ?_
        refine Sp.step rfl rfl rfl rfl ?_
        refine Sp.guard (fun e23 => ?_)
        refine Sp.call rfl rfl rfl (xrecv (c := 9) (by decide) e23 (by decide +kernel)) s_Strand_finish (fun x24 => ⟨_, _, ⟨rfl, rfl⟩, ?_⟩)
        refine Sp.id (pc := 96) (l := [some (.ref 40), some (.ref x), some (.int y), some (.int x2), some (.int x21.1), none]) (st := []) (h := hS x24 M) ?_
        exact Sp.vret rfl rfl rfl (fun _ _ h => h)
      · refine Sp.step rfl rfl rfl rfl ?_
        refine Sp.call rfl rfl rfl (xrecv (c := 0) (by decide) rfl (by decide +kernel)) s_Engine_thrownNumber (fun x25 => ⟨_, _, ⟨rfl, rfl⟩, ?_⟩)
        refine Sp.id (pc := 88) (l := [some (.ref 40), some (.ref x), some (.int y), some (.int x2), some (.int x21.1), none]) (st := [.int x25, .int 2, .ref x]) (h := hS x21.2 M) ?_
        refine Sp.step rfl rfl rfl rfl ?_
        refine Sp.guard (fun e26 => ?_)
        refine Sp.call rfl rfl rfl (xrecv (c := 9) (by decide) e26 (by decide +kernel)) s_Strand_finish (fun x27 => ⟨_, _, ⟨rfl, rfl⟩, ?_⟩)
        refine Sp.id (pc := 96) (l := [some (.ref 40), some (.ref x), some (.int y), some (.int x2), some (.int x21.1), none]) (st := []) (h := hS x27 M) ?_
        exact Sp.vret rfl rfl rfl (fun _ _ h => h)
