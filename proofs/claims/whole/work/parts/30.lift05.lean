/-! methods as functions, by program -/
def f_Engine_doMake (x : Nat) (y : Int32) (z : Int32) (X : XS) : Option (Int32 × XS) := (((if ¬ y = 26 then (if (xT X x = some (14, 0)) then ((f_Strand_pop x X).bind fun x3 => some (x3.1, x3.2)) else none) else some (0, X)) : Option (Int32 × XS)).bind fun x4 => (if 0 ≤ x4.1 ∧ x4.1 ≤ 200 then (((if ¬ y = 26 then (if ¬ y = 31 then some 255 else some 254) else some z) : Option (Int32)).bind fun x9 => (if f_Memory_hasRoomFor (f_Memory_bytesFor x9 x4.1 x4.2) x4.2 = true then (if f_Memory_hasRoomFor (f_Memory_bytesFor x9 x4.1 x4.2) x4.2 = true then ((f_Memory_place x9 x4.1 x4.2).bind fun x14 => (if (xT x14.2 x = some (14, 0)) then ((f_Strand_pushRef x x14.1 x14.2).bind fun x16 => some (0, x16)) else none)) else some (9, x4.2)) else ((f_Engine_collect x4.2).bind fun x19 => (if f_Memory_hasRoomFor (f_Memory_bytesFor x9 x4.1 x4.2) x19 = true then ((f_Memory_place x9 x4.1 x19).bind fun x22 => (if (xT x22.2 x = some (14, 0)) then ((f_Strand_pushRef x x22.1 x22.2).bind fun x24 => some (0, x24)) else none)) else some (9, x19))))) else some (4, x4.2)))
set_option maxRecDepth 100000 in
set_option maxHeartbeats 4000000 in
theorem s_Engine_doMake {L : Nat} {xs : Nat → Int32} {X : XS} {M : MS} {x : Nat} {y : Int32} {z : Int32} : Sp (mjOO L xs) 117 0 [some (.ref 40), some (.ref x), some (.int y), some (.int z), none, none, none] [] (hS X M) (f_Engine_doMake x y z X) (KEX M) := by
  unfold f_Engine_doMake
  refine Sp.step rfl rfl rfl rfl ?_
  refine Sp.step rfl rfl rfl rfl ?_
  refine Sp.piece (pe := 14) (mf := (fun (x4 : Int32 × XS) => [some (.ref 40), some (.ref x), some (.int y), some (.int z), none, none, none])) (sf := (fun (x4 : Int32 × XS) => [.int x4.1])) (hf := (fun (x4 : Int32 × XS) => hS x4.2 M)) ?_ (fun x4 => ?_)
  · refine Sp.if2 rfl rfl rfl rfl (fun e1 => ?_) (fun e1 => ?_)
    · refine Sp.step rfl rfl rfl rfl ?_
      refine Sp.guard (fun e2 => ?_)
      refine Sp.call rfl rfl rfl (xrecv (c := 9) (by decide) e2 (by decide +kernel)) s_Strand_pop (fun x3 => ⟨_, _, ⟨rfl, rfl⟩, ?_⟩)
      exact Sp.jmp (l0 := [some (.ref 40), some (.ref x), some (.int y), some (.int z), none, none, none]) ⟨rfl, rfl, rfl, rfl, trivial⟩ (fun _ _ h => h)
    · refine Sp.step rfl rfl rfl rfl ?_
      refine Sp.step rfl rfl rfl rfl ?_
      exact Sp.jmp (l0 := [some (.ref 40), some (.ref x), some (.int y), some (.int z), none, none, none]) ⟨rfl, rfl, rfl, rfl, trivial⟩ (fun _ _ h => h)
  · refine Sp.step rfl rfl rfl rfl ?_
    refine Sp.step rfl rfl rfl rfl ?_
    refine Sp.step rfl rfl rfl rfl ?_
    refine Sp.step rfl rfl rfl rfl ?_
    refine Sp.callP rfl rfl rfl rfl s_within (fun e5 => ?_) (fun e5 => ?_)
    · refine Sp.step rfl rfl rfl rfl ?_
      refine Sp.step rfl rfl rfl rfl ?_
      refine Sp.step rfl rfl rfl rfl ?_
      refine Sp.piece (pe := 55) (mf := (fun (x9 : Int32) => [some (.ref 40), some (.ref x), none, none, some (.int x4.1), none, none])) (sf := (fun (x9 : Int32) => [.int x9])) (hf := (fun (x9 : Int32) => hS x4.2 M)) ?_ (fun x9 => ?_)
      · refine Sp.if2 rfl rfl rfl rfl (fun e7 => ?_) (fun e7 => ?_)
        · refine Sp.step rfl rfl rfl rfl ?_
          refine Sp.step rfl rfl rfl rfl ?_
          refine Sp.if2 rfl rfl rfl rfl (fun e8 => ?_) (fun e8 => ?_)
          · refine Sp.step rfl rfl rfl rfl ?_
            exact Sp.jmp (l0 := [some (.ref 40), some (.ref x), none, none, some (.int x4.1), none, none]) ⟨rfl, rfl, rfl, trivial⟩ (fun _ _ h => h)
          · refine Sp.step rfl rfl rfl rfl ?_
            refine Sp.step rfl rfl rfl rfl ?_
            exact Sp.jmp (l0 := [some (.ref 40), some (.ref x), none, none, some (.int x4.1), none, none]) ⟨rfl, rfl, rfl, trivial⟩ (fun _ _ h => h)
        · refine Sp.step rfl rfl rfl rfl ?_
          refine Sp.step rfl rfl rfl rfl ?_
          exact Sp.jmp (l0 := [some (.ref 40), some (.ref x), none, none, some (.int x4.1), none, none]) ⟨rfl, rfl, rfl, trivial⟩ (fun _ _ h => h)
      · refine Sp.step rfl rfl rfl rfl ?_
        refine Sp.step rfl rfl rfl rfl ?_
        refine Sp.step rfl rfl rfl (xg_F (c := 0) (f := 3) rfl rfl rfl rfl rfl) ?_
        refine Sp.step rfl rfl rfl rfl ?_
        refine Sp.step rfl rfl rfl rfl ?_
        refine Sp.callS rfl rfl rfl (xrecv (c := 4) (by decide) rfl (by decide +kernel)) s_Memory_bytesFor ⟨rfl, rfl⟩ ?_
        refine Sp.step rfl rfl rfl rfl ?_
        refine Sp.step rfl rfl rfl rfl ?_
        refine Sp.step rfl rfl rfl (xg_F (c := 0) (f := 3) rfl rfl rfl rfl rfl) ?_
        refine Sp.step rfl rfl rfl rfl ?_
        refine Sp.callS rfl rfl rfl (xrecv (c := 4) (by decide) rfl (by decide +kernel)) s_Memory_hasRoomFor ⟨rfl, rfl⟩ ?_
        refine Sp.bool (fun e10 => ?_) (fun e10 => ?_)
        · refine Sp.step rfl rfl rfl rfl ?_
          refine Sp.step rfl rfl rfl rfl ?_
          refine Sp.step rfl rfl rfl (xg_F (c := 0) (f := 3) rfl rfl rfl rfl rfl) ?_
          refine Sp.step rfl rfl rfl rfl ?_
          refine Sp.callS rfl rfl rfl (xrecv (c := 4) (by decide) rfl (by decide +kernel)) s_Memory_hasRoomFor ⟨rfl, rfl⟩ ?_
          refine Sp.bool (fun e12 => ?_) (fun e12 => ?_)
          · refine Sp.step rfl rfl rfl rfl ?_
            refine Sp.step rfl rfl rfl rfl ?_
            refine Sp.step rfl rfl rfl rfl ?_
            refine Sp.step rfl rfl rfl (xg_F (c := 0) (f := 3) rfl rfl rfl rfl rfl) ?_
            refine Sp.step rfl rfl rfl rfl ?_
            refine Sp.step rfl rfl rfl rfl ?_
            refine Sp.call rfl rfl rfl (xrecv (c := 4) (by decide) rfl (by decide +kernel)) s_Memory_place (fun x14 => ⟨_, _, ⟨rfl, rfl⟩, ?_⟩)
            refine Sp.guard (fun e15 => ?_)
            refine Sp.call rfl rfl rfl (xrecv (c := 9) (by decide) e15 (by decide +kernel)) s_Strand_pushRef (fun x16 => ⟨_, _, ⟨rfl, rfl⟩, ?_⟩)
            refine Sp.step rfl rfl rfl rfl ?_
            exact Sp.iret rfl rfl rfl rfl (fun _ _ h => h)
          · refine Sp.step rfl rfl rfl rfl ?_
            refine Sp.step rfl rfl rfl rfl ?_
            exact Sp.iret rfl rfl rfl rfl (fun _ _ h => h)
        · refine Sp.step rfl rfl rfl rfl ?_
          refine Sp.step rfl rfl rfl rfl ?_
          refine Sp.call rfl rfl rfl (xrecv (c := 0) (by decide) rfl (by decide +kernel)) s_Engine_collect (fun x19 => ⟨_, _, ⟨rfl, rfl⟩, ?_⟩)
          refine Sp.step rfl rfl rfl rfl ?_
          refine Sp.step rfl rfl rfl (xg_F (c := 0) (f := 3) rfl rfl rfl rfl rfl) ?_
          refine Sp.step rfl rfl rfl rfl ?_
          refine Sp.callS rfl rfl rfl (xrecv (c := 4) (by decide) rfl (by decide +kernel)) s_Memory_hasRoomFor ⟨rfl, rfl⟩ ?_
          refine Sp.bool (fun e20 => ?_) (fun e20 => ?_)
          · refine Sp.step rfl rfl rfl rfl ?_
            refine Sp.step rfl rfl rfl rfl ?_
            refine Sp.step rfl rfl rfl rfl ?_
            refine Sp.step rfl rfl rfl (xg_F (c := 0) (f := 3) rfl rfl rfl rfl rfl) ?_
            refine Sp.step rfl rfl rfl rfl ?_
            refine Sp.step rfl rfl rfl rfl ?_
            refine Sp.call rfl rfl rfl (xrecv (c := 4) (by decide) rfl (by decide +kernel)) s_Memory_place (fun x22 => ⟨_, _, ⟨rfl, rfl⟩, ?_⟩)
            refine Sp.guard (fun e23 => ?_)
            refine Sp.call rfl rfl rfl (xrecv (c := 9) (by decide) e23 (by decide +kernel)) s_Strand_pushRef (fun x24 => ⟨_, _, ⟨rfl, rfl⟩, ?_⟩)
            refine Sp.step rfl rfl rfl rfl ?_
            exact Sp.iret rfl rfl rfl rfl (fun _ _ h => h)
          · refine Sp.step rfl rfl rfl rfl ?_
            refine Sp.step rfl rfl rfl rfl ?_
            exact Sp.iret rfl rfl rfl rfl (fun _ _ h => h)
    · refine Sp.step rfl rfl rfl rfl ?_
      refine Sp.step rfl rfl rfl rfl ?_
      exact Sp.iret rfl rfl rfl rfl (fun _ _ h => h)
def f_Memory_kindOf (x : Int32) (X : XS) : Option Int32 := ((f_Memory_word x X).bind fun x1 => some x1)
set_option maxRecDepth 100000 in
set_option maxHeartbeats 4000000 in
theorem s_Memory_kindOf {L : Nat} {xs : Nat → Int32} {X : XS} {M : MS} {x : Int32} : Sp (mjOO L xs) 205 0 [some (.ref 41), some (.int x)] [] (hS X M) (f_Memory_kindOf x X) (KQ (hS X M)) := by
  unfold f_Memory_kindOf
  refine Sp.step rfl rfl rfl rfl ?_
  refine Sp.step rfl rfl rfl rfl ?_
  refine Sp.call rfl rfl rfl (xrecv (c := 4) (by decide) rfl (by decide +kernel)) s_Memory_word (fun x1 => ⟨_, _, ⟨rfl, rfl⟩, ?_⟩)
  exact Sp.iret rfl rfl rfl rfl (fun _ _ h => h)
def b5_Image_isBelow_51 (y : Int32) (X : XS) (x1 : (Int32 × Int32)) : Option ((Int32 × Int32) ⊕ Bool) := (if 10 ≤ x1.2 then some (.inr false) else ((f_Image_at_51 2 X).bind fun x3 => (if x3 ≤ x1.1 then some (.inr false) else (if ¬ x1.1 = y then ((f_Image_at_51 (f_Image_kindAt_51 x1.1) X).bind fun x6 => some (.inl (x6, x1.2 + 1))) else some (.inr true)))))
def f_Image_isBelow_51 (x : Int32) (y : Int32) (X : XS) : Option Bool := (lp (b5_Image_isBelow_51 y X) 10000 (x, (0 : Int32)))
set_option maxRecDepth 100000 in
set_option maxHeartbeats 4000000 in
theorem s_Image_isBelow_51 {L : Nat} {xs : Nat → Int32} {X : XS} {M : MS} {x : Int32} {y : Int32} : Sp (mjOO L xs) 179 0 [some (.ref 51), some (.int x), some (.int y), none, none] [] (hS X M) (f_Image_isBelow_51 x y X) (KB (hS X M)) := by
  unfold f_Image_isBelow_51
  refine Sp.step rfl rfl rfl rfl ?_
  refine Sp.step rfl rfl rfl rfl ?_
  refine Sp.step rfl rfl rfl rfl ?_
  refine Sp.step rfl rfl rfl rfl ?_
  refine Sp.weak (l0 := [some (.ref 51), none, some (.int y), some (.int x), some (.int 0)]) ⟨rfl, rfl, rfl, rfl, trivial⟩ ?_
  refine Sp.loopL (mf := (fun (x1 : (Int32 × Int32)) => [some (.ref 51), none, some (.int y), some (.int x1.1), some (.int x1.2)])) (hf := (fun (x1 : (Int32 × Int32)) => hS X M)) (fun x1 => ?_) _ _
  unfold b5_Image_isBelow_51
  refine Sp.step rfl rfl rfl rfl ?_
  refine Sp.step rfl rfl rfl rfl ?_
  refine Sp.if2 rfl rfl rfl rfl (fun e2 => ?_) (fun e2 => ?_)
  · refine Sp.step rfl rfl rfl rfl ?_
    exact Sp.iret rfl rfl rfl rfl (fun _ _ h => h)
  · refine Sp.step rfl rfl rfl rfl ?_
    refine Sp.step rfl rfl rfl rfl ?_
    refine Sp.step rfl rfl rfl rfl ?_
    refine Sp.call rfl rfl rfl (xrecv (c := 2) (by decide) rfl (by decide +kernel)) s_Image_at_51 (fun x3 => ⟨_, _, ⟨rfl, rfl⟩, ?_⟩)
    refine Sp.if2 rfl rfl rfl rfl (fun e4 => ?_) (fun e4 => ?_)
    · refine Sp.step rfl rfl rfl rfl ?_
      exact Sp.iret rfl rfl rfl rfl (fun _ _ h => h)
    · refine Sp.step rfl rfl rfl rfl ?_
      refine Sp.step rfl rfl rfl rfl ?_
      refine Sp.if2 rfl rfl rfl rfl (fun e5 => ?_) (fun e5 => ?_)
      · refine Sp.step rfl rfl rfl rfl ?_
        refine Sp.step rfl rfl rfl rfl ?_
        refine Sp.step rfl rfl rfl rfl ?_
        refine Sp.callS rfl rfl rfl (xrecv (c := 2) (by decide) rfl (by decide +kernel)) s_Image_kindAt_51 ⟨rfl, rfl⟩ ?_
        refine Sp.call rfl rfl rfl (xrecv (c := 2) (by decide) rfl (by decide +kernel)) s_Image_at_51 (fun x6 => ⟨_, _, ⟨rfl, rfl⟩, ?_⟩)
        refine Sp.step rfl rfl rfl rfl ?_
        refine Sp.step rfl rfl rfl rfl ?_
        refine Sp.step rfl rfl rfl rfl ?_
        exact Sp.jmp (l0 := [some (.ref 51), none, some (.int y), some (.int x6), some (.int (x1.2 + 1))]) ⟨rfl, rfl, rfl, rfl, trivial⟩ (fun _ _ h => h)
      · refine Sp.step rfl rfl rfl rfl ?_
        exact Sp.iret rfl rfl rfl rfl (fun _ _ h => h)
def f_Engine_isOf (x : Int32) (y : Int32) (X : XS) : Option Bool := (if x = 0 then some false else ((f_Memory_kindOf x X).bind fun x2 => ((f_Image_isBelow_51 x2 y X).bind fun x3 => (if x3 = true then some true else some false))))
set_option maxRecDepth 100000 in
set_option maxHeartbeats 4000000 in
theorem s_Engine_isOf {L : Nat} {xs : Nat → Int32} {X : XS} {M : MS} {x : Int32} {y : Int32} : Sp (mjOO L xs) 116 0 [some (.ref 40), some (.int x), some (.int y)] [] (hS X M) (f_Engine_isOf x y X) (KB (hS X M)) := by
  unfold f_Engine_isOf
  refine Sp.step rfl rfl rfl rfl ?_
  refine Sp.if1 rfl rfl rfl rfl (fun e1 => ?_) (fun e1 => ?_)
  · refine Sp.step rfl rfl rfl rfl ?_
    exact Sp.iret rfl rfl rfl rfl (fun _ _ h => h)
  · refine Sp.step rfl rfl rfl rfl ?_
    refine Sp.step rfl rfl rfl (xg_F (c := 0) (f := 6) rfl rfl rfl rfl rfl) ?_
    refine Sp.step rfl rfl rfl rfl ?_
    refine Sp.step rfl rfl rfl (xg_F (c := 0) (f := 3) rfl rfl rfl rfl rfl) ?_
    refine Sp.step rfl rfl rfl rfl ?_
    refine Sp.call rfl rfl rfl (xrecv (c := 4) (by decide) rfl (by decide +kernel)) s_Memory_kindOf (fun x2 => ⟨_, _, ⟨rfl, rfl⟩, ?_⟩)
    refine Sp.step rfl rfl rfl rfl ?_
    refine Sp.call rfl rfl rfl (xrecv (c := 2) (by decide) rfl (by decide +kernel)) s_Image_isBelow_51 (fun x3 => ⟨_, _, ⟨rfl, rfl⟩, ?_⟩)
    refine Sp.bool (fun e4 => ?_) (fun e4 => ?_)
    · refine Sp.step rfl rfl rfl rfl ?_
      refine Sp.step rfl rfl rfl rfl ?_
      refine Sp.step rfl rfl rfl rfl ?_
      exact Sp.iret rfl rfl rfl rfl (fun _ _ h => h)
    · refine Sp.step rfl rfl rfl rfl ?_
      refine Sp.step rfl rfl rfl rfl ?_
      exact Sp.iret rfl rfl rfl rfl (fun _ _ h => h)
def f_Memory_intAt (x : Int32) (X : XS) : Option Int32 := ((f_Memory_word x X).bind fun x1 => ((f_Memory_word (x + 1) X).bind fun x2 => some (((x1 : Int32) <<< ((16 : Int32) &&& 31)) ||| x2)))
set_option maxRecDepth 100000 in
set_option maxHeartbeats 4000000 in
theorem s_Memory_intAt {L : Nat} {xs : Nat → Int32} {X : XS} {M : MS} {x : Int32} : Sp (mjOO L xs) 203 0 [some (.ref 41), some (.int x)] [] (hS X M) (f_Memory_intAt x X) (KQ (hS X M)) := by
  unfold f_Memory_intAt
  refine Sp.step rfl rfl rfl rfl ?_
  refine Sp.step rfl rfl rfl rfl ?_
  refine Sp.call rfl rfl rfl (xrecv (c := 4) (by decide) rfl (by decide +kernel)) s_Memory_word (fun x1 => ⟨_, _, ⟨rfl, rfl⟩, ?_⟩)
  refine Sp.step rfl rfl rfl rfl ?_
  refine Sp.step rfl rfl rfl rfl ?_
  refine Sp.step rfl rfl rfl rfl ?_
  refine Sp.step rfl rfl rfl rfl ?_
  refine Sp.step rfl rfl rfl rfl ?_
  refine Sp.step rfl rfl rfl rfl ?_
  refine Sp.call rfl rfl rfl (xrecv (c := 4) (by decide) rfl (by decide +kernel)) s_Memory_word (fun x2 => ⟨_, _, ⟨rfl, rfl⟩, ?_⟩)
  refine Sp.step rfl rfl rfl rfl ?_
  exact Sp.iret rfl rfl rfl rfl (fun _ _ h => h)
def f_Memory_intField (x : Int32) (y : Int32) (X : XS) : Option Int32 := ((f_Memory_intAt ((x + 4) + (2 * y)) X).bind fun x1 => some x1)
set_option maxRecDepth 100000 in
set_option maxHeartbeats 4000000 in
theorem s_Memory_intField {L : Nat} {xs : Nat → Int32} {X : XS} {M : MS} {x : Int32} {y : Int32} : Sp (mjOO L xs) 208 0 [some (.ref 41), some (.int x), some (.int y)] [] (hS X M) (f_Memory_intField x y X) (KQ (hS X M)) := by
  unfold f_Memory_intField
  refine Sp.step rfl rfl rfl rfl ?_
  refine Sp.step rfl rfl rfl rfl ?_
  refine Sp.step rfl rfl rfl rfl ?_
  refine Sp.step rfl rfl rfl rfl ?_
  refine Sp.step rfl rfl rfl rfl ?_
  refine Sp.step rfl rfl rfl rfl ?_
  refine Sp.step rfl rfl rfl rfl ?_
  refine Sp.step rfl rfl rfl rfl ?_
  refine Sp.call rfl rfl rfl (xrecv (c := 4) (by decide) rfl (by decide +kernel)) s_Memory_intAt (fun x1 => ⟨_, _, ⟨rfl, rfl⟩, ?_⟩)
  exact Sp.iret rfl rfl rfl rfl (fun _ _ h => h)
def f_Strand_push (x : Nat) (y : Int32) (X : XS) : Option XS := (if (xT X x = some (14, 0)) then ((f_Strand_pushMarked x y 0 X).bind fun x2 => some x2) else none)
set_option maxRecDepth 100000 in
set_option maxHeartbeats 4000000 in
theorem s_Strand_push {L : Nat} {xs : Nat → Int32} {X : XS} {M : MS} {x : Nat} {y : Int32} : Sp (mjOO L xs) 292 0 [some (.ref x), some (.int y)] [] (hS X M) (f_Strand_push x y X) (KVX M) := by
  unfold f_Strand_push
  refine Sp.step rfl rfl rfl rfl ?_
  refine Sp.step rfl rfl rfl rfl ?_
  refine Sp.step rfl rfl rfl rfl ?_
  refine Sp.guard (fun e1 => ?_)
  refine Sp.call rfl rfl rfl (xrecv (c := 9) (by decide) e1 (by decide +kernel)) s_Strand_pushMarked (fun x2 => ⟨_, _, ⟨rfl, rfl⟩, ?_⟩)
  exact Sp.vret rfl rfl rfl (fun _ _ h => h)
def f_Memory_setIntAt (x : Int32) (y : Int32) (X : XS) : Option XS := ((f_Memory_setWord x (((y : Int32).toUInt32 >>> ((16 : Int32).toUInt32 &&& Int32.toUInt32 31)).toInt32) X).bind fun x1 => ((f_Memory_setWord (x + 1) y x1).bind fun x2 => some x2))
set_option maxRecDepth 100000 in
set_option maxHeartbeats 4000000 in
theorem s_Memory_setIntAt {L : Nat} {xs : Nat → Int32} {X : XS} {M : MS} {x : Int32} {y : Int32} : Sp (mjOO L xs) 204 0 [some (.ref 41), some (.int x), some (.int y)] [] (hS X M) (f_Memory_setIntAt x y X) (KVX M) := by
  unfold f_Memory_setIntAt
  refine Sp.step rfl rfl rfl rfl ?_
  refine Sp.step rfl rfl rfl rfl ?_
  refine Sp.step rfl rfl rfl rfl ?_
  refine Sp.step rfl rfl rfl rfl ?_
  refine Sp.step rfl rfl rfl rfl ?_
  refine Sp.call rfl rfl rfl (xrecv (c := 4) (by decide) rfl (by decide +kernel)) s_Memory_setWord (fun x1 => ⟨_, _, ⟨rfl, rfl⟩, ?_⟩)
  refine Sp.step rfl rfl rfl rfl ?_
  refine Sp.step rfl rfl rfl rfl ?_
  refine Sp.step rfl rfl rfl rfl ?_
  refine Sp.step rfl rfl rfl rfl ?_
  refine Sp.step rfl rfl rfl rfl ?_
  refine Sp.call rfl rfl rfl (xrecv (c := 4) (by decide) rfl (by decide +kernel)) s_Memory_setWord (fun x2 => ⟨_, _, ⟨rfl, rfl⟩, ?_⟩)
  exact Sp.vret rfl rfl rfl (fun _ _ h => h)
def f_Memory_setIntField (x : Int32) (y : Int32) (z : Int32) (X : XS) : Option XS := ((f_Memory_setIntAt ((x + 4) + (2 * y)) z X).bind fun x1 => some x1)
set_option maxRecDepth 100000 in
set_option maxHeartbeats 4000000 in
theorem s_Memory_setIntField {L : Nat} {xs : Nat → Int32} {X : XS} {M : MS} {x : Int32} {y : Int32} {z : Int32} : Sp (mjOO L xs) 209 0 [some (.ref 41), some (.int x), some (.int y), some (.int z)] [] (hS X M) (f_Memory_setIntField x y z X) (KVX M) := by
  unfold f_Memory_setIntField
  refine Sp.step rfl rfl rfl rfl ?_
  refine Sp.step rfl rfl rfl rfl ?_
  refine Sp.step rfl rfl rfl rfl ?_
  refine Sp.step rfl rfl rfl rfl ?_
  refine Sp.step rfl rfl rfl rfl ?_
  refine Sp.step rfl rfl rfl rfl ?_
  refine Sp.step rfl rfl rfl rfl ?_
  refine Sp.step rfl rfl rfl rfl ?_
  refine Sp.step rfl rfl rfl rfl ?_
  refine Sp.call rfl rfl rfl (xrecv (c := 4) (by decide) rfl (by decide +kernel)) s_Memory_setIntAt (fun x1 => ⟨_, _, ⟨rfl, rfl⟩, ?_⟩)
  exact Sp.vret rfl rfl rfl (fun _ _ h => h)
def f_Memory_refField (x : Int32) (y : Int32) (X : XS) : Option Int32 := ((f_Memory_firstRef x X).bind fun x1 => ((f_Memory_word (x1 + y) X).bind fun x2 => some x2))
set_option maxRecDepth 100000 in
set_option maxHeartbeats 4000000 in
theorem s_Memory_refField {L : Nat} {xs : Nat → Int32} {X : XS} {M : MS} {x : Int32} {y : Int32} : Sp (mjOO L xs) 210 0 [some (.ref 41), some (.int x), some (.int y)] [] (hS X M) (f_Memory_refField x y X) (KQ (hS X M)) := by
  unfold f_Memory_refField
  refine Sp.step rfl rfl rfl rfl ?_
  refine Sp.step rfl rfl rfl rfl ?_
  refine Sp.step rfl rfl rfl rfl ?_
  refine Sp.call rfl rfl rfl (xrecv (c := 4) (by decide) rfl (by decide +kernel)) s_Memory_firstRef (fun x1 => ⟨_, _, ⟨rfl, rfl⟩, ?_⟩)
  refine Sp.step rfl rfl rfl rfl ?_
  refine Sp.step rfl rfl rfl rfl ?_
  refine Sp.call rfl rfl rfl (xrecv (c := 4) (by decide) rfl (by decide +kernel)) s_Memory_word (fun x2 => ⟨_, _, ⟨rfl, rfl⟩, ?_⟩)
  exact Sp.iret rfl rfl rfl rfl (fun _ _ h => h)
def f_Memory_setRefField (x : Int32) (y : Int32) (z : Int32) (X : XS) : Option XS := ((f_Memory_firstRef x X).bind fun x1 => ((f_Memory_setWord (x1 + y) z X).bind fun x2 => some x2))
set_option maxRecDepth 100000 in
set_option maxHeartbeats 4000000 in
theorem s_Memory_setRefField {L : Nat} {xs : Nat → Int32} {X : XS} {M : MS} {x : Int32} {y : Int32} {z : Int32} : Sp (mjOO L xs) 211 0 [some (.ref 41), some (.int x), some (.int y), some (.int z)] [] (hS X M) (f_Memory_setRefField x y z X) (KVX M) := by
  unfold f_Memory_setRefField
  refine Sp.step rfl rfl rfl rfl ?_
  refine Sp.step rfl rfl rfl rfl ?_
  refine Sp.step rfl rfl rfl rfl ?_
  refine Sp.call rfl rfl rfl (xrecv (c := 4) (by decide) rfl (by decide +kernel)) s_Memory_firstRef (fun x1 => ⟨_, _, ⟨rfl, rfl⟩, ?_⟩)
  refine Sp.step rfl rfl rfl rfl ?_
  refine Sp.step rfl rfl rfl rfl ?_
  refine Sp.step rfl rfl rfl rfl ?_
  refine Sp.call rfl rfl rfl (xrecv (c := 4) (by decide) rfl (by decide +kernel)) s_Memory_setWord (fun x2 => ⟨_, _, ⟨rfl, rfl⟩, ?_⟩)
  exact Sp.vret rfl rfl rfl (fun _ _ h => h)
def f_Engine_doField (x : Nat) (y : Int32) (z : Int32) (X : XS) : Option (Int32 × XS) := ((f_Image_at_51 (z + 2) X).bind fun x1 => (((if y = 28 then (if (xT X x = some (14, 0)) then ((f_Strand_pop x X).bind fun x4 => some (x4.1, x4.2)) else none) else (if ¬ y = 30 then some (0, X) else (if (xT X x = some (14, 0)) then ((f_Strand_pop x X).bind fun x7 => some (x7.1, x7.2)) else none))) : Option (Int32 × XS)).bind fun x8 => (if (xT x8.2 x = some (14, 0)) then ((f_Strand_pop x x8.2).bind fun x10 => (if ¬ x10.1 = 0 then ((f_Image_at_51 (z + 1) x10.2).bind fun x12 => ((f_Engine_isOf x10.1 x12 x10.2).bind fun x13 => (if x13 = true then (if y = 27 then ((f_Memory_intField x10.1 x1 x10.2).bind fun x17 => (if (xT x10.2 x = some (14, 0)) then ((f_Strand_push x x17 x10.2).bind fun x19 => some (0, x19)) else none)) else (if y = 28 then ((f_Memory_setIntField x10.1 x1 x8.1 x10.2).bind fun x21 => some (0, x21)) else (if y = 29 then ((f_Memory_refField x10.1 x1 x10.2).bind fun x23 => (if (xT x10.2 x = some (14, 0)) then ((f_Strand_pushRef x x23 x10.2).bind fun x25 => some (0, x25)) else none)) else ((f_Memory_setRefField x10.1 x1 x8.1 x10.2).bind fun x26 => some (0, x26))))) else some (3, x10.2)))) else some (1, x10.2))) else none)))
set_option maxRecDepth 100000 in
set_option maxHeartbeats 4000000 in
theorem s_Engine_doField {L : Nat} {xs : Nat → Int32} {X : XS} {M : MS} {x : Nat} {y : Int32} {z : Int32} : Sp (mjOO L xs) 115 0 [some (.ref 40), some (.ref x), some (.int y), some (.int z), none, none, none] [] (hS X M) (f_Engine_doField x y z X) (KEX M) := by
  unfold f_Engine_doField
  refine Sp.step rfl rfl rfl rfl ?_
  refine Sp.step rfl rfl rfl (xg_F (c := 0) (f := 6) rfl rfl rfl rfl rfl) ?_
  refine Sp.step rfl rfl rfl rfl ?_
  refine Sp.step rfl rfl rfl rfl ?_
  refine Sp.step rfl rfl rfl rfl ?_
  refine Sp.call rfl rfl rfl (xrecv (c := 2) (by decide) rfl (by decide +kernel)) s_Image_at_51 (fun x1 => ⟨_, _, ⟨rfl, rfl⟩, ?_⟩)
  refine Sp.step rfl rfl rfl rfl ?_
  refine Sp.step rfl rfl rfl rfl ?_
  refine Sp.step rfl rfl rfl rfl ?_
  refine Sp.piece (pe := 32) (mf := (fun (x8 : Int32 × XS) => [some (.ref 40), some (.ref x), some (.int y), some (.int z), some (.int x1), none, none])) (sf := (fun (x8 : Int32 × XS) => [.int x8.1])) (hf := (fun (x8 : Int32 × XS) => hS x8.2 M)) ?_ (fun x8 => ?_)
  · refine Sp.if2 rfl rfl rfl rfl (fun e2 => ?_) (fun e2 => ?_)
    · refine Sp.step rfl rfl rfl rfl ?_
      refine Sp.guard (fun e3 => ?_)
      refine Sp.call rfl rfl rfl (xrecv (c := 9) (by decide) e3 (by decide +kernel)) s_Strand_pop (fun x4 => ⟨_, _, ⟨rfl, rfl⟩, ?_⟩)
      refine Sp.step rfl rfl rfl rfl ?_
      exact Sp.jmp (l0 := [some (.ref 40), some (.ref x), some (.int y), some (.int z), some (.int x1), none, none]) ⟨rfl, rfl, rfl, rfl, rfl, trivial⟩ (fun _ _ h => h)
    · refine Sp.step rfl rfl rfl rfl ?_
      refine Sp.step rfl rfl rfl rfl ?_
      refine Sp.if2 rfl rfl rfl rfl (fun e5 => ?_) (fun e5 => ?_)
      · refine Sp.step rfl rfl rfl rfl ?_
        exact Sp.jmp (l0 := [some (.ref 40), some (.ref x), some (.int y), some (.int z), some (.int x1), none, none]) ⟨rfl, rfl, rfl, rfl, rfl, trivial⟩ (fun _ _ h => h)
      · refine Sp.step rfl rfl rfl rfl ?_
        refine Sp.guard (fun e6 => ?_)
        refine Sp.call rfl rfl rfl (xrecv (c := 9) (by decide) e6 (by decide +kernel)) s_Strand_pop (fun x7 => ⟨_, _, ⟨rfl, rfl⟩, ?_⟩)
        refine Sp.step rfl rfl rfl rfl ?_
        exact Sp.jmp (l0 := [some (.ref 40), some (.ref x), some (.int y), some (.int z), some (.int x1), none, none]) ⟨rfl, rfl, rfl, rfl, rfl, trivial⟩ (fun _ _ h => h)
  · refine Sp.step rfl rfl rfl rfl ?_
    refine Sp.step rfl rfl rfl rfl ?_
    refine Sp.guard (fun e9 => ?_)
    refine Sp.call rfl rfl rfl (xrecv (c := 9) (by decide) e9 (by decide +kernel)) s_Strand_pop (fun x10 => ⟨_, _, ⟨rfl, rfl⟩, ?_⟩)
    refine Sp.step rfl rfl rfl rfl ?_
    refine Sp.step rfl rfl rfl rfl ?_
    refine Sp.if1 rfl rfl rfl rfl (fun e11 => ?_) (fun e11 => ?_)
    · refine Sp.step rfl rfl rfl rfl ?_
      refine Sp.step rfl rfl rfl rfl ?_
      refine Sp.step rfl rfl rfl rfl ?_
      refine Sp.step rfl rfl rfl (xg_F (c := 0) (f := 6) rfl rfl rfl rfl rfl) ?_
      refine Sp.step rfl rfl rfl rfl ?_
      refine Sp.step rfl rfl rfl rfl ?_
      refine Sp.step rfl rfl rfl rfl ?_
      refine Sp.call rfl rfl rfl (xrecv (c := 2) (by decide) rfl (by decide +kernel)) s_Image_at_51 (fun x12 => ⟨_, _, ⟨rfl, rfl⟩, ?_⟩)
      refine Sp.call rfl rfl rfl (xrecv (c := 0) (by decide) rfl (by decide +kernel)) s_Engine_isOf (fun x13 => ⟨_, _, ⟨rfl, rfl⟩, ?_⟩)
      refine Sp.bool (fun e14 => ?_) (fun e14 => ?_)
      · refine Sp.step rfl rfl rfl rfl ?_
        refine Sp.step rfl rfl rfl rfl ?_
        refine Sp.ite (fun e16 => ?_) (fun e16 => ?_)
        · refine Sp.step rfl rfl rfl (go_sw (t := 96) (sw_of e16 rfl)) ?_
          refine Sp.step rfl rfl rfl rfl ?_
          refine Sp.step rfl rfl rfl rfl ?_
          refine Sp.step rfl rfl rfl (xg_F (c := 0) (f := 3) rfl rfl rfl rfl rfl) ?_
          refine Sp.step rfl rfl rfl rfl ?_
          refine Sp.step rfl rfl rfl rfl ?_
          refine Sp.call rfl rfl rfl (xrecv (c := 4) (by decide) rfl (by decide +kernel)) s_Memory_intField (fun x17 => ⟨_, _, ⟨rfl, rfl⟩, ?_⟩)
          refine Sp.guard (fun e18 => ?_)
          refine Sp.call rfl rfl rfl (xrecv (c := 9) (by decide) e18 (by decide +kernel)) s_Strand_push (fun x19 => ⟨_, _, ⟨rfl, rfl⟩, ?_⟩)
          refine Sp.step rfl rfl rfl rfl ?_
          refine Sp.step rfl rfl rfl rfl ?_
          exact Sp.iret rfl rfl rfl rfl (fun _ _ h => h)
        · refine Sp.ite (fun e20 => ?_) (fun e20 => ?_)
          · refine Sp.step rfl rfl rfl (go_sw (t := 114) (sw_of e20 rfl)) ?_
            refine Sp.step rfl rfl rfl rfl ?_
            refine Sp.step rfl rfl rfl (xg_F (c := 0) (f := 3) rfl rfl rfl rfl rfl) ?_
            refine Sp.step rfl rfl rfl rfl ?_
            refine Sp.step rfl rfl rfl rfl ?_
            refine Sp.step rfl rfl rfl rfl ?_
            refine Sp.call rfl rfl rfl (xrecv (c := 4) (by decide) rfl (by decide +kernel)) s_Memory_setIntField (fun x21 => ⟨_, _, ⟨rfl, rfl⟩, ?_⟩)
            refine Sp.step rfl rfl rfl rfl ?_
            refine Sp.step rfl rfl rfl rfl ?_
            exact Sp.iret rfl rfl rfl rfl (fun _ _ h => h)
          · refine Sp.ite (fun e22 => ?_) (fun e22 => ?_)
            · refine Sp.step rfl rfl rfl (go_sw (t := 130) (sw_of e22 rfl)) ?_
              refine Sp.step rfl rfl rfl rfl ?_
              refine Sp.step rfl rfl rfl rfl ?_
              refine Sp.step rfl rfl rfl (xg_F (c := 0) (f := 3) rfl rfl rfl rfl rfl) ?_
              refine Sp.step rfl rfl rfl rfl ?_
              refine Sp.step rfl rfl rfl rfl ?_
              refine Sp.call rfl rfl rfl (xrecv (c := 4) (by decide) rfl (by decide +kernel)) s_Memory_refField (fun x23 => ⟨_, _, ⟨rfl, rfl⟩, ?_⟩)
              refine Sp.guard (fun e24 => ?_)
              refine Sp.call rfl rfl rfl (xrecv (c := 9) (by decide) e24 (by decide +kernel)) s_Strand_pushRef (fun x25 => ⟨_, _, ⟨rfl, rfl⟩, ?_⟩)
              refine Sp.step rfl rfl rfl rfl ?_
              refine Sp.step rfl rfl rfl rfl ?_
              exact Sp.iret rfl rfl rfl rfl (fun _ _ h => h)
            · refine Sp.step rfl rfl rfl (go_sw (t := 148) (mjSw_out _ (by
                intro q hq
                simp only [List.mem_cons, List.not_mem_nil, or_false] at hq
                rcases hq with rfl | rfl | rfl
                · exact e16
                · exact e20
                · exact e22))) ?_
              refine Sp.step rfl rfl rfl rfl ?_
              refine Sp.step rfl rfl rfl (xg_F (c := 0) (f := 3) rfl rfl rfl rfl rfl) ?_
              refine Sp.step rfl rfl rfl rfl ?_
              refine Sp.step rfl rfl rfl rfl ?_
              refine Sp.step rfl rfl rfl rfl ?_
              refine Sp.call rfl rfl rfl (xrecv (c := 4) (by decide) rfl (by decide +kernel)) s_Memory_setRefField (fun x26 => ⟨_, _, ⟨rfl, rfl⟩, ?_⟩)
              refine Sp.step rfl rfl rfl rfl ?_
              exact Sp.iret rfl rfl rfl rfl (fun _ _ h => h)
      · refine Sp.step rfl rfl rfl rfl ?_
        refine Sp.step rfl rfl rfl rfl ?_
        exact Sp.iret rfl rfl rfl rfl (fun _ _ h => h)
    · refine Sp.step rfl rfl rfl rfl ?_
      exact Sp.iret rfl rfl rfl rfl (fun _ _ h => h)
def f_Memory_isArray (x : Int32) (X : XS) : Option Bool := ((f_Memory_word x X).bind fun x1 => (if x1 = 254 then some true else (if ¬ x1 = 255 then some false else some true)))
set_option maxRecDepth 100000 in
set_option maxHeartbeats 4000000 in
theorem s_Memory_isArray {L : Nat} {xs : Nat → Int32} {X : XS} {M : MS} {x : Int32} : Sp (mjOO L xs) 206 0 [some (.ref 41), some (.int x), none] [] (hS X M) (f_Memory_isArray x X) (KB (hS X M)) := by
  unfold f_Memory_isArray
  refine Sp.step rfl rfl rfl rfl ?_
  refine Sp.step rfl rfl rfl rfl ?_
  refine Sp.call rfl rfl rfl (xrecv (c := 4) (by decide) rfl (by decide +kernel)) s_Memory_word (fun x1 => ⟨_, _, ⟨rfl, rfl⟩, ?_⟩)
  refine Sp.step rfl rfl rfl rfl ?_
  refine Sp.step rfl rfl rfl rfl ?_
  refine Sp.step rfl rfl rfl rfl ?_
  refine Sp.if2 rfl rfl rfl rfl (fun e2 => ?_) (fun e2 => ?_)
  · refine Sp.step rfl rfl rfl rfl ?_
    refine Sp.step rfl rfl rfl rfl ?_
    exact Sp.iret rfl rfl rfl rfl (fun _ _ h => h)
  · refine Sp.step rfl rfl rfl rfl ?_
    refine Sp.step rfl rfl rfl rfl ?_
    refine Sp.if2 rfl rfl rfl rfl (fun e3 => ?_) (fun e3 => ?_)
    · refine Sp.step rfl rfl rfl rfl ?_
      exact Sp.iret rfl rfl rfl rfl (fun _ _ h => h)
    · refine Sp.step rfl rfl rfl rfl ?_
      refine Sp.step rfl rfl rfl rfl ?_
      exact Sp.iret rfl rfl rfl rfl (fun _ _ h => h)
def f_Memory_lengthOf (x : Int32) (X : XS) : Option Int32 := ((f_Memory_isArray x X).bind fun x1 => (if x1 = true then ((f_Memory_word (x + 4) X).bind fun x4 => some x4) else some 0))
set_option maxRecDepth 100000 in
set_option maxHeartbeats 4000000 in
theorem s_Memory_lengthOf {L : Nat} {xs : Nat → Int32} {X : XS} {M : MS} {x : Int32} : Sp (mjOO L xs) 207 0 [some (.ref 41), some (.int x)] [] (hS X M) (f_Memory_lengthOf x X) (KQ (hS X M)) := by
  unfold f_Memory_lengthOf
  refine Sp.step rfl rfl rfl rfl ?_
  refine Sp.step rfl rfl rfl rfl ?_
  refine Sp.call rfl rfl rfl (xrecv (c := 4) (by decide) rfl (by decide +kernel)) s_Memory_isArray (fun x1 => ⟨_, _, ⟨rfl, rfl⟩, ?_⟩)
  refine Sp.bool (fun e2 => ?_) (fun e2 => ?_)
  · refine Sp.step rfl rfl rfl rfl ?_
    refine Sp.step rfl rfl rfl rfl ?_
    refine Sp.step rfl rfl rfl rfl ?_
    refine Sp.step rfl rfl rfl rfl ?_
    refine Sp.step rfl rfl rfl rfl ?_
    refine Sp.call rfl rfl rfl (xrecv (c := 4) (by decide) rfl (by decide +kernel)) s_Memory_word (fun x4 => ⟨_, _, ⟨rfl, rfl⟩, ?_⟩)
    refine Sp.step rfl rfl rfl rfl ?_
    exact Sp.iret rfl rfl rfl rfl (fun _ _ h => h)
  · refine Sp.step rfl rfl rfl rfl ?_
    refine Sp.step rfl rfl rfl rfl ?_
    exact Sp.iret rfl rfl rfl rfl (fun _ _ h => h)
def f_Memory_intPlace (x : Int32) (y : Int32) (X : XS) : Option Int32 := ((f_Memory_intAt ((x + 5) + (2 * y)) X).bind fun x1 => some x1)
set_option maxRecDepth 100000 in
set_option maxHeartbeats 4000000 in
theorem s_Memory_intPlace {L : Nat} {xs : Nat → Int32} {X : XS} {M : MS} {x : Int32} {y : Int32} : Sp (mjOO L xs) 212 0 [some (.ref 41), some (.int x), some (.int y)] [] (hS X M) (f_Memory_intPlace x y X) (KQ (hS X M)) := by
  unfold f_Memory_intPlace
  refine Sp.step rfl rfl rfl rfl ?_
  refine Sp.step rfl rfl rfl rfl ?_
  refine Sp.step rfl rfl rfl rfl ?_
  refine Sp.step rfl rfl rfl rfl ?_
  refine Sp.step rfl rfl rfl rfl ?_
  refine Sp.step rfl rfl rfl rfl ?_
  refine Sp.step rfl rfl rfl rfl ?_
  refine Sp.step rfl rfl rfl rfl ?_
  refine Sp.call rfl rfl rfl (xrecv (c := 4) (by decide) rfl (by decide +kernel)) s_Memory_intAt (fun x1 => ⟨_, _, ⟨rfl, rfl⟩, ?_⟩)
  exact Sp.iret rfl rfl rfl rfl (fun _ _ h => h)
def f_Memory_setIntPlace (x : Int32) (y : Int32) (z : Int32) (X : XS) : Option XS := ((f_Memory_setIntAt ((x + 5) + (2 * y)) z X).bind fun x1 => some x1)
set_option maxRecDepth 100000 in
set_option maxHeartbeats 4000000 in
theorem s_Memory_setIntPlace {L : Nat} {xs : Nat → Int32} {X : XS} {M : MS} {x : Int32} {y : Int32} {z : Int32} : Sp (mjOO L xs) 213 0 [some (.ref 41), some (.int x), some (.int y), some (.int z)] [] (hS X M) (f_Memory_setIntPlace x y z X) (KVX M) := by
  unfold f_Memory_setIntPlace
  refine Sp.step rfl rfl rfl rfl ?_
  refine Sp.step rfl rfl rfl rfl ?_
  refine Sp.step rfl rfl rfl rfl ?_
  refine Sp.step rfl rfl rfl rfl ?_
  refine Sp.step rfl rfl rfl rfl ?_
  refine Sp.step rfl rfl rfl rfl ?_
  refine Sp.step rfl rfl rfl rfl ?_
  refine Sp.step rfl rfl rfl rfl ?_
  refine Sp.step rfl rfl rfl rfl ?_
  refine Sp.call rfl rfl rfl (xrecv (c := 4) (by decide) rfl (by decide +kernel)) s_Memory_setIntAt (fun x1 => ⟨_, _, ⟨rfl, rfl⟩, ?_⟩)
  exact Sp.vret rfl rfl rfl (fun _ _ h => h)
def f_Memory_setRefPlace (x : Int32) (y : Int32) (z : Int32) (X : XS) : Option XS := ((f_Memory_setWord ((x + 5) + y) z X).bind fun x1 => some x1)
set_option maxRecDepth 100000 in
set_option maxHeartbeats 4000000 in
theorem s_Memory_setRefPlace {L : Nat} {xs : Nat → Int32} {X : XS} {M : MS} {x : Int32} {y : Int32} {z : Int32} : Sp (mjOO L xs) 215 0 [some (.ref 41), some (.int x), some (.int y), some (.int z)] [] (hS X M) (f_Memory_setRefPlace x y z X) (KVX M) := by
  unfold f_Memory_setRefPlace
  refine Sp.step rfl rfl rfl rfl ?_
  refine Sp.step rfl rfl rfl rfl ?_
  refine Sp.step rfl rfl rfl rfl ?_
  refine Sp.step rfl rfl rfl rfl ?_
  refine Sp.step rfl rfl rfl rfl ?_
  refine Sp.step rfl rfl rfl rfl ?_
  refine Sp.step rfl rfl rfl rfl ?_
  refine Sp.call rfl rfl rfl (xrecv (c := 4) (by decide) rfl (by decide +kernel)) s_Memory_setWord (fun x1 => ⟨_, _, ⟨rfl, rfl⟩, ?_⟩)
  exact Sp.vret rfl rfl rfl (fun _ _ h => h)
def f_Memory_refPlace (x : Int32) (y : Int32) (X : XS) : Option Int32 := ((f_Memory_word ((x + 5) + y) X).bind fun x1 => some x1)
set_option maxRecDepth 100000 in
set_option maxHeartbeats 4000000 in
theorem s_Memory_refPlace {L : Nat} {xs : Nat → Int32} {X : XS} {M : MS} {x : Int32} {y : Int32} : Sp (mjOO L xs) 214 0 [some (.ref 41), some (.int x), some (.int y)] [] (hS X M) (f_Memory_refPlace x y X) (KQ (hS X M)) := by
  unfold f_Memory_refPlace
  refine Sp.step rfl rfl rfl rfl ?_
  refine Sp.step rfl rfl rfl rfl ?_
  refine Sp.step rfl rfl rfl rfl ?_
  refine Sp.step rfl rfl rfl rfl ?_
  refine Sp.step rfl rfl rfl rfl ?_
  refine Sp.step rfl rfl rfl rfl ?_
  refine Sp.call rfl rfl rfl (xrecv (c := 4) (by decide) rfl (by decide +kernel)) s_Memory_word (fun x1 => ⟨_, _, ⟨rfl, rfl⟩, ?_⟩)
  exact Sp.iret rfl rfl rfl rfl (fun _ _ h => h)
def f_Engine_doPlace (x : Nat) (y : Int32) (X : XS) : Option (Int32 × XS) := (((if y = 33 then some 1 else (if ¬ y = 37 then some 0 else some 1)) : Option (Int32)).bind fun x3 => (((if y = 32 then some 1 else (if ¬ y = 33 then some 0 else some 1)) : Option (Int32)).bind fun x6 => (((if x3 = 0 then some (0, X) else (if (xT X x = some (14, 0)) then ((f_Strand_pop x X).bind fun x9 => some (x9.1, x9.2)) else none)) : Option (Int32 × XS)).bind fun x10 => (if (xT x10.2 x = some (14, 0)) then ((f_Strand_pop x x10.2).bind fun x12 => (if (xT x12.2 x = some (14, 0)) then ((f_Strand_pop x x12.2).bind fun x14 => (if ¬ x14.1 = 0 then ((f_Memory_kindOf x14.1 x14.2).bind fun x16 => (((if x6 = 0 then some 255 else some 254) : Option (Int32)).bind fun x18 => (if x16 = x18 then (if x12.1 < 0 then some (5, x14.2) else ((f_Memory_lengthOf x14.1 x14.2).bind fun x21 => (if x12.1 < x21 then (if y = 32 then ((f_Memory_intPlace x14.1 x12.1 x14.2).bind fun x24 => (if (xT x14.2 x = some (14, 0)) then ((f_Strand_push x x24 x14.2).bind fun x26 => some (0, x26)) else none)) else (if y = 33 then ((f_Memory_setIntPlace x14.1 x12.1 x10.1 x14.2).bind fun x28 => some (0, x28)) else (if y = 34 then ((f_Memory_setRefPlace x14.1 x12.1 x10.1 x14.2).bind fun x30 => some (0, x30)) else (if y = 35 then ((f_Memory_setRefPlace x14.1 x12.1 x10.1 x14.2).bind fun x32 => some (0, x32)) else (if y = 36 then ((f_Memory_refPlace x14.1 x12.1 x14.2).bind fun x34 => (if (xT x14.2 x = some (14, 0)) then ((f_Strand_pushRef x x34 x14.2).bind fun x36 => some (0, x36)) else none)) else ((f_Memory_setRefPlace x14.1 x12.1 x10.1 x14.2).bind fun x37 => some (0, x37))))))) else some (5, x14.2)))) else some (3, x14.2)))) else some (1, x14.2))) else none)) else none))))
set_option maxRecDepth 100000 in
set_option maxHeartbeats 4000000 in
theorem s_Engine_doPlace {L : Nat} {xs : Nat → Int32} {X : XS} {M : MS} {x : Nat} {y : Int32} : Sp (mjOO L xs) 120 0 [some (.ref 40), some (.ref x), some (.int y), none, none, none, none, none] [] (hS X M) (f_Engine_doPlace x y X) (KEX M) := by
  unfold f_Engine_doPlace
  refine Sp.step rfl rfl rfl rfl ?_
  refine Sp.step rfl rfl rfl rfl ?_
  refine Sp.piece (pe := 17) (mf := (fun (x3 : Int32) => [some (.ref 40), some (.ref x), some (.int y), none, none, none, none, none])) (sf := (fun (x3 : Int32) => [.int x3])) (hf := (fun (x3 : Int32) => hS X M)) ?_ (fun x3 => ?_)
  · refine Sp.if2 rfl rfl rfl rfl (fun e1 => ?_) (fun e1 => ?_)
    · refine Sp.step rfl rfl rfl rfl ?_
      refine Sp.step rfl rfl rfl rfl ?_
      exact Sp.jmp (l0 := [some (.ref 40), some (.ref x), some (.int y), none, none, none, none, none]) ⟨rfl, rfl, rfl, trivial⟩ (fun _ _ h => h)
    · refine Sp.step rfl rfl rfl rfl ?_
      refine Sp.step rfl rfl rfl rfl ?_
      refine Sp.if2 rfl rfl rfl rfl (fun e2 => ?_) (fun e2 => ?_)
      · refine Sp.step rfl rfl rfl rfl ?_
        exact Sp.jmp (l0 := [some (.ref 40), some (.ref x), some (.int y), none, none, none, none, none]) ⟨rfl, rfl, rfl, trivial⟩ (fun _ _ h => h)
      · refine Sp.step rfl rfl rfl rfl ?_
        refine Sp.step rfl rfl rfl rfl ?_
        exact Sp.jmp (l0 := [some (.ref 40), some (.ref x), some (.int y), none, none, none, none, none]) ⟨rfl, rfl, rfl, trivial⟩ (fun _ _ h => h)
  · refine Sp.step rfl rfl rfl rfl ?_
    refine Sp.step rfl rfl rfl rfl ?_
    refine Sp.step rfl rfl rfl rfl ?_
    refine Sp.piece (pe := 35) (mf := (fun (x6 : Int32) => [some (.ref 40), some (.ref x), some (.int y), some (.int x3), none, none, none, none])) (sf := (fun (x6 : Int32) => [.int x6])) (hf := (fun (x6 : Int32) => hS X M)) ?_ (fun x6 => ?_)
    · refine Sp.if2 rfl rfl rfl rfl (fun e4 => ?_) (fun e4 => ?_)
      · refine Sp.step rfl rfl rfl rfl ?_
        refine Sp.step rfl rfl rfl rfl ?_
        exact Sp.jmp (l0 := [some (.ref 40), some (.ref x), some (.int y), some (.int x3), none, none, none, none]) ⟨rfl, rfl, rfl, rfl, trivial⟩ (fun _ _ h => h)
      · refine Sp.step rfl rfl rfl rfl ?_
        refine Sp.step rfl rfl rfl rfl ?_
        refine Sp.if2 rfl rfl rfl rfl (fun e5 => ?_) (fun e5 => ?_)
        · refine Sp.step rfl rfl rfl rfl ?_
          exact Sp.jmp (l0 := [some (.ref 40), some (.ref x), some (.int y), some (.int x3), none, none, none, none]) ⟨rfl, rfl, rfl, rfl, trivial⟩ (fun _ _ h => h)
        · refine Sp.step rfl rfl rfl rfl ?_
          refine Sp.step rfl rfl rfl rfl ?_
          exact Sp.jmp (l0 := [some (.ref 40), some (.ref x), some (.int y), some (.int x3), none, none, none, none]) ⟨rfl, rfl, rfl, rfl, trivial⟩ (fun _ _ h => h)
    · refine Sp.step rfl rfl rfl rfl ?_
      refine Sp.step rfl rfl rfl rfl ?_
      refine Sp.piece (pe := 49) (mf := (fun (x10 : Int32 × XS) => [some (.ref 40), some (.ref x), some (.int y), none, some (.int x6), none, none, none])) (sf := (fun (x10 : Int32 × XS) => [.int x10.1])) (hf := (fun (x10 : Int32 × XS) => hS x10.2 M)) ?_ (fun x10 => ?_)
      · refine Sp.if1 rfl rfl rfl rfl (fun e7 => ?_) (fun e7 => ?_)
        · refine Sp.step rfl rfl rfl rfl ?_
          exact Sp.jmp (l0 := [some (.ref 40), some (.ref x), some (.int y), none, some (.int x6), none, none, none]) ⟨rfl, rfl, rfl, rfl, trivial⟩ (fun _ _ h => h)
        · refine Sp.step rfl rfl rfl rfl ?_
          refine Sp.guard (fun e8 => ?_)
          refine Sp.call rfl rfl rfl (xrecv (c := 9) (by decide) e8 (by decide +kernel)) s_Strand_pop (fun x9 => ⟨_, _, ⟨rfl, rfl⟩, ?_⟩)
          refine Sp.step rfl rfl rfl rfl ?_
          exact Sp.jmp (l0 := [some (.ref 40), some (.ref x), some (.int y), none, some (.int x6), none, none, none]) ⟨rfl, rfl, rfl, rfl, trivial⟩ (fun _ _ h => h)
      · refine Sp.step rfl rfl rfl rfl ?_
        refine Sp.step rfl rfl rfl rfl ?_
        refine Sp.guard (fun e11 => ?_)
        refine Sp.call rfl rfl rfl (xrecv (c := 9) (by decide) e11 (by decide +kernel)) s_Strand_pop (fun x12 => ⟨_, _, ⟨rfl, rfl⟩, ?_⟩)
        refine Sp.step rfl rfl rfl rfl ?_
        refine Sp.step rfl rfl rfl rfl ?_
        refine Sp.guard (fun e13 => ?_)
        refine Sp.call rfl rfl rfl (xrecv (c := 9) (by decide) e13 (by decide +kernel)) s_Strand_pop (fun x14 => ⟨_, _, ⟨rfl, rfl⟩, ?_⟩)
        refine Sp.step rfl rfl rfl rfl ?_
        refine Sp.step rfl rfl rfl rfl ?_
        refine Sp.if1 rfl rfl rfl rfl (fun e15 => ?_) (fun e15 => ?_)
        · refine Sp.step rfl rfl rfl rfl ?_
          refine Sp.step rfl rfl rfl (xg_F (c := 0) (f := 3) rfl rfl rfl rfl rfl) ?_
          refine Sp.step rfl rfl rfl rfl ?_
          refine Sp.call rfl rfl rfl (xrecv (c := 4) (by decide) rfl (by decide +kernel)) s_Memory_kindOf (fun x16 => ⟨_, _, ⟨rfl, rfl⟩, ?_⟩)
          refine Sp.step rfl rfl rfl rfl ?_
          refine Sp.piece (pe := 93) (mf := (fun (x18 : Int32) => [some (.ref 40), some (.ref x), some (.int y), none, none, some (.int x10.1), some (.int x12.1), some (.int x14.1)])) (sf := (fun (x18 : Int32) => [.int x18, .int x16])) (hf := (fun (x18 : Int32) => hS x14.2 M)) ?_ (fun x18 => ?_)
          · refine Sp.if1 rfl rfl rfl rfl (fun e17 => ?_) (fun e17 => ?_)
            · refine Sp.step rfl rfl rfl rfl ?_
              exact Sp.jmp (l0 := [some (.ref 40), some (.ref x), some (.int y), none, none, some (.int x10.1), some (.int x12.1), some (.int x14.1)]) ⟨rfl, rfl, rfl, rfl, rfl, rfl, trivial⟩ (fun _ _ h => h)
            · refine Sp.step rfl rfl rfl rfl ?_
              refine Sp.step rfl rfl rfl rfl ?_
              exact Sp.jmp (l0 := [some (.ref 40), some (.ref x), some (.int y), none, none, some (.int x10.1), some (.int x12.1), some (.int x14.1)]) ⟨rfl, rfl, rfl, rfl, rfl, rfl, trivial⟩ (fun _ _ h => h)
          · refine Sp.if2 rfl rfl rfl rfl (fun e19 => ?_) (fun e19 => ?_)
            · refine Sp.step rfl rfl rfl rfl ?_
              refine Sp.if1 rfl rfl rfl rfl (fun e20 => ?_) (fun e20 => ?_)
              · refine Sp.step rfl rfl rfl rfl ?_
                exact Sp.iret rfl rfl rfl rfl (fun _ _ h => h)
              · refine Sp.step rfl rfl rfl rfl ?_
                refine Sp.step rfl rfl rfl rfl ?_
                refine Sp.step rfl rfl rfl (xg_F (c := 0) (f := 3) rfl rfl rfl rfl rfl) ?_
                refine Sp.step rfl rfl rfl rfl ?_
                refine Sp.call rfl rfl rfl (xrecv (c := 4) (by decide) rfl (by decide +kernel)) s_Memory_lengthOf (fun x21 => ⟨_, _, ⟨rfl, rfl⟩, ?_⟩)
                refine Sp.if2 rfl rfl rfl rfl (fun e22 => ?_) (fun e22 => ?_)
                · refine Sp.step rfl rfl rfl rfl ?_
                  refine Sp.ite (fun e23 => ?_) (fun e23 => ?_)
                  · refine Sp.step rfl rfl rfl (go_sw (t := 156) (sw_of e23 rfl)) ?_
                    refine Sp.step rfl rfl rfl rfl ?_
                    refine Sp.step rfl rfl rfl rfl ?_
                    refine Sp.step rfl rfl rfl (xg_F (c := 0) (f := 3) rfl rfl rfl rfl rfl) ?_
                    refine Sp.step rfl rfl rfl rfl ?_
                    refine Sp.step rfl rfl rfl rfl ?_
                    refine Sp.call rfl rfl rfl (xrecv (c := 4) (by decide) rfl (by decide +kernel)) s_Memory_intPlace (fun x24 => ⟨_, _, ⟨rfl, rfl⟩, ?_⟩)
                    refine Sp.guard (fun e25 => ?_)
                    refine Sp.call rfl rfl rfl (xrecv (c := 9) (by decide) e25 (by decide +kernel)) s_Strand_push (fun x26 => ⟨_, _, ⟨rfl, rfl⟩, ?_⟩)
                    refine Sp.step rfl rfl rfl rfl ?_
                    refine Sp.step rfl rfl rfl rfl ?_
                    exact Sp.iret rfl rfl rfl rfl (fun _ _ h => h)
                  · refine Sp.ite (fun e27 => ?_) (fun e27 => ?_)
                    · refine Sp.step rfl rfl rfl (go_sw (t := 174) (sw_of e27 rfl)) ?_
                      refine Sp.step rfl rfl rfl rfl ?_
                      refine Sp.step rfl rfl rfl (xg_F (c := 0) (f := 3) rfl rfl rfl rfl rfl) ?_
                      refine Sp.step rfl rfl rfl rfl ?_
                      refine Sp.step rfl rfl rfl rfl ?_
                      refine Sp.step rfl rfl rfl rfl ?_
                      refine Sp.call rfl rfl rfl (xrecv (c := 4) (by decide) rfl (by decide +kernel)) s_Memory_setIntPlace (fun x28 => ⟨_, _, ⟨rfl, rfl⟩, ?_⟩)
                      refine Sp.step rfl rfl rfl rfl ?_
                      refine Sp.step rfl rfl rfl rfl ?_
                      exact Sp.iret rfl rfl rfl rfl (fun _ _ h => h)
                    · refine Sp.ite (fun e29 => ?_) (fun e29 => ?_)
                      · refine Sp.step rfl rfl rfl (go_sw (t := 208) (sw_of e29 rfl)) ?_
                        refine Sp.step rfl rfl rfl rfl ?_
                        refine Sp.step rfl rfl rfl (xg_F (c := 0) (f := 3) rfl rfl rfl rfl rfl) ?_
                        refine Sp.step rfl rfl rfl rfl ?_
                        refine Sp.step rfl rfl rfl rfl ?_
                        refine Sp.step rfl rfl rfl rfl ?_
                        refine Sp.call rfl rfl rfl (xrecv (c := 4) (by decide) rfl (by decide +kernel)) s_Memory_setRefPlace (fun x30 => ⟨_, _, ⟨rfl, rfl⟩, ?_⟩)
                        refine Sp.step rfl rfl rfl rfl ?_
                        exact Sp.iret rfl rfl rfl rfl (fun _ _ h => h)
                      · refine Sp.ite (fun e31 => ?_) (fun e31 => ?_)
                        · refine Sp.step rfl rfl rfl (go_sw (t := 208) (sw_of e31 rfl)) ?_
                          refine Sp.step rfl rfl rfl rfl ?_
                          refine Sp.step rfl rfl rfl (xg_F (c := 0) (f := 3) rfl rfl rfl rfl rfl) ?_
                          refine Sp.step rfl rfl rfl rfl ?_
                          refine Sp.step rfl rfl rfl rfl ?_
                          refine Sp.step rfl rfl rfl rfl ?_
                          refine Sp.call rfl rfl rfl (xrecv (c := 4) (by decide) rfl (by decide +kernel)) s_Memory_setRefPlace (fun x32 => ⟨_, _, ⟨rfl, rfl⟩, ?_⟩)
                          refine Sp.step rfl rfl rfl rfl ?_
                          exact Sp.iret rfl rfl rfl rfl (fun _ _ h => h)
                        · refine Sp.ite (fun e33 => ?_) (fun e33 => ?_)
                          · refine Sp.step rfl rfl rfl (go_sw (t := 190) (sw_of e33 rfl)) ?_
                            refine Sp.step rfl rfl rfl rfl ?_
                            refine Sp.step rfl rfl rfl rfl ?_
                            refine Sp.step rfl rfl rfl (xg_F (c := 0) (f := 3) rfl rfl rfl rfl rfl) ?_
                            refine Sp.step rfl rfl rfl rfl ?_
                            refine Sp.step rfl rfl rfl rfl ?_
                            refine Sp.call rfl rfl rfl (xrecv (c := 4) (by decide) rfl (by decide +kernel)) s_Memory_refPlace (fun x34 => ⟨_, _, ⟨rfl, rfl⟩, ?_⟩)
                            refine Sp.guard (fun e35 => ?_)
                            refine Sp.call rfl rfl rfl (xrecv (c := 9) (by decide) e35 (by decide +kernel)) s_Strand_pushRef (fun x36 => ⟨_, _, ⟨rfl, rfl⟩, ?_⟩)
                            refine Sp.step rfl rfl rfl rfl ?_
                            refine Sp.step rfl rfl rfl rfl ?_
                            exact Sp.iret rfl rfl rfl rfl (fun _ _ h => h)
                          · refine Sp.step rfl rfl rfl (go_sw (t := 208) (mjSw_out _ (by
                              intro q hq
                              simp only [List.mem_cons, List.not_mem_nil, or_false] at hq
                              rcases hq with rfl | rfl | rfl | rfl | rfl
                              · exact e23
                              · exact e27
                              · exact e29
                              · exact e31
                              · exact e33))) ?_
                            refine Sp.step rfl rfl rfl rfl ?_
                            refine Sp.step rfl rfl rfl (xg_F (c := 0) (f := 3) rfl rfl rfl rfl rfl) ?_
                            refine Sp.step rfl rfl rfl rfl ?_
                            refine Sp.step rfl rfl rfl rfl ?_
                            refine Sp.step rfl rfl rfl rfl ?_
                            refine Sp.call rfl rfl rfl (xrecv (c := 4) (by decide) rfl (by decide +kernel)) s_Memory_setRefPlace (fun x37 => ⟨_, _, ⟨rfl, rfl⟩, ?_⟩)
                            refine Sp.step rfl rfl rfl rfl ?_
                            exact Sp.iret rfl rfl rfl rfl (fun _ _ h => h)
                · refine Sp.step rfl rfl rfl rfl ?_
                  exact Sp.iret rfl rfl rfl rfl (fun _ _ h => h)
            · refine Sp.step rfl rfl rfl rfl ?_
              exact Sp.iret rfl rfl rfl rfl (fun _ _ h => h)
        · refine Sp.step rfl rfl rfl rfl ?_
          exact Sp.iret rfl rfl rfl rfl (fun _ _ h => h)
def f_Image_takenBy_51 (x : Int32) (X : XS) : Option Int32 := ((f_Image_at_51 ((f_Image_headAt_51 x X) + 4) X).bind fun x1 => some x1)
set_option maxRecDepth 100000 in
set_option maxHeartbeats 4000000 in
theorem s_Image_takenBy_51 {L : Nat} {xs : Nat → Int32} {X : XS} {M : MS} {x : Int32} : Sp (mjOO L xs) 172 0 [some (.ref 51), some (.int x)] [] (hS X M) (f_Image_takenBy_51 x X) (KQ (hS X M)) := by
  unfold f_Image_takenBy_51
  refine Sp.step rfl rfl rfl rfl ?_
  refine Sp.step rfl rfl rfl rfl ?_
  refine Sp.step rfl rfl rfl rfl ?_
  refine Sp.callS rfl rfl rfl (xrecv (c := 2) (by decide) rfl (by decide +kernel)) s_Image_headAt_51 ⟨rfl, rfl⟩ ?_
  refine Sp.step rfl rfl rfl rfl ?_
  refine Sp.step rfl rfl rfl rfl ?_
  refine Sp.call rfl rfl rfl (xrecv (c := 2) (by decide) rfl (by decide +kernel)) s_Image_at_51 (fun x1 => ⟨_, _, ⟨rfl, rfl⟩, ?_⟩)
  exact Sp.iret rfl rfl rfl rfl (fun _ _ h => h)
def f_Strand_enterTaking (x : Nat) (y : Int32) (z : Int32) (u : Int32) (X : XS) : Option (Bool × XS) := (if (xT X x = some (14, 0)) then (if 1 ≤ X.1 x 2 ∧ X.1 x 2 ≤ 19 then (if 0 ≤ u ∧ u ≤ (if 10 < X.1 x 8 then 10 else X.1 x 8) then (lt (xw X x 8 ((X.1 x 8) - u)) fun X6 => ((f_Strand_enter x y z X6).bind fun x7 => (if (xT x7 x = some (14, 0)) then (ocz (x7.2.1 x 5) none (fun a9 => (ocz (x7.2.1 x 5) none (fun a11 => (ocz (xL x7 0 a9) none (fun n13 => (ocz (xL x7 0 a11) none (fun n15 => (if cpo ((X6.1 x 7) + (X6.1 x 8)) ((X6.1 x 2) * 22) u n13 n15 then (lt (xc x7 (x7.1 a9) a11 ((X6.1 x 7) + (X6.1 x 8)).toNatClampNeg ((X6.1 x 2) * 22).toNatClampNeg u.toNatClampNeg) fun X18 => (ocz (X18.2.1 x 6) none (fun a19 => (ocz (X18.2.1 x 6) none (fun a21 => (ocz (xL X18 0 a19) none (fun n23 => (ocz (xL X18 0 a21) none (fun n25 => (if cpo ((X6.1 x 7) + (X6.1 x 8)) ((X6.1 x 2) * 22) u n23 n25 then (lt (xc X18 (X18.1 a19) a21 ((X6.1 x 7) + (X6.1 x 8)).toNatClampNeg ((X6.1 x 2) * 22).toNatClampNeg u.toNatClampNeg) fun X28 => (ocz (X28.2.1 x 6) none (fun a29 => ((f_Arrays_fill4 a29 ((X6.1 x 7) + (X6.1 x 8)) (((X6.1 x 7) + (X6.1 x 8)) + u) 0 X28).bind fun x31 => some (true, x31))))) else none)))))))))) else none))))))))) else none))) else some (false, X)) else some (false, X)) else none)
set_option maxRecDepth 100000 in
set_option maxHeartbeats 4000000 in
theorem s_Strand_enterTaking {L : Nat} {xs : Nat → Int32} {X : XS} {M : MS} {x : Nat} {y : Int32} {z : Int32} {u : Int32} : Sp (mjOO L xs) 285 0 [some (.ref x), some (.int y), some (.int z), some (.int u), none, none] [] (hS X M) (f_Strand_enterTaking x y z u X) (KBX M) := by
  unfold f_Strand_enterTaking
  refine Sp.step rfl rfl rfl rfl ?_
  refine Sp.guard (fun e1 => ?_)
  refine Sp.step rfl rfl rfl (xg_I (c := 9) (f := 2) rfl rfl e1 rfl) ?_
  refine Sp.step rfl rfl rfl rfl ?_
  refine Sp.step rfl rfl rfl rfl ?_
  refine Sp.callP rfl rfl rfl rfl s_within (fun e2 => ?_) (fun e2 => ?_)
  · refine Sp.step rfl rfl rfl rfl ?_
    refine Sp.step rfl rfl rfl rfl ?_
    refine Sp.step rfl rfl rfl rfl ?_
    refine Sp.step rfl rfl rfl rfl ?_
    refine Sp.step rfl rfl rfl (xg_I (c := 9) (f := 8) rfl rfl e1 rfl) ?_
    refine Sp.step rfl rfl rfl rfl ?_
    refine Sp.nat rfl rfl rfl rfl ⟨by decide, by decide, rfl⟩ ?_
    refine Sp.callP rfl rfl rfl rfl s_within (fun e4 => ?_) (fun e4 => ?_)
    · refine Sp.step rfl rfl rfl rfl ?_
      refine Sp.step rfl rfl rfl rfl ?_
      refine Sp.step rfl rfl rfl rfl ?_
      refine Sp.step rfl rfl rfl (xg_I (c := 9) (f := 8) rfl rfl e1 rfl) ?_
      refine Sp.step rfl rfl rfl rfl ?_
      refine Sp.step rfl rfl rfl rfl ?_
      refine Sp.step rfl rfl rfl (xp_I (c := 9) (f := 8) rfl rfl e1 rfl rfl) ?_
      refine Sp.step rfl rfl rfl rfl ?_
      refine Sp.step rfl rfl rfl (xg_I (c := 9) (f := 7) rfl rfl e1 rfl) ?_
      refine Sp.step rfl rfl rfl rfl ?_
      refine Sp.step rfl rfl rfl (xg_I (c := 9) (f := 8) rfl rfl e1 rfl) ?_
      refine Sp.step rfl rfl rfl rfl ?_
      refine Sp.step rfl rfl rfl rfl ?_
      refine Sp.step rfl rfl rfl rfl ?_
      refine Sp.step rfl rfl rfl (xg_I (c := 9) (f := 2) rfl rfl e1 rfl) ?_
      refine Sp.step rfl rfl rfl rfl ?_
      refine Sp.step rfl rfl rfl rfl ?_
      refine Sp.step rfl rfl rfl rfl ?_
      refine Sp.step rfl rfl rfl rfl ?_
      refine Sp.step rfl rfl rfl rfl ?_
      refine Sp.step rfl rfl rfl rfl ?_
      refine Sp.call rfl rfl rfl (xrecv (c := 9) (by decide) e1 (by decide +kernel)) s_Strand_enter (fun x7 => ⟨_, _, ⟨rfl, rfl⟩, ?_⟩)
      refine Sp.step rfl rfl rfl rfl ?_
      refine Sp.guard (fun e8 => ?_)
      refine Sp.step rfl rfl rfl (xg_D (c := 9) (f := 5) rfl rfl e8 rfl (fxP_big (dyn_of (c := 9) e8 rfl))) ?_
      refine Sp.ocrn (fun a9 e10 => ?_)
      refine Sp.step rfl rfl rfl rfl ?_
      refine Sp.step rfl rfl rfl rfl ?_
      refine Sp.step rfl rfl rfl (xg_D (c := 9) (f := 5) rfl rfl e8 rfl (fxP_big (dyn_of (c := 9) e8 rfl))) ?_
      refine Sp.ocrn (fun a11 e12 => ?_)
      refine Sp.step rfl rfl rfl rfl ?_
      refine Sp.step rfl rfl rfl rfl ?_
      refine Sp.ocn (fun n13 e14 => ?_)
      refine Sp.ocn (fun n15 e16 => ?_)
      refine Sp.guard (fun e17 => ?_)
      refine Sp.nat rfl rfl rfl (xcopy (xL_ok e14) (xL_ok e16) (Or.inl rfl) e17) ⟨by decide, by decide, rfl⟩ ?_
      refine Sp.step rfl rfl rfl rfl ?_
      refine Sp.step rfl rfl rfl (xg_D (c := 9) (f := 6) rfl rfl e8 rfl (fxP_big (dyn_of (c := 9) e8 rfl))) ?_
      refine Sp.ocrn (fun a19 e20 => ?_)
      refine Sp.step rfl rfl rfl rfl ?_
      refine Sp.step rfl rfl rfl rfl ?_
      refine Sp.step rfl rfl rfl (xg_D (c := 9) (f := 6) rfl rfl e8 rfl (fxP_big (dyn_of (c := 9) e8 rfl))) ?_
      refine Sp.ocrn (fun a21 e22 => ?_)
      refine Sp.step rfl rfl rfl rfl ?_
      refine Sp.step rfl rfl rfl rfl ?_
      refine Sp.ocn (fun n23 e24 => ?_)
      refine Sp.ocn (fun n25 e26 => ?_)
      refine Sp.guard (fun e27 => ?_)
      refine Sp.nat rfl rfl rfl (xcopy (xL_ok e24) (xL_ok e26) (Or.inl rfl) e27) ⟨by decide, by decide, rfl⟩ ?_
      refine Sp.step rfl rfl rfl rfl ?_
      refine Sp.step rfl rfl rfl (xg_D (c := 9) (f := 6) rfl rfl e8 rfl (fxP_big (dyn_of (c := 9) e8 rfl))) ?_
      refine Sp.ocrn (fun a29 e30 => ?_)
      refine Sp.step rfl rfl rfl rfl ?_
      refine Sp.step rfl rfl rfl rfl ?_
      refine Sp.step rfl rfl rfl rfl ?_
      refine Sp.step rfl rfl rfl rfl ?_
      refine Sp.step rfl rfl rfl rfl ?_
      refine Sp.call rfl rfl rfl rfl s_Arrays_fill4 (fun x31 => ⟨_, _, ⟨rfl, rfl⟩, ?_⟩)
      refine Sp.step rfl rfl rfl rfl ?_
      exact Sp.iret rfl rfl rfl rfl (fun _ _ h => h)
    · refine Sp.step rfl rfl rfl rfl ?_
      refine Sp.step rfl rfl rfl rfl ?_
      exact Sp.iret rfl rfl rfl rfl (fun _ _ h => h)
  · refine Sp.step rfl rfl rfl rfl ?_
    refine Sp.step rfl rfl rfl rfl ?_
    exact Sp.iret rfl rfl rfl rfl (fun _ _ h => h)
def f_Engine_callStatic (x : Nat) (y : Int32) (X : XS) : Option (Int32 × XS) := ((f_Image_codeAt_51 y X).bind fun x1 => ((f_Image_takenBy_51 y X).bind fun x2 => (if (xT X x = some (14, 0)) then ((f_Strand_enterTaking x y x1 x2 X).bind fun x4 => (if x4.1 = true then some ((-1), x4.2) else some (9, x4.2))) else none)))
set_option maxRecDepth 100000 in
set_option maxHeartbeats 4000000 in
theorem s_Engine_callStatic {L : Nat} {xs : Nat → Int32} {X : XS} {M : MS} {x : Nat} {y : Int32} : Sp (mjOO L xs) 122 0 [some (.ref 40), some (.ref x), some (.int y)] [] (hS X M) (f_Engine_callStatic x y X) (KEX M) := by
  unfold f_Engine_callStatic
  refine Sp.step rfl rfl rfl rfl ?_
  refine Sp.step rfl rfl rfl rfl ?_
  refine Sp.step rfl rfl rfl rfl ?_
  refine Sp.step rfl rfl rfl (xg_F (c := 0) (f := 6) rfl rfl rfl rfl rfl) ?_
  refine Sp.step rfl rfl rfl rfl ?_
  refine Sp.call rfl rfl rfl (xrecv (c := 2) (by decide) rfl (by decide +kernel)) s_Image_codeAt_51 (fun x1 => ⟨_, _, ⟨rfl, rfl⟩, ?_⟩)
  refine Sp.step rfl rfl rfl rfl ?_
  refine Sp.step rfl rfl rfl (xg_F (c := 0) (f := 6) rfl rfl rfl rfl rfl) ?_
  refine Sp.step rfl rfl rfl rfl ?_
  refine Sp.call rfl rfl rfl (xrecv (c := 2) (by decide) rfl (by decide +kernel)) s_Image_takenBy_51 (fun x2 => ⟨_, _, ⟨rfl, rfl⟩, ?_⟩)
  refine Sp.guard (fun e3 => ?_)
  refine Sp.call rfl rfl rfl (xrecv (c := 9) (by decide) e3 (by decide +kernel)) s_Strand_enterTaking (fun x4 => ⟨_, _, ⟨rfl, rfl⟩, ?_⟩)
  refine Sp.bool (fun e5 => ?_) (fun e5 => ?_)
  · refine Sp.step rfl rfl rfl rfl ?_
    refine Sp.step rfl rfl rfl rfl ?_
    refine Sp.step rfl rfl rfl rfl ?_
    exact Sp.iret rfl rfl rfl rfl (fun _ _ h => h)
  · refine Sp.step rfl rfl rfl rfl ?_
    refine Sp.step rfl rfl rfl rfl ?_
    exact Sp.iret rfl rfl rfl rfl (fun _ _ h => h)
def f_Image_takenByName_51 (x : Int32) (X : XS) : Int32 := (if 0 ≤ x ∧ x ≤ 7 then X.1 54 x.toNatClampNeg else 1)
set_option maxRecDepth 100000 in
set_option maxHeartbeats 4000000 in
theorem s_Image_takenByName_51 {L : Nat} {xs : Nat → Int32} {X : XS} {M : MS} {x : Int32} : Sp (mjOO L xs) 173 0 [some (.ref 51), some (.int x)] [] (hS X M) (some (f_Image_takenByName_51 x X)) (KQ (hS X M)) := by
  unfold f_Image_takenByName_51
  refine Sp.step rfl rfl rfl rfl ?_
  refine Sp.step rfl rfl rfl rfl ?_
  refine Sp.step rfl rfl rfl rfl ?_
  refine Sp.callPV rfl rfl rfl rfl s_within (fun e1 => ?_) (fun e1 => ?_)
  · refine Sp.step rfl rfl rfl rfl ?_
    refine Sp.step rfl rfl rfl rfl ?_
    refine Sp.step rfl rfl rfl (xg_F (c := 2) (f := 4) rfl rfl rfl rfl rfl) ?_
    refine Sp.step rfl rfl rfl rfl ?_
    refine Sp.step rfl rfl rfl (xld rfl (by decide) (ix_le (N := 7) rfl e1.1 e1.2)) ?_
    refine Sp.step rfl rfl rfl rfl ?_
    exact Sp.iret rfl rfl rfl rfl (fun _ _ h => h)
  · refine Sp.step rfl rfl rfl rfl ?_
    refine Sp.step rfl rfl rfl rfl ?_
    exact Sp.iret rfl rfl rfl rfl (fun _ _ h => h)
def f_Image_routineFor_51 (x : Int32) (y : Int32) (X : XS) : Option Int32 := ((f_Image_at_51 (((f_Image_kindAt_51 x) + 3) + y) X).bind fun x1 => some x1)
set_option maxRecDepth 100000 in
set_option maxHeartbeats 4000000 in
theorem s_Image_routineFor_51 {L : Nat} {xs : Nat → Int32} {X : XS} {M : MS} {x : Int32} {y : Int32} : Sp (mjOO L xs) 178 0 [some (.ref 51), some (.int x), some (.int y)] [] (hS X M) (f_Image_routineFor_51 x y X) (KQ (hS X M)) := by
  unfold f_Image_routineFor_51
  refine Sp.step rfl rfl rfl rfl ?_
  refine Sp.step rfl rfl rfl rfl ?_
  refine Sp.step rfl rfl rfl rfl ?_
  refine Sp.callS rfl rfl rfl (xrecv (c := 2) (by decide) rfl (by decide +kernel)) s_Image_kindAt_51 ⟨rfl, rfl⟩ ?_
  refine Sp.step rfl rfl rfl rfl ?_
  refine Sp.step rfl rfl rfl rfl ?_
  refine Sp.step rfl rfl rfl rfl ?_
  refine Sp.step rfl rfl rfl rfl ?_
  refine Sp.call rfl rfl rfl (xrecv (c := 2) (by decide) rfl (by decide +kernel)) s_Image_at_51 (fun x1 => ⟨_, _, ⟨rfl, rfl⟩, ?_⟩)
  exact Sp.iret rfl rfl rfl rfl (fun _ _ h => h)
def f_Engine_routineOf (x : Int32) (y : Int32) (X : XS) : Option Int32 := ((f_Memory_isArray x X).bind fun x1 => (if x1 = true then some 255 else ((f_Memory_kindOf x X).bind fun x5 => ((f_Image_routineFor_51 x5 y X).bind fun x6 => some x6))))
set_option maxRecDepth 100000 in
set_option maxHeartbeats 4000000 in
theorem s_Engine_routineOf {L : Nat} {xs : Nat → Int32} {X : XS} {M : MS} {x : Int32} {y : Int32} : Sp (mjOO L xs) 124 0 [some (.ref 40), some (.int x), some (.int y)] [] (hS X M) (f_Engine_routineOf x y X) (KQ (hS X M)) := by
  unfold f_Engine_routineOf
  refine Sp.step rfl rfl rfl rfl ?_
  refine Sp.step rfl rfl rfl (xg_F (c := 0) (f := 3) rfl rfl rfl rfl rfl) ?_
  refine Sp.step rfl rfl rfl rfl ?_
  refine Sp.call rfl rfl rfl (xrecv (c := 4) (by decide) rfl (by decide +kernel)) s_Memory_isArray (fun x1 => ⟨_, _, ⟨rfl, rfl⟩, ?_⟩)
  refine Sp.bool (fun e2 => ?_) (fun e2 => ?_)
  · refine Sp.step rfl rfl rfl rfl ?_
    refine Sp.step rfl rfl rfl rfl ?_
    refine Sp.step rfl rfl rfl rfl ?_
    exact Sp.iret rfl rfl rfl rfl (fun _ _ h => h)
  · refine Sp.step rfl rfl rfl rfl ?_
    refine Sp.step rfl rfl rfl rfl ?_
    refine Sp.step rfl rfl rfl (xg_F (c := 0) (f := 6) rfl rfl rfl rfl rfl) ?_
    refine Sp.step rfl rfl rfl rfl ?_
    refine Sp.step rfl rfl rfl (xg_F (c := 0) (f := 3) rfl rfl rfl rfl rfl) ?_
    refine Sp.step rfl rfl rfl rfl ?_
    refine Sp.call rfl rfl rfl (xrecv (c := 4) (by decide) rfl (by decide +kernel)) s_Memory_kindOf (fun x5 => ⟨_, _, ⟨rfl, rfl⟩, ?_⟩)
    refine Sp.step rfl rfl rfl rfl ?_
    refine Sp.call rfl rfl rfl (xrecv (c := 2) (by decide) rfl (by decide +kernel)) s_Image_routineFor_51 (fun x6 => ⟨_, _, ⟨rfl, rfl⟩, ?_⟩)
    exact Sp.iret rfl rfl rfl rfl (fun _ _ h => h)
def f_Engine_callName (x : Nat) (y : Int32) (X : XS) : Option (Int32 × XS) := (if (xT X x = some (14, 0)) then ((f_Strand_peek x ((f_Image_takenByName_51 y X) - 1) X).bind fun x2 => (if ¬ x2 = 0 then ((f_Engine_routineOf x2 y X).bind fun x4 => (if ¬ x4 = 255 then ((f_Image_codeAt_51 x4 X).bind fun x6 => ((f_Strand_enterTaking x x4 x6 (f_Image_takenByName_51 y X) X).bind fun x7 => (if x7.1 = true then some ((-1), x7.2) else some (9, x7.2)))) else some (6, X))) else some (1, X))) else none)
set_option maxRecDepth 100000 in
set_option maxHeartbeats 4000000 in
theorem s_Engine_callName {L : Nat} {xs : Nat → Int32} {X : XS} {M : MS} {x : Nat} {y : Int32} : Sp (mjOO L xs) 123 0 [some (.ref 40), some (.ref x), some (.int y), none, none, none] [] (hS X M) (f_Engine_callName x y X) (KEX M) := by
  unfold f_Engine_callName
  refine Sp.step rfl rfl rfl rfl ?_
  refine Sp.step rfl rfl rfl (xg_F (c := 0) (f := 6) rfl rfl rfl rfl rfl) ?_
  refine Sp.step rfl rfl rfl rfl ?_
  refine Sp.callS rfl rfl rfl (xrecv (c := 2) (by decide) rfl (by decide +kernel)) s_Image_takenByName_51 ⟨rfl, rfl⟩ ?_
  refine Sp.step rfl rfl rfl rfl ?_
  refine Sp.step rfl rfl rfl rfl ?_
  refine Sp.step rfl rfl rfl rfl ?_
  refine Sp.step rfl rfl rfl rfl ?_
  refine Sp.step rfl rfl rfl rfl ?_
  refine Sp.guard (fun e1 => ?_)
  refine Sp.call rfl rfl rfl (xrecv (c := 9) (by decide) e1 (by decide +kernel)) s_Strand_peek (fun x2 => ⟨_, _, ⟨rfl, rfl⟩, ?_⟩)
  refine Sp.step rfl rfl rfl rfl ?_
  refine Sp.step rfl rfl rfl rfl ?_
  refine Sp.if1 rfl rfl rfl rfl (fun e3 => ?_) (fun e3 => ?_)
  · refine Sp.step rfl rfl rfl rfl ?_
    refine Sp.step rfl rfl rfl rfl ?_
    refine Sp.step rfl rfl rfl rfl ?_
    refine Sp.call rfl rfl rfl (xrecv (c := 0) (by decide) rfl (by decide +kernel)) s_Engine_routineOf (fun x4 => ⟨_, _, ⟨rfl, rfl⟩, ?_⟩)
    refine Sp.step rfl rfl rfl rfl ?_
    refine Sp.step rfl rfl rfl rfl ?_
    refine Sp.step rfl rfl rfl rfl ?_
    refine Sp.if2 rfl rfl rfl rfl (fun e5 => ?_) (fun e5 => ?_)
    · refine Sp.step rfl rfl rfl rfl ?_
      refine Sp.step rfl rfl rfl rfl ?_
      refine Sp.step rfl rfl rfl rfl ?_
      refine Sp.step rfl rfl rfl (xg_F (c := 0) (f := 6) rfl rfl rfl rfl rfl) ?_
      refine Sp.step rfl rfl rfl rfl ?_
      refine Sp.call rfl rfl rfl (xrecv (c := 2) (by decide) rfl (by decide +kernel)) s_Image_codeAt_51 (fun x6 => ⟨_, _, ⟨rfl, rfl⟩, ?_⟩)
      refine Sp.step rfl rfl rfl rfl ?_
      refine Sp.call rfl rfl rfl (xrecv (c := 9) (by decide) e1 (by decide +kernel)) s_Strand_enterTaking (fun x7 => ⟨_, _, ⟨rfl, rfl⟩, ?_⟩)
      refine Sp.bool (fun e8 => ?_) (fun e8 => ?_)
      · refine Sp.step rfl rfl rfl rfl ?_
        refine Sp.step rfl rfl rfl rfl ?_
        refine Sp.step rfl rfl rfl rfl ?_
        exact Sp.iret rfl rfl rfl rfl (fun _ _ h => h)
      · refine Sp.step rfl rfl rfl rfl ?_
        refine Sp.step rfl rfl rfl rfl ?_
        exact Sp.iret rfl rfl rfl rfl (fun _ _ h => h)
    · refine Sp.step rfl rfl rfl rfl ?_
      exact Sp.iret rfl rfl rfl rfl (fun _ _ h => h)
  · refine Sp.step rfl rfl rfl rfl ?_
    exact Sp.iret rfl rfl rfl rfl (fun _ _ h => h)
def f_Strand_leave (x : Nat) (X : XS) : Option XS := (if (xT X x = some (14, 0)) then (lt (xw X x 2 ((X.1 x 2) - 1)) fun X2 => (if X2.1 x 2 < 1 then some X2 else (if 20 < X2.1 x 2 then some X2 else (ocz (X2.2.1 x 9) none (fun a5 => (ocz (xL X2 0 a5) none (fun n7 => (if ixo ((X2.1 x 2) - 1) n7 then (lt (xw X2 x 3 (X2.1 a5 ((X2.1 x 2) - 1).toNatClampNeg)) fun X10 => (ocz (X10.2.1 x 10) none (fun a11 => (ocz (xL X10 0 a11) none (fun n13 => (if ixo ((X10.1 x 2) - 1) n13 then (lt (xw X10 x 4 (X10.1 a11 ((X10.1 x 2) - 1).toNatClampNeg)) fun X16 => (ocz (X16.2.1 x 11) none (fun a17 => (ocz (xL X16 0 a17) none (fun n19 => (if ixo ((X16.1 x 2) - 1) n19 then (lt (xw X16 x 8 (X16.1 a17 ((X16.1 x 2) - 1).toNatClampNeg)) fun X22 => (lt (xw X22 x 7 ((((X22.1 x 2) - 1) * 22) + 12)) fun X23 => some X23)) else none)))))) else none)))))) else none)))))))) else none)
set_option maxRecDepth 100000 in
set_option maxHeartbeats 4000000 in
theorem s_Strand_leave {L : Nat} {xs : Nat → Int32} {X : XS} {M : MS} {x : Nat} : Sp (mjOO L xs) 286 0 [some (.ref x)] [] (hS X M) (f_Strand_leave x X) (KVX M) := by
  unfold f_Strand_leave
  refine Sp.step rfl rfl rfl rfl ?_
  refine Sp.step rfl rfl rfl rfl ?_
  refine Sp.guard (fun e1 => ?_)
  refine Sp.step rfl rfl rfl (xg_I (c := 9) (f := 2) rfl rfl e1 rfl) ?_
  refine Sp.step rfl rfl rfl rfl ?_
  refine Sp.step rfl rfl rfl rfl ?_
  refine Sp.step rfl rfl rfl (xp_I (c := 9) (f := 2) rfl rfl e1 rfl rfl) ?_
  refine Sp.step rfl rfl rfl rfl ?_
  refine Sp.step rfl rfl rfl (xg_I (c := 9) (f := 2) rfl rfl e1 rfl) ?_
  refine Sp.step rfl rfl rfl rfl ?_
  refine Sp.if2 rfl rfl rfl rfl (fun e3 => ?_) (fun e3 => ?_)
  · exact Sp.vret rfl rfl rfl (fun _ _ h => h)
  · refine Sp.step rfl rfl rfl rfl ?_
    refine Sp.step rfl rfl rfl (xg_I (c := 9) (f := 2) rfl rfl e1 rfl) ?_
    refine Sp.step rfl rfl rfl rfl ?_
    refine Sp.if2 rfl rfl rfl rfl (fun e4 => ?_) (fun e4 => ?_)
    · exact Sp.vret rfl rfl rfl (fun _ _ h => h)
    · refine Sp.step rfl rfl rfl rfl ?_
      refine Sp.step rfl rfl rfl rfl ?_
      refine Sp.step rfl rfl rfl (xg_D (c := 9) (f := 9) rfl rfl e1 rfl (fxP_big (dyn_of (c := 9) e1 rfl))) ?_
      refine Sp.ocrn (fun a5 e6 => ?_)
      refine Sp.step rfl rfl rfl rfl ?_
      refine Sp.step rfl rfl rfl (xg_I (c := 9) (f := 2) rfl rfl e1 rfl) ?_
      refine Sp.step rfl rfl rfl rfl ?_
      refine Sp.step rfl rfl rfl rfl ?_
      refine Sp.ocn (fun n7 e8 => ?_)
      refine Sp.guard (fun e9 => ?_)
      refine Sp.step rfl rfl rfl (xld (xL_ok e8) (by decide) e9) ?_
      refine Sp.step rfl rfl rfl (xp_I (c := 9) (f := 3) rfl rfl e1 rfl rfl) ?_
      refine Sp.step rfl rfl rfl rfl ?_
      refine Sp.step rfl rfl rfl rfl ?_
      refine Sp.step rfl rfl rfl (xg_D (c := 9) (f := 10) rfl rfl e1 rfl (fxP_big (dyn_of (c := 9) e1 rfl))) ?_
      refine Sp.ocrn (fun a11 e12 => ?_)
      refine Sp.step rfl rfl rfl rfl ?_
      refine Sp.step rfl rfl rfl (xg_I (c := 9) (f := 2) rfl rfl e1 rfl) ?_
      refine Sp.step rfl rfl rfl rfl ?_
      refine Sp.step rfl rfl rfl rfl ?_
      refine Sp.ocn (fun n13 e14 => ?_)
      refine Sp.guard (fun e15 => ?_)
      refine Sp.step rfl rfl rfl (xld (xL_ok e14) (by decide) e15) ?_
      refine Sp.step rfl rfl rfl (xp_I (c := 9) (f := 4) rfl rfl e1 rfl rfl) ?_
      refine Sp.step rfl rfl rfl rfl ?_
      refine Sp.step rfl rfl rfl rfl ?_
      refine Sp.step rfl rfl rfl (xg_D (c := 9) (f := 11) rfl rfl e1 rfl (fxP_big (dyn_of (c := 9) e1 rfl))) ?_
      refine Sp.ocrn (fun a17 e18 => ?_)
      refine Sp.step rfl rfl rfl rfl ?_
      refine Sp.step rfl rfl rfl (xg_I (c := 9) (f := 2) rfl rfl e1 rfl) ?_
      refine Sp.step rfl rfl rfl rfl ?_
      refine Sp.step rfl rfl rfl rfl ?_
      refine Sp.ocn (fun n19 e20 => ?_)
      refine Sp.guard (fun e21 => ?_)
      refine Sp.step rfl rfl rfl (xld (xL_ok e20) (by decide) e21) ?_
      refine Sp.step rfl rfl rfl (xp_I (c := 9) (f := 8) rfl rfl e1 rfl rfl) ?_
      refine Sp.step rfl rfl rfl rfl ?_
      refine Sp.step rfl rfl rfl rfl ?_
      refine Sp.step rfl rfl rfl (xg_I (c := 9) (f := 2) rfl rfl e1 rfl) ?_
      refine Sp.step rfl rfl rfl rfl ?_
      refine Sp.step rfl rfl rfl rfl ?_
      refine Sp.step rfl rfl rfl rfl ?_
      refine Sp.step rfl rfl rfl rfl ?_
      refine Sp.step rfl rfl rfl rfl ?_
      refine Sp.step rfl rfl rfl rfl ?_
      refine Sp.step rfl rfl rfl (xp_I (c := 9) (f := 7) rfl rfl e1 rfl rfl) ?_
      exact Sp.vret rfl rfl rfl (fun _ _ h => h)
def f_Strand_finish (x : Nat) (y : Int32) (z : Int32) (X : XS) : Option XS := (if (xT X x = some (14, 0)) then (lt (xw X x 2 0) fun X2 => (lt (xw X2 x 0 y) fun X3 => (lt (xw X3 x 1 z) fun X4 => some X4))) else none)
set_option maxRecDepth 100000 in
set_option maxHeartbeats 4000000 in
theorem s_Strand_finish {L : Nat} {xs : Nat → Int32} {X : XS} {M : MS} {x : Nat} {y : Int32} {z : Int32} : Sp (mjOO L xs) 287 0 [some (.ref x), some (.int y), some (.int z)] [] (hS X M) (f_Strand_finish x y z X) (KVX M) := by
  unfold f_Strand_finish
  refine Sp.step rfl rfl rfl rfl ?_
  refine Sp.step rfl rfl rfl rfl ?_
  refine Sp.guard (fun e1 => ?_)
  refine Sp.step rfl rfl rfl (xp_I (c := 9) (f := 2) rfl rfl e1 rfl rfl) ?_
  refine Sp.step rfl rfl rfl rfl ?_
  refine Sp.step rfl rfl rfl rfl ?_
  refine Sp.step rfl rfl rfl (xp_I (c := 9) (f := 0) rfl rfl e1 rfl rfl) ?_
  refine Sp.step rfl rfl rfl rfl ?_
  refine Sp.step rfl rfl rfl rfl ?_
  refine Sp.step rfl rfl rfl (xp_I (c := 9) (f := 1) rfl rfl e1 rfl rfl) ?_
  exact Sp.vret rfl rfl rfl (fun _ _ h => h)
def f_Engine_giveBack (x : Nat) (y : Int32) (X : XS) : Option (Int32 × XS) := (((if ¬ y = 40 then (if (xT X x = some (14, 0)) then ((f_Strand_pop x X).bind fun x3 => some (x3.1, x3.2)) else none) else some (0, X)) : Option (Int32 × XS)).bind fun x4 => (if (xT x4.2 x = some (14, 0)) then ((f_Strand_leave x x4.2).bind fun x6 => (if (xT x6 x = some (14, 0)) then (if ¬ x6.1 x 2 = 0 then (lt (xw x6 x 4 ((x6.1 x 4) + (f_P_bytesOf 38))) fun X9 => (if ¬ y = 41 then (if ¬ y = 42 then some ((-1), X9) else ((f_Strand_pushRef x x4.1 X9).bind fun x12 => some ((-1), x12))) else ((f_Strand_push x x4.1 X9).bind fun x13 => some ((-1), x13)))) else ((f_Strand_finish x 1 0 x6).bind fun x14 => some ((-1), x14))) else none)) else none))
set_option maxRecDepth 100000 in
set_option maxHeartbeats 4000000 in
theorem s_Engine_giveBack {L : Nat} {xs : Nat → Int32} {X : XS} {M : MS} {x : Nat} {y : Int32} : Sp (mjOO L xs) 125 0 [some (.ref 40), some (.ref x), some (.int y), none] [] (hS X M) (f_Engine_giveBack x y X) (KEX M) := by
  unfold f_Engine_giveBack
  refine Sp.step rfl rfl rfl rfl ?_
  refine Sp.step rfl rfl rfl rfl ?_
  refine Sp.piece (pe := 14) (mf := (fun (x4 : Int32 × XS) => [none, some (.ref x), some (.int y), none])) (sf := (fun (x4 : Int32 × XS) => [.int x4.1])) (hf := (fun (x4 : Int32 × XS) => hS x4.2 M)) ?_ (fun x4 => ?_)
  · refine Sp.if2 rfl rfl rfl rfl (fun e1 => ?_) (fun e1 => ?_)
    · refine Sp.step rfl rfl rfl rfl ?_
      refine Sp.guard (fun e2 => ?_)
      refine Sp.call rfl rfl rfl (xrecv (c := 9) (by decide) e2 (by decide +kernel)) s_Strand_pop (fun x3 => ⟨_, _, ⟨rfl, rfl⟩, ?_⟩)
      exact Sp.jmp (l0 := [none, some (.ref x), some (.int y), none]) ⟨rfl, rfl, trivial⟩ (fun _ _ h => h)
    · refine Sp.step rfl rfl rfl rfl ?_
      refine Sp.step rfl rfl rfl rfl ?_
      exact Sp.jmp (l0 := [none, some (.ref x), some (.int y), none]) ⟨rfl, rfl, trivial⟩ (fun _ _ h => h)
  · refine Sp.step rfl rfl rfl rfl ?_
    refine Sp.step rfl rfl rfl rfl ?_
    refine Sp.guard (fun e5 => ?_)
    refine Sp.call rfl rfl rfl (xrecv (c := 9) (by decide) e5 (by decide +kernel)) s_Strand_leave (fun x6 => ⟨_, _, ⟨rfl, rfl⟩, ?_⟩)
    refine Sp.step rfl rfl rfl rfl ?_
    refine Sp.guard (fun e7 => ?_)
    refine Sp.step rfl rfl rfl (xg_I (c := 9) (f := 2) rfl rfl e7 rfl) ?_
    refine Sp.if1 rfl rfl rfl rfl (fun e8 => ?_) (fun e8 => ?_)
    · refine Sp.step rfl rfl rfl rfl ?_
      refine Sp.step rfl rfl rfl rfl ?_
      refine Sp.step rfl rfl rfl (xg_I (c := 9) (f := 4) rfl rfl e7 rfl) ?_
      refine Sp.step rfl rfl rfl rfl ?_
      refine Sp.callS rfl rfl rfl rfl s_P_bytesOf ⟨rfl, rfl⟩ ?_
      refine Sp.step rfl rfl rfl rfl ?_
      refine Sp.step rfl rfl rfl (xp_I (c := 9) (f := 4) rfl rfl e7 rfl rfl) ?_
      refine Sp.step rfl rfl rfl rfl ?_
      refine Sp.step rfl rfl rfl rfl ?_
      refine Sp.if2 rfl rfl rfl rfl (fun e10 => ?_) (fun e10 => ?_)
      · refine Sp.step rfl rfl rfl rfl ?_
        refine Sp.step rfl rfl rfl rfl ?_
        refine Sp.if2 rfl rfl rfl rfl (fun e11 => ?_) (fun e11 => ?_)
        · refine Sp.step rfl rfl rfl rfl ?_
          exact Sp.iret rfl rfl rfl rfl (fun _ _ h => h)
        · refine Sp.step rfl rfl rfl rfl ?_
          refine Sp.step rfl rfl rfl rfl ?_
          refine Sp.call rfl rfl rfl (xrecv (c := 9) (by decide) e7 (by decide +kernel)) s_Strand_pushRef (fun x12 => ⟨_, _, ⟨rfl, rfl⟩, ?_⟩)
          refine Sp.step rfl rfl rfl rfl ?_
          exact Sp.iret rfl rfl rfl rfl (fun _ _ h => h)
      · refine Sp.step rfl rfl rfl rfl ?_
        refine Sp.step rfl rfl rfl rfl ?_
        refine Sp.call rfl rfl rfl (xrecv (c := 9) (by decide) e7 (by decide +kernel)) s_Strand_push (fun x13 => ⟨_, _, ⟨rfl, rfl⟩, ?_⟩)
        refine Sp.step rfl rfl rfl rfl ?_
        refine Sp.step rfl rfl rfl rfl ?_
        exact Sp.iret rfl rfl rfl rfl (fun _ _ h => h)
    · refine Sp.step rfl rfl rfl rfl ?_
      refine Sp.step rfl rfl rfl rfl ?_
      refine Sp.step rfl rfl rfl rfl ?_
      refine Sp.call rfl rfl rfl (xrecv (c := 9) (by decide) e7 (by decide +kernel)) s_Strand_finish (fun x14 => ⟨_, _, ⟨rfl, rfl⟩, ?_⟩)
      refine Sp.step rfl rfl rfl rfl ?_
      exact Sp.iret rfl rfl rfl rfl (fun _ _ h => h)
def f_Engine_doCall (x : Nat) (y : Int32) (z : Int32) (X : XS) : Option (Int32 × XS) := (if y = 38 then ((f_Engine_callStatic x z X).bind fun x2 => some (x2.1, x2.2)) else (if y = 39 then ((f_Engine_callName x z X).bind fun x4 => some (x4.1, x4.2)) else (if y = 43 then (if (xT X x = some (14, 0)) then ((f_Strand_pop x X).bind fun x7 => (lt (xw x7.2 40 10 x7.1) fun X8 => (if ¬ X8.1 40 10 = 0 then some (10, X8) else some (1, X8)))) else none) else ((f_Engine_giveBack x y X).bind fun x10 => some (x10.1, x10.2)))))
set_option maxRecDepth 100000 in
set_option maxHeartbeats 4000000 in
theorem s_Engine_doCall {L : Nat} {xs : Nat → Int32} {X : XS} {M : MS} {x : Nat} {y : Int32} {z : Int32} : Sp (mjOO L xs) 121 0 [some (.ref 40), some (.ref x), some (.int y), some (.int z)] [] (hS X M) (f_Engine_doCall x y z X) (KEX M) := by
  unfold f_Engine_doCall
  refine Sp.step rfl rfl rfl rfl ?_
  refine Sp.ite (fun e1 => ?_) (fun e1 => ?_)
  · refine Sp.step rfl rfl rfl (go_sw (t := 36) (sw_of e1 rfl)) ?_
    refine Sp.step rfl rfl rfl rfl ?_
    refine Sp.step rfl rfl rfl rfl ?_
    refine Sp.step rfl rfl rfl rfl ?_
    refine Sp.call rfl rfl rfl (xrecv (c := 0) (by decide) rfl (by decide +kernel)) s_Engine_callStatic (fun x2 => ⟨_, _, ⟨rfl, rfl⟩, ?_⟩)
    exact Sp.iret rfl rfl rfl rfl (fun _ _ h => h)
  · refine Sp.ite (fun e3 => ?_) (fun e3 => ?_)
    · refine Sp.step rfl rfl rfl (go_sw (t := 43) (sw_of e3 rfl)) ?_
      refine Sp.step rfl rfl rfl rfl ?_
      refine Sp.step rfl rfl rfl rfl ?_
      refine Sp.step rfl rfl rfl rfl ?_
      refine Sp.call rfl rfl rfl (xrecv (c := 0) (by decide) rfl (by decide +kernel)) s_Engine_callName (fun x4 => ⟨_, _, ⟨rfl, rfl⟩, ?_⟩)
      exact Sp.iret rfl rfl rfl rfl (fun _ _ h => h)
    · refine Sp.ite (fun e5 => ?_) (fun e5 => ?_)
      · refine Sp.step rfl rfl rfl (go_sw (t := 50) (sw_of e5 rfl)) ?_
        refine Sp.step rfl rfl rfl rfl ?_
        refine Sp.step rfl rfl rfl rfl ?_
        refine Sp.guard (fun e6 => ?_)
        refine Sp.call rfl rfl rfl (xrecv (c := 9) (by decide) e6 (by decide +kernel)) s_Strand_pop (fun x7 => ⟨_, _, ⟨rfl, rfl⟩, ?_⟩)
        refine Sp.step rfl rfl rfl (xp_I (c := 0) (f := 10) rfl rfl rfl rfl rfl) ?_
        refine Sp.step rfl rfl rfl rfl ?_
        refine Sp.step rfl rfl rfl (xg_I (c := 0) (f := 10) rfl rfl rfl rfl) ?_
        refine Sp.if1 rfl rfl rfl rfl (fun e9 => ?_) (fun e9 => ?_)
        · refine Sp.step rfl rfl rfl rfl ?_
          exact Sp.iret rfl rfl rfl rfl (fun _ _ h => h)
        · refine Sp.step rfl rfl rfl rfl ?_
          refine Sp.step rfl rfl rfl rfl ?_
          exact Sp.iret rfl rfl rfl rfl (fun _ _ h => h)
      · refine Sp.step rfl rfl rfl (go_sw (t := 72) (mjSw_out _ (by
          intro q hq
          simp only [List.mem_cons, List.not_mem_nil, or_false] at hq
          rcases hq with rfl | rfl | rfl
          · exact e1
          · exact e3
          · exact e5))) ?_
        refine Sp.step rfl rfl rfl rfl ?_
        refine Sp.step rfl rfl rfl rfl ?_
        refine Sp.step rfl rfl rfl rfl ?_
        refine Sp.call rfl rfl rfl (xrecv (c := 0) (by decide) rfl (by decide +kernel)) s_Engine_giveBack (fun x10 => ⟨_, _, ⟨rfl, rfl⟩, ?_⟩)
        exact Sp.iret rfl rfl rfl rfl (fun _ _ h => h)
def f_Memory_entriesOf (x : Int32) (X : XS) : Option Int32 := ((f_Memory_word (x + 2) X).bind fun x1 => some x1)
set_option maxRecDepth 100000 in
set_option maxHeartbeats 4000000 in
theorem s_Memory_entriesOf {L : Nat} {xs : Nat → Int32} {X : XS} {M : MS} {x : Int32} : Sp (mjOO L xs) 217 0 [some (.ref 41), some (.int x)] [] (hS X M) (f_Memory_entriesOf x X) (KQ (hS X M)) := by
  unfold f_Memory_entriesOf
  refine Sp.step rfl rfl rfl rfl ?_
  refine Sp.step rfl rfl rfl rfl ?_
  refine Sp.step rfl rfl rfl rfl ?_
  refine Sp.step rfl rfl rfl rfl ?_
  refine Sp.call rfl rfl rfl (xrecv (c := 4) (by decide) rfl (by decide +kernel)) s_Memory_word (fun x1 => ⟨_, _, ⟨rfl, rfl⟩, ?_⟩)
  exact Sp.iret rfl rfl rfl rfl (fun _ _ h => h)
def f_Memory_setMonitor (x : Int32) (y : Int32) (z : Int32) (X : XS) : Option XS := ((f_Memory_setWord (x + 1) y X).bind fun x1 => ((f_Memory_setWord (x + 2) z x1).bind fun x2 => some x2))
set_option maxRecDepth 100000 in
set_option maxHeartbeats 4000000 in
theorem s_Memory_setMonitor {L : Nat} {xs : Nat → Int32} {X : XS} {M : MS} {x : Int32} {y : Int32} {z : Int32} : Sp (mjOO L xs) 218 0 [some (.ref 41), some (.int x), some (.int y), some (.int z)] [] (hS X M) (f_Memory_setMonitor x y z X) (KVX M) := by
  unfold f_Memory_setMonitor
  refine Sp.step rfl rfl rfl rfl ?_
  refine Sp.step rfl rfl rfl rfl ?_
  refine Sp.step rfl rfl rfl rfl ?_
  refine Sp.step rfl rfl rfl rfl ?_
  refine Sp.step rfl rfl rfl rfl ?_
  refine Sp.call rfl rfl rfl (xrecv (c := 4) (by decide) rfl (by decide +kernel)) s_Memory_setWord (fun x1 => ⟨_, _, ⟨rfl, rfl⟩, ?_⟩)
  refine Sp.step rfl rfl rfl rfl ?_
  refine Sp.step rfl rfl rfl rfl ?_
  refine Sp.step rfl rfl rfl rfl ?_
  refine Sp.step rfl rfl rfl rfl ?_
  refine Sp.step rfl rfl rfl rfl ?_
  refine Sp.call rfl rfl rfl (xrecv (c := 4) (by decide) rfl (by decide +kernel)) s_Memory_setWord (fun x2 => ⟨_, _, ⟨rfl, rfl⟩, ?_⟩)
  exact Sp.vret rfl rfl rfl (fun _ _ h => h)
def f_Engine_doMonitor (x : Int32) (y : Int32) (z : Int32) (X : XS) : Option (Int32 × XS) := (if ¬ x = 0 then ((f_Memory_entriesOf x X).bind fun x2 => (if ¬ y = 49 then ((f_Memory_ownerOf x X).bind fun x4 => (if x4 = z then (if x2 ≤ 1 then ((f_Memory_setMonitor x 0 (x2 - 1) X).bind fun x7 => some (0, x7)) else ((f_Memory_setMonitor x z (x2 - 1) X).bind fun x8 => some (0, x8))) else some (8, X))) else (if x2 < 60000 then ((f_Memory_setMonitor x z (x2 + 1) X).bind fun x10 => some (0, x10)) else some (8, X)))) else some (1, X))
set_option maxRecDepth 100000 in
set_option maxHeartbeats 4000000 in
theorem s_Engine_doMonitor {L : Nat} {xs : Nat → Int32} {X : XS} {M : MS} {x : Int32} {y : Int32} {z : Int32} : Sp (mjOO L xs) 127 0 [some (.ref 40), some (.int x), some (.int y), some (.int z), none] [] (hS X M) (f_Engine_doMonitor x y z X) (KEX M) := by
  unfold f_Engine_doMonitor
  refine Sp.step rfl rfl rfl rfl ?_
  refine Sp.if1 rfl rfl rfl rfl (fun e1 => ?_) (fun e1 => ?_)
  · refine Sp.step rfl rfl rfl rfl ?_
    refine Sp.step rfl rfl rfl (xg_F (c := 0) (f := 3) rfl rfl rfl rfl rfl) ?_
    refine Sp.step rfl rfl rfl rfl ?_
    refine Sp.call rfl rfl rfl (xrecv (c := 4) (by decide) rfl (by decide +kernel)) s_Memory_entriesOf (fun x2 => ⟨_, _, ⟨rfl, rfl⟩, ?_⟩)
    refine Sp.step rfl rfl rfl rfl ?_
    refine Sp.step rfl rfl rfl rfl ?_
    refine Sp.step rfl rfl rfl rfl ?_
    refine Sp.if2 rfl rfl rfl rfl (fun e3 => ?_) (fun e3 => ?_)
    · refine Sp.step rfl rfl rfl rfl ?_
      refine Sp.step rfl rfl rfl (xg_F (c := 0) (f := 3) rfl rfl rfl rfl rfl) ?_
      refine Sp.step rfl rfl rfl rfl ?_
      refine Sp.call rfl rfl rfl (xrecv (c := 4) (by decide) rfl (by decide +kernel)) s_Memory_ownerOf (fun x4 => ⟨_, _, ⟨rfl, rfl⟩, ?_⟩)
      refine Sp.step rfl rfl rfl rfl ?_
      refine Sp.if2 rfl rfl rfl rfl (fun e5 => ?_) (fun e5 => ?_)
      · refine Sp.step rfl rfl rfl rfl ?_
        refine Sp.step rfl rfl rfl (xg_F (c := 0) (f := 3) rfl rfl rfl rfl rfl) ?_
        refine Sp.step rfl rfl rfl rfl ?_
        refine Sp.step rfl rfl rfl rfl ?_
        refine Sp.step rfl rfl rfl rfl ?_
        refine Sp.if2 rfl rfl rfl rfl (fun e6 => ?_) (fun e6 => ?_)
        · refine Sp.step rfl rfl rfl rfl ?_
          refine Sp.step rfl rfl rfl rfl ?_
          refine Sp.step rfl rfl rfl rfl ?_
          refine Sp.step rfl rfl rfl rfl ?_
          refine Sp.call rfl rfl rfl (xrecv (c := 4) (by decide) rfl (by decide +kernel)) s_Memory_setMonitor (fun x7 => ⟨_, _, ⟨rfl, rfl⟩, ?_⟩)
          refine Sp.step rfl rfl rfl rfl ?_
          exact Sp.iret rfl rfl rfl rfl (fun _ _ h => h)
        · refine Sp.step rfl rfl rfl rfl ?_
          refine Sp.step rfl rfl rfl rfl ?_
          refine Sp.step rfl rfl rfl rfl ?_
          refine Sp.step rfl rfl rfl rfl ?_
          refine Sp.step rfl rfl rfl rfl ?_
          refine Sp.call rfl rfl rfl (xrecv (c := 4) (by decide) rfl (by decide +kernel)) s_Memory_setMonitor (fun x8 => ⟨_, _, ⟨rfl, rfl⟩, ?_⟩)
          refine Sp.step rfl rfl rfl rfl ?_
          exact Sp.iret rfl rfl rfl rfl (fun _ _ h => h)
      · refine Sp.step rfl rfl rfl rfl ?_
        exact Sp.iret rfl rfl rfl rfl (fun _ _ h => h)
    · refine Sp.step rfl rfl rfl rfl ?_
      refine Sp.step rfl rfl rfl rfl ?_
      refine Sp.if2 rfl rfl rfl rfl (fun e9 => ?_) (fun e9 => ?_)
      · refine Sp.step rfl rfl rfl rfl ?_
        refine Sp.step rfl rfl rfl (xg_F (c := 0) (f := 3) rfl rfl rfl rfl rfl) ?_
        refine Sp.step rfl rfl rfl rfl ?_
        refine Sp.step rfl rfl rfl rfl ?_
        refine Sp.step rfl rfl rfl rfl ?_
        refine Sp.step rfl rfl rfl rfl ?_
        refine Sp.step rfl rfl rfl rfl ?_
        refine Sp.call rfl rfl rfl (xrecv (c := 4) (by decide) rfl (by decide +kernel)) s_Memory_setMonitor (fun x10 => ⟨_, _, ⟨rfl, rfl⟩, ?_⟩)
        refine Sp.step rfl rfl rfl rfl ?_
        exact Sp.iret rfl rfl rfl rfl (fun _ _ h => h)
      · refine Sp.step rfl rfl rfl rfl ?_
        exact Sp.iret rfl rfl rfl rfl (fun _ _ h => h)
  · refine Sp.step rfl rfl rfl rfl ?_
    exact Sp.iret rfl rfl rfl rfl (fun _ _ h => h)
def f_Engine_doStatic (x : Nat) (y : Int32) (z : Int32) (X : XS) : Option (Int32 × XS) := (if 0 ≤ z ∧ z ≤ 7 then (if y = 52 then (if (xT X x = some (14, 0)) then ((f_Strand_push x (X.1 56 z.toNatClampNeg) X).bind fun x5 => some (0, x5)) else none) else (if y = 53 then (if (xT X x = some (14, 0)) then ((f_Strand_pop x X).bind fun x8 => (lt (xw x8.2 56 z.toNatClampNeg x8.1) fun X9 => some (0, X9))) else none) else (if y = 54 then (if (xT X x = some (14, 0)) then ((f_Strand_pushRef x (X.1 57 z.toNatClampNeg) X).bind fun x12 => some (0, x12)) else none) else (if (xT X x = some (14, 0)) then ((f_Strand_pop x X).bind fun x14 => (lt (xw x14.2 57 z.toNatClampNeg x14.1) fun X15 => some (0, X15))) else none)))) else some (0, X))
set_option maxRecDepth 100000 in
set_option maxHeartbeats 4000000 in
theorem s_Engine_doStatic {L : Nat} {xs : Nat → Int32} {X : XS} {M : MS} {x : Nat} {y : Int32} {z : Int32} : Sp (mjOO L xs) 128 0 [some (.ref 40), some (.ref x), some (.int y), some (.int z)] [] (hS X M) (f_Engine_doStatic x y z X) (KEX M) := by
  unfold f_Engine_doStatic
  refine Sp.step rfl rfl rfl rfl ?_
  refine Sp.step rfl rfl rfl rfl ?_
  refine Sp.step rfl rfl rfl rfl ?_
  refine Sp.callP rfl rfl rfl rfl s_within (fun e1 => ?_) (fun e1 => ?_)
  · refine Sp.step rfl rfl rfl rfl ?_
    refine Sp.step rfl rfl rfl rfl ?_
    refine Sp.ite (fun e3 => ?_) (fun e3 => ?_)
    · refine Sp.step rfl rfl rfl (go_sw (t := 40) (sw_of e3 rfl)) ?_
      refine Sp.step rfl rfl rfl rfl ?_
      refine Sp.step rfl rfl rfl rfl ?_
      refine Sp.step rfl rfl rfl (xg_F (c := 0) (f := 7) rfl rfl rfl rfl rfl) ?_
      refine Sp.step rfl rfl rfl rfl ?_
      refine Sp.step rfl rfl rfl (xld rfl (by decide) (ix_le (N := 7) rfl e1.1 e1.2)) ?_
      refine Sp.guard (fun e4 => ?_)
      refine Sp.call rfl rfl rfl (xrecv (c := 9) (by decide) e4 (by decide +kernel)) s_Strand_push (fun x5 => ⟨_, _, ⟨rfl, rfl⟩, ?_⟩)
      refine Sp.step rfl rfl rfl rfl ?_
      refine Sp.step rfl rfl rfl rfl ?_
      exact Sp.iret rfl rfl rfl rfl (fun _ _ h => h)
    · refine Sp.ite (fun e6 => ?_) (fun e6 => ?_)
      · refine Sp.step rfl rfl rfl (go_sw (t := 53) (sw_of e6 rfl)) ?_
        refine Sp.step rfl rfl rfl rfl ?_
        refine Sp.step rfl rfl rfl (xg_F (c := 0) (f := 7) rfl rfl rfl rfl rfl) ?_
        refine Sp.step rfl rfl rfl rfl ?_
        refine Sp.step rfl rfl rfl rfl ?_
        refine Sp.guard (fun e7 => ?_)
        refine Sp.call rfl rfl rfl (xrecv (c := 9) (by decide) e7 (by decide +kernel)) s_Strand_pop (fun x8 => ⟨_, _, ⟨rfl, rfl⟩, ?_⟩)
        refine Sp.step rfl rfl rfl (xst rfl (by decide) (ix_le (N := 7) rfl e1.1 e1.2)) ?_
        refine Sp.step rfl rfl rfl rfl ?_
        refine Sp.step rfl rfl rfl rfl ?_
        exact Sp.iret rfl rfl rfl rfl (fun _ _ h => h)
      · refine Sp.ite (fun e10 => ?_) (fun e10 => ?_)
        · refine Sp.step rfl rfl rfl (go_sw (t := 66) (sw_of e10 rfl)) ?_
          refine Sp.step rfl rfl rfl rfl ?_
          refine Sp.step rfl rfl rfl rfl ?_
          refine Sp.step rfl rfl rfl (xg_F (c := 0) (f := 8) rfl rfl rfl rfl rfl) ?_
          refine Sp.step rfl rfl rfl rfl ?_
          refine Sp.step rfl rfl rfl (xld rfl (by decide) (ix_le (N := 7) rfl e1.1 e1.2)) ?_
          refine Sp.guard (fun e11 => ?_)
          refine Sp.call rfl rfl rfl (xrecv (c := 9) (by decide) e11 (by decide +kernel)) s_Strand_pushRef (fun x12 => ⟨_, _, ⟨rfl, rfl⟩, ?_⟩)
          refine Sp.step rfl rfl rfl rfl ?_
          refine Sp.step rfl rfl rfl rfl ?_
          exact Sp.iret rfl rfl rfl rfl (fun _ _ h => h)
        · refine Sp.step rfl rfl rfl (go_sw (t := 79) (mjSw_out _ (by
            intro q hq
            simp only [List.mem_cons, List.not_mem_nil, or_false] at hq
            rcases hq with rfl | rfl | rfl
            · exact e3
            · exact e6
            · exact e10))) ?_
          refine Sp.step rfl rfl rfl rfl ?_
          refine Sp.step rfl rfl rfl (xg_F (c := 0) (f := 8) rfl rfl rfl rfl rfl) ?_
          refine Sp.step rfl rfl rfl rfl ?_
          refine Sp.step rfl rfl rfl rfl ?_
          refine Sp.guard (fun e13 => ?_)
          refine Sp.call rfl rfl rfl (xrecv (c := 9) (by decide) e13 (by decide +kernel)) s_Strand_pop (fun x14 => ⟨_, _, ⟨rfl, rfl⟩, ?_⟩)
          refine Sp.step rfl rfl rfl (xst rfl (by decide) (ix_le (N := 7) rfl e1.1 e1.2)) ?_
          refine Sp.step rfl rfl rfl rfl ?_
          exact Sp.iret rfl rfl rfl rfl (fun _ _ h => h)
  · refine Sp.step rfl rfl rfl rfl ?_
    refine Sp.step rfl rfl rfl rfl ?_
    exact Sp.iret rfl rfl rfl rfl (fun _ _ h => h)
def f_Strand_slotOfLocal (x : Nat) (y : Int32) (X : XS) : Option Int32 := (if (xT X x = some (14, 0)) then (if y < 0 then some (-1) else (if 12 ≤ y then some (-1) else (if ((X.1 x 7) - 12) + y < 0 then some (-1) else (if 440 ≤ ((X.1 x 7) - 12) + y then some (-1) else some (((X.1 x 7) - 12) + y))))) else none)
set_option maxRecDepth 100000 in
set_option maxHeartbeats 4000000 in
theorem s_Strand_slotOfLocal {L : Nat} {xs : Nat → Int32} {X : XS} {M : MS} {x : Nat} {y : Int32} : Sp (mjOO L xs) 289 0 [some (.ref x), some (.int y), none] [] (hS X M) (f_Strand_slotOfLocal x y X) (KQ (hS X M)) := by
  unfold f_Strand_slotOfLocal
  refine Sp.step rfl rfl rfl rfl ?_
  refine Sp.guard (fun e1 => ?_)
  refine Sp.step rfl rfl rfl (xg_I (c := 9) (f := 7) rfl rfl e1 rfl) ?_
  refine Sp.step rfl rfl rfl rfl ?_
  refine Sp.step rfl rfl rfl rfl ?_
  refine Sp.step rfl rfl rfl rfl ?_
  refine Sp.step rfl rfl rfl rfl ?_
  refine Sp.step rfl rfl rfl rfl ?_
  refine Sp.step rfl rfl rfl rfl ?_
  refine Sp.if1 rfl rfl rfl rfl (fun e2 => ?_) (fun e2 => ?_)
  · refine Sp.step rfl rfl rfl rfl ?_
    exact Sp.iret rfl rfl rfl rfl (fun _ _ h => h)
  · refine Sp.step rfl rfl rfl rfl ?_
    refine Sp.step rfl rfl rfl rfl ?_
    refine Sp.if2 rfl rfl rfl rfl (fun e3 => ?_) (fun e3 => ?_)
    · refine Sp.step rfl rfl rfl rfl ?_
      exact Sp.iret rfl rfl rfl rfl (fun _ _ h => h)
    · refine Sp.step rfl rfl rfl rfl ?_
      refine Sp.if1 rfl rfl rfl rfl (fun e4 => ?_) (fun e4 => ?_)
      · refine Sp.step rfl rfl rfl rfl ?_
        exact Sp.iret rfl rfl rfl rfl (fun _ _ h => h)
      · refine Sp.step rfl rfl rfl rfl ?_
        refine Sp.step rfl rfl rfl rfl ?_
        refine Sp.if2 rfl rfl rfl rfl (fun e5 => ?_) (fun e5 => ?_)
        · refine Sp.step rfl rfl rfl rfl ?_
          exact Sp.iret rfl rfl rfl rfl (fun _ _ h => h)
        · refine Sp.step rfl rfl rfl rfl ?_
          refine Sp.step rfl rfl rfl rfl ?_
          exact Sp.iret rfl rfl rfl rfl (fun _ _ h => h)
def f_Strand_load (x : Nat) (y : Int32) (X : XS) : Option XS := (if (xT X x = some (14, 0)) then ((f_Strand_slotOfLocal x y X).bind fun x2 => (if x2 < 0 then some X else (ocz (X.2.1 x 5) none (fun a4 => (ocz (xL X 0 a4) none (fun n6 => (if ixo x2 n6 then (ocz (X.2.1 x 6) none (fun a9 => (ocz (xL X 0 a9) none (fun n11 => (if ixo x2 n11 then ((f_Strand_pushMarked x (X.1 a4 x2.toNatClampNeg) (X.1 a9 x2.toNatClampNeg) X).bind fun x14 => some x14) else none))))) else none))))))) else none)
set_option maxRecDepth 100000 in
set_option maxHeartbeats 4000000 in
theorem s_Strand_load {L : Nat} {xs : Nat → Int32} {X : XS} {M : MS} {x : Nat} {y : Int32} : Sp (mjOO L xs) 295 0 [some (.ref x), some (.int y), none] [] (hS X M) (f_Strand_load x y X) (KVX M) := by
  unfold f_Strand_load
  refine Sp.step rfl rfl rfl rfl ?_
  refine Sp.step rfl rfl rfl rfl ?_
  refine Sp.guard (fun e1 => ?_)
  refine Sp.call rfl rfl rfl (xrecv (c := 9) (by decide) e1 (by decide +kernel)) s_Strand_slotOfLocal (fun x2 => ⟨_, _, ⟨rfl, rfl⟩, ?_⟩)
  refine Sp.step rfl rfl rfl rfl ?_
  refine Sp.step rfl rfl rfl rfl ?_
  refine Sp.if1 rfl rfl rfl rfl (fun e3 => ?_) (fun e3 => ?_)
  · exact Sp.vret rfl rfl rfl (fun _ _ h => h)
  · refine Sp.step rfl rfl rfl rfl ?_
    refine Sp.step rfl rfl rfl rfl ?_
    refine Sp.step rfl rfl rfl (xg_D (c := 9) (f := 5) rfl rfl e1 rfl (fxP_big (dyn_of (c := 9) e1 rfl))) ?_
    refine Sp.ocrn (fun a4 e5 => ?_)
    refine Sp.step rfl rfl rfl rfl ?_
    refine Sp.ocn (fun n6 e7 => ?_)
    refine Sp.guard (fun e8 => ?_)
    refine Sp.step rfl rfl rfl (xld (xL_ok e7) (by decide) e8) ?_
    refine Sp.step rfl rfl rfl rfl ?_
    refine Sp.step rfl rfl rfl (xg_D (c := 9) (f := 6) rfl rfl e1 rfl (fxP_big (dyn_of (c := 9) e1 rfl))) ?_
    refine Sp.ocrn (fun a9 e10 => ?_)
    refine Sp.step rfl rfl rfl rfl ?_
    refine Sp.ocn (fun n11 e12 => ?_)
    refine Sp.guard (fun e13 => ?_)
    refine Sp.step rfl rfl rfl (xld (xL_ok e12) (by decide) e13) ?_
    refine Sp.call rfl rfl rfl (xrecv (c := 9) (by decide) e1 (by decide +kernel)) s_Strand_pushMarked (fun x14 => ⟨_, _, ⟨rfl, rfl⟩, ?_⟩)
    exact Sp.vret rfl rfl rfl (fun _ _ h => h)
def f_Strand_store (x : Nat) (y : Int32) (X : XS) : Option XS := (if (xT X x = some (14, 0)) then ((f_Strand_slotUnder x 0 X).bind fun x2 => ((f_Strand_slotOfLocal x y X).bind fun x3 => (if x2 < 0 then some X else (if x3 < 0 then some X else (ocz (X.2.1 x 6) none (fun a6 => (ocz (X.2.1 x 6) none (fun a8 => (ocz (xL X 0 a8) none (fun n10 => (if ixo x2 n10 then (ocz (xL X 0 a6) none (fun n13 => (if ixo x3 n13 then (lt (xw X a6 x3.toNatClampNeg (X.1 a8 x2.toNatClampNeg)) fun X16 => (ocz (X16.2.1 x 5) none (fun a17 => ((f_Strand_pop x X16).bind fun x19 => (ocz (xL x19.2 0 a17) none (fun n20 => (if ixo x3 n20 then (lt (xw x19.2 a17 x3.toNatClampNeg x19.1) fun X23 => some X23) else none))))))) else none))) else none))))))))))) else none)
set_option maxRecDepth 100000 in
set_option maxHeartbeats 4000000 in
theorem s_Strand_store {L : Nat} {xs : Nat → Int32} {X : XS} {M : MS} {x : Nat} {y : Int32} : Sp (mjOO L xs) 296 0 [some (.ref x), some (.int y), none, none] [] (hS X M) (f_Strand_store x y X) (KVX M) := by
  unfold f_Strand_store
  refine Sp.step rfl rfl rfl rfl ?_
  refine Sp.step rfl rfl rfl rfl ?_
  refine Sp.guard (fun e1 => ?_)
  refine Sp.call rfl rfl rfl (xrecv (c := 9) (by decide) e1 (by decide +kernel)) s_Strand_slotUnder (fun x2 => ⟨_, _, ⟨rfl, rfl⟩, ?_⟩)
  refine Sp.step rfl rfl rfl rfl ?_
  refine Sp.step rfl rfl rfl rfl ?_
  refine Sp.step rfl rfl rfl rfl ?_
  refine Sp.call rfl rfl rfl (xrecv (c := 9) (by decide) e1 (by decide +kernel)) s_Strand_slotOfLocal (fun x3 => ⟨_, _, ⟨rfl, rfl⟩, ?_⟩)
  refine Sp.step rfl rfl rfl rfl ?_
  refine Sp.step rfl rfl rfl rfl ?_
  refine Sp.if1 rfl rfl rfl rfl (fun e4 => ?_) (fun e4 => ?_)
  · exact Sp.vret rfl rfl rfl (fun _ _ h => h)
  · refine Sp.step rfl rfl rfl rfl ?_
    refine Sp.if1 rfl rfl rfl rfl (fun e5 => ?_) (fun e5 => ?_)
    · exact Sp.vret rfl rfl rfl (fun _ _ h => h)
    · refine Sp.step rfl rfl rfl rfl ?_
      refine Sp.step rfl rfl rfl (xg_D (c := 9) (f := 6) rfl rfl e1 rfl (fxP_big (dyn_of (c := 9) e1 rfl))) ?_
      refine Sp.ocrn (fun a6 e7 => ?_)
      refine Sp.step rfl rfl rfl rfl ?_
      refine Sp.step rfl rfl rfl rfl ?_
      refine Sp.step rfl rfl rfl (xg_D (c := 9) (f := 6) rfl rfl e1 rfl (fxP_big (dyn_of (c := 9) e1 rfl))) ?_
      refine Sp.ocrn (fun a8 e9 => ?_)
      refine Sp.step rfl rfl rfl rfl ?_
      refine Sp.ocn (fun n10 e11 => ?_)
      refine Sp.guard (fun e12 => ?_)
      refine Sp.step rfl rfl rfl (xld (xL_ok e11) (by decide) e12) ?_
      refine Sp.ocn (fun n13 e14 => ?_)
      refine Sp.guard (fun e15 => ?_)
      refine Sp.step rfl rfl rfl (xst (xL_ok e14) (by decide) e15) ?_
      refine Sp.step rfl rfl rfl rfl ?_
      refine Sp.step rfl rfl rfl (xg_D (c := 9) (f := 5) rfl rfl e1 rfl (fxP_big (dyn_of (c := 9) e1 rfl))) ?_
      refine Sp.ocrn (fun a17 e18 => ?_)
      refine Sp.step rfl rfl rfl rfl ?_
      refine Sp.step rfl rfl rfl rfl ?_
      refine Sp.call rfl rfl rfl (xrecv (c := 9) (by decide) e1 (by decide +kernel)) s_Strand_pop (fun x19 => ⟨_, _, ⟨rfl, rfl⟩, ?_⟩)
      refine Sp.ocn (fun n20 e21 => ?_)
      refine Sp.guard (fun e22 => ?_)
      refine Sp.step rfl rfl rfl (xst (xL_ok e21) (by decide) e22) ?_
      exact Sp.vret rfl rfl rfl (fun _ _ h => h)
def f_Strand_copyTop (x : Nat) (X : XS) : Option XS := (if (xT X x = some (14, 0)) then ((f_Strand_slotUnder x 0 X).bind fun x2 => (if x2 < 0 then some X else (ocz (X.2.1 x 5) none (fun a4 => (ocz (xL X 0 a4) none (fun n6 => (if ixo x2 n6 then (ocz (X.2.1 x 6) none (fun a9 => (ocz (xL X 0 a9) none (fun n11 => (if ixo x2 n11 then ((f_Strand_pushMarked x (X.1 a4 x2.toNatClampNeg) (X.1 a9 x2.toNatClampNeg) X).bind fun x14 => some x14) else none))))) else none))))))) else none)
set_option maxRecDepth 100000 in
set_option maxHeartbeats 4000000 in
theorem s_Strand_copyTop {L : Nat} {xs : Nat → Int32} {X : XS} {M : MS} {x : Nat} : Sp (mjOO L xs) 297 0 [some (.ref x), none] [] (hS X M) (f_Strand_copyTop x X) (KVX M) := by
  unfold f_Strand_copyTop
  refine Sp.step rfl rfl rfl rfl ?_
  refine Sp.step rfl rfl rfl rfl ?_
  refine Sp.guard (fun e1 => ?_)
  refine Sp.call rfl rfl rfl (xrecv (c := 9) (by decide) e1 (by decide +kernel)) s_Strand_slotUnder (fun x2 => ⟨_, _, ⟨rfl, rfl⟩, ?_⟩)
  refine Sp.step rfl rfl rfl rfl ?_
  refine Sp.step rfl rfl rfl rfl ?_
  refine Sp.if1 rfl rfl rfl rfl (fun e3 => ?_) (fun e3 => ?_)
  · exact Sp.vret rfl rfl rfl (fun _ _ h => h)
  · refine Sp.step rfl rfl rfl rfl ?_
    refine Sp.step rfl rfl rfl rfl ?_
    refine Sp.step rfl rfl rfl (xg_D (c := 9) (f := 5) rfl rfl e1 rfl (fxP_big (dyn_of (c := 9) e1 rfl))) ?_
    refine Sp.ocrn (fun a4 e5 => ?_)
    refine Sp.step rfl rfl rfl rfl ?_
    refine Sp.ocn (fun n6 e7 => ?_)
    refine Sp.guard (fun e8 => ?_)
    refine Sp.step rfl rfl rfl (xld (xL_ok e7) (by decide) e8) ?_
    refine Sp.step rfl rfl rfl rfl ?_
    refine Sp.step rfl rfl rfl (xg_D (c := 9) (f := 6) rfl rfl e1 rfl (fxP_big (dyn_of (c := 9) e1 rfl))) ?_
    refine Sp.ocrn (fun a9 e10 => ?_)
    refine Sp.step rfl rfl rfl rfl ?_
    refine Sp.ocn (fun n11 e12 => ?_)
    refine Sp.guard (fun e13 => ?_)
    refine Sp.step rfl rfl rfl (xld (xL_ok e12) (by decide) e13) ?_
    refine Sp.call rfl rfl rfl (xrecv (c := 9) (by decide) e1 (by decide +kernel)) s_Strand_pushMarked (fun x14 => ⟨_, _, ⟨rfl, rfl⟩, ?_⟩)
    exact Sp.vret rfl rfl rfl (fun _ _ h => h)
def f_Strand_swap (x : Nat) (X : XS) : Option XS := (if (xT X x = some (14, 0)) then ((f_Strand_slotUnder x 0 X).bind fun x2 => ((f_Strand_slotUnder x 1 X).bind fun x3 => (if x2 < 0 then some X else (if 0 ≤ x3 then (ocz (X.2.1 x 5) none (fun a6 => (ocz (xL X 0 a6) none (fun n8 => (if ixo x2 n8 then (ocz (X.2.1 x 6) none (fun a11 => (ocz (xL X 0 a11) none (fun n13 => (if ixo x2 n13 then (ocz (X.2.1 x 5) none (fun a16 => (ocz (X.2.1 x 5) none (fun a18 => (ocz (xL X 0 a18) none (fun n20 => (if ixo x3 n20 then (ocz (xL X 0 a16) none (fun n23 => (if ixo x2 n23 then (lt (xw X a16 x2.toNatClampNeg (X.1 a18 x3.toNatClampNeg)) fun X26 => (ocz (X26.2.1 x 6) none (fun a27 => (ocz (X26.2.1 x 6) none (fun a29 => (ocz (xL X26 0 a29) none (fun n31 => (if ixo x3 n31 then (ocz (xL X26 0 a27) none (fun n34 => (if ixo x2 n34 then (lt (xw X26 a27 x2.toNatClampNeg (X26.1 a29 x3.toNatClampNeg)) fun X37 => (ocz (X37.2.1 x 5) none (fun a38 => (ocz (xL X37 0 a38) none (fun n40 => (if ixo x3 n40 then (lt (xw X37 a38 x3.toNatClampNeg (X.1 a6 x2.toNatClampNeg)) fun X43 => (ocz (X43.2.1 x 6) none (fun a44 => (ocz (xL X43 0 a44) none (fun n46 => (if ixo x3 n46 then (lt (xw X43 a44 x3.toNatClampNeg (X.1 a11 x2.toNatClampNeg)) fun X49 => some X49) else none)))))) else none)))))) else none))) else none)))))))) else none))) else none))))))) else none))))) else none))))) else some X)))) else none)
set_option maxRecDepth 100000 in
set_option maxHeartbeats 4000000 in
theorem s_Strand_swap {L : Nat} {xs : Nat → Int32} {X : XS} {M : MS} {x : Nat} : Sp (mjOO L xs) 298 0 [some (.ref x), none, none, none, none] [] (hS X M) (f_Strand_swap x X) (KVX M) := by
  unfold f_Strand_swap
  refine Sp.step rfl rfl rfl rfl ?_
  refine Sp.step rfl rfl rfl rfl ?_
  refine Sp.guard (fun e1 => ?_)
  refine Sp.call rfl rfl rfl (xrecv (c := 9) (by decide) e1 (by decide +kernel)) s_Strand_slotUnder (fun x2 => ⟨_, _, ⟨rfl, rfl⟩, ?_⟩)
  refine Sp.step rfl rfl rfl rfl ?_
  refine Sp.step rfl rfl rfl rfl ?_
  refine Sp.step rfl rfl rfl rfl ?_
  refine Sp.call rfl rfl rfl (xrecv (c := 9) (by decide) e1 (by decide +kernel)) s_Strand_slotUnder (fun x3 => ⟨_, _, ⟨rfl, rfl⟩, ?_⟩)
  refine Sp.step rfl rfl rfl rfl ?_
  refine Sp.step rfl rfl rfl rfl ?_
  refine Sp.if1 rfl rfl rfl rfl (fun e4 => ?_) (fun e4 => ?_)
  · exact Sp.vret rfl rfl rfl (fun _ _ h => h)
  · refine Sp.step rfl rfl rfl rfl ?_
    refine Sp.if1 rfl rfl rfl rfl (fun e5 => ?_) (fun e5 => ?_)
    · refine Sp.step rfl rfl rfl rfl ?_
      refine Sp.step rfl rfl rfl (xg_D (c := 9) (f := 5) rfl rfl e1 rfl (fxP_big (dyn_of (c := 9) e1 rfl))) ?_
      refine Sp.ocrn (fun a6 e7 => ?_)
      refine Sp.step rfl rfl rfl rfl ?_
      refine Sp.ocn (fun n8 e9 => ?_)
      refine Sp.guard (fun e10 => ?_)
      refine Sp.step rfl rfl rfl (xld (xL_ok e9) (by decide) e10) ?_
      refine Sp.step rfl rfl rfl rfl ?_
      refine Sp.step rfl rfl rfl rfl ?_
      refine Sp.step rfl rfl rfl (xg_D (c := 9) (f := 6) rfl rfl e1 rfl (fxP_big (dyn_of (c := 9) e1 rfl))) ?_
      refine Sp.ocrn (fun a11 e12 => ?_)
      refine Sp.step rfl rfl rfl rfl ?_
      refine Sp.ocn (fun n13 e14 => ?_)
      refine Sp.guard (fun e15 => ?_)
      refine Sp.step rfl rfl rfl (xld (xL_ok e14) (by decide) e15) ?_
      refine Sp.step rfl rfl rfl rfl ?_
      refine Sp.step rfl rfl rfl rfl ?_
      refine Sp.step rfl rfl rfl (xg_D (c := 9) (f := 5) rfl rfl e1 rfl (fxP_big (dyn_of (c := 9) e1 rfl))) ?_
      refine Sp.ocrn (fun a16 e17 => ?_)
      refine Sp.step rfl rfl rfl rfl ?_
      refine Sp.step rfl rfl rfl rfl ?_
      refine Sp.step rfl rfl rfl (xg_D (c := 9) (f := 5) rfl rfl e1 rfl (fxP_big (dyn_of (c := 9) e1 rfl))) ?_
      refine Sp.ocrn (fun a18 e19 => ?_)
      refine Sp.step rfl rfl rfl rfl ?_
      refine Sp.ocn (fun n20 e21 => ?_)
      refine Sp.guard (fun e22 => ?_)
      refine Sp.step rfl rfl rfl (xld (xL_ok e21) (by decide) e22) ?_
      refine Sp.ocn (fun n23 e24 => ?_)
      refine Sp.guard (fun e25 => ?_)
      refine Sp.step rfl rfl rfl (xst (xL_ok e24) (by decide) e25) ?_
      refine Sp.step rfl rfl rfl rfl ?_
      refine Sp.step rfl rfl rfl (xg_D (c := 9) (f := 6) rfl rfl e1 rfl (fxP_big (dyn_of (c := 9) e1 rfl))) ?_
      refine Sp.ocrn (fun a27 e28 => ?_)
      refine Sp.step rfl rfl rfl rfl ?_
      refine Sp.step rfl rfl rfl rfl ?_
      refine Sp.step rfl rfl rfl (xg_D (c := 9) (f := 6) rfl rfl e1 rfl (fxP_big (dyn_of (c := 9) e1 rfl))) ?_
      refine Sp.ocrn (fun a29 e30 => ?_)
      refine Sp.step rfl rfl rfl rfl ?_
      refine Sp.ocn (fun n31 e32 => ?_)
      refine Sp.guard (fun e33 => ?_)
      refine Sp.step rfl rfl rfl (xld (xL_ok e32) (by decide) e33) ?_
      refine Sp.ocn (fun n34 e35 => ?_)
      refine Sp.guard (fun e36 => ?_)
      refine Sp.step rfl rfl rfl (xst (xL_ok e35) (by decide) e36) ?_
      refine Sp.step rfl rfl rfl rfl ?_
      refine Sp.step rfl rfl rfl (xg_D (c := 9) (f := 5) rfl rfl e1 rfl (fxP_big (dyn_of (c := 9) e1 rfl))) ?_
      refine Sp.ocrn (fun a38 e39 => ?_)
      refine Sp.step rfl rfl rfl rfl ?_
      refine Sp.step rfl rfl rfl rfl ?_
      refine Sp.ocn (fun n40 e41 => ?_)
      refine Sp.guard (fun e42 => ?_)
      refine Sp.step rfl rfl rfl (xst (xL_ok e41) (by decide) e42) ?_
      refine Sp.step rfl rfl rfl rfl ?_
      refine Sp.step rfl rfl rfl (xg_D (c := 9) (f := 6) rfl rfl e1 rfl (fxP_big (dyn_of (c := 9) e1 rfl))) ?_
      refine Sp.ocrn (fun a44 e45 => ?_)
      refine Sp.step rfl rfl rfl rfl ?_
      refine Sp.step rfl rfl rfl rfl ?_
      refine Sp.ocn (fun n46 e47 => ?_)
      refine Sp.guard (fun e48 => ?_)
      refine Sp.step rfl rfl rfl (xst (xL_ok e47) (by decide) e48) ?_
      exact Sp.vret rfl rfl rfl (fun _ _ h => h)
    · exact Sp.vret rfl rfl rfl (fun _ _ h => h)
def f_Ports_send (x : Int32) (X : XS) : Option XS := (if 0 ≤ X.1 47 1 ∧ X.1 47 1 ≤ 299 then (lt (xw X 49 (X.1 47 1).toNatClampNeg x) fun X3 => (lt (xw X3 47 1 ((X3.1 47 1) + 1)) fun X4 => some X4)) else (lt (xw X 47 1 ((X.1 47 1) + 1)) fun X6 => some X6))
set_option maxRecDepth 100000 in
set_option maxHeartbeats 4000000 in
theorem s_Ports_send {L : Nat} {xs : Nat → Int32} {X : XS} {M : MS} {x : Int32} : Sp (mjOO L xs) 238 0 [some (.ref 47), some (.int x)] [] (hS X M) (f_Ports_send x X) (KVX M) := by
  unfold f_Ports_send
  refine Sp.step rfl rfl rfl rfl ?_
  refine Sp.step rfl rfl rfl (xg_I (c := 5) (f := 1) rfl rfl rfl rfl) ?_
  refine Sp.step rfl rfl rfl rfl ?_
  refine Sp.step rfl rfl rfl rfl ?_
  refine Sp.callP rfl rfl rfl rfl s_within (fun e1 => ?_) (fun e1 => ?_)
  · refine Sp.step rfl rfl rfl rfl ?_
    refine Sp.step rfl rfl rfl rfl ?_
    refine Sp.step rfl rfl rfl (xg_F (c := 5) (f := 4) rfl rfl rfl rfl rfl) ?_
    refine Sp.step rfl rfl rfl rfl ?_
    refine Sp.step rfl rfl rfl (xg_I (c := 5) (f := 1) rfl rfl rfl rfl) ?_
    refine Sp.step rfl rfl rfl rfl ?_
    refine Sp.step rfl rfl rfl (xst rfl (by decide) (ix_le (N := 299) rfl e1.1 e1.2)) ?_
    refine Sp.step rfl rfl rfl rfl ?_
    refine Sp.step rfl rfl rfl rfl ?_
    refine Sp.step rfl rfl rfl (xg_I (c := 5) (f := 1) rfl rfl rfl rfl) ?_
    refine Sp.step rfl rfl rfl rfl ?_
    refine Sp.step rfl rfl rfl rfl ?_
    refine Sp.step rfl rfl rfl (xp_I (c := 5) (f := 1) rfl rfl rfl rfl rfl) ?_
    exact Sp.vret rfl rfl rfl (fun _ _ h => h)
  · refine Sp.step rfl rfl rfl rfl ?_
    refine Sp.step rfl rfl rfl rfl ?_
    refine Sp.step rfl rfl rfl rfl ?_
    refine Sp.step rfl rfl rfl (xg_I (c := 5) (f := 1) rfl rfl rfl rfl) ?_
    refine Sp.step rfl rfl rfl rfl ?_
    refine Sp.step rfl rfl rfl rfl ?_
    refine Sp.step rfl rfl rfl (xp_I (c := 5) (f := 1) rfl rfl rfl rfl rfl) ?_
    exact Sp.vret rfl rfl rfl (fun _ _ h => h)
def f_Ports_receive (X : XS) : Option (Int32 × XS) := (if X.1 47 0 ≤ 0 then some (0, X) else (if 0 ≤ X.1 47 2 ∧ X.1 47 2 ≤ 99 then (if 100 ≤ (X.1 47 2) + 1 then (lt (xw X 47 2 0) fun X5 => (lt (xw X5 47 0 ((X5.1 47 0) - 1)) fun X6 => some (X.1 48 (X.1 47 2).toNatClampNeg, X6))) else (lt (xw X 47 2 ((X.1 47 2) + 1)) fun X7 => (lt (xw X7 47 0 ((X7.1 47 0) - 1)) fun X8 => some (X.1 48 (X.1 47 2).toNatClampNeg, X8)))) else some (0, X)))
set_option maxRecDepth 100000 in
set_option maxHeartbeats 4000000 in
theorem s_Ports_receive {L : Nat} {xs : Nat → Int32} {X : XS} {M : MS} : Sp (mjOO L xs) 237 0 [some (.ref 47), none] [] (hS X M) (f_Ports_receive X) (KEX M) := by
  unfold f_Ports_receive
  refine Sp.step rfl rfl rfl rfl ?_
  refine Sp.step rfl rfl rfl (xg_I (c := 5) (f := 0) rfl rfl rfl rfl) ?_
  refine Sp.if1 rfl rfl rfl rfl (fun e1 => ?_) (fun e1 => ?_)
  · refine Sp.step rfl rfl rfl rfl ?_
    exact Sp.iret rfl rfl rfl rfl (fun _ _ h => h)
  · refine Sp.step rfl rfl rfl rfl ?_
    refine Sp.step rfl rfl rfl (xg_I (c := 5) (f := 2) rfl rfl rfl rfl) ?_
    refine Sp.step rfl rfl rfl rfl ?_
    refine Sp.step rfl rfl rfl rfl ?_
    refine Sp.callP rfl rfl rfl rfl s_within (fun e2 => ?_) (fun e2 => ?_)
    · refine Sp.step rfl rfl rfl rfl ?_
      refine Sp.step rfl rfl rfl rfl ?_
      refine Sp.step rfl rfl rfl (xg_F (c := 5) (f := 3) rfl rfl rfl rfl rfl) ?_
      refine Sp.step rfl rfl rfl rfl ?_
      refine Sp.step rfl rfl rfl (xg_I (c := 5) (f := 2) rfl rfl rfl rfl) ?_
      refine Sp.step rfl rfl rfl (xld rfl (by decide) (ix_le (N := 99) rfl e2.1 e2.2)) ?_
      refine Sp.step rfl rfl rfl rfl ?_
      refine Sp.step rfl rfl rfl rfl ?_
      refine Sp.step rfl rfl rfl rfl ?_
      refine Sp.step rfl rfl rfl (xg_I (c := 5) (f := 2) rfl rfl rfl rfl) ?_
      refine Sp.step rfl rfl rfl rfl ?_
      refine Sp.step rfl rfl rfl rfl ?_
      refine Sp.step rfl rfl rfl rfl ?_
      refine Sp.if2 rfl rfl rfl rfl (fun e4 => ?_) (fun e4 => ?_)
      · refine Sp.step rfl rfl rfl rfl ?_
        refine Sp.step rfl rfl rfl (xp_I (c := 5) (f := 2) rfl rfl rfl rfl rfl) ?_
        refine Sp.step rfl rfl rfl rfl ?_
        refine Sp.step rfl rfl rfl rfl ?_
        refine Sp.step rfl rfl rfl (xg_I (c := 5) (f := 0) rfl rfl rfl rfl) ?_
        refine Sp.step rfl rfl rfl rfl ?_
        refine Sp.step rfl rfl rfl rfl ?_
        refine Sp.step rfl rfl rfl (xp_I (c := 5) (f := 0) rfl rfl rfl rfl rfl) ?_
        refine Sp.step rfl rfl rfl rfl ?_
        exact Sp.iret rfl rfl rfl rfl (fun _ _ h => h)
      · refine Sp.step rfl rfl rfl rfl ?_
        refine Sp.step rfl rfl rfl (xg_I (c := 5) (f := 2) rfl rfl rfl rfl) ?_
        refine Sp.step rfl rfl rfl rfl ?_
        refine Sp.step rfl rfl rfl rfl ?_
        refine Sp.step rfl rfl rfl rfl ?_
        refine Sp.step rfl rfl rfl (xp_I (c := 5) (f := 2) rfl rfl rfl rfl rfl) ?_
        refine Sp.step rfl rfl rfl rfl ?_
        refine Sp.step rfl rfl rfl rfl ?_
        refine Sp.step rfl rfl rfl (xg_I (c := 5) (f := 0) rfl rfl rfl rfl) ?_
        refine Sp.step rfl rfl rfl rfl ?_
        refine Sp.step rfl rfl rfl rfl ?_
        refine Sp.step rfl rfl rfl (xp_I (c := 5) (f := 0) rfl rfl rfl rfl rfl) ?_
        refine Sp.step rfl rfl rfl rfl ?_
        exact Sp.iret rfl rfl rfl rfl (fun _ _ h => h)
    · refine Sp.step rfl rfl rfl rfl ?_
      refine Sp.step rfl rfl rfl rfl ?_
      exact Sp.iret rfl rfl rfl rfl (fun _ _ h => h)
