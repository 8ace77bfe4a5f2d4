/-! methods as functions, by program -/
def f_Engine_doPlain (x : Nat) (y : Int32) (z : Int32) (X : XS) : Option (Int32 × XS) := ((f_Image_at_51 z X).bind fun x1 => (if y = 1 then (if (xT X x = some (14, 0)) then ((f_Strand_push x ((x1 : Int32).toInt8.toInt32) X).bind fun x4 => some (0, x4)) else none) else (if y = 2 then (if (xT X x = some (14, 0)) then ((f_Strand_load x x1 X).bind fun x7 => some (0, x7)) else none) else (if y = 3 then (if (xT X x = some (14, 0)) then ((f_Strand_store x x1 X).bind fun x10 => some (0, x10)) else none) else (if y = 16 then (if (xT X x = some (14, 0)) then ((f_Strand_copyTop x X).bind fun x13 => some (0, x13)) else none) else (if y = 17 then (if (xT X x = some (14, 0)) then ((f_Strand_pop x X).bind fun x16 => some (0, x16.2)) else none) else (if y = 18 then (if (xT X x = some (14, 0)) then ((f_Strand_swap x X).bind fun x19 => some (0, x19)) else none) else (if y = 44 then (if (xT X x = some (14, 0)) then ((f_Strand_pop x X).bind fun x22 => ((f_Engine_isOf x22.1 x1 x22.2).bind fun x23 => (if x23 = true then (if (xT x22.2 x = some (14, 0)) then ((f_Strand_push x 1 x22.2).bind fun x27 => some (0, x27)) else none) else (if (xT x22.2 x = some (14, 0)) then ((f_Strand_push x 0 x22.2).bind fun x30 => some (0, x30)) else none)))) else none) else (if y = 45 then (if (xT X x = some (14, 0)) then ((f_Strand_pushRef x 0 X).bind fun x33 => some (0, x33)) else none) else (if y = 46 then (if (xT X x = some (14, 0)) then ((f_Strand_pop x X).bind fun x36 => ((f_Ports_send x36.1 x36.2).bind fun x37 => some (0, x37))) else none) else (if y = 47 then ((f_Ports_receive X).bind fun x39 => (if (xT x39.2 x = some (14, 0)) then ((f_Strand_push x x39.1 x39.2).bind fun x41 => some (0, x41)) else none)) else (if y = 61 then ((f_Image_two_51 z X).bind fun x43 => (if (xT X x = some (14, 0)) then ((f_Strand_push x ((x43 : Int32).toInt16.toInt32) X).bind fun x45 => some (0, x45)) else none)) else some (0, X)))))))))))))
set_option maxRecDepth 100000 in
set_option maxHeartbeats 4000000 in
theorem s_Engine_doPlain {L : Nat} {xs : Nat → Int32} {X : XS} {M : MS} {x : Nat} {y : Int32} {z : Int32} : Sp (mjOO L xs) 110 0 [some (.ref 40), some (.ref x), some (.int y), some (.int z), none] [] (hS X M) (f_Engine_doPlain x y z X) (KEX M) := by
  unfold f_Engine_doPlain
  refine Sp.step rfl rfl rfl rfl ?_
  refine Sp.step rfl rfl rfl (xg_F (c := 0) (f := 6) rfl rfl rfl rfl rfl) ?_
  refine Sp.step rfl rfl rfl rfl ?_
  refine Sp.call rfl rfl rfl (xrecv (c := 2) (by decide) rfl (by decide +kernel)) s_Image_at_51 (fun x1 => ⟨_, _, ⟨rfl, rfl⟩, ?_⟩)
  refine Sp.step rfl rfl rfl rfl ?_
  refine Sp.step rfl rfl rfl rfl ?_
  refine Sp.ite (fun e2 => ?_) (fun e2 => ?_)
  · refine Sp.step rfl rfl rfl (go_sw (t := 108) (sw_of e2 rfl)) ?_
    refine Sp.step rfl rfl rfl rfl ?_
    refine Sp.step rfl rfl rfl rfl ?_
    refine Sp.step rfl rfl rfl rfl ?_
    refine Sp.guard (fun e3 => ?_)
    refine Sp.call rfl rfl rfl (xrecv (c := 9) (by decide) e3 (by decide +kernel)) s_Strand_push (fun x4 => ⟨_, _, ⟨rfl, rfl⟩, ?_⟩)
    refine Sp.step rfl rfl rfl rfl ?_
    refine Sp.step rfl rfl rfl rfl ?_
    exact Sp.iret rfl rfl rfl rfl (fun _ _ h => h)
  · refine Sp.ite (fun e5 => ?_) (fun e5 => ?_)
    · refine Sp.step rfl rfl rfl (go_sw (t := 134) (sw_of e5 rfl)) ?_
      refine Sp.step rfl rfl rfl rfl ?_
      refine Sp.step rfl rfl rfl rfl ?_
      refine Sp.guard (fun e6 => ?_)
      refine Sp.call rfl rfl rfl (xrecv (c := 9) (by decide) e6 (by decide +kernel)) s_Strand_load (fun x7 => ⟨_, _, ⟨rfl, rfl⟩, ?_⟩)
      refine Sp.step rfl rfl rfl rfl ?_
      refine Sp.step rfl rfl rfl rfl ?_
      exact Sp.iret rfl rfl rfl rfl (fun _ _ h => h)
    · refine Sp.ite (fun e8 => ?_) (fun e8 => ?_)
      · refine Sp.step rfl rfl rfl (go_sw (t := 143) (sw_of e8 rfl)) ?_
        refine Sp.step rfl rfl rfl rfl ?_
        refine Sp.step rfl rfl rfl rfl ?_
        refine Sp.guard (fun e9 => ?_)
        refine Sp.call rfl rfl rfl (xrecv (c := 9) (by decide) e9 (by decide +kernel)) s_Strand_store (fun x10 => ⟨_, _, ⟨rfl, rfl⟩, ?_⟩)
        refine Sp.step rfl rfl rfl rfl ?_
        refine Sp.step rfl rfl rfl rfl ?_
        exact Sp.iret rfl rfl rfl rfl (fun _ _ h => h)
      · refine Sp.ite (fun e11 => ?_) (fun e11 => ?_)
        · refine Sp.step rfl rfl rfl (go_sw (t := 152) (sw_of e11 rfl)) ?_
          refine Sp.step rfl rfl rfl rfl ?_
          refine Sp.guard (fun e12 => ?_)
          refine Sp.call rfl rfl rfl (xrecv (c := 9) (by decide) e12 (by decide +kernel)) s_Strand_copyTop (fun x13 => ⟨_, _, ⟨rfl, rfl⟩, ?_⟩)
          refine Sp.step rfl rfl rfl rfl ?_
          refine Sp.step rfl rfl rfl rfl ?_
          exact Sp.iret rfl rfl rfl rfl (fun _ _ h => h)
        · refine Sp.ite (fun e14 => ?_) (fun e14 => ?_)
          · refine Sp.step rfl rfl rfl (go_sw (t := 159) (sw_of e14 rfl)) ?_
            refine Sp.step rfl rfl rfl rfl ?_
            refine Sp.guard (fun e15 => ?_)
            refine Sp.call rfl rfl rfl (xrecv (c := 9) (by decide) e15 (by decide +kernel)) s_Strand_pop (fun x16 => ⟨_, _, ⟨rfl, rfl⟩, ?_⟩)
            refine Sp.step rfl rfl rfl rfl ?_
            refine Sp.step rfl rfl rfl rfl ?_
            refine Sp.step rfl rfl rfl rfl ?_
            exact Sp.iret rfl rfl rfl rfl (fun _ _ h => h)
          · refine Sp.ite (fun e17 => ?_) (fun e17 => ?_)
            · refine Sp.step rfl rfl rfl (go_sw (t := 167) (sw_of e17 rfl)) ?_
              refine Sp.step rfl rfl rfl rfl ?_
              refine Sp.guard (fun e18 => ?_)
              refine Sp.call rfl rfl rfl (xrecv (c := 9) (by decide) e18 (by decide +kernel)) s_Strand_swap (fun x19 => ⟨_, _, ⟨rfl, rfl⟩, ?_⟩)
              refine Sp.step rfl rfl rfl rfl ?_
              refine Sp.step rfl rfl rfl rfl ?_
              exact Sp.iret rfl rfl rfl rfl (fun _ _ h => h)
            · refine Sp.ite (fun e20 => ?_) (fun e20 => ?_)
              · refine Sp.step rfl rfl rfl (go_sw (t := 174) (sw_of e20 rfl)) ?_
                refine Sp.step rfl rfl rfl rfl ?_
                refine Sp.step rfl rfl rfl rfl ?_
                refine Sp.step rfl rfl rfl rfl ?_
                refine Sp.guard (fun e21 => ?_)
                refine Sp.call rfl rfl rfl (xrecv (c := 9) (by decide) e21 (by decide +kernel)) s_Strand_pop (fun x22 => ⟨_, _, ⟨rfl, rfl⟩, ?_⟩)
                refine Sp.step rfl rfl rfl rfl ?_
                refine Sp.call rfl rfl rfl (xrecv (c := 0) (by decide) rfl (by decide +kernel)) s_Engine_isOf (fun x23 => ⟨_, _, ⟨rfl, rfl⟩, ?_⟩)
                refine Sp.bool (fun e24 => ?_) (fun e24 => ?_)
                · refine Sp.step rfl rfl rfl rfl ?_
                  refine Sp.step rfl rfl rfl rfl ?_
                  refine Sp.step rfl rfl rfl rfl ?_
                  refine Sp.guard (fun e26 => ?_)
                  refine Sp.call rfl rfl rfl (xrecv (c := 9) (by decide) e26 (by decide +kernel)) s_Strand_push (fun x27 => ⟨_, _, ⟨rfl, rfl⟩, ?_⟩)
                  refine Sp.step rfl rfl rfl rfl ?_
                  refine Sp.step rfl rfl rfl rfl ?_
                  exact Sp.iret rfl rfl rfl rfl (fun _ _ h => h)
                · refine Sp.step rfl rfl rfl rfl ?_
                  refine Sp.step rfl rfl rfl rfl ?_
                  refine Sp.guard (fun e29 => ?_)
                  refine Sp.call rfl rfl rfl (xrecv (c := 9) (by decide) e29 (by decide +kernel)) s_Strand_push (fun x30 => ⟨_, _, ⟨rfl, rfl⟩, ?_⟩)
                  refine Sp.step rfl rfl rfl rfl ?_
                  refine Sp.step rfl rfl rfl rfl ?_
                  exact Sp.iret rfl rfl rfl rfl (fun _ _ h => h)
              · refine Sp.ite (fun e31 => ?_) (fun e31 => ?_)
                · refine Sp.step rfl rfl rfl (go_sw (t := 199) (sw_of e31 rfl)) ?_
                  refine Sp.step rfl rfl rfl rfl ?_
                  refine Sp.step rfl rfl rfl rfl ?_
                  refine Sp.guard (fun e32 => ?_)
                  refine Sp.call rfl rfl rfl (xrecv (c := 9) (by decide) e32 (by decide +kernel)) s_Strand_pushRef (fun x33 => ⟨_, _, ⟨rfl, rfl⟩, ?_⟩)
                  refine Sp.step rfl rfl rfl rfl ?_
                  refine Sp.step rfl rfl rfl rfl ?_
                  exact Sp.iret rfl rfl rfl rfl (fun _ _ h => h)
                · refine Sp.ite (fun e34 => ?_) (fun e34 => ?_)
                  · refine Sp.step rfl rfl rfl (go_sw (t := 207) (sw_of e34 rfl)) ?_
                    refine Sp.step rfl rfl rfl rfl ?_
                    refine Sp.step rfl rfl rfl (xg_F (c := 0) (f := 4) rfl rfl rfl rfl rfl) ?_
                    refine Sp.step rfl rfl rfl rfl ?_
                    refine Sp.guard (fun e35 => ?_)
                    refine Sp.call rfl rfl rfl (xrecv (c := 9) (by decide) e35 (by decide +kernel)) s_Strand_pop (fun x36 => ⟨_, _, ⟨rfl, rfl⟩, ?_⟩)
                    refine Sp.call rfl rfl rfl (xrecv (c := 5) (by decide) rfl (by decide +kernel)) s_Ports_send (fun x37 => ⟨_, _, ⟨rfl, rfl⟩, ?_⟩)
                    refine Sp.step rfl rfl rfl rfl ?_
                    refine Sp.step rfl rfl rfl rfl ?_
                    exact Sp.iret rfl rfl rfl rfl (fun _ _ h => h)
                  · refine Sp.ite (fun e38 => ?_) (fun e38 => ?_)
                    · refine Sp.step rfl rfl rfl (go_sw (t := 221) (sw_of e38 rfl)) ?_
                      refine Sp.step rfl rfl rfl rfl ?_
                      refine Sp.step rfl rfl rfl rfl ?_
                      refine Sp.step rfl rfl rfl (xg_F (c := 0) (f := 4) rfl rfl rfl rfl rfl) ?_
                      refine Sp.call rfl rfl rfl (xrecv (c := 5) (by decide) rfl (by decide +kernel)) s_Ports_receive (fun x39 => ⟨_, _, ⟨rfl, rfl⟩, ?_⟩)
                      refine Sp.guard (fun e40 => ?_)
                      refine Sp.call rfl rfl rfl (xrecv (c := 9) (by decide) e40 (by decide +kernel)) s_Strand_push (fun x41 => ⟨_, _, ⟨rfl, rfl⟩, ?_⟩)
                      refine Sp.step rfl rfl rfl rfl ?_
                      refine Sp.step rfl rfl rfl rfl ?_
                      exact Sp.iret rfl rfl rfl rfl (fun _ _ h => h)
                    · refine Sp.ite (fun e42 => ?_) (fun e42 => ?_)
                      · refine Sp.step rfl rfl rfl (go_sw (t := 118) (sw_of e42 rfl)) ?_
                        refine Sp.step rfl rfl rfl rfl ?_
                        refine Sp.step rfl rfl rfl rfl ?_
                        refine Sp.step rfl rfl rfl (xg_F (c := 0) (f := 6) rfl rfl rfl rfl rfl) ?_
                        refine Sp.step rfl rfl rfl rfl ?_
                        refine Sp.call rfl rfl rfl (xrecv (c := 2) (by decide) rfl (by decide +kernel)) s_Image_two_51 (fun x43 => ⟨_, _, ⟨rfl, rfl⟩, ?_⟩)
                        refine Sp.step rfl rfl rfl rfl ?_
                        refine Sp.guard (fun e44 => ?_)
                        refine Sp.call rfl rfl rfl (xrecv (c := 9) (by decide) e44 (by decide +kernel)) s_Strand_push (fun x45 => ⟨_, _, ⟨rfl, rfl⟩, ?_⟩)
                        refine Sp.step rfl rfl rfl rfl ?_
                        refine Sp.step rfl rfl rfl rfl ?_
                        exact Sp.iret rfl rfl rfl rfl (fun _ _ h => h)
                      · refine Sp.step rfl rfl rfl (go_sw (t := 235) (mjSw_out _ (by
                          intro q hq
                          simp only [List.mem_cons, List.not_mem_nil, or_false] at hq
                          rcases hq with rfl | rfl | rfl | rfl | rfl | rfl | rfl | rfl | rfl | rfl | rfl
                          · exact e2
                          · exact e5
                          · exact e8
                          · exact e11
                          · exact e14
                          · exact e17
                          · exact e20
                          · exact e31
                          · exact e34
                          · exact e38
                          · exact e42))) ?_
                        refine Sp.step rfl rfl rfl rfl ?_
                        exact Sp.iret rfl rfl rfl rfl (fun _ _ h => h)
def f_Engine_doBegin (x : Int32) (X : XS) : Option (Int32 × XS) := (if ¬ x = 0 then ((f_Engine_routineOf x 0 X).bind fun x2 => (if ¬ x2 = 255 then (if X.1 40 2 < 6 then ((f_Engine_beginStrand x2 x 1 X).bind fun x5 => some (0, x5)) else some (7, X)) else some (6, X))) else some (1, X))
set_option maxRecDepth 100000 in
set_option maxHeartbeats 4000000 in
theorem s_Engine_doBegin {L : Nat} {xs : Nat → Int32} {X : XS} {M : MS} {x : Int32} : Sp (mjOO L xs) 126 0 [some (.ref 40), some (.int x), none] [] (hS X M) (f_Engine_doBegin x X) (KEX M) := by
  unfold f_Engine_doBegin
  refine Sp.step rfl rfl rfl rfl ?_
  refine Sp.if1 rfl rfl rfl rfl (fun e1 => ?_) (fun e1 => ?_)
  · refine Sp.step rfl rfl rfl rfl ?_
    refine Sp.step rfl rfl rfl rfl ?_
    refine Sp.step rfl rfl rfl rfl ?_
    refine Sp.call rfl rfl rfl (xrecv (c := 0) (by decide) rfl (by decide +kernel)) s_Engine_routineOf (fun x2 => ⟨_, _, ⟨rfl, rfl⟩, ?_⟩)
    refine Sp.step rfl rfl rfl rfl ?_
    refine Sp.step rfl rfl rfl rfl ?_
    refine Sp.step rfl rfl rfl rfl ?_
    refine Sp.if2 rfl rfl rfl rfl (fun e3 => ?_) (fun e3 => ?_)
    · refine Sp.step rfl rfl rfl rfl ?_
      refine Sp.step rfl rfl rfl (xg_I (c := 0) (f := 2) rfl rfl rfl rfl) ?_
      refine Sp.step rfl rfl rfl rfl ?_
      refine Sp.if2 rfl rfl rfl rfl (fun e4 => ?_) (fun e4 => ?_)
      · refine Sp.step rfl rfl rfl rfl ?_
        refine Sp.step rfl rfl rfl rfl ?_
        refine Sp.step rfl rfl rfl rfl ?_
        refine Sp.step rfl rfl rfl rfl ?_
        refine Sp.call rfl rfl rfl (xrecv (c := 0) (by decide) rfl (by decide +kernel)) s_Engine_beginStrand (fun x5 => ⟨_, _, ⟨rfl, rfl⟩, ?_⟩)
        refine Sp.step rfl rfl rfl rfl ?_
        exact Sp.iret rfl rfl rfl rfl (fun _ _ h => h)
      · refine Sp.step rfl rfl rfl rfl ?_
        exact Sp.iret rfl rfl rfl rfl (fun _ _ h => h)
    · refine Sp.step rfl rfl rfl rfl ?_
      exact Sp.iret rfl rfl rfl rfl (fun _ _ h => h)
  · refine Sp.step rfl rfl rfl rfl ?_
    exact Sp.iret rfl rfl rfl rfl (fun _ _ h => h)
def f_Engine_doLength (x : Nat) (X : XS) : Option (Int32 × XS) := (if (xT X x = some (14, 0)) then ((f_Strand_pop x X).bind fun x2 => (if ¬ x2.1 = 0 then ((f_Memory_isArray x2.1 x2.2).bind fun x4 => (if x4 = true then ((f_Memory_lengthOf x2.1 x2.2).bind fun x7 => (if (xT x2.2 x = some (14, 0)) then ((f_Strand_push x x7 x2.2).bind fun x9 => some (0, x9)) else none)) else some (3, x2.2))) else some (1, x2.2))) else none)
set_option maxRecDepth 100000 in
set_option maxHeartbeats 4000000 in
theorem s_Engine_doLength {L : Nat} {xs : Nat → Int32} {X : XS} {M : MS} {x : Nat} : Sp (mjOO L xs) 119 0 [some (.ref 40), some (.ref x), none] [] (hS X M) (f_Engine_doLength x X) (KEX M) := by
  unfold f_Engine_doLength
  refine Sp.step rfl rfl rfl rfl ?_
  refine Sp.guard (fun e1 => ?_)
  refine Sp.call rfl rfl rfl (xrecv (c := 9) (by decide) e1 (by decide +kernel)) s_Strand_pop (fun x2 => ⟨_, _, ⟨rfl, rfl⟩, ?_⟩)
  refine Sp.step rfl rfl rfl rfl ?_
  refine Sp.step rfl rfl rfl rfl ?_
  refine Sp.if1 rfl rfl rfl rfl (fun e3 => ?_) (fun e3 => ?_)
  · refine Sp.step rfl rfl rfl rfl ?_
    refine Sp.step rfl rfl rfl (xg_F (c := 0) (f := 3) rfl rfl rfl rfl rfl) ?_
    refine Sp.step rfl rfl rfl rfl ?_
    refine Sp.call rfl rfl rfl (xrecv (c := 4) (by decide) rfl (by decide +kernel)) s_Memory_isArray (fun x4 => ⟨_, _, ⟨rfl, rfl⟩, ?_⟩)
    refine Sp.bool (fun e5 => ?_) (fun e5 => ?_)
    · refine Sp.step rfl rfl rfl rfl ?_
      refine Sp.step rfl rfl rfl rfl ?_
      refine Sp.step rfl rfl rfl rfl ?_
      refine Sp.step rfl rfl rfl (xg_F (c := 0) (f := 3) rfl rfl rfl rfl rfl) ?_
      refine Sp.step rfl rfl rfl rfl ?_
      refine Sp.call rfl rfl rfl (xrecv (c := 4) (by decide) rfl (by decide +kernel)) s_Memory_lengthOf (fun x7 => ⟨_, _, ⟨rfl, rfl⟩, ?_⟩)
      refine Sp.guard (fun e8 => ?_)
      refine Sp.call rfl rfl rfl (xrecv (c := 9) (by decide) e8 (by decide +kernel)) s_Strand_push (fun x9 => ⟨_, _, ⟨rfl, rfl⟩, ?_⟩)
      refine Sp.step rfl rfl rfl rfl ?_
      exact Sp.iret rfl rfl rfl rfl (fun _ _ h => h)
    · refine Sp.step rfl rfl rfl rfl ?_
      refine Sp.step rfl rfl rfl rfl ?_
      exact Sp.iret rfl rfl rfl rfl (fun _ _ h => h)
  · refine Sp.step rfl rfl rfl rfl ?_
    exact Sp.iret rfl rfl rfl rfl (fun _ _ h => h)
def f_Engine_reckon (x : Int32) (y : Int32) (z : Int32) : Option Int32 := (if x = 4 then some (y + z) else (if x = 5 then some (y - z) else (if x = 6 then some (y * z) else (if x = 7 then (if ¬ z = 0 then (if ¬ z = 0 then some (y / z) else none) else some 0) else (if x = 8 then (if ¬ z = 0 then (if ¬ z = 0 then some (y - y / z * z) else none) else some 0) else (if x = 9 then some 0 else (if x = 10 then some (y &&& z) else (if x = 11 then some (y ||| z) else (if x = 12 then some (y ^^^ z) else (if x = 13 then some ((y : Int32) <<< ((z : Int32) &&& 31)) else (if x = 14 then some ((y : Int32) >>> ((z : Int32) &&& 31)) else (if x = 15 then some (((y : Int32).toUInt32 >>> ((z : Int32).toUInt32 &&& Int32.toUInt32 31)).toInt32) else some 0))))))))))))
set_option maxRecDepth 100000 in
set_option maxHeartbeats 4000000 in
theorem s_Engine_reckon {L : Nat} {xs : Nat → Int32} {X : XS} {M : MS} {x : Int32} {y : Int32} {z : Int32} : Sp (mjOO L xs) 112 0 [some (.int x), some (.int y), some (.int z)] [] (hS X M) (f_Engine_reckon x y z) (KQ (hS X M)) := by
  unfold f_Engine_reckon
  refine Sp.step rfl rfl rfl rfl ?_
  refine Sp.ite (fun e1 => ?_) (fun e1 => ?_)
  · refine Sp.step rfl rfl rfl (go_sw (t := 64) (sw_of e1 rfl)) ?_
    refine Sp.step rfl rfl rfl rfl ?_
    refine Sp.step rfl rfl rfl rfl ?_
    refine Sp.step rfl rfl rfl rfl ?_
    exact Sp.iret rfl rfl rfl rfl (fun _ _ h => h)
  · refine Sp.ite (fun e2 => ?_) (fun e2 => ?_)
    · refine Sp.step rfl rfl rfl (go_sw (t := 68) (sw_of e2 rfl)) ?_
      refine Sp.step rfl rfl rfl rfl ?_
      refine Sp.step rfl rfl rfl rfl ?_
      refine Sp.step rfl rfl rfl rfl ?_
      exact Sp.iret rfl rfl rfl rfl (fun _ _ h => h)
    · refine Sp.ite (fun e3 => ?_) (fun e3 => ?_)
      · refine Sp.step rfl rfl rfl (go_sw (t := 72) (sw_of e3 rfl)) ?_
        refine Sp.step rfl rfl rfl rfl ?_
        refine Sp.step rfl rfl rfl rfl ?_
        refine Sp.step rfl rfl rfl rfl ?_
        exact Sp.iret rfl rfl rfl rfl (fun _ _ h => h)
      · refine Sp.ite (fun e4 => ?_) (fun e4 => ?_)
        · refine Sp.step rfl rfl rfl (go_sw (t := 76) (sw_of e4 rfl)) ?_
          refine Sp.step rfl rfl rfl rfl ?_
          refine Sp.if1 rfl rfl rfl rfl (fun e5 => ?_) (fun e5 => ?_)
          · refine Sp.step rfl rfl rfl rfl ?_
            refine Sp.step rfl rfl rfl rfl ?_
            refine Sp.guard (fun e6 => ?_)
            refine Sp.step rfl rfl rfl (go_div e6) ?_
            exact Sp.iret rfl rfl rfl rfl (fun _ _ h => h)
          · refine Sp.step rfl rfl rfl rfl ?_
            refine Sp.step rfl rfl rfl rfl ?_
            exact Sp.iret rfl rfl rfl rfl (fun _ _ h => h)
        · refine Sp.ite (fun e7 => ?_) (fun e7 => ?_)
          · refine Sp.step rfl rfl rfl (go_sw (t := 88) (sw_of e7 rfl)) ?_
            refine Sp.step rfl rfl rfl rfl ?_
            refine Sp.if1 rfl rfl rfl rfl (fun e8 => ?_) (fun e8 => ?_)
            · refine Sp.step rfl rfl rfl rfl ?_
              refine Sp.step rfl rfl rfl rfl ?_
              refine Sp.guard (fun e9 => ?_)
              refine Sp.step rfl rfl rfl (go_div e9) ?_
              exact Sp.iret rfl rfl rfl rfl (fun _ _ h => h)
            · refine Sp.step rfl rfl rfl rfl ?_
              refine Sp.step rfl rfl rfl rfl ?_
              exact Sp.iret rfl rfl rfl rfl (fun _ _ h => h)
          · refine Sp.ite (fun e10 => ?_) (fun e10 => ?_)
            · refine Sp.step rfl rfl rfl (go_sw (t := 124) (sw_of e10 rfl)) ?_
              refine Sp.step rfl rfl rfl rfl ?_
              exact Sp.iret rfl rfl rfl rfl (fun _ _ h => h)
            · refine Sp.ite (fun e11 => ?_) (fun e11 => ?_)
              · refine Sp.step rfl rfl rfl (go_sw (t := 100) (sw_of e11 rfl)) ?_
                refine Sp.step rfl rfl rfl rfl ?_
                refine Sp.step rfl rfl rfl rfl ?_
                refine Sp.step rfl rfl rfl rfl ?_
                exact Sp.iret rfl rfl rfl rfl (fun _ _ h => h)
              · refine Sp.ite (fun e12 => ?_) (fun e12 => ?_)
                · refine Sp.step rfl rfl rfl (go_sw (t := 104) (sw_of e12 rfl)) ?_
                  refine Sp.step rfl rfl rfl rfl ?_
                  refine Sp.step rfl rfl rfl rfl ?_
                  refine Sp.step rfl rfl rfl rfl ?_
                  exact Sp.iret rfl rfl rfl rfl (fun _ _ h => h)
                · refine Sp.ite (fun e13 => ?_) (fun e13 => ?_)
                  · refine Sp.step rfl rfl rfl (go_sw (t := 108) (sw_of e13 rfl)) ?_
                    refine Sp.step rfl rfl rfl rfl ?_
                    refine Sp.step rfl rfl rfl rfl ?_
                    refine Sp.step rfl rfl rfl rfl ?_
                    exact Sp.iret rfl rfl rfl rfl (fun _ _ h => h)
                  · refine Sp.ite (fun e14 => ?_) (fun e14 => ?_)
                    · refine Sp.step rfl rfl rfl (go_sw (t := 112) (sw_of e14 rfl)) ?_
                      refine Sp.step rfl rfl rfl rfl ?_
                      refine Sp.step rfl rfl rfl rfl ?_
                      refine Sp.step rfl rfl rfl rfl ?_
                      exact Sp.iret rfl rfl rfl rfl (fun _ _ h => h)
                    · refine Sp.ite (fun e15 => ?_) (fun e15 => ?_)
                      · refine Sp.step rfl rfl rfl (go_sw (t := 116) (sw_of e15 rfl)) ?_
                        refine Sp.step rfl rfl rfl rfl ?_
                        refine Sp.step rfl rfl rfl rfl ?_
                        refine Sp.step rfl rfl rfl rfl ?_
                        exact Sp.iret rfl rfl rfl rfl (fun _ _ h => h)
                      · refine Sp.ite (fun e16 => ?_) (fun e16 => ?_)
                        · refine Sp.step rfl rfl rfl (go_sw (t := 120) (sw_of e16 rfl)) ?_
                          refine Sp.step rfl rfl rfl rfl ?_
                          refine Sp.step rfl rfl rfl rfl ?_
                          refine Sp.step rfl rfl rfl rfl ?_
                          exact Sp.iret rfl rfl rfl rfl (fun _ _ h => h)
                        · refine Sp.step rfl rfl rfl (go_sw (t := 124) (mjSw_out _ (by
                            intro q hq
                            simp only [List.mem_cons, List.not_mem_nil, or_false] at hq
                            rcases hq with rfl | rfl | rfl | rfl | rfl | rfl | rfl | rfl | rfl | rfl | rfl | rfl
                            · exact e1
                            · exact e2
                            · exact e3
                            · exact e4
                            · exact e7
                            · exact e10
                            · exact e11
                            · exact e12
                            · exact e13
                            · exact e14
                            · exact e15
                            · exact e16))) ?_
                          refine Sp.step rfl rfl rfl rfl ?_
                          exact Sp.iret rfl rfl rfl rfl (fun _ _ h => h)
def f_Engine_doArithmetic (x : Nat) (y : Int32) (X : XS) : Option (Int32 × XS) := (if (xT X x = some (14, 0)) then ((f_Strand_pop x X).bind fun x2 => (if ¬ y = 9 then (if (xT x2.2 x = some (14, 0)) then ((f_Strand_pop x x2.2).bind fun x5 => (if y = 7 then (if ¬ x2.1 = 0 then ((f_Engine_reckon y x5.1 x2.1).bind fun x8 => (if (xT x5.2 x = some (14, 0)) then ((f_Strand_push x x8 x5.2).bind fun x10 => some (0, x10)) else none)) else some (2, x5.2)) else (if ¬ y = 8 then ((f_Engine_reckon y x5.1 x2.1).bind fun x12 => (if (xT x5.2 x = some (14, 0)) then ((f_Strand_push x x12 x5.2).bind fun x14 => some (0, x14)) else none)) else (if ¬ x2.1 = 0 then ((f_Engine_reckon y x5.1 x2.1).bind fun x16 => (if (xT x5.2 x = some (14, 0)) then ((f_Strand_push x x16 x5.2).bind fun x18 => some (0, x18)) else none)) else some (2, x5.2))))) else none) else (if (xT x2.2 x = some (14, 0)) then ((f_Strand_push x (-x2.1) x2.2).bind fun x20 => some (0, x20)) else none))) else none)
set_option maxRecDepth 100000 in
set_option maxHeartbeats 4000000 in
theorem s_Engine_doArithmetic {L : Nat} {xs : Nat → Int32} {X : XS} {M : MS} {x : Nat} {y : Int32} : Sp (mjOO L xs) 111 0 [some (.ref 40), some (.ref x), some (.int y), none, none] [] (hS X M) (f_Engine_doArithmetic x y X) (KEX M) := by
  unfold f_Engine_doArithmetic
  refine Sp.step rfl rfl rfl rfl ?_
  refine Sp.guard (fun e1 => ?_)
  refine Sp.call rfl rfl rfl (xrecv (c := 9) (by decide) e1 (by decide +kernel)) s_Strand_pop (fun x2 => ⟨_, _, ⟨rfl, rfl⟩, ?_⟩)
  refine Sp.step rfl rfl rfl rfl ?_
  refine Sp.step rfl rfl rfl rfl ?_
  refine Sp.step rfl rfl rfl rfl ?_
  refine Sp.if2 rfl rfl rfl rfl (fun e3 => ?_) (fun e3 => ?_)
  · refine Sp.step rfl rfl rfl rfl ?_
    refine Sp.guard (fun e4 => ?_)
    refine Sp.call rfl rfl rfl (xrecv (c := 9) (by decide) e4 (by decide +kernel)) s_Strand_pop (fun x5 => ⟨_, _, ⟨rfl, rfl⟩, ?_⟩)
    refine Sp.step rfl rfl rfl rfl ?_
    refine Sp.step rfl rfl rfl rfl ?_
    refine Sp.step rfl rfl rfl rfl ?_
    refine Sp.if2 rfl rfl rfl rfl (fun e6 => ?_) (fun e6 => ?_)
    · refine Sp.step rfl rfl rfl rfl ?_
      refine Sp.if1 rfl rfl rfl rfl (fun e7 => ?_) (fun e7 => ?_)
      · refine Sp.step rfl rfl rfl rfl ?_
        refine Sp.step rfl rfl rfl rfl ?_
        refine Sp.step rfl rfl rfl rfl ?_
        refine Sp.step rfl rfl rfl rfl ?_
        refine Sp.call rfl rfl rfl rfl s_Engine_reckon (fun x8 => ⟨_, _, ⟨rfl, rfl⟩, ?_⟩)
        refine Sp.guard (fun e9 => ?_)
        refine Sp.call rfl rfl rfl (xrecv (c := 9) (by decide) e9 (by decide +kernel)) s_Strand_push (fun x10 => ⟨_, _, ⟨rfl, rfl⟩, ?_⟩)
        refine Sp.step rfl rfl rfl rfl ?_
        exact Sp.iret rfl rfl rfl rfl (fun _ _ h => h)
      · refine Sp.step rfl rfl rfl rfl ?_
        exact Sp.iret rfl rfl rfl rfl (fun _ _ h => h)
    · refine Sp.step rfl rfl rfl rfl ?_
      refine Sp.step rfl rfl rfl rfl ?_
      refine Sp.if2 rfl rfl rfl rfl (fun e11 => ?_) (fun e11 => ?_)
      · refine Sp.step rfl rfl rfl rfl ?_
        refine Sp.step rfl rfl rfl rfl ?_
        refine Sp.step rfl rfl rfl rfl ?_
        refine Sp.step rfl rfl rfl rfl ?_
        refine Sp.call rfl rfl rfl rfl s_Engine_reckon (fun x12 => ⟨_, _, ⟨rfl, rfl⟩, ?_⟩)
        refine Sp.guard (fun e13 => ?_)
        refine Sp.call rfl rfl rfl (xrecv (c := 9) (by decide) e13 (by decide +kernel)) s_Strand_push (fun x14 => ⟨_, _, ⟨rfl, rfl⟩, ?_⟩)
        refine Sp.step rfl rfl rfl rfl ?_
        exact Sp.iret rfl rfl rfl rfl (fun _ _ h => h)
      · refine Sp.step rfl rfl rfl rfl ?_
        refine Sp.if1 rfl rfl rfl rfl (fun e15 => ?_) (fun e15 => ?_)
        · refine Sp.step rfl rfl rfl rfl ?_
          refine Sp.step rfl rfl rfl rfl ?_
          refine Sp.step rfl rfl rfl rfl ?_
          refine Sp.step rfl rfl rfl rfl ?_
          refine Sp.call rfl rfl rfl rfl s_Engine_reckon (fun x16 => ⟨_, _, ⟨rfl, rfl⟩, ?_⟩)
          refine Sp.guard (fun e17 => ?_)
          refine Sp.call rfl rfl rfl (xrecv (c := 9) (by decide) e17 (by decide +kernel)) s_Strand_push (fun x18 => ⟨_, _, ⟨rfl, rfl⟩, ?_⟩)
          refine Sp.step rfl rfl rfl rfl ?_
          exact Sp.iret rfl rfl rfl rfl (fun _ _ h => h)
        · refine Sp.step rfl rfl rfl rfl ?_
          exact Sp.iret rfl rfl rfl rfl (fun _ _ h => h)
  · refine Sp.step rfl rfl rfl rfl ?_
    refine Sp.step rfl rfl rfl rfl ?_
    refine Sp.step rfl rfl rfl rfl ?_
    refine Sp.guard (fun e19 => ?_)
    refine Sp.call rfl rfl rfl (xrecv (c := 9) (by decide) e19 (by decide +kernel)) s_Strand_push (fun x20 => ⟨_, _, ⟨rfl, rfl⟩, ?_⟩)
    refine Sp.step rfl rfl rfl rfl ?_
    exact Sp.iret rfl rfl rfl rfl (fun _ _ h => h)
def f_Engine_fits (x : Int32) (y : Int32) (X : XS) : Option Bool := ((f_Image_kinds_51 X).bind fun x1 => (if x1 ≤ x then (if (256 - x) - 1 = 0 then some true else (if ¬ (256 - x) - 1 = y then some false else some true)) else (if ¬ y = 10 then some false else ((f_Image_isBelow_51 (X.1 40 11) x X).bind fun x6 => (if x6 = true then some true else some false)))))
set_option maxRecDepth 100000 in
set_option maxHeartbeats 4000000 in
theorem s_Engine_fits {L : Nat} {xs : Nat → Int32} {X : XS} {M : MS} {x : Int32} {y : Int32} : Sp (mjOO L xs) 132 0 [some (.ref 40), some (.int x), some (.int y), none] [] (hS X M) (f_Engine_fits x y X) (KB (hS X M)) := by
  unfold f_Engine_fits
  refine Sp.step rfl rfl rfl rfl ?_
  refine Sp.step rfl rfl rfl rfl ?_
  refine Sp.step rfl rfl rfl (xg_F (c := 0) (f := 6) rfl rfl rfl rfl rfl) ?_
  refine Sp.call rfl rfl rfl (xrecv (c := 2) (by decide) rfl (by decide +kernel)) s_Image_kinds_51 (fun x1 => ⟨_, _, ⟨rfl, rfl⟩, ?_⟩)
  refine Sp.if2 rfl rfl rfl rfl (fun e2 => ?_) (fun e2 => ?_)
  · refine Sp.step rfl rfl rfl rfl ?_
    refine Sp.step rfl rfl rfl rfl ?_
    refine Sp.step rfl rfl rfl rfl ?_
    refine Sp.step rfl rfl rfl rfl ?_
    refine Sp.step rfl rfl rfl rfl ?_
    refine Sp.step rfl rfl rfl rfl ?_
    refine Sp.step rfl rfl rfl rfl ?_
    refine Sp.if1 rfl rfl rfl rfl (fun e3 => ?_) (fun e3 => ?_)
    · refine Sp.step rfl rfl rfl rfl ?_
      refine Sp.step rfl rfl rfl rfl ?_
      exact Sp.iret rfl rfl rfl rfl (fun _ _ h => h)
    · refine Sp.step rfl rfl rfl rfl ?_
      refine Sp.step rfl rfl rfl rfl ?_
      refine Sp.if2 rfl rfl rfl rfl (fun e4 => ?_) (fun e4 => ?_)
      · refine Sp.step rfl rfl rfl rfl ?_
        exact Sp.iret rfl rfl rfl rfl (fun _ _ h => h)
      · refine Sp.step rfl rfl rfl rfl ?_
        refine Sp.step rfl rfl rfl rfl ?_
        exact Sp.iret rfl rfl rfl rfl (fun _ _ h => h)
  · refine Sp.step rfl rfl rfl rfl ?_
    refine Sp.step rfl rfl rfl rfl ?_
    refine Sp.if2 rfl rfl rfl rfl (fun e5 => ?_) (fun e5 => ?_)
    · refine Sp.step rfl rfl rfl rfl ?_
      exact Sp.iret rfl rfl rfl rfl (fun _ _ h => h)
    · refine Sp.step rfl rfl rfl rfl ?_
      refine Sp.step rfl rfl rfl (xg_F (c := 0) (f := 6) rfl rfl rfl rfl rfl) ?_
      refine Sp.step rfl rfl rfl rfl ?_
      refine Sp.step rfl rfl rfl (xg_I (c := 0) (f := 11) rfl rfl rfl rfl) ?_
      refine Sp.step rfl rfl rfl rfl ?_
      refine Sp.call rfl rfl rfl (xrecv (c := 2) (by decide) rfl (by decide +kernel)) s_Image_isBelow_51 (fun x6 => ⟨_, _, ⟨rfl, rfl⟩, ?_⟩)
      refine Sp.bool (fun e7 => ?_) (fun e7 => ?_)
      · refine Sp.step rfl rfl rfl rfl ?_
        refine Sp.step rfl rfl rfl rfl ?_
        refine Sp.step rfl rfl rfl rfl ?_
        exact Sp.iret rfl rfl rfl rfl (fun _ _ h => h)
      · refine Sp.step rfl rfl rfl rfl ?_
        refine Sp.step rfl rfl rfl rfl ?_
        exact Sp.iret rfl rfl rfl rfl (fun _ _ h => h)
def b52_Engine_handlerFor (x : Nat) (y : Int32) (X : XS) (x2 : Int32) (x3 : Int32) (x4 : Int32) : Option (Int32 ⊕ Int32) := (if x3 ≤ x4 then some (.inr (-1)) else (if 6 ≤ x4 then some (.inr (-1)) else ((f_Image_two_51 (((f_Image_headAt_51 (X.1 x 3) X) + 9) + (7 * x4)) X).bind fun x7 => (if (X.1 x 4) - x2 < x7 then some (.inl (x4 + 1)) else ((f_Image_two_51 ((((f_Image_headAt_51 (X.1 x 3) X) + 9) + (7 * x4)) + 2) X).bind fun x10 => (if x10 ≤ (X.1 x 4) - x2 then some (.inl (x4 + 1)) else ((f_Image_at_51 ((((f_Image_headAt_51 (X.1 x 3) X) + 9) + (7 * x4)) + 6) X).bind fun x14 => ((f_Engine_fits x14 y X).bind fun x15 => (if x15 = true then ((f_Image_two_51 ((((f_Image_headAt_51 (X.1 x 3) X) + 9) + (7 * x4)) + 4) X).bind fun x18 => some (.inr (x2 + x18))) else some (.inl (x4 + 1)))))))))))
def f_Engine_handlerFor (x : Nat) (y : Int32) (X : XS) : Option Int32 := (if (xT X x = some (14, 0)) then ((f_Image_codeAt_51 (X.1 x 3) X).bind fun x2 => ((f_Image_at_51 (((f_Image_headAt_51 (X.1 x 3) X) + 9) - 1) X).bind fun x3 => (lp (b52_Engine_handlerFor x y X x2 x3) 10000 (0 : Int32)))) else none)
set_option maxRecDepth 100000 in
set_option maxHeartbeats 4000000 in
theorem s_Engine_handlerFor {L : Nat} {xs : Nat → Int32} {X : XS} {M : MS} {x : Nat} {y : Int32} : Sp (mjOO L xs) 131 0 [some (.ref 40), some (.ref x), some (.int y), none, none, none, none, none, none, none] [] (hS X M) (f_Engine_handlerFor x y X) (KQ (hS X M)) := by
  unfold f_Engine_handlerFor
  refine Sp.step rfl rfl rfl rfl ?_
  refine Sp.step rfl rfl rfl (xg_F (c := 0) (f := 6) rfl rfl rfl rfl rfl) ?_
  refine Sp.step rfl rfl rfl rfl ?_
  refine Sp.guard (fun e1 => ?_)
  refine Sp.step rfl rfl rfl (xg_I (c := 9) (f := 3) rfl rfl e1 rfl) ?_
  refine Sp.callS rfl rfl rfl (xrecv (c := 2) (by decide) rfl (by decide +kernel)) s_Image_headAt_51 ⟨rfl, rfl⟩ ?_
  refine Sp.step rfl rfl rfl rfl ?_
  refine Sp.step rfl rfl rfl rfl ?_
  refine Sp.step rfl rfl rfl (xg_F (c := 0) (f := 6) rfl rfl rfl rfl rfl) ?_
  refine Sp.step rfl rfl rfl rfl ?_
  refine Sp.step rfl rfl rfl (xg_I (c := 9) (f := 3) rfl rfl e1 rfl) ?_
  refine Sp.call rfl rfl rfl (xrecv (c := 2) (by decide) rfl (by decide +kernel)) s_Image_codeAt_51 (fun x2 => ⟨_, _, ⟨rfl, rfl⟩, ?_⟩)
  refine Sp.step rfl rfl rfl rfl ?_
  refine Sp.step rfl rfl rfl rfl ?_
  refine Sp.step rfl rfl rfl (xg_I (c := 9) (f := 4) rfl rfl e1 rfl) ?_
  refine Sp.step rfl rfl rfl rfl ?_
  refine Sp.step rfl rfl rfl rfl ?_
  refine Sp.step rfl rfl rfl rfl ?_
  refine Sp.step rfl rfl rfl rfl ?_
  refine Sp.step rfl rfl rfl (xg_F (c := 0) (f := 6) rfl rfl rfl rfl rfl) ?_
  refine Sp.step rfl rfl rfl rfl ?_
  refine Sp.step rfl rfl rfl rfl ?_
  refine Sp.step rfl rfl rfl rfl ?_
  refine Sp.step rfl rfl rfl rfl ?_
  refine Sp.step rfl rfl rfl rfl ?_
  refine Sp.call rfl rfl rfl (xrecv (c := 2) (by decide) rfl (by decide +kernel)) s_Image_at_51 (fun x3 => ⟨_, _, ⟨rfl, rfl⟩, ?_⟩)
  refine Sp.step rfl rfl rfl rfl ?_
  refine Sp.step rfl rfl rfl rfl ?_
  refine Sp.step rfl rfl rfl rfl ?_
  refine Sp.weak (l0 := [some (.ref 40), none, some (.int y), some (.int (f_Image_headAt_51 (X.1 x 3) X)), some (.int x2), some (.int ((X.1 x 4) - x2)), some (.int x3), some (.int 0), none, none]) ⟨rfl, rfl, rfl, rfl, rfl, rfl, rfl, trivial⟩ ?_
  refine Sp.loopL (mf := (fun (x4 : Int32) => [some (.ref 40), none, some (.int y), some (.int (f_Image_headAt_51 (X.1 x 3) X)), some (.int x2), some (.int ((X.1 x 4) - x2)), some (.int x3), some (.int x4), none, none])) (hf := (fun (x4 : Int32) => hS X M)) (fun x4 => ?_) _ _
  unfold b52_Engine_handlerFor
  refine Sp.step rfl rfl rfl rfl ?_
  refine Sp.step rfl rfl rfl rfl ?_
  refine Sp.if2 rfl rfl rfl rfl (fun e5 => ?_) (fun e5 => ?_)
  · refine Sp.step rfl rfl rfl rfl ?_
    exact Sp.iret rfl rfl rfl rfl (fun _ _ h => h)
  · refine Sp.step rfl rfl rfl rfl ?_
    refine Sp.step rfl rfl rfl rfl ?_
    refine Sp.if2 rfl rfl rfl rfl (fun e6 => ?_) (fun e6 => ?_)
    · refine Sp.step rfl rfl rfl rfl ?_
      exact Sp.iret rfl rfl rfl rfl (fun _ _ h => h)
    · refine Sp.step rfl rfl rfl rfl ?_
      refine Sp.step rfl rfl rfl rfl ?_
      refine Sp.step rfl rfl rfl rfl ?_
      refine Sp.step rfl rfl rfl rfl ?_
      refine Sp.step rfl rfl rfl rfl ?_
      refine Sp.step rfl rfl rfl rfl ?_
      refine Sp.step rfl rfl rfl rfl ?_
      refine Sp.step rfl rfl rfl rfl ?_
      refine Sp.step rfl rfl rfl rfl ?_
      refine Sp.step rfl rfl rfl (xg_F (c := 0) (f := 6) rfl rfl rfl rfl rfl) ?_
      refine Sp.step rfl rfl rfl rfl ?_
      refine Sp.call rfl rfl rfl (xrecv (c := 2) (by decide) rfl (by decide +kernel)) s_Image_two_51 (fun x7 => ⟨_, _, ⟨rfl, rfl⟩, ?_⟩)
      refine Sp.step rfl rfl rfl rfl ?_
      refine Sp.if2 rfl rfl rfl rfl (fun e8 => ?_) (fun e8 => ?_)
      · refine Sp.step rfl rfl rfl rfl ?_
        refine Sp.step rfl rfl rfl rfl ?_
        refine Sp.step rfl rfl rfl rfl ?_
        refine Sp.step rfl rfl rfl rfl ?_
        refine Sp.step rfl rfl rfl rfl ?_
        refine Sp.step rfl rfl rfl rfl ?_
        exact Sp.jmp (l0 := [some (.ref 40), none, some (.int y), some (.int (f_Image_headAt_51 (X.1 x 3) X)), some (.int x2), some (.int ((X.1 x 4) - x2)), some (.int x3), some (.int (x4 + 1)), none, none]) ⟨rfl, rfl, rfl, rfl, rfl, rfl, rfl, trivial⟩ (fun _ _ h => h)
      · refine Sp.step rfl rfl rfl rfl ?_
        refine Sp.step rfl rfl rfl rfl ?_
        refine Sp.step rfl rfl rfl (xg_F (c := 0) (f := 6) rfl rfl rfl rfl rfl) ?_
        refine Sp.step rfl rfl rfl rfl ?_
        refine Sp.step rfl rfl rfl rfl ?_
        refine Sp.step rfl rfl rfl rfl ?_
        refine Sp.call rfl rfl rfl (xrecv (c := 2) (by decide) rfl (by decide +kernel)) s_Image_two_51 (fun x10 => ⟨_, _, ⟨rfl, rfl⟩, ?_⟩)
        refine Sp.if2 rfl rfl rfl rfl (fun e11 => ?_) (fun e11 => ?_)
        · refine Sp.step rfl rfl rfl rfl ?_
          refine Sp.step rfl rfl rfl rfl ?_
          refine Sp.step rfl rfl rfl rfl ?_
          refine Sp.step rfl rfl rfl rfl ?_
          refine Sp.step rfl rfl rfl rfl ?_
          refine Sp.step rfl rfl rfl rfl ?_
          exact Sp.jmp (l0 := [some (.ref 40), none, some (.int y), some (.int (f_Image_headAt_51 (X.1 x 3) X)), some (.int x2), some (.int ((X.1 x 4) - x2)), some (.int x3), some (.int (x4 + 1)), none, none]) ⟨rfl, rfl, rfl, rfl, rfl, rfl, rfl, trivial⟩ (fun _ _ h => h)
        · refine Sp.step rfl rfl rfl rfl ?_
          refine Sp.step rfl rfl rfl rfl ?_
          refine Sp.step rfl rfl rfl rfl ?_
          refine Sp.step rfl rfl rfl rfl ?_
          refine Sp.step rfl rfl rfl rfl ?_
          refine Sp.step rfl rfl rfl rfl ?_
          refine Sp.step rfl rfl rfl rfl ?_
          refine Sp.step rfl rfl rfl (xg_F (c := 0) (f := 6) rfl rfl rfl rfl rfl) ?_
          refine Sp.step rfl rfl rfl rfl ?_
          refine Sp.step rfl rfl rfl rfl ?_
          refine Sp.step rfl rfl rfl rfl ?_
          refine Sp.call rfl rfl rfl (xrecv (c := 2) (by decide) rfl (by decide +kernel)) s_Image_at_51 (fun x14 => ⟨_, _, ⟨rfl, rfl⟩, ?_⟩)
          refine Sp.step rfl rfl rfl rfl ?_
          refine Sp.call rfl rfl rfl (xrecv (c := 0) (by decide) rfl (by decide +kernel)) s_Engine_fits (fun x15 => ⟨_, _, ⟨rfl, rfl⟩, ?_⟩)
          refine Sp.bool (fun e16 => ?_) (fun e16 => ?_)
          · refine Sp.step rfl rfl rfl rfl ?_
            refine Sp.step rfl rfl rfl rfl ?_
            refine Sp.step rfl rfl rfl rfl ?_
            refine Sp.step rfl rfl rfl (xg_F (c := 0) (f := 6) rfl rfl rfl rfl rfl) ?_
            refine Sp.step rfl rfl rfl rfl ?_
            refine Sp.step rfl rfl rfl rfl ?_
            refine Sp.step rfl rfl rfl rfl ?_
            refine Sp.call rfl rfl rfl (xrecv (c := 2) (by decide) rfl (by decide +kernel)) s_Image_two_51 (fun x18 => ⟨_, _, ⟨rfl, rfl⟩, ?_⟩)
            refine Sp.step rfl rfl rfl rfl ?_
            exact Sp.iret rfl rfl rfl rfl (fun _ _ h => h)
          · refine Sp.step rfl rfl rfl rfl ?_
            refine Sp.step rfl rfl rfl rfl ?_
            refine Sp.step rfl rfl rfl rfl ?_
            exact Sp.jmp (l0 := [some (.ref 40), none, some (.int y), some (.int (f_Image_headAt_51 (X.1 x 3) X)), some (.int x2), some (.int ((X.1 x 4) - x2)), some (.int x3), some (.int (x4 + 1)), none, none]) ⟨rfl, rfl, rfl, rfl, rfl, rfl, rfl, trivial⟩ (fun _ _ h => h)
def b2_Strand_catchAt (x : Nat) (x6 : (Int32 × XS)) : Option ((Int32 × XS) ⊕ (Int32 × XS)) := (if 10 ≤ x6.1 then some (.inr (x6.1, x6.2)) else (if (xT x6.2 x = some (14, 0)) then (if x6.2.1 x 8 ≤ 0 then some (.inr (x6.1, x6.2)) else ((f_Strand_pop x x6.2).bind fun x10 => some (.inl (x6.1 + 1, x10.2)))) else none))
def f_Strand_catchAt (x : Nat) (y : Int32) (z : Int32) (X : XS) : Option XS := ((lp (b2_Strand_catchAt x) 10000 ((0 : Int32), X)).bind fun x11 => (if (xT x11.2 x = some (14, 0)) then (lt (xw x11.2 x 4 y) fun X13 => ((f_Strand_pushMarked x z 1 X13).bind fun x14 => some x14)) else none))
set_option maxRecDepth 100000 in
set_option maxHeartbeats 4000000 in
theorem s_Strand_catchAt {L : Nat} {xs : Nat → Int32} {X : XS} {M : MS} {x : Nat} {y : Int32} {z : Int32} : Sp (mjOO L xs) 299 0 [some (.ref x), some (.int y), some (.int z), none] [] (hS X M) (f_Strand_catchAt x y z X) (KVX M) := by
  unfold f_Strand_catchAt
  refine Sp.step rfl rfl rfl rfl ?_
  refine Sp.step rfl rfl rfl rfl ?_
  refine Sp.weak (l0 := [some (.ref x), some (.int y), some (.int z), some (.int 0)]) ⟨rfl, rfl, rfl, rfl, trivial⟩ ?_
  refine Sp.loopX (pe := 26) (mf := (fun (x6 : (Int32 × XS)) => [some (.ref x), some (.int y), some (.int z), some (.int x6.1)])) (hf := (fun (x6 : (Int32 × XS)) => hS x6.2 M)) (fun x6 => ?_) (fun x11 => ?_) _ _
  · unfold b2_Strand_catchAt
    refine Sp.step rfl rfl rfl rfl ?_
    refine Sp.step rfl rfl rfl rfl ?_
    refine Sp.if2 rfl rfl rfl rfl (fun e7 => ?_) (fun e7 => ?_)
    · exact Sp.jmp (l0 := [some (.ref x), some (.int y), some (.int z), some (.int x6.1)]) ⟨rfl, rfl, rfl, rfl, trivial⟩ (fun _ _ h => h)
    · refine Sp.step rfl rfl rfl rfl ?_
      refine Sp.guard (fun e8 => ?_)
      refine Sp.step rfl rfl rfl (xg_I (c := 9) (f := 8) rfl rfl e8 rfl) ?_
      refine Sp.if1 rfl rfl rfl rfl (fun e9 => ?_) (fun e9 => ?_)
      · exact Sp.jmp (l0 := [some (.ref x), some (.int y), some (.int z), some (.int x6.1)]) ⟨rfl, rfl, rfl, rfl, trivial⟩ (fun _ _ h => h)
      · refine Sp.step rfl rfl rfl rfl ?_
        refine Sp.call rfl rfl rfl (xrecv (c := 9) (by decide) e8 (by decide +kernel)) s_Strand_pop (fun x10 => ⟨_, _, ⟨rfl, rfl⟩, ?_⟩)
        refine Sp.step rfl rfl rfl rfl ?_
        refine Sp.step rfl rfl rfl rfl ?_
        refine Sp.step rfl rfl rfl rfl ?_
        exact Sp.jmp (l0 := [some (.ref x), some (.int y), some (.int z), some (.int (x6.1 + 1))]) ⟨rfl, rfl, rfl, rfl, trivial⟩ (fun _ _ h => h)
  · refine Sp.step rfl rfl rfl rfl ?_
    refine Sp.step rfl rfl rfl rfl ?_
    refine Sp.guard (fun e12 => ?_)
    refine Sp.step rfl rfl rfl (xp_I (c := 9) (f := 4) rfl rfl e12 rfl rfl) ?_
    refine Sp.step rfl rfl rfl rfl ?_
    refine Sp.step rfl rfl rfl rfl ?_
    refine Sp.step rfl rfl rfl rfl ?_
    refine Sp.call rfl rfl rfl (xrecv (c := 9) (by decide) e12 (by decide +kernel)) s_Strand_pushMarked (fun x14 => ⟨_, _, ⟨rfl, rfl⟩, ?_⟩)
    exact Sp.vret rfl rfl rfl (fun _ _ h => h)
def f_Image_sourceKind_51 (x : Int32) (X : XS) : Int32 := (if 0 ≤ x ∧ x ≤ 9 then X.1 55 x.toNatClampNeg else 0)
set_option maxRecDepth 100000 in
set_option maxHeartbeats 4000000 in
theorem s_Image_sourceKind_51 {L : Nat} {xs : Nat → Int32} {X : XS} {M : MS} {x : Int32} : Sp (mjOO L xs) 174 0 [some (.ref 51), some (.int x)] [] (hS X M) (some (f_Image_sourceKind_51 x X)) (KQ (hS X M)) := by
  unfold f_Image_sourceKind_51
  refine Sp.step rfl rfl rfl rfl ?_
  refine Sp.step rfl rfl rfl rfl ?_
  refine Sp.step rfl rfl rfl rfl ?_
  refine Sp.callPV rfl rfl rfl rfl s_within (fun e1 => ?_) (fun e1 => ?_)
  · refine Sp.step rfl rfl rfl rfl ?_
    refine Sp.step rfl rfl rfl rfl ?_
    refine Sp.step rfl rfl rfl (xg_F (c := 2) (f := 5) rfl rfl rfl rfl rfl) ?_
    refine Sp.step rfl rfl rfl rfl ?_
    refine Sp.step rfl rfl rfl (xld rfl (by decide) (ix_le (N := 9) rfl e1.1 e1.2)) ?_
    refine Sp.step rfl rfl rfl rfl ?_
    exact Sp.iret rfl rfl rfl rfl (fun _ _ h => h)
  · refine Sp.step rfl rfl rfl rfl ?_
    refine Sp.step rfl rfl rfl rfl ?_
    exact Sp.iret rfl rfl rfl rfl (fun _ _ h => h)
def f_Engine_thrownNumber (X : XS) : Option Int32 := ((f_Image_kinds_51 X).bind fun x1 => (if x1 ≤ X.1 40 11 then some 110 else some (100 + (f_Image_sourceKind_51 (X.1 40 11) X))))
set_option maxRecDepth 100000 in
set_option maxHeartbeats 4000000 in
theorem s_Engine_thrownNumber {L : Nat} {xs : Nat → Int32} {X : XS} {M : MS} : Sp (mjOO L xs) 130 0 [some (.ref 40)] [] (hS X M) (f_Engine_thrownNumber X) (KQ (hS X M)) := by
  unfold f_Engine_thrownNumber
  refine Sp.step rfl rfl rfl rfl ?_
  refine Sp.step rfl rfl rfl (xg_I (c := 0) (f := 11) rfl rfl rfl rfl) ?_
  refine Sp.step rfl rfl rfl rfl ?_
  refine Sp.step rfl rfl rfl (xg_F (c := 0) (f := 6) rfl rfl rfl rfl rfl) ?_
  refine Sp.call rfl rfl rfl (xrecv (c := 2) (by decide) rfl (by decide +kernel)) s_Image_kinds_51 (fun x1 => ⟨_, _, ⟨rfl, rfl⟩, ?_⟩)
  refine Sp.if2 rfl rfl rfl rfl (fun e2 => ?_) (fun e2 => ?_)
  · refine Sp.step rfl rfl rfl rfl ?_
    exact Sp.iret rfl rfl rfl rfl (fun _ _ h => h)
  · refine Sp.step rfl rfl rfl rfl ?_
    refine Sp.step rfl rfl rfl rfl ?_
    refine Sp.step rfl rfl rfl (xg_F (c := 0) (f := 6) rfl rfl rfl rfl rfl) ?_
    refine Sp.step rfl rfl rfl rfl ?_
    refine Sp.step rfl rfl rfl (xg_I (c := 0) (f := 11) rfl rfl rfl rfl) ?_
    refine Sp.callS rfl rfl rfl (xrecv (c := 2) (by decide) rfl (by decide +kernel)) s_Image_sourceKind_51 ⟨rfl, rfl⟩ ?_
    refine Sp.step rfl rfl rfl rfl ?_
    refine Sp.step rfl rfl rfl rfl ?_
    exact Sp.iret rfl rfl rfl rfl (fun _ _ h => h)
def b30_Engine_raise (x : Nat) (y : Int32) (x2 : (Int32)) (x13 : (Int32 × XS)) : Option ((Int32 × XS) ⊕ ((Int32 × XS) ⊕ XS)) := (if 20 ≤ x13.1 then some (.inr (.inl (x13.1, x13.2))) else (if (xT x13.2 x = some (14, 0)) then (if x13.2.1 x 2 ≤ 0 then some (.inr (.inl (x13.1, x13.2))) else ((f_Engine_handlerFor x y x13.2).bind fun x17 => (if x17 = (-1) then ((f_Strand_leave x x13.2).bind fun x19 => some (.inl (x13.1 + 1, x19))) else ((f_Strand_catchAt x x17 x2 x13.2).bind fun x20 => some (.inr (.inr x20)))))) else none))
def f_Engine_raise (x : Nat) (y : Int32) (X : XS) : Option XS := (((if ¬ y = 10 then some 0 else some (X.1 40 10)) : Option (Int32)).bind fun x2 => ((f_Memory_kindOf x2 X).bind fun x3 => (lt (xw X 40 11 x3) fun X4 => ((lp (b30_Engine_raise x y x2) 10000 ((0 : Int32), X4)).bind fun s => sb s fun x21 => (if ¬ y = 10 then (if (xT x21.2 x = some (14, 0)) then ((f_Strand_finish x 2 (-y) x21.2).bind fun x24 => some x24) else none) else ((f_Engine_thrownNumber x21.2).bind fun x25 => (if (xT x21.2 x = some (14, 0)) then ((f_Strand_finish x 2 x25 x21.2).bind fun x27 => some x27) else none)))))))
set_option maxRecDepth 100000 in
set_option maxHeartbeats 4000000 in
theorem s_Engine_raise {L : Nat} {xs : Nat → Int32} {X : XS} {M : MS} {x : Nat} {y : Int32} : Sp (mjOO L xs) 129 0 [some (.ref 40), some (.ref x), some (.int y), none, none, none] [] (hS X M) (f_Engine_raise x y X) (KVX M) := by
  unfold f_Engine_raise
  refine Sp.step rfl rfl rfl rfl ?_
  refine Sp.step rfl rfl rfl rfl ?_
  refine Sp.piece (pe := 14) (mf := (fun (x2 : Int32) => [some (.ref 40), some (.ref x), some (.int y), none, none, none])) (sf := (fun (x2 : Int32) => [.int x2])) (hf := (fun (x2 : Int32) => hS X M)) ?_ (fun x2 => ?_)
  · refine Sp.if2 rfl rfl rfl rfl (fun e1 => ?_) (fun e1 => ?_)
    · refine Sp.step rfl rfl rfl rfl ?_
      exact Sp.jmp (l0 := [some (.ref 40), some (.ref x), some (.int y), none, none, none]) ⟨rfl, rfl, rfl, trivial⟩ (fun _ _ h => h)
    · refine Sp.step rfl rfl rfl rfl ?_
      refine Sp.step rfl rfl rfl (xg_I (c := 0) (f := 10) rfl rfl rfl rfl) ?_
      refine Sp.step rfl rfl rfl rfl ?_
      exact Sp.jmp (l0 := [some (.ref 40), some (.ref x), some (.int y), none, none, none]) ⟨rfl, rfl, rfl, trivial⟩ (fun _ _ h => h)
  · refine Sp.step rfl rfl rfl rfl ?_
    refine Sp.step rfl rfl rfl rfl ?_
    refine Sp.step rfl rfl rfl rfl ?_
    refine Sp.step rfl rfl rfl (xg_F (c := 0) (f := 3) rfl rfl rfl rfl rfl) ?_
    refine Sp.step rfl rfl rfl rfl ?_
    refine Sp.call rfl rfl rfl (xrecv (c := 4) (by decide) rfl (by decide +kernel)) s_Memory_kindOf (fun x3 => ⟨_, _, ⟨rfl, rfl⟩, ?_⟩)
    refine Sp.step rfl rfl rfl (xp_I (c := 0) (f := 11) rfl rfl rfl rfl rfl) ?_
    refine Sp.step rfl rfl rfl rfl ?_
    refine Sp.step rfl rfl rfl rfl ?_
    refine Sp.weak (l0 := [some (.ref 40), some (.ref x), some (.int y), some (.int x2), some (.int 0), none]) ⟨rfl, rfl, rfl, rfl, rfl, trivial⟩ ?_
    refine Sp.loopY (pe := 76) (mf := (fun (x13 : (Int32 × XS)) => [some (.ref 40), some (.ref x), some (.int y), some (.int x2), some (.int x13.1), none])) (hf := (fun (x13 : (Int32 × XS)) => hS x13.2 M)) (fun x13 => ?_) (fun x21 => ?_) _ _
    · unfold b30_Engine_raise
      refine Sp.step rfl rfl rfl rfl ?_
      refine Sp.step rfl rfl rfl rfl ?_
      refine Sp.if2 rfl rfl rfl rfl (fun e14 => ?_) (fun e14 => ?_)
      · exact Sp.jmp (l0 := [some (.ref 40), some (.ref x), some (.int y), some (.int x2), some (.int x13.1), none]) ⟨rfl, rfl, rfl, rfl, rfl, trivial⟩ (fun _ _ h => h)
      · refine Sp.step rfl rfl rfl rfl ?_
        refine Sp.guard (fun e15 => ?_)
        refine Sp.step rfl rfl rfl (xg_I (c := 9) (f := 2) rfl rfl e15 rfl) ?_
        refine Sp.if1 rfl rfl rfl rfl (fun e16 => ?_) (fun e16 => ?_)
        · exact Sp.jmp (l0 := [some (.ref 40), some (.ref x), some (.int y), some (.int x2), some (.int x13.1), none]) ⟨rfl, rfl, rfl, rfl, rfl, trivial⟩ (fun _ _ h => h)
        · refine Sp.step rfl rfl rfl rfl ?_
          refine Sp.step rfl rfl rfl rfl ?_
          refine Sp.step rfl rfl rfl rfl ?_
          refine Sp.call rfl rfl rfl (xrecv (c := 0) (by decide) rfl (by decide +kernel)) s_Engine_handlerFor (fun x17 => ⟨_, _, ⟨rfl, rfl⟩, ?_⟩)
          refine Sp.step rfl rfl rfl rfl ?_
          refine Sp.step rfl rfl rfl rfl ?_
          refine Sp.step rfl rfl rfl rfl ?_
          refine Sp.if2 rfl rfl rfl rfl (fun e18 => ?_) (fun e18 => ?_)
          · refine Sp.step rfl rfl rfl rfl ?_
            refine Sp.call rfl rfl rfl (xrecv (c := 9) (by decide) e15 (by decide +kernel)) s_Strand_leave (fun x19 => ⟨_, _, ⟨rfl, rfl⟩, ?_⟩)
            refine Sp.step rfl rfl rfl rfl ?_
            refine Sp.step rfl rfl rfl rfl ?_
            exact Sp.jmp (l0 := [some (.ref 40), some (.ref x), some (.int y), some (.int x2), some (.int (x13.1 + 1)), none]) ⟨rfl, rfl, rfl, rfl, rfl, trivial⟩ (fun _ _ h => h)
          · refine Sp.step rfl rfl rfl rfl ?_
            refine Sp.step rfl rfl rfl rfl ?_
            refine Sp.step rfl rfl rfl rfl ?_
            refine Sp.call rfl rfl rfl (xrecv (c := 9) (by decide) e15 (by decide +kernel)) s_Strand_catchAt (fun x20 => ⟨_, _, ⟨rfl, rfl⟩, ?_⟩)
            exact Sp.vret rfl rfl rfl (fun _ _ h => h)
    · refine Sp.step rfl rfl rfl rfl ?_
      refine Sp.step rfl rfl rfl rfl ?_
      refine Sp.step rfl rfl rfl rfl ?_
      refine Sp.step rfl rfl rfl rfl ?_
      refine Sp.if2 rfl rfl rfl rfl (fun e22 => ?_) (fun e22 => ?_)
      · refine Sp.step rfl rfl rfl rfl ?_
        refine Sp.step rfl rfl rfl rfl ?_
        refine Sp.guard (fun e23 => ?_)
        refine Sp.call rfl rfl rfl (xrecv (c := 9) (by decide) e23 (by decide +kernel)) s_Strand_finish (fun x24 => ⟨_, _, ⟨rfl, rfl⟩, ?_⟩)
        exact Sp.vret rfl rfl rfl (fun _ _ h => h)
      · refine Sp.step rfl rfl rfl rfl ?_
        refine Sp.call rfl rfl rfl (xrecv (c := 0) (by decide) rfl (by decide +kernel)) s_Engine_thrownNumber (fun x25 => ⟨_, _, ⟨rfl, rfl⟩, ?_⟩)
        refine Sp.step rfl rfl rfl rfl ?_
        refine Sp.guard (fun e26 => ?_)
        refine Sp.call rfl rfl rfl (xrecv (c := 9) (by decide) e26 (by decide +kernel)) s_Strand_finish (fun x27 => ⟨_, _, ⟨rfl, rfl⟩, ?_⟩)
        exact Sp.vret rfl rfl rfl (fun _ _ h => h)
def f_Engine_step (x : Int32) (X : XS) : Option XS := (lt (xw X 40 1 0) fun X1 => (if f_Engine_isStrand x X1 = true then (ocz (X1.2.1 50 x.toNatClampNeg) none (fun a4 => (if (xT X1 a4 = some (14, 0)) then ((f_Image_at_51 (X1.1 a4 4) X1).bind fun x7 => (((if 3 < x7 then (if 15 < x7 then (if f_P_jumps x7 = true then ((f_Engine_doJump a4 x7 (X1.1 a4 4) X1).bind fun x12 => some (x12.1, x12.2)) else (if x7 = 26 then ((f_Image_at_51 ((X1.1 a4 4) + 1) X1).bind fun x15 => ((f_Engine_doMake a4 x7 x15 X1).bind fun x16 => some (x16.1, x16.2))) else (if x7 = 31 then ((f_Image_at_51 ((X1.1 a4 4) + 1) X1).bind fun x18 => ((f_Engine_doMake a4 x7 x18 X1).bind fun x19 => some (x19.1, x19.2))) else (if ¬ x7 = 35 then (if f_P_usesField x7 = true then ((f_Engine_doField a4 x7 (X1.1 a4 4) X1).bind fun x23 => some (x23.1, x23.2)) else (if ¬ x7 = 34 then (if 32 ≤ x7 ∧ x7 ≤ 37 then ((f_Engine_doPlace a4 x7 X1).bind fun x28 => some (x28.1, x28.2)) else (if 38 ≤ x7 ∧ x7 ≤ 43 then ((f_Image_at_51 ((X1.1 a4 4) + 1) X1).bind fun x32 => ((f_Engine_doCall a4 x7 x32 X1).bind fun x33 => some (x33.1, x33.2))) else (if ¬ x7 = 48 then (if x7 = 49 then ((f_Strand_pop a4 X1).bind fun x37 => ((f_Engine_doMonitor x37.1 x7 (x + 1) x37.2).bind fun x38 => some (x38.1, x38.2))) else (if ¬ x7 = 50 then (if ¬ x7 = 51 then (if 52 ≤ x7 ∧ x7 ≤ 55 then ((f_Image_at_51 ((X1.1 a4 4) + 1) X1).bind fun x43 => ((f_Engine_doStatic a4 x7 x43 X1).bind fun x44 => some (x44.1, x44.2))) else ((f_Engine_doPlain a4 x7 ((X1.1 a4 4) + 1) X1).bind fun x46 => some (x46.1, x46.2))) else (lt (xw X1 40 1 1) fun X47 => some (0, X47))) else ((f_Strand_pop a4 X1).bind fun x48 => ((f_Engine_doMonitor x48.1 x7 (x + 1) x48.2).bind fun x49 => some (x49.1, x49.2))))) else ((f_Strand_pop a4 X1).bind fun x50 => ((f_Engine_doBegin x50.1 x50.2).bind fun x51 => some (x51.1, x51.2)))))) else ((f_Engine_doLength a4 X1).bind fun x52 => some (x52.1, x52.2)))) else ((f_Image_at_51 ((X1.1 a4 4) + 1) X1).bind fun x53 => ((f_Engine_doMake a4 x7 x53 X1).bind fun x54 => some (x54.1, x54.2))))))) else ((f_Engine_doArithmetic a4 x7 X1).bind fun x55 => some (x55.1, x55.2))) else ((f_Engine_doPlain a4 x7 ((X1.1 a4 4) + 1) X1).bind fun x56 => some (x56.1, x56.2))) : Option (Int32 × XS)).bind fun x57 => (if ¬ x57.1 = 0 then (if x57.1 ≤ 0 then some x57.2 else ((f_Engine_raise a4 x57.1 x57.2).bind fun x60 => some x60)) else (if (xT x57.2 a4 = some (14, 0)) then (lt (xw x57.2 a4 4 ((X1.1 a4 4) + (f_P_bytesOf x7))) fun X62 => some X62) else none)))) else none))) else some X1))
set_option maxRecDepth 100000 in
set_option maxHeartbeats 4000000 in
theorem s_Engine_step {L : Nat} {xs : Nat → Int32} {X : XS} {M : MS} {x : Int32} : Sp (mjOO L xs) 109 0 [some (.ref 40), some (.int x), none, none, none, none] [] (hS X M) (f_Engine_step x X) (KVX M) := by
  unfold f_Engine_step
  refine Sp.step rfl rfl rfl rfl ?_
  refine Sp.step rfl rfl rfl rfl ?_
  refine Sp.step rfl rfl rfl (xp_I (c := 0) (f := 1) rfl rfl rfl rfl rfl) ?_
  refine Sp.step rfl rfl rfl rfl ?_
  refine Sp.step rfl rfl rfl rfl ?_
  refine Sp.callS rfl rfl rfl (xrecv (c := 0) (by decide) rfl (by decide +kernel)) s_Engine_isStrand ⟨rfl, rfl⟩ ?_
  refine Sp.bool (fun e2 => ?_) (fun e2 => ?_)
  · refine Sp.step rfl rfl rfl rfl ?_
    refine Sp.step rfl rfl rfl rfl ?_
    refine Sp.step rfl rfl rfl (xg_F (c := 0) (f := 5) rfl rfl rfl rfl rfl) ?_
    refine Sp.step rfl rfl rfl rfl ?_
    refine Sp.step rfl rfl rfl (xald (t := 4) rfl (by decide) (fun _ => rfl) (isStrand_ix e2)) ?_
    refine Sp.ocrn (fun a4 e5 => ?_)
    refine Sp.step rfl rfl rfl rfl ?_
    refine Sp.step rfl rfl rfl rfl ?_
    refine Sp.guard (fun e6 => ?_)
    refine Sp.step rfl rfl rfl (xg_I (c := 9) (f := 4) rfl rfl e6 rfl) ?_
    refine Sp.step rfl rfl rfl rfl ?_
    refine Sp.step rfl rfl rfl rfl ?_
    refine Sp.step rfl rfl rfl (xg_F (c := 0) (f := 6) rfl rfl rfl rfl rfl) ?_
    refine Sp.step rfl rfl rfl rfl ?_
    refine Sp.call rfl rfl rfl (xrecv (c := 2) (by decide) rfl (by decide +kernel)) s_Image_at_51 (fun x7 => ⟨_, _, ⟨rfl, rfl⟩, ?_⟩)
    refine Sp.step rfl rfl rfl rfl ?_
    refine Sp.step rfl rfl rfl rfl ?_
    refine Sp.step rfl rfl rfl rfl ?_
    refine Sp.piece (pe := 352) (mf := (fun (x57 : Int32 × XS) => [some (.ref 40), none, some (.ref a4), some (.int ((xw X 40 1 0).1 a4 4)), some (.int x7), some (.int x57.1)])) (sf := (fun (x57 : Int32 × XS) => [])) (hf := (fun (x57 : Int32 × XS) => hS x57.2 M)) ?_ (fun x57 => ?_)
    · refine Sp.if2 rfl rfl rfl rfl (fun e8 => ?_) (fun e8 => ?_)
      · refine Sp.step rfl rfl rfl rfl ?_
        refine Sp.step rfl rfl rfl rfl ?_
        refine Sp.if2 rfl rfl rfl rfl (fun e9 => ?_) (fun e9 => ?_)
        · refine Sp.step rfl rfl rfl rfl ?_
          refine Sp.callS rfl rfl rfl rfl s_P_jumps ⟨rfl, rfl⟩ ?_
          refine Sp.bool (fun e10 => ?_) (fun e10 => ?_)
          · refine Sp.step rfl rfl rfl rfl ?_
            refine Sp.step rfl rfl rfl rfl ?_
            refine Sp.step rfl rfl rfl rfl ?_
            refine Sp.step rfl rfl rfl rfl ?_
            refine Sp.step rfl rfl rfl rfl ?_
            refine Sp.call rfl rfl rfl (xrecv (c := 0) (by decide) rfl (by decide +kernel)) s_Engine_doJump (fun x12 => ⟨_, _, ⟨rfl, rfl⟩, ?_⟩)
            refine Sp.step rfl rfl rfl rfl ?_
            refine Sp.step rfl rfl rfl rfl ?_
            exact Sp.jmp (l0 := [some (.ref 40), none, some (.ref a4), some (.int ((xw X 40 1 0).1 a4 4)), some (.int x7), some (.int x12.1)]) ⟨rfl, rfl, rfl, rfl, rfl, trivial⟩ (fun _ _ h => h)
          · refine Sp.step rfl rfl rfl rfl ?_
            refine Sp.step rfl rfl rfl rfl ?_
            refine Sp.step rfl rfl rfl rfl ?_
            refine Sp.if2 rfl rfl rfl rfl (fun e14 => ?_) (fun e14 => ?_)
            · refine Sp.step rfl rfl rfl rfl ?_
              refine Sp.step rfl rfl rfl rfl ?_
              refine Sp.step rfl rfl rfl rfl ?_
              refine Sp.step rfl rfl rfl rfl ?_
              refine Sp.step rfl rfl rfl (xg_F (c := 0) (f := 6) rfl rfl rfl rfl rfl) ?_
              refine Sp.step rfl rfl rfl rfl ?_
              refine Sp.step rfl rfl rfl rfl ?_
              refine Sp.step rfl rfl rfl rfl ?_
              refine Sp.call rfl rfl rfl (xrecv (c := 2) (by decide) rfl (by decide +kernel)) s_Image_at_51 (fun x15 => ⟨_, _, ⟨rfl, rfl⟩, ?_⟩)
              refine Sp.call rfl rfl rfl (xrecv (c := 0) (by decide) rfl (by decide +kernel)) s_Engine_doMake (fun x16 => ⟨_, _, ⟨rfl, rfl⟩, ?_⟩)
              refine Sp.step rfl rfl rfl rfl ?_
              refine Sp.step rfl rfl rfl rfl ?_
              exact Sp.jmp (l0 := [some (.ref 40), none, some (.ref a4), some (.int ((xw X 40 1 0).1 a4 4)), some (.int x7), some (.int x16.1)]) ⟨rfl, rfl, rfl, rfl, rfl, trivial⟩ (fun _ _ h => h)
            · refine Sp.step rfl rfl rfl rfl ?_
              refine Sp.step rfl rfl rfl rfl ?_
              refine Sp.if2 rfl rfl rfl rfl (fun e17 => ?_) (fun e17 => ?_)
              · refine Sp.step rfl rfl rfl rfl ?_
                refine Sp.step rfl rfl rfl rfl ?_
                refine Sp.step rfl rfl rfl rfl ?_
                refine Sp.step rfl rfl rfl rfl ?_
                refine Sp.step rfl rfl rfl (xg_F (c := 0) (f := 6) rfl rfl rfl rfl rfl) ?_
                refine Sp.step rfl rfl rfl rfl ?_
                refine Sp.step rfl rfl rfl rfl ?_
                refine Sp.step rfl rfl rfl rfl ?_
                refine Sp.call rfl rfl rfl (xrecv (c := 2) (by decide) rfl (by decide +kernel)) s_Image_at_51 (fun x18 => ⟨_, _, ⟨rfl, rfl⟩, ?_⟩)
                refine Sp.call rfl rfl rfl (xrecv (c := 0) (by decide) rfl (by decide +kernel)) s_Engine_doMake (fun x19 => ⟨_, _, ⟨rfl, rfl⟩, ?_⟩)
                refine Sp.step rfl rfl rfl rfl ?_
                refine Sp.step rfl rfl rfl rfl ?_
                exact Sp.jmp (l0 := [some (.ref 40), none, some (.ref a4), some (.int ((xw X 40 1 0).1 a4 4)), some (.int x7), some (.int x19.1)]) ⟨rfl, rfl, rfl, rfl, rfl, trivial⟩ (fun _ _ h => h)
              · refine Sp.step rfl rfl rfl rfl ?_
                refine Sp.step rfl rfl rfl rfl ?_
                refine Sp.if2 rfl rfl rfl rfl (fun e20 => ?_) (fun e20 => ?_)
                · refine Sp.step rfl rfl rfl rfl ?_
                  refine Sp.callS rfl rfl rfl rfl s_P_usesField ⟨rfl, rfl⟩ ?_
                  refine Sp.bool (fun e21 => ?_) (fun e21 => ?_)
                  · refine Sp.step rfl rfl rfl rfl ?_
                    refine Sp.step rfl rfl rfl rfl ?_
                    refine Sp.step rfl rfl rfl rfl ?_
                    refine Sp.step rfl rfl rfl rfl ?_
                    refine Sp.step rfl rfl rfl rfl ?_
                    refine Sp.call rfl rfl rfl (xrecv (c := 0) (by decide) rfl (by decide +kernel)) s_Engine_doField (fun x23 => ⟨_, _, ⟨rfl, rfl⟩, ?_⟩)
                    refine Sp.step rfl rfl rfl rfl ?_
                    refine Sp.step rfl rfl rfl rfl ?_
                    exact Sp.jmp (l0 := [some (.ref 40), none, some (.ref a4), some (.int ((xw X 40 1 0).1 a4 4)), some (.int x7), some (.int x23.1)]) ⟨rfl, rfl, rfl, rfl, rfl, trivial⟩ (fun _ _ h => h)
                  · refine Sp.step rfl rfl rfl rfl ?_
                    refine Sp.step rfl rfl rfl rfl ?_
                    refine Sp.step rfl rfl rfl rfl ?_
                    refine Sp.if2 rfl rfl rfl rfl (fun e25 => ?_) (fun e25 => ?_)
                    · refine Sp.step rfl rfl rfl rfl ?_
                      refine Sp.step rfl rfl rfl rfl ?_
                      refine Sp.step rfl rfl rfl rfl ?_
                      refine Sp.callP rfl rfl rfl rfl s_within (fun e26 => ?_) (fun e26 => ?_)
                      · refine Sp.step rfl rfl rfl rfl ?_
                        refine Sp.step rfl rfl rfl rfl ?_
                        refine Sp.step rfl rfl rfl rfl ?_
                        refine Sp.step rfl rfl rfl rfl ?_
                        refine Sp.call rfl rfl rfl (xrecv (c := 0) (by decide) rfl (by decide +kernel)) s_Engine_doPlace (fun x28 => ⟨_, _, ⟨rfl, rfl⟩, ?_⟩)
                        refine Sp.step rfl rfl rfl rfl ?_
                        refine Sp.step rfl rfl rfl rfl ?_
                        exact Sp.jmp (l0 := [some (.ref 40), none, some (.ref a4), some (.int ((xw X 40 1 0).1 a4 4)), some (.int x7), some (.int x28.1)]) ⟨rfl, rfl, rfl, rfl, rfl, trivial⟩ (fun _ _ h => h)
                      · refine Sp.step rfl rfl rfl rfl ?_
                        refine Sp.step rfl rfl rfl rfl ?_
                        refine Sp.step rfl rfl rfl rfl ?_
                        refine Sp.step rfl rfl rfl rfl ?_
                        refine Sp.callP rfl rfl rfl rfl s_within (fun e30 => ?_) (fun e30 => ?_)
                        · refine Sp.step rfl rfl rfl rfl ?_
                          refine Sp.step rfl rfl rfl rfl ?_
                          refine Sp.step rfl rfl rfl rfl ?_
                          refine Sp.step rfl rfl rfl rfl ?_
                          refine Sp.step rfl rfl rfl rfl ?_
                          refine Sp.step rfl rfl rfl (xg_F (c := 0) (f := 6) rfl rfl rfl rfl rfl) ?_
                          refine Sp.step rfl rfl rfl rfl ?_
                          refine Sp.step rfl rfl rfl rfl ?_
                          refine Sp.step rfl rfl rfl rfl ?_
                          refine Sp.call rfl rfl rfl (xrecv (c := 2) (by decide) rfl (by decide +kernel)) s_Image_at_51 (fun x32 => ⟨_, _, ⟨rfl, rfl⟩, ?_⟩)
                          refine Sp.call rfl rfl rfl (xrecv (c := 0) (by decide) rfl (by decide +kernel)) s_Engine_doCall (fun x33 => ⟨_, _, ⟨rfl, rfl⟩, ?_⟩)
                          refine Sp.step rfl rfl rfl rfl ?_
                          refine Sp.step rfl rfl rfl rfl ?_
                          exact Sp.jmp (l0 := [some (.ref 40), none, some (.ref a4), some (.int ((xw X 40 1 0).1 a4 4)), some (.int x7), some (.int x33.1)]) ⟨rfl, rfl, rfl, rfl, rfl, trivial⟩ (fun _ _ h => h)
                        · refine Sp.step rfl rfl rfl rfl ?_
                          refine Sp.step rfl rfl rfl rfl ?_
                          refine Sp.step rfl rfl rfl rfl ?_
                          refine Sp.if2 rfl rfl rfl rfl (fun e35 => ?_) (fun e35 => ?_)
                          · refine Sp.step rfl rfl rfl rfl ?_
                            refine Sp.step rfl rfl rfl rfl ?_
                            refine Sp.if2 rfl rfl rfl rfl (fun e36 => ?_) (fun e36 => ?_)
                            · refine Sp.step rfl rfl rfl rfl ?_
                              refine Sp.step rfl rfl rfl rfl ?_
                              refine Sp.call rfl rfl rfl (xrecv (c := 9) (by decide) e6 (by decide +kernel)) s_Strand_pop (fun x37 => ⟨_, _, ⟨rfl, rfl⟩, ?_⟩)
                              refine Sp.step rfl rfl rfl rfl ?_
                              refine Sp.step rfl rfl rfl rfl ?_
                              refine Sp.step rfl rfl rfl rfl ?_
                              refine Sp.step rfl rfl rfl rfl ?_
                              refine Sp.call rfl rfl rfl (xrecv (c := 0) (by decide) rfl (by decide +kernel)) s_Engine_doMonitor (fun x38 => ⟨_, _, ⟨rfl, rfl⟩, ?_⟩)
                              refine Sp.step rfl rfl rfl rfl ?_
                              refine Sp.step rfl rfl rfl rfl ?_
                              exact Sp.jmp (l0 := [some (.ref 40), none, some (.ref a4), some (.int ((xw X 40 1 0).1 a4 4)), some (.int x7), some (.int x38.1)]) ⟨rfl, rfl, rfl, rfl, rfl, trivial⟩ (fun _ _ h => h)
                            · refine Sp.step rfl rfl rfl rfl ?_
                              refine Sp.step rfl rfl rfl rfl ?_
                              refine Sp.if2 rfl rfl rfl rfl (fun e39 => ?_) (fun e39 => ?_)
                              · refine Sp.step rfl rfl rfl rfl ?_
                                refine Sp.step rfl rfl rfl rfl ?_
                                refine Sp.if2 rfl rfl rfl rfl (fun e40 => ?_) (fun e40 => ?_)
                                · refine Sp.step rfl rfl rfl rfl ?_
                                  refine Sp.step rfl rfl rfl rfl ?_
                                  refine Sp.step rfl rfl rfl rfl ?_
                                  refine Sp.callP rfl rfl rfl rfl s_within (fun e41 => ?_) (fun e41 => ?_)
                                  · refine Sp.step rfl rfl rfl rfl ?_
                                    refine Sp.step rfl rfl rfl rfl ?_
                                    refine Sp.step rfl rfl rfl rfl ?_
                                    refine Sp.step rfl rfl rfl rfl ?_
                                    refine Sp.step rfl rfl rfl rfl ?_
                                    refine Sp.step rfl rfl rfl (xg_F (c := 0) (f := 6) rfl rfl rfl rfl rfl) ?_
                                    refine Sp.step rfl rfl rfl rfl ?_
                                    refine Sp.step rfl rfl rfl rfl ?_
                                    refine Sp.step rfl rfl rfl rfl ?_
                                    refine Sp.call rfl rfl rfl (xrecv (c := 2) (by decide) rfl (by decide +kernel)) s_Image_at_51 (fun x43 => ⟨_, _, ⟨rfl, rfl⟩, ?_⟩)
                                    refine Sp.call rfl rfl rfl (xrecv (c := 0) (by decide) rfl (by decide +kernel)) s_Engine_doStatic (fun x44 => ⟨_, _, ⟨rfl, rfl⟩, ?_⟩)
                                    refine Sp.step rfl rfl rfl rfl ?_
                                    refine Sp.step rfl rfl rfl rfl ?_
                                    exact Sp.jmp (l0 := [some (.ref 40), none, some (.ref a4), some (.int ((xw X 40 1 0).1 a4 4)), some (.int x7), some (.int x44.1)]) ⟨rfl, rfl, rfl, rfl, rfl, trivial⟩ (fun _ _ h => h)
                                  · refine Sp.step rfl rfl rfl rfl ?_
                                    refine Sp.step rfl rfl rfl rfl ?_
                                    refine Sp.step rfl rfl rfl rfl ?_
                                    refine Sp.step rfl rfl rfl rfl ?_
                                    refine Sp.step rfl rfl rfl rfl ?_
                                    refine Sp.step rfl rfl rfl rfl ?_
                                    refine Sp.step rfl rfl rfl rfl ?_
                                    refine Sp.call rfl rfl rfl (xrecv (c := 0) (by decide) rfl (by decide +kernel)) s_Engine_doPlain (fun x46 => ⟨_, _, ⟨rfl, rfl⟩, ?_⟩)
                                    refine Sp.step rfl rfl rfl rfl ?_
                                    exact Sp.jmp (l0 := [some (.ref 40), none, some (.ref a4), some (.int ((xw X 40 1 0).1 a4 4)), some (.int x7), some (.int x46.1)]) ⟨rfl, rfl, rfl, rfl, rfl, trivial⟩ (fun _ _ h => h)
                                · refine Sp.step rfl rfl rfl rfl ?_
                                  refine Sp.step rfl rfl rfl rfl ?_
                                  refine Sp.step rfl rfl rfl (xp_I (c := 0) (f := 1) rfl rfl rfl rfl rfl) ?_
                                  refine Sp.step rfl rfl rfl rfl ?_
                                  refine Sp.step rfl rfl rfl rfl ?_
                                  refine Sp.step rfl rfl rfl rfl ?_
                                  exact Sp.jmp (l0 := [some (.ref 40), none, some (.ref a4), some (.int ((xw X 40 1 0).1 a4 4)), some (.int x7), some (.int 0)]) ⟨rfl, rfl, rfl, rfl, rfl, trivial⟩ (fun _ _ h => h)
                              · refine Sp.step rfl rfl rfl rfl ?_
                                refine Sp.step rfl rfl rfl rfl ?_
                                refine Sp.call rfl rfl rfl (xrecv (c := 9) (by decide) e6 (by decide +kernel)) s_Strand_pop (fun x48 => ⟨_, _, ⟨rfl, rfl⟩, ?_⟩)
                                refine Sp.step rfl rfl rfl rfl ?_
                                refine Sp.step rfl rfl rfl rfl ?_
                                refine Sp.step rfl rfl rfl rfl ?_
                                refine Sp.step rfl rfl rfl rfl ?_
                                refine Sp.call rfl rfl rfl (xrecv (c := 0) (by decide) rfl (by decide +kernel)) s_Engine_doMonitor (fun x49 => ⟨_, _, ⟨rfl, rfl⟩, ?_⟩)
                                refine Sp.step rfl rfl rfl rfl ?_
                                refine Sp.step rfl rfl rfl rfl ?_
                                exact Sp.jmp (l0 := [some (.ref 40), none, some (.ref a4), some (.int ((xw X 40 1 0).1 a4 4)), some (.int x7), some (.int x49.1)]) ⟨rfl, rfl, rfl, rfl, rfl, trivial⟩ (fun _ _ h => h)
                          · refine Sp.step rfl rfl rfl rfl ?_
                            refine Sp.step rfl rfl rfl rfl ?_
                            refine Sp.call rfl rfl rfl (xrecv (c := 9) (by decide) e6 (by decide +kernel)) s_Strand_pop (fun x50 => ⟨_, _, ⟨rfl, rfl⟩, ?_⟩)
                            refine Sp.call rfl rfl rfl (xrecv (c := 0) (by decide) rfl (by decide +kernel)) s_Engine_doBegin (fun x51 => ⟨_, _, ⟨rfl, rfl⟩, ?_⟩)
                            refine Sp.step rfl rfl rfl rfl ?_
                            refine Sp.step rfl rfl rfl rfl ?_
                            exact Sp.jmp (l0 := [some (.ref 40), none, some (.ref a4), some (.int ((xw X 40 1 0).1 a4 4)), some (.int x7), some (.int x51.1)]) ⟨rfl, rfl, rfl, rfl, rfl, trivial⟩ (fun _ _ h => h)
                    · refine Sp.step rfl rfl rfl rfl ?_
                      refine Sp.step rfl rfl rfl rfl ?_
                      refine Sp.call rfl rfl rfl (xrecv (c := 0) (by decide) rfl (by decide +kernel)) s_Engine_doLength (fun x52 => ⟨_, _, ⟨rfl, rfl⟩, ?_⟩)
                      refine Sp.step rfl rfl rfl rfl ?_
                      refine Sp.step rfl rfl rfl rfl ?_
                      exact Sp.jmp (l0 := [some (.ref 40), none, some (.ref a4), some (.int ((xw X 40 1 0).1 a4 4)), some (.int x7), some (.int x52.1)]) ⟨rfl, rfl, rfl, rfl, rfl, trivial⟩ (fun _ _ h => h)
                · refine Sp.step rfl rfl rfl rfl ?_
                  refine Sp.step rfl rfl rfl rfl ?_
                  refine Sp.step rfl rfl rfl rfl ?_
                  refine Sp.step rfl rfl rfl rfl ?_
                  refine Sp.step rfl rfl rfl (xg_F (c := 0) (f := 6) rfl rfl rfl rfl rfl) ?_
                  refine Sp.step rfl rfl rfl rfl ?_
                  refine Sp.step rfl rfl rfl rfl ?_
                  refine Sp.step rfl rfl rfl rfl ?_
                  refine Sp.call rfl rfl rfl (xrecv (c := 2) (by decide) rfl (by decide +kernel)) s_Image_at_51 (fun x53 => ⟨_, _, ⟨rfl, rfl⟩, ?_⟩)
                  refine Sp.call rfl rfl rfl (xrecv (c := 0) (by decide) rfl (by decide +kernel)) s_Engine_doMake (fun x54 => ⟨_, _, ⟨rfl, rfl⟩, ?_⟩)
                  refine Sp.step rfl rfl rfl rfl ?_
                  refine Sp.step rfl rfl rfl rfl ?_
                  exact Sp.jmp (l0 := [some (.ref 40), none, some (.ref a4), some (.int ((xw X 40 1 0).1 a4 4)), some (.int x7), some (.int x54.1)]) ⟨rfl, rfl, rfl, rfl, rfl, trivial⟩ (fun _ _ h => h)
        · refine Sp.step rfl rfl rfl rfl ?_
          refine Sp.step rfl rfl rfl rfl ?_
          refine Sp.step rfl rfl rfl rfl ?_
          refine Sp.call rfl rfl rfl (xrecv (c := 0) (by decide) rfl (by decide +kernel)) s_Engine_doArithmetic (fun x55 => ⟨_, _, ⟨rfl, rfl⟩, ?_⟩)
          refine Sp.step rfl rfl rfl rfl ?_
          refine Sp.step rfl rfl rfl rfl ?_
          exact Sp.jmp (l0 := [some (.ref 40), none, some (.ref a4), some (.int ((xw X 40 1 0).1 a4 4)), some (.int x7), some (.int x55.1)]) ⟨rfl, rfl, rfl, rfl, rfl, trivial⟩ (fun _ _ h => h)
      · refine Sp.step rfl rfl rfl rfl ?_
        refine Sp.step rfl rfl rfl rfl ?_
        refine Sp.step rfl rfl rfl rfl ?_
        refine Sp.step rfl rfl rfl rfl ?_
        refine Sp.step rfl rfl rfl rfl ?_
        refine Sp.step rfl rfl rfl rfl ?_
        refine Sp.call rfl rfl rfl (xrecv (c := 0) (by decide) rfl (by decide +kernel)) s_Engine_doPlain (fun x56 => ⟨_, _, ⟨rfl, rfl⟩, ?_⟩)
        refine Sp.step rfl rfl rfl rfl ?_
        refine Sp.step rfl rfl rfl rfl ?_
        exact Sp.jmp (l0 := [some (.ref 40), none, some (.ref a4), some (.int ((xw X 40 1 0).1 a4 4)), some (.int x7), some (.int x56.1)]) ⟨rfl, rfl, rfl, rfl, rfl, trivial⟩ (fun _ _ h => h)
    · refine Sp.step rfl rfl rfl rfl ?_
      refine Sp.if1 rfl rfl rfl rfl (fun e58 => ?_) (fun e58 => ?_)
      · refine Sp.step rfl rfl rfl rfl ?_
        refine Sp.if1 rfl rfl rfl rfl (fun e59 => ?_) (fun e59 => ?_)
        · exact Sp.vret rfl rfl rfl (fun _ _ h => h)
        · refine Sp.step rfl rfl rfl rfl ?_
          refine Sp.step rfl rfl rfl rfl ?_
          refine Sp.step rfl rfl rfl rfl ?_
          refine Sp.call rfl rfl rfl (xrecv (c := 0) (by decide) rfl (by decide +kernel)) s_Engine_raise (fun x60 => ⟨_, _, ⟨rfl, rfl⟩, ?_⟩)
          exact Sp.vret rfl rfl rfl (fun _ _ h => h)
      · refine Sp.step rfl rfl rfl rfl ?_
        refine Sp.step rfl rfl rfl rfl ?_
        refine Sp.step rfl rfl rfl rfl ?_
        refine Sp.callS rfl rfl rfl rfl s_P_bytesOf ⟨rfl, rfl⟩ ?_
        refine Sp.step rfl rfl rfl rfl ?_
        refine Sp.guard (fun e61 => ?_)
        refine Sp.step rfl rfl rfl (xp_I (c := 9) (f := 4) rfl rfl e61 rfl rfl) ?_
        refine Sp.step rfl rfl rfl rfl ?_
        exact Sp.vret rfl rfl rfl (fun _ _ h => h)
  · refine Sp.step rfl rfl rfl rfl ?_
    exact Sp.vret rfl rfl rfl (fun _ _ h => h)
def b7_Turns_beginNext (X : XS) (x1 : (Int32 × Int32)) : Option ((Int32 × Int32) ⊕ (Bool × XS)) := (if X.1 40 2 ≤ x1.2 then some (.inr (false, X)) else (((if X.1 40 2 ≤ x1.1 + 1 then some 0 else some (x1.1 + 1)) : Option (Int32)).bind fun x4 => ((f_Engine_canGo x4 X).bind fun x5 => (if x5 = true then (lt (xw X 59 2 x4) fun X8 => (lt (xw X8 59 3 (X8.1 59 4)) fun X9 => some (.inr (true, X9)))) else some (.inl (x4, x1.2 + 1))))))
def f_Turns_beginNext (X : XS) : Option (Bool × XS) := (lp (b7_Turns_beginNext X) 10000 (X.1 59 2, (0 : Int32)))
set_option maxRecDepth 100000 in
set_option maxHeartbeats 4000000 in
theorem s_Turns_beginNext {L : Nat} {xs : Nat → Int32} {X : XS} {M : MS} : Sp (mjOO L xs) 304 0 [some (.ref 59), none, none] [] (hS X M) (f_Turns_beginNext X) (KBX M) := by
  unfold f_Turns_beginNext
  refine Sp.step rfl rfl rfl rfl ?_
  refine Sp.step rfl rfl rfl (xg_I (c := 10) (f := 2) rfl rfl rfl rfl) ?_
  refine Sp.step rfl rfl rfl rfl ?_
  refine Sp.step rfl rfl rfl rfl ?_
  refine Sp.step rfl rfl rfl rfl ?_
  refine Sp.weak (l0 := [some (.ref 59), some (.int (X.1 59 2)), some (.int 0)]) ⟨rfl, rfl, rfl, trivial⟩ ?_
  refine Sp.loopL (mf := (fun (x1 : (Int32 × Int32)) => [some (.ref 59), some (.int x1.1), some (.int x1.2)])) (hf := (fun (x1 : (Int32 × Int32)) => hS X M)) (fun x1 => ?_) _ _
  unfold b7_Turns_beginNext
  refine Sp.step rfl rfl rfl rfl ?_
  refine Sp.step rfl rfl rfl rfl ?_
  refine Sp.step rfl rfl rfl (xg_F (c := 10) (f := 1) rfl rfl rfl rfl rfl) ?_
  refine Sp.step rfl rfl rfl (xg_I (c := 0) (f := 2) rfl rfl rfl rfl) ?_
  refine Sp.if2 rfl rfl rfl rfl (fun e2 => ?_) (fun e2 => ?_)
  · refine Sp.step rfl rfl rfl rfl ?_
    exact Sp.iret rfl rfl rfl rfl (fun _ _ h => h)
  · refine Sp.step rfl rfl rfl rfl ?_
    refine Sp.step rfl rfl rfl rfl ?_
    refine Sp.step rfl rfl rfl rfl ?_
    refine Sp.step rfl rfl rfl rfl ?_
    refine Sp.step rfl rfl rfl (xg_F (c := 10) (f := 1) rfl rfl rfl rfl rfl) ?_
    refine Sp.step rfl rfl rfl (xg_I (c := 0) (f := 2) rfl rfl rfl rfl) ?_
    refine Sp.piece (pe := 38) (mf := (fun (x4 : Int32) => [some (.ref 59), none, some (.int x1.2)])) (sf := (fun (x4 : Int32) => [.int x4])) (hf := (fun (x4 : Int32) => hS X M)) ?_ (fun x4 => ?_)
    · refine Sp.if2 rfl rfl rfl rfl (fun e3 => ?_) (fun e3 => ?_)
      · refine Sp.step rfl rfl rfl rfl ?_
        exact Sp.jmp (l0 := [some (.ref 59), none, some (.int x1.2)]) ⟨rfl, rfl, trivial⟩ (fun _ _ h => h)
      · refine Sp.step rfl rfl rfl rfl ?_
        refine Sp.step rfl rfl rfl rfl ?_
        refine Sp.step rfl rfl rfl rfl ?_
        refine Sp.step rfl rfl rfl rfl ?_
        exact Sp.jmp (l0 := [some (.ref 59), none, some (.int x1.2)]) ⟨rfl, rfl, trivial⟩ (fun _ _ h => h)
    · refine Sp.step rfl rfl rfl rfl ?_
      refine Sp.step rfl rfl rfl rfl ?_
      refine Sp.step rfl rfl rfl (xg_F (c := 10) (f := 1) rfl rfl rfl rfl rfl) ?_
      refine Sp.step rfl rfl rfl rfl ?_
      refine Sp.call rfl rfl rfl (xrecv (c := 0) (by decide) rfl (by decide +kernel)) s_Engine_canGo (fun x5 => ⟨_, _, ⟨rfl, rfl⟩, ?_⟩)
      refine Sp.bool (fun e6 => ?_) (fun e6 => ?_)
      · refine Sp.step rfl rfl rfl rfl ?_
        refine Sp.step rfl rfl rfl rfl ?_
        refine Sp.step rfl rfl rfl rfl ?_
        refine Sp.step rfl rfl rfl (xp_I (c := 10) (f := 2) rfl rfl rfl rfl rfl) ?_
        refine Sp.step rfl rfl rfl rfl ?_
        refine Sp.step rfl rfl rfl rfl ?_
        refine Sp.step rfl rfl rfl (xg_I (c := 10) (f := 4) rfl rfl rfl rfl) ?_
        refine Sp.step rfl rfl rfl (xp_I (c := 10) (f := 3) rfl rfl rfl rfl rfl) ?_
        refine Sp.step rfl rfl rfl rfl ?_
        exact Sp.iret rfl rfl rfl rfl (fun _ _ h => h)
      · refine Sp.step rfl rfl rfl rfl ?_
        refine Sp.step rfl rfl rfl rfl ?_
        refine Sp.step rfl rfl rfl rfl ?_
        exact Sp.jmp (l0 := [some (.ref 59), some (.int x4), some (.int (x1.2 + 1))]) ⟨rfl, rfl, rfl, trivial⟩ (fun _ _ h => h)
def b2_Turns_advance (x : Int32) (x19 : (Int32 × XS)) : Option ((Int32 × XS) ⊕ (Int32 × XS)) := (if x ≤ x19.1 then some (.inr (x19.1, x19.2)) else ((f_Turns_goesOn x19.2).bind fun x21 => (if x21 = true then ((f_Engine_step (x19.2.1 59 2) x19.2).bind fun x24 => (if x24.1 40 1 = 0 then (lt (xw x24 59 3 ((x24.1 59 3) - 1)) fun X26 => some (.inl (x19.1 + 1, X26))) else (lt (xw x24 59 3 0) fun X27 => some (.inl (x19.1 + 1, X27))))) else ((f_Turns_beginNext x19.2).bind fun x29 => (if x29.1 = true then ((f_Engine_step (x29.2.1 59 2) x29.2).bind fun x32 => (if x32.1 40 1 = 0 then (lt (xw x32 59 3 ((x32.1 59 3) - 1)) fun X34 => some (.inl (x19.1 + 1, X34))) else (lt (xw x32 59 3 0) fun X35 => some (.inl (x19.1 + 1, X35))))) else some (.inr (x19.1, x29.2)))))))
def f_Turns_advance (x : Int32) (X : XS) : Option (Int32 × XS) := ((lp (b2_Turns_advance x) 10000 ((0 : Int32), X)).bind fun x37 => (lt (xw x37.2 59 0 ((x37.2.1 59 0) + x37.1)) fun X38 => some (x37.1, X38)))
set_option maxRecDepth 100000 in
set_option maxHeartbeats 4000000 in
theorem s_Turns_advance {L : Nat} {xs : Nat → Int32} {X : XS} {M : MS} {x : Int32} : Sp (mjOO L xs) 302 0 [some (.ref 59), some (.int x), none] [] (hS X M) (f_Turns_advance x X) (KEX M) := by
  unfold f_Turns_advance
  refine Sp.step rfl rfl rfl rfl ?_
  refine Sp.step rfl rfl rfl rfl ?_
  refine Sp.weak (l0 := [some (.ref 59), some (.int x), some (.int 0)]) ⟨rfl, rfl, rfl, trivial⟩ ?_
  refine Sp.loopX (pe := 62) (mf := (fun (x19 : (Int32 × XS)) => [some (.ref 59), some (.int x), some (.int x19.1)])) (hf := (fun (x19 : (Int32 × XS)) => hS x19.2 M)) (fun x19 => ?_) (fun x37 => ?_) _ _
  · unfold b2_Turns_advance
    refine Sp.step rfl rfl rfl rfl ?_
    refine Sp.step rfl rfl rfl rfl ?_
    refine Sp.if2 rfl rfl rfl rfl (fun e20 => ?_) (fun e20 => ?_)
    · exact Sp.jmp (l0 := [some (.ref 59), some (.int x), some (.int x19.1)]) ⟨rfl, rfl, rfl, trivial⟩ (fun _ _ h => h)
    · refine Sp.step rfl rfl rfl rfl ?_
      refine Sp.call rfl rfl rfl (xrecv (c := 10) (by decide) rfl (by decide +kernel)) s_Turns_goesOn (fun x21 => ⟨_, _, ⟨rfl, rfl⟩, ?_⟩)
      refine Sp.bool (fun e22 => ?_) (fun e22 => ?_)
      · refine Sp.step rfl rfl rfl rfl ?_
        refine Sp.step rfl rfl rfl rfl ?_
        refine Sp.step rfl rfl rfl (xg_F (c := 10) (f := 1) rfl rfl rfl rfl rfl) ?_
        refine Sp.step rfl rfl rfl rfl ?_
        refine Sp.step rfl rfl rfl (xg_I (c := 10) (f := 2) rfl rfl rfl rfl) ?_
        refine Sp.call rfl rfl rfl (xrecv (c := 0) (by decide) rfl (by decide +kernel)) s_Engine_step (fun x24 => ⟨_, _, ⟨rfl, rfl⟩, ?_⟩)
        refine Sp.step rfl rfl rfl rfl ?_
        refine Sp.step rfl rfl rfl rfl ?_
        refine Sp.step rfl rfl rfl (xg_F (c := 10) (f := 1) rfl rfl rfl rfl rfl) ?_
        refine Sp.step rfl rfl rfl (xg_I (c := 0) (f := 1) rfl rfl rfl rfl) ?_
        refine Sp.if1 rfl rfl rfl rfl (fun e25 => ?_) (fun e25 => ?_)
        · refine Sp.step rfl rfl rfl rfl ?_
          refine Sp.step rfl rfl rfl (xg_I (c := 10) (f := 3) rfl rfl rfl rfl) ?_
          refine Sp.step rfl rfl rfl rfl ?_
          refine Sp.step rfl rfl rfl rfl ?_
          refine Sp.step rfl rfl rfl (xp_I (c := 10) (f := 3) rfl rfl rfl rfl rfl) ?_
          refine Sp.step rfl rfl rfl rfl ?_
          refine Sp.step rfl rfl rfl rfl ?_
          exact Sp.jmp (l0 := [some (.ref 59), some (.int x), some (.int (x19.1 + 1))]) ⟨rfl, rfl, rfl, trivial⟩ (fun _ _ h => h)
        · refine Sp.step rfl rfl rfl rfl ?_
          refine Sp.step rfl rfl rfl rfl ?_
          refine Sp.step rfl rfl rfl (xp_I (c := 10) (f := 3) rfl rfl rfl rfl rfl) ?_
          refine Sp.step rfl rfl rfl rfl ?_
          refine Sp.step rfl rfl rfl rfl ?_
          exact Sp.jmp (l0 := [some (.ref 59), some (.int x), some (.int (x19.1 + 1))]) ⟨rfl, rfl, rfl, trivial⟩ (fun _ _ h => h)
      · refine Sp.step rfl rfl rfl rfl ?_
        refine Sp.step rfl rfl rfl rfl ?_
        refine Sp.call rfl rfl rfl (xrecv (c := 10) (by decide) rfl (by decide +kernel)) s_Turns_beginNext (fun x29 => ⟨_, _, ⟨rfl, rfl⟩, ?_⟩)
        refine Sp.bool (fun e30 => ?_) (fun e30 => ?_)
        · refine Sp.step rfl rfl rfl rfl ?_
          refine Sp.step rfl rfl rfl rfl ?_
          refine Sp.step rfl rfl rfl (xg_F (c := 10) (f := 1) rfl rfl rfl rfl rfl) ?_
          refine Sp.step rfl rfl rfl rfl ?_
          refine Sp.step rfl rfl rfl (xg_I (c := 10) (f := 2) rfl rfl rfl rfl) ?_
          refine Sp.call rfl rfl rfl (xrecv (c := 0) (by decide) rfl (by decide +kernel)) s_Engine_step (fun x32 => ⟨_, _, ⟨rfl, rfl⟩, ?_⟩)
          refine Sp.step rfl rfl rfl rfl ?_
          refine Sp.step rfl rfl rfl rfl ?_
          refine Sp.step rfl rfl rfl (xg_F (c := 10) (f := 1) rfl rfl rfl rfl rfl) ?_
          refine Sp.step rfl rfl rfl (xg_I (c := 0) (f := 1) rfl rfl rfl rfl) ?_
          refine Sp.if1 rfl rfl rfl rfl (fun e33 => ?_) (fun e33 => ?_)
          · refine Sp.step rfl rfl rfl rfl ?_
            refine Sp.step rfl rfl rfl (xg_I (c := 10) (f := 3) rfl rfl rfl rfl) ?_
            refine Sp.step rfl rfl rfl rfl ?_
            refine Sp.step rfl rfl rfl rfl ?_
            refine Sp.step rfl rfl rfl (xp_I (c := 10) (f := 3) rfl rfl rfl rfl rfl) ?_
            refine Sp.step rfl rfl rfl rfl ?_
            refine Sp.step rfl rfl rfl rfl ?_
            exact Sp.jmp (l0 := [some (.ref 59), some (.int x), some (.int (x19.1 + 1))]) ⟨rfl, rfl, rfl, trivial⟩ (fun _ _ h => h)
          · refine Sp.step rfl rfl rfl rfl ?_
            refine Sp.step rfl rfl rfl rfl ?_
            refine Sp.step rfl rfl rfl (xp_I (c := 10) (f := 3) rfl rfl rfl rfl rfl) ?_
            refine Sp.step rfl rfl rfl rfl ?_
            refine Sp.step rfl rfl rfl rfl ?_
            exact Sp.jmp (l0 := [some (.ref 59), some (.int x), some (.int (x19.1 + 1))]) ⟨rfl, rfl, rfl, trivial⟩ (fun _ _ h => h)
        · refine Sp.step rfl rfl rfl rfl ?_
          exact Sp.jmp (l0 := [some (.ref 59), some (.int x), some (.int x19.1)]) ⟨rfl, rfl, rfl, trivial⟩ (fun _ _ h => h)
  · refine Sp.step rfl rfl rfl rfl ?_
    refine Sp.step rfl rfl rfl rfl ?_
    refine Sp.step rfl rfl rfl (xg_I (c := 10) (f := 0) rfl rfl rfl rfl) ?_
    refine Sp.step rfl rfl rfl rfl ?_
    refine Sp.step rfl rfl rfl rfl ?_
    refine Sp.step rfl rfl rfl (xp_I (c := 10) (f := 0) rfl rfl rfl rfl rfl) ?_
    refine Sp.step rfl rfl rfl rfl ?_
    exact Sp.iret rfl rfl rfl rfl (fun _ _ h => h)
def f_P_run (x : Int32) (X : XS) : Option (Int32 × XS) := (if X.1 40 0 = 0 then some ((-1), X) else (if 1 ≤ x ∧ x ≤ 5000 then ((f_Turns_advance x X).bind fun x4 => some (x4.1, x4.2)) else some ((-1), X)))
set_option maxRecDepth 100000 in
set_option maxHeartbeats 4000000 in
theorem s_P_run {L : Nat} {xs : Nat → Int32} {X : XS} {M : MS} {x : Int32} : Sp (mjOO L xs) 11 0 [some (.ref 0), some (.int x)] [] (hS X M) (f_P_run x X) (KEX M) := by
  unfold f_P_run
  refine Sp.step rfl rfl rfl rfl ?_
  refine Sp.step rfl rfl rfl (xg_F (c := 11) (f := 4) rfl rfl rfl rfl rfl) ?_
  refine Sp.step rfl rfl rfl (xg_I (c := 0) (f := 0) rfl rfl rfl rfl) ?_
  refine Sp.if1 rfl rfl rfl rfl (fun e1 => ?_) (fun e1 => ?_)
  · refine Sp.step rfl rfl rfl rfl ?_
    exact Sp.iret rfl rfl rfl rfl (fun _ _ h => h)
  · refine Sp.step rfl rfl rfl rfl ?_
    refine Sp.step rfl rfl rfl rfl ?_
    refine Sp.step rfl rfl rfl rfl ?_
    refine Sp.callP rfl rfl rfl rfl s_within (fun e2 => ?_) (fun e2 => ?_)
    · refine Sp.step rfl rfl rfl rfl ?_
      refine Sp.step rfl rfl rfl rfl ?_
      refine Sp.step rfl rfl rfl (xg_F (c := 11) (f := 5) rfl rfl rfl rfl rfl) ?_
      refine Sp.step rfl rfl rfl rfl ?_
      refine Sp.call rfl rfl rfl (xrecv (c := 10) (by decide) rfl (by decide +kernel)) s_Turns_advance (fun x4 => ⟨_, _, ⟨rfl, rfl⟩, ?_⟩)
      refine Sp.step rfl rfl rfl rfl ?_
      exact Sp.iret rfl rfl rfl rfl (fun _ _ h => h)
    · refine Sp.step rfl rfl rfl rfl ?_
      refine Sp.step rfl rfl rfl rfl ?_
      exact Sp.iret rfl rfl rfl rfl (fun _ _ h => h)
def f_Ports_sent (x : Int32) (X : XS) : Int32 := (if x < 0 then (-2) else (if X.1 47 1 ≤ x then (-2) else (if 300 ≤ x then (-2) else X.1 49 x.toNatClampNeg)))
set_option maxRecDepth 100000 in
set_option maxHeartbeats 4000000 in
theorem s_Ports_sent {L : Nat} {xs : Nat → Int32} {X : XS} {M : MS} {x : Int32} : Sp (mjOO L xs) 239 0 [some (.ref 47), some (.int x)] [] (hS X M) (some (f_Ports_sent x X)) (KQ (hS X M)) := by
  unfold f_Ports_sent
  refine Sp.step rfl rfl rfl rfl ?_
  refine Sp.if1V rfl rfl rfl rfl (fun e1 => ?_) (fun e1 => ?_)
  · refine Sp.step rfl rfl rfl rfl ?_
    exact Sp.iret rfl rfl rfl rfl (fun _ _ h => h)
  · refine Sp.step rfl rfl rfl rfl ?_
    refine Sp.step rfl rfl rfl rfl ?_
    refine Sp.step rfl rfl rfl (xg_I (c := 5) (f := 1) rfl rfl rfl rfl) ?_
    refine Sp.if2V rfl rfl rfl rfl (fun e2 => ?_) (fun e2 => ?_)
    · refine Sp.step rfl rfl rfl rfl ?_
      exact Sp.iret rfl rfl rfl rfl (fun _ _ h => h)
    · refine Sp.step rfl rfl rfl rfl ?_
      refine Sp.step rfl rfl rfl rfl ?_
      refine Sp.if2V rfl rfl rfl rfl (fun e3 => ?_) (fun e3 => ?_)
      · refine Sp.step rfl rfl rfl rfl ?_
        exact Sp.iret rfl rfl rfl rfl (fun _ _ h => h)
      · refine Sp.step rfl rfl rfl rfl ?_
        refine Sp.step rfl rfl rfl (xg_F (c := 5) (f := 4) rfl rfl rfl rfl rfl) ?_
        refine Sp.step rfl rfl rfl rfl ?_
        refine Sp.step rfl rfl rfl (xld rfl (by decide) (ix_ok (N := 300) (n := 300) rfl (Int32.not_lt.mp e1) (Int32.not_le.mp e3))) ?_
        refine Sp.step rfl rfl rfl rfl ?_
        exact Sp.iret rfl rfl rfl rfl (fun _ _ h => h)
def f_P_out (x : Int32) (X : XS) : Int32 := f_Ports_sent x X
set_option maxRecDepth 100000 in
set_option maxHeartbeats 4000000 in
theorem s_P_out {L : Nat} {xs : Nat → Int32} {X : XS} {M : MS} {x : Int32} : Sp (mjOO L xs) 12 0 [some (.ref 0), some (.int x)] [] (hS X M) (some (f_P_out x X)) (KQ (hS X M)) := by
  unfold f_P_out
  refine Sp.step rfl rfl rfl rfl ?_
  refine Sp.step rfl rfl rfl (xg_F (c := 11) (f := 4) rfl rfl rfl rfl rfl) ?_
  refine Sp.step rfl rfl rfl (xg_F (c := 0) (f := 4) rfl rfl rfl rfl rfl) ?_
  refine Sp.step rfl rfl rfl rfl ?_
  refine Sp.callS rfl rfl rfl (xrecv (c := 5) (by decide) rfl (by decide +kernel)) s_Ports_sent ⟨rfl, rfl⟩ ?_
  exact Sp.iret rfl rfl rfl rfl (fun _ _ h => h)
def f_Engine_tellThread (x : Int32) (y : Int32) (X : XS) : Option Int32 := (if f_Engine_isStrand x X = true then (ocz (X.2.1 50 x.toNatClampNeg) (if y = 0 then none else (if y = 1 then none else (if y = 2 then none else some (-1)))) (fun a3 => (if y = 0 then (if (xT X a3 = some (14, 0)) then (if ¬ X.1 a3 0 = 0 then (if ¬ X.1 a3 0 = 1 then some 3 else some 2) else ((f_Engine_waits a3 (x + 1) X).bind fun x12 => (if x12 = true then some 1 else some 0))) else none) else (if y = 1 then (if (xT X a3 = some (14, 0)) then some (X.1 a3 2) else none) else (if y = 2 then (if (xT X a3 = some (14, 0)) then some (X.1 a3 1) else none) else some (-1)))))) else some (-1))
set_option maxRecDepth 100000 in
set_option maxHeartbeats 4000000 in
theorem s_Engine_tellThread {L : Nat} {xs : Nat → Int32} {X : XS} {M : MS} {x : Int32} {y : Int32} : Sp (mjOO L xs) 133 0 [some (.ref 40), some (.int x), some (.int y), none] [] (hS X M) (f_Engine_tellThread x y X) (KQ (hS X M)) := by
  unfold f_Engine_tellThread
  refine Sp.step rfl rfl rfl rfl ?_
  refine Sp.step rfl rfl rfl rfl ?_
  refine Sp.callS rfl rfl rfl (xrecv (c := 0) (by decide) rfl (by decide +kernel)) s_Engine_isStrand ⟨rfl, rfl⟩ ?_
  refine Sp.bool (fun e1 => ?_) (fun e1 => ?_)
  · refine Sp.step rfl rfl rfl rfl ?_
    refine Sp.step rfl rfl rfl rfl ?_
    refine Sp.step rfl rfl rfl (xg_F (c := 0) (f := 5) rfl rfl rfl rfl rfl) ?_
    refine Sp.step rfl rfl rfl rfl ?_
    refine Sp.step rfl rfl rfl (xald (t := 4) rfl (by decide) (fun _ => rfl) (isStrand_ix e1)) ?_
    refine Sp.ocr (fun e4 => ?_) (fun a3 e4 => ?_)
    · refine Sp.step rfl rfl rfl rfl ?_
      refine Sp.step rfl rfl rfl rfl ?_
      refine Sp.ite (fun e5 => ?_) (fun e5 => ?_)
      · refine Sp.step rfl rfl rfl (go_sw (t := 44) (sw_of e5 rfl)) ?_
        refine Sp.step rfl rfl rfl rfl ?_
        exact Sp.none
      · refine Sp.ite (fun e6 => ?_) (fun e6 => ?_)
        · refine Sp.step rfl rfl rfl (go_sw (t := 82) (sw_of e6 rfl)) ?_
          refine Sp.step rfl rfl rfl rfl ?_
          exact Sp.none
        · refine Sp.ite (fun e7 => ?_) (fun e7 => ?_)
          · refine Sp.step rfl rfl rfl (go_sw (t := 87) (sw_of e7 rfl)) ?_
            refine Sp.step rfl rfl rfl rfl ?_
            exact Sp.none
          · refine Sp.step rfl rfl rfl (go_sw (t := 92) (mjSw_out _ (by
              intro q hq
              simp only [List.mem_cons, List.not_mem_nil, or_false] at hq
              rcases hq with rfl | rfl | rfl
              · exact e5
              · exact e6
              · exact e7))) ?_
            refine Sp.step rfl rfl rfl rfl ?_
            exact Sp.iret rfl rfl rfl rfl (fun _ _ h => h)
    · refine Sp.step rfl rfl rfl rfl ?_
      refine Sp.step rfl rfl rfl rfl ?_
      refine Sp.ite (fun e8 => ?_) (fun e8 => ?_)
      · refine Sp.step rfl rfl rfl (go_sw (t := 44) (sw_of e8 rfl)) ?_
        refine Sp.step rfl rfl rfl rfl ?_
        refine Sp.guard (fun e9 => ?_)
        refine Sp.step rfl rfl rfl (xg_I (c := 9) (f := 0) rfl rfl e9 rfl) ?_
        refine Sp.if1 rfl rfl rfl rfl (fun e10 => ?_) (fun e10 => ?_)
        · refine Sp.step rfl rfl rfl rfl ?_
          refine Sp.step rfl rfl rfl (xg_I (c := 9) (f := 0) rfl rfl e9 rfl) ?_
          refine Sp.step rfl rfl rfl rfl ?_
          refine Sp.if2 rfl rfl rfl rfl (fun e11 => ?_) (fun e11 => ?_)
          · refine Sp.step rfl rfl rfl rfl ?_
            exact Sp.iret rfl rfl rfl rfl (fun _ _ h => h)
          · refine Sp.step rfl rfl rfl rfl ?_
            refine Sp.step rfl rfl rfl rfl ?_
            exact Sp.iret rfl rfl rfl rfl (fun _ _ h => h)
        · refine Sp.step rfl rfl rfl rfl ?_
          refine Sp.step rfl rfl rfl rfl ?_
          refine Sp.step rfl rfl rfl rfl ?_
          refine Sp.step rfl rfl rfl rfl ?_
          refine Sp.step rfl rfl rfl rfl ?_
          refine Sp.call rfl rfl rfl (xrecv (c := 0) (by decide) rfl (by decide +kernel)) s_Engine_waits (fun x12 => ⟨_, _, ⟨rfl, rfl⟩, ?_⟩)
          refine Sp.bool (fun e13 => ?_) (fun e13 => ?_)
          · refine Sp.step rfl rfl rfl rfl ?_
            refine Sp.step rfl rfl rfl rfl ?_
            refine Sp.step rfl rfl rfl rfl ?_
            exact Sp.iret rfl rfl rfl rfl (fun _ _ h => h)
          · refine Sp.step rfl rfl rfl rfl ?_
            refine Sp.step rfl rfl rfl rfl ?_
            exact Sp.iret rfl rfl rfl rfl (fun _ _ h => h)
      · refine Sp.ite (fun e16 => ?_) (fun e16 => ?_)
        · refine Sp.step rfl rfl rfl (go_sw (t := 82) (sw_of e16 rfl)) ?_
          refine Sp.step rfl rfl rfl rfl ?_
          refine Sp.guard (fun e17 => ?_)
          refine Sp.step rfl rfl rfl (xg_I (c := 9) (f := 2) rfl rfl e17 rfl) ?_
          exact Sp.iret rfl rfl rfl rfl (fun _ _ h => h)
        · refine Sp.ite (fun e18 => ?_) (fun e18 => ?_)
          · refine Sp.step rfl rfl rfl (go_sw (t := 87) (sw_of e18 rfl)) ?_
            refine Sp.step rfl rfl rfl rfl ?_
            refine Sp.guard (fun e19 => ?_)
            refine Sp.step rfl rfl rfl (xg_I (c := 9) (f := 1) rfl rfl e19 rfl) ?_
            exact Sp.iret rfl rfl rfl rfl (fun _ _ h => h)
          · refine Sp.step rfl rfl rfl (go_sw (t := 92) (mjSw_out _ (by
              intro q hq
              simp only [List.mem_cons, List.not_mem_nil, or_false] at hq
              rcases hq with rfl | rfl | rfl
              · exact e8
              · exact e16
              · exact e18))) ?_
            refine Sp.step rfl rfl rfl rfl ?_
            exact Sp.iret rfl rfl rfl rfl (fun _ _ h => h)
  · refine Sp.step rfl rfl rfl rfl ?_
    refine Sp.step rfl rfl rfl rfl ?_
    exact Sp.iret rfl rfl rfl rfl (fun _ _ h => h)
def f_P_thread (x : Int32) (y : Int32) (X : XS) : Option Int32 := ((f_Engine_tellThread x y X).bind fun x1 => some x1)
set_option maxRecDepth 100000 in
set_option maxHeartbeats 4000000 in
theorem s_P_thread {L : Nat} {xs : Nat → Int32} {X : XS} {M : MS} {x : Int32} {y : Int32} : Sp (mjOO L xs) 13 0 [some (.ref 0), some (.int x), some (.int y)] [] (hS X M) (f_P_thread x y X) (KQ (hS X M)) := by
  unfold f_P_thread
  refine Sp.step rfl rfl rfl rfl ?_
  refine Sp.step rfl rfl rfl (xg_F (c := 11) (f := 4) rfl rfl rfl rfl rfl) ?_
  refine Sp.step rfl rfl rfl rfl ?_
  refine Sp.step rfl rfl rfl rfl ?_
  refine Sp.call rfl rfl rfl (xrecv (c := 0) (by decide) rfl (by decide +kernel)) s_Engine_tellThread (fun x1 => ⟨_, _, ⟨rfl, rfl⟩, ?_⟩)
  exact Sp.iret rfl rfl rfl rfl (fun _ _ h => h)
def b2_Memory_findBeginnings (x13 : (Int32 × XS)) : Option ((Int32 × XS) ⊕ (Int32 × XS)) := (ocz (x13.2.2.1 41 3) none (fun a14 => (ocz (xL x13.2 0 a14) none (fun n16 => (if Int32.ofNat n16 ≤ x13.1 then some (.inr (x13.1, x13.2)) else (ocz (x13.2.2.1 41 3) none (fun a19 => (ocz (xL x13.2 1 a19) none (fun n21 => (if ixo x13.1 n21 then (lt (xw x13.2 a19 x13.1.toNatClampNeg 0) fun X24 => some (.inl (x13.1 + 1, X24))) else none))))))))))
def b28_Memory_findBeginnings (x40 : (Int32 × Int32 × XS)) : Option ((Int32 × Int32 × XS) ⊕ (Int32 × Int32 × XS)) := (if x40.2.2.1 41 7 ≤ x40.2.1 then some (.inr (x40.1, x40.2.1, x40.2.2)) else (ocz (x40.2.2.2.1 41 3) none (fun a42 => (ocz (xL x40.2.2 0 a42) none (fun n44 => (if Int32.ofNat n44 ≤ x40.2.1 then some (.inr (x40.1, x40.2.1, x40.2.2)) else (ocz (x40.2.2.2.1 41 3) none (fun a47 => (ocz (xL x40.2.2 1 a47) none (fun n49 => (if ixo x40.2.1 n49 then (lt (xw x40.2.2 a47 x40.2.1.toNatClampNeg 1) fun X52 => ((f_Memory_sizeAt x40.2.1 X52).bind fun x53 => some (.inl (x40.2.1 + (if 4 < x53 then x53 else 4), x40.2.1 + (if 4 < x53 then x53 else 4), X52)))) else none)))))))))))
def f_Memory_findBeginnings (X : XS) : Option (Bool × XS) := ((lp (b2_Memory_findBeginnings) 10000 ((0 : Int32), X)).bind fun x25 => ((lp (b28_Memory_findBeginnings) 10000 ((1 : Int32), (1 : Int32), x25.2)).bind fun x54 => (if ¬ x54.1 = x54.2.2.1 41 7 then some (false, x54.2.2) else (if x54.2.2.1 41 8 < f_Memory_used x54.2.2 then some (false, x54.2.2) else (ocz (x54.2.2.2.1 41 1) none (fun a57 => (ocz (xL x54.2.2 0 a57) none (fun n59 => (if Int32.ofNat n59 < x54.2.2.1 41 7 then some (false, x54.2.2) else some (true, x54.2.2))))))))))
set_option maxRecDepth 100000 in
set_option maxHeartbeats 4000000 in
theorem s_Memory_findBeginnings {L : Nat} {xs : Nat → Int32} {X : XS} {M : MS} : Sp (mjOO L xs) 230 0 [some (.ref 41), none, none] [] (hS X M) (f_Memory_findBeginnings X) (KBX M) := by
  unfold f_Memory_findBeginnings
  refine Sp.step rfl rfl rfl rfl ?_
  refine Sp.step rfl rfl rfl rfl ?_
  refine Sp.weak (l0 := [some (.ref 41), some (.int 0), none]) ⟨rfl, rfl, trivial⟩ ?_
  refine Sp.loopX (pe := 24) (mf := (fun (x13 : (Int32 × XS)) => [some (.ref 41), some (.int x13.1), none])) (hf := (fun (x13 : (Int32 × XS)) => hS x13.2 M)) (fun x13 => ?_) (fun x25 => ?_) _ _
  · unfold b2_Memory_findBeginnings
    refine Sp.step rfl rfl rfl rfl ?_
    refine Sp.step rfl rfl rfl rfl ?_
    refine Sp.step rfl rfl rfl (xg_D (c := 4) (f := 3) rfl rfl rfl rfl rfl) ?_
    refine Sp.ocrn (fun a14 e15 => ?_)
    refine Sp.ocn (fun n16 e17 => ?_)
    refine Sp.step rfl rfl rfl (xlen (xL_ok e17) (by decide)) ?_
    refine Sp.if2 rfl rfl rfl rfl (fun e18 => ?_) (fun e18 => ?_)
    · exact Sp.jmp (l0 := [some (.ref 41), some (.int x13.1), none]) ⟨rfl, rfl, trivial⟩ (fun _ _ h => h)
    · refine Sp.step rfl rfl rfl rfl ?_
      refine Sp.step rfl rfl rfl (xg_D (c := 4) (f := 3) rfl rfl rfl rfl rfl) ?_
      refine Sp.ocrn (fun a19 e20 => ?_)
      refine Sp.step rfl rfl rfl rfl ?_
      refine Sp.step rfl rfl rfl rfl ?_
      refine Sp.ocn (fun n21 e22 => ?_)
      refine Sp.guard (fun e23 => ?_)
      refine Sp.step rfl rfl rfl (xst0 (xL_ok e22) e23) ?_
      refine Sp.step rfl rfl rfl rfl ?_
      refine Sp.step rfl rfl rfl rfl ?_
      exact Sp.jmp (l0 := [some (.ref 41), some (.int (x13.1 + 1)), none]) ⟨rfl, rfl, trivial⟩ (fun _ _ h => h)
  · refine Sp.step rfl rfl rfl rfl ?_
    refine Sp.step rfl rfl rfl rfl ?_
    refine Sp.step rfl rfl rfl rfl ?_
    refine Sp.step rfl rfl rfl rfl ?_
    refine Sp.weak (l0 := [some (.ref 41), some (.int 1), some (.int 1)]) ⟨rfl, rfl, rfl, trivial⟩ ?_
    refine Sp.loopX (pe := 69) (mf := (fun (x40 : (Int32 × Int32 × XS)) => [some (.ref 41), some (.int x40.1), some (.int x40.2.1)])) (hf := (fun (x40 : (Int32 × Int32 × XS)) => hS x40.2.2 M)) (fun x40 => ?_) (fun x54 => ?_) _ _
    · unfold b28_Memory_findBeginnings
      refine Sp.step rfl rfl rfl rfl ?_
      refine Sp.step rfl rfl rfl rfl ?_
      refine Sp.step rfl rfl rfl (xg_I (c := 4) (f := 7) rfl rfl rfl rfl) ?_
      refine Sp.if2 rfl rfl rfl rfl (fun e41 => ?_) (fun e41 => ?_)
      · exact Sp.jmp (l0 := [some (.ref 41), some (.int x40.1), some (.int x40.2.1)]) ⟨rfl, rfl, rfl, trivial⟩ (fun _ _ h => h)
      · refine Sp.step rfl rfl rfl rfl ?_
        refine Sp.step rfl rfl rfl rfl ?_
        refine Sp.step rfl rfl rfl (xg_D (c := 4) (f := 3) rfl rfl rfl rfl rfl) ?_
        refine Sp.ocrn (fun a42 e43 => ?_)
        refine Sp.ocn (fun n44 e45 => ?_)
        refine Sp.step rfl rfl rfl (xlen (xL_ok e45) (by decide)) ?_
        refine Sp.if2 rfl rfl rfl rfl (fun e46 => ?_) (fun e46 => ?_)
        · exact Sp.jmp (l0 := [some (.ref 41), some (.int x40.1), some (.int x40.2.1)]) ⟨rfl, rfl, rfl, trivial⟩ (fun _ _ h => h)
        · refine Sp.step rfl rfl rfl rfl ?_
          refine Sp.step rfl rfl rfl (xg_D (c := 4) (f := 3) rfl rfl rfl rfl rfl) ?_
          refine Sp.ocrn (fun a47 e48 => ?_)
          refine Sp.step rfl rfl rfl rfl ?_
          refine Sp.step rfl rfl rfl rfl ?_
          refine Sp.ocn (fun n49 e50 => ?_)
          refine Sp.guard (fun e51 => ?_)
          refine Sp.step rfl rfl rfl (xst1 (xL_ok e50) e51) ?_
          refine Sp.step rfl rfl rfl rfl ?_
          refine Sp.step rfl rfl rfl rfl ?_
          refine Sp.step rfl rfl rfl rfl ?_
          refine Sp.step rfl rfl rfl rfl ?_
          refine Sp.call rfl rfl rfl (xrecv (c := 4) (by decide) rfl (by decide +kernel)) s_Memory_sizeAt (fun x53 => ⟨_, _, ⟨rfl, rfl⟩, ?_⟩)
          refine Sp.nat rfl rfl rfl rfl ⟨by decide, by decide, rfl⟩ ?_
          refine Sp.step rfl rfl rfl rfl ?_
          refine Sp.step rfl rfl rfl rfl ?_
          refine Sp.step rfl rfl rfl rfl ?_
          refine Sp.step rfl rfl rfl rfl ?_
          refine Sp.step rfl rfl rfl rfl ?_
          exact Sp.jmp (l0 := [some (.ref 41), some (.int (x40.2.1 + (if 4 < x53 then x53 else 4))), some (.int (x40.2.1 + (if 4 < x53 then x53 else 4)))]) ⟨rfl, rfl, rfl, trivial⟩ (fun _ _ h => h)
    · refine Sp.step rfl rfl rfl rfl ?_
      refine Sp.step rfl rfl rfl rfl ?_
      refine Sp.step rfl rfl rfl (xg_I (c := 4) (f := 7) rfl rfl rfl rfl) ?_
      refine Sp.if2 rfl rfl rfl rfl (fun e55 => ?_) (fun e55 => ?_)
      · refine Sp.step rfl rfl rfl rfl ?_
        exact Sp.iret rfl rfl rfl rfl (fun _ _ h => h)
      · refine Sp.step rfl rfl rfl rfl ?_
        refine Sp.callS rfl rfl rfl (xrecv (c := 4) (by decide) rfl (by decide +kernel)) s_Memory_used ⟨rfl, rfl⟩ ?_
        refine Sp.step rfl rfl rfl rfl ?_
        refine Sp.step rfl rfl rfl (xg_I (c := 4) (f := 8) rfl rfl rfl rfl) ?_
        refine Sp.if2 rfl rfl rfl rfl (fun e56 => ?_) (fun e56 => ?_)
        · refine Sp.step rfl rfl rfl rfl ?_
          exact Sp.iret rfl rfl rfl rfl (fun _ _ h => h)
        · refine Sp.step rfl rfl rfl rfl ?_
          refine Sp.step rfl rfl rfl (xg_I (c := 4) (f := 7) rfl rfl rfl rfl) ?_
          refine Sp.step rfl rfl rfl rfl ?_
          refine Sp.step rfl rfl rfl (xg_D (c := 4) (f := 1) rfl rfl rfl rfl rfl) ?_
          refine Sp.ocrn (fun a57 e58 => ?_)
          refine Sp.ocn (fun n59 e60 => ?_)
          refine Sp.step rfl rfl rfl (xlen (xL_ok e60) (by decide)) ?_
          refine Sp.if2 rfl rfl rfl rfl (fun e61 => ?_) (fun e61 => ?_)
          · refine Sp.step rfl rfl rfl rfl ?_
            exact Sp.iret rfl rfl rfl rfl (fun _ _ h => h)
          · refine Sp.step rfl rfl rfl rfl ?_
            refine Sp.step rfl rfl rfl rfl ?_
            exact Sp.iret rfl rfl rfl rfl (fun _ _ h => h)
def f_Memory_leadsWell (x : Int32) (X : XS) : Option Bool := (if x = 0 then some true else (if x < 1 then some false else (ocz (X.2.1 41 3) none (fun a3 => (ocz (xL X 0 a3) none (fun n5 => (if Int32.ofNat n5 ≤ x then some false else (ocz (X.2.1 41 3) none (fun a8 => (ocz (xL X 1 a8) none (fun n10 => (if ixo x n10 then (if X.1 a8 x.toNatClampNeg = 0 then some false else some true) else none))))))))))))
set_option maxRecDepth 100000 in
set_option maxHeartbeats 4000000 in
theorem s_Memory_leadsWell {L : Nat} {xs : Nat → Int32} {X : XS} {M : MS} {x : Int32} : Sp (mjOO L xs) 232 0 [some (.ref 41), some (.int x)] [] (hS X M) (f_Memory_leadsWell x X) (KB (hS X M)) := by
  unfold f_Memory_leadsWell
  refine Sp.step rfl rfl rfl rfl ?_
  refine Sp.if1 rfl rfl rfl rfl (fun e1 => ?_) (fun e1 => ?_)
  · refine Sp.step rfl rfl rfl rfl ?_
    refine Sp.step rfl rfl rfl rfl ?_
    exact Sp.iret rfl rfl rfl rfl (fun _ _ h => h)
  · refine Sp.step rfl rfl rfl rfl ?_
    refine Sp.step rfl rfl rfl rfl ?_
    refine Sp.if2 rfl rfl rfl rfl (fun e2 => ?_) (fun e2 => ?_)
    · refine Sp.step rfl rfl rfl rfl ?_
      exact Sp.iret rfl rfl rfl rfl (fun _ _ h => h)
    · refine Sp.step rfl rfl rfl rfl ?_
      refine Sp.step rfl rfl rfl rfl ?_
      refine Sp.step rfl rfl rfl (xg_D (c := 4) (f := 3) rfl rfl rfl rfl rfl) ?_
      refine Sp.ocrn (fun a3 e4 => ?_)
      refine Sp.ocn (fun n5 e6 => ?_)
      refine Sp.step rfl rfl rfl (xlen (xL_ok e6) (by decide)) ?_
      refine Sp.if2 rfl rfl rfl rfl (fun e7 => ?_) (fun e7 => ?_)
      · refine Sp.step rfl rfl rfl rfl ?_
        exact Sp.iret rfl rfl rfl rfl (fun _ _ h => h)
      · refine Sp.step rfl rfl rfl rfl ?_
        refine Sp.step rfl rfl rfl (xg_D (c := 4) (f := 3) rfl rfl rfl rfl rfl) ?_
        refine Sp.ocrn (fun a8 e9 => ?_)
        refine Sp.step rfl rfl rfl rfl ?_
        refine Sp.ocn (fun n10 e11 => ?_)
        refine Sp.guard (fun e12 => ?_)
        refine Sp.step rfl rfl rfl (xld (xL_ok e11) (by decide) e12) ?_
        refine Sp.if1 rfl rfl rfl rfl (fun e13 => ?_) (fun e13 => ?_)
        · refine Sp.step rfl rfl rfl rfl ?_
          exact Sp.iret rfl rfl rfl rfl (fun _ _ h => h)
        · refine Sp.step rfl rfl rfl rfl ?_
          refine Sp.step rfl rfl rfl rfl ?_
          exact Sp.iret rfl rfl rfl rfl (fun _ _ h => h)
def b3_Memory_rowLeadsWell_57_58 (x : Int32) (X : XS) (x1 : Int32) : Option (Int32 ⊕ Bool) := (if x ≤ x1 then some (.inr true) else (if 8 ≤ x1 then some (.inr true) else (if 8 ≤ x1 then some (.inr true) else (if ixo x1 8 then (if X.1 58 x1.toNatClampNeg = 0 then some (.inl (x1 + 1)) else ((f_Memory_leadsWell (X.1 57 x1.toNatClampNeg) X).bind fun x7 => (if x7 = true then some (.inl (x1 + 1)) else some (.inr false)))) else none))))
def f_Memory_rowLeadsWell_57_58 (x : Int32) (X : XS) : Option Bool := (lp (b3_Memory_rowLeadsWell_57_58 x X) 10000 (0 : Int32))
set_option maxRecDepth 100000 in
set_option maxHeartbeats 4000000 in
theorem s_Memory_rowLeadsWell_57_58 {L : Nat} {xs : Nat → Int32} {X : XS} {M : MS} {x : Int32} : Sp (mjOO L xs) 231 0 [some (.ref 41), some (.ref 57), some (.ref 58), some (.int x), none] [] (hS X M) (f_Memory_rowLeadsWell_57_58 x X) (KB (hS X M)) := by
  unfold f_Memory_rowLeadsWell_57_58
  refine Sp.step rfl rfl rfl rfl ?_
  refine Sp.step rfl rfl rfl rfl ?_
  refine Sp.weak (l0 := [some (.ref 41), some (.ref 57), some (.ref 58), some (.int x), some (.int 0)]) ⟨rfl, rfl, rfl, rfl, rfl, trivial⟩ ?_
  refine Sp.loopL (mf := (fun (x1 : Int32) => [some (.ref 41), some (.ref 57), some (.ref 58), some (.int x), some (.int x1)])) (hf := (fun (x1 : Int32) => hS X M)) (fun x1 => ?_) _ _
  unfold b3_Memory_rowLeadsWell_57_58
  refine Sp.step rfl rfl rfl rfl ?_
  refine Sp.step rfl rfl rfl rfl ?_
  refine Sp.if2 rfl rfl rfl rfl (fun e2 => ?_) (fun e2 => ?_)
  · refine Sp.step rfl rfl rfl rfl ?_
    exact Sp.iret rfl rfl rfl rfl (fun _ _ h => h)
  · refine Sp.step rfl rfl rfl rfl ?_
    refine Sp.step rfl rfl rfl rfl ?_
    refine Sp.step rfl rfl rfl (xlen rfl (by decide)) ?_
    refine Sp.if2 rfl rfl rfl rfl (fun e3 => ?_) (fun e3 => ?_)
    · refine Sp.step rfl rfl rfl rfl ?_
      exact Sp.iret rfl rfl rfl rfl (fun _ _ h => h)
    · refine Sp.step rfl rfl rfl rfl ?_
      refine Sp.step rfl rfl rfl rfl ?_
      refine Sp.step rfl rfl rfl (xlen rfl (by decide)) ?_
      refine Sp.if2 rfl rfl rfl rfl (fun e4 => ?_) (fun e4 => ?_)
      · refine Sp.step rfl rfl rfl rfl ?_
        exact Sp.iret rfl rfl rfl rfl (fun _ _ h => h)
      · refine Sp.step rfl rfl rfl rfl ?_
        refine Sp.step rfl rfl rfl rfl ?_
        refine Sp.guard (fun e5 => ?_)
        refine Sp.step rfl rfl rfl (xld rfl (by decide) e5) ?_
        refine Sp.if1 rfl rfl rfl rfl (fun e6 => ?_) (fun e6 => ?_)
        · refine Sp.step rfl rfl rfl rfl ?_
          refine Sp.step rfl rfl rfl rfl ?_
          exact Sp.jmp (l0 := [some (.ref 41), some (.ref 57), some (.ref 58), some (.int x), some (.int (x1 + 1))]) ⟨rfl, rfl, rfl, rfl, rfl, trivial⟩ (fun _ _ h => h)
        · refine Sp.step rfl rfl rfl rfl ?_
          refine Sp.step rfl rfl rfl rfl ?_
          refine Sp.step rfl rfl rfl rfl ?_
          refine Sp.step rfl rfl rfl (xld rfl (by decide) e5) ?_
          refine Sp.call rfl rfl rfl (xrecv (c := 4) (by decide) rfl (by decide +kernel)) s_Memory_leadsWell (fun x7 => ⟨_, _, ⟨rfl, rfl⟩, ?_⟩)
          refine Sp.bool (fun e8 => ?_) (fun e8 => ?_)
          · refine Sp.step rfl rfl rfl rfl ?_
            refine Sp.step rfl rfl rfl rfl ?_
            refine Sp.step rfl rfl rfl rfl ?_
            exact Sp.jmp (l0 := [some (.ref 41), some (.ref 57), some (.ref 58), some (.int x), some (.int (x1 + 1))]) ⟨rfl, rfl, rfl, rfl, rfl, trivial⟩ (fun _ _ h => h)
          · refine Sp.step rfl rfl rfl rfl ?_
            refine Sp.step rfl rfl rfl rfl ?_
            exact Sp.iret rfl rfl rfl rfl (fun _ _ h => h)
def b25_Memory_fieldsLeadWell (X : XS) (x1 : Int32) (x3 : Int32) (x4 : Int32) (x5 : Int32) : Option (Int32 ⊕ (Int32 ⊕ Bool)) := (if x4 ≤ x5 then ((f_Memory_sizeAt x1 X).bind fun x7 => some (.inr (.inl (x1 + (if 4 < x7 then x7 else 4))))) else ((f_Memory_word (x3 + x5) X).bind fun x8 => ((f_Memory_leadsWell x8 X).bind fun x9 => (if x9 = true then some (.inl (x5 + 1)) else some (.inr (.inr false))))))
def b2_Memory_fieldsLeadWell (X : XS) (x1 : Int32) : Option (Int32 ⊕ Bool) := (if X.1 41 7 ≤ x1 then some (.inr true) else ((f_Memory_firstRef x1 X).bind fun x3 => ((f_Memory_refsIn x1 X).bind fun x4 => (lp (b25_Memory_fieldsLeadWell X x1 x3 x4) 10000 (0 : Int32)))))
def f_Memory_fieldsLeadWell (X : XS) : Option Bool := (lp (b2_Memory_fieldsLeadWell X) 10000 (1 : Int32))
set_option maxRecDepth 100000 in
set_option maxHeartbeats 4000000 in
theorem s_Memory_fieldsLeadWell {L : Nat} {xs : Nat → Int32} {X : XS} {M : MS} : Sp (mjOO L xs) 233 0 [some (.ref 41), none, none, none, none] [] (hS X M) (f_Memory_fieldsLeadWell X) (KB (hS X M)) := by
  unfold f_Memory_fieldsLeadWell
  refine Sp.step rfl rfl rfl rfl ?_
  refine Sp.step rfl rfl rfl rfl ?_
  refine Sp.weak (l0 := [some (.ref 41), some (.int 1), none, none, none]) ⟨rfl, rfl, trivial⟩ ?_
  refine Sp.loopL (mf := (fun (x1 : Int32) => [some (.ref 41), some (.int x1), none, none, none])) (hf := (fun (x1 : Int32) => hS X M)) (fun x1 => ?_) _ _
  unfold b2_Memory_fieldsLeadWell
  refine Sp.step rfl rfl rfl rfl ?_
  refine Sp.step rfl rfl rfl rfl ?_
  refine Sp.step rfl rfl rfl (xg_I (c := 4) (f := 7) rfl rfl rfl rfl) ?_
  refine Sp.if2 rfl rfl rfl rfl (fun e2 => ?_) (fun e2 => ?_)
  · refine Sp.step rfl rfl rfl rfl ?_
    exact Sp.iret rfl rfl rfl rfl (fun _ _ h => h)
  · refine Sp.step rfl rfl rfl rfl ?_
    refine Sp.step rfl rfl rfl rfl ?_
    refine Sp.call rfl rfl rfl (xrecv (c := 4) (by decide) rfl (by decide +kernel)) s_Memory_firstRef (fun x3 => ⟨_, _, ⟨rfl, rfl⟩, ?_⟩)
    refine Sp.step rfl rfl rfl rfl ?_
    refine Sp.step rfl rfl rfl rfl ?_
    refine Sp.step rfl rfl rfl rfl ?_
    refine Sp.call rfl rfl rfl (xrecv (c := 4) (by decide) rfl (by decide +kernel)) s_Memory_refsIn (fun x4 => ⟨_, _, ⟨rfl, rfl⟩, ?_⟩)
    refine Sp.step rfl rfl rfl rfl ?_
    refine Sp.step rfl rfl rfl rfl ?_
    refine Sp.step rfl rfl rfl rfl ?_
    refine Sp.weak (l0 := [some (.ref 41), some (.int x1), some (.int x3), some (.int x4), some (.int 0)]) ⟨rfl, rfl, rfl, rfl, rfl, trivial⟩ ?_
    refine Sp.loopL (mf := (fun (x5 : Int32) => [some (.ref 41), some (.int x1), some (.int x3), some (.int x4), some (.int x5)])) (hf := (fun (x5 : Int32) => hS X M)) (fun x5 => ?_) _ _
    unfold b25_Memory_fieldsLeadWell
    refine Sp.step rfl rfl rfl rfl ?_
    refine Sp.step rfl rfl rfl rfl ?_
    refine Sp.if2 rfl rfl rfl rfl (fun e6 => ?_) (fun e6 => ?_)
    · refine Sp.step rfl rfl rfl rfl ?_
      refine Sp.step rfl rfl rfl rfl ?_
      refine Sp.step rfl rfl rfl rfl ?_
      refine Sp.step rfl rfl rfl rfl ?_
      refine Sp.call rfl rfl rfl (xrecv (c := 4) (by decide) rfl (by decide +kernel)) s_Memory_sizeAt (fun x7 => ⟨_, _, ⟨rfl, rfl⟩, ?_⟩)
      refine Sp.nat rfl rfl rfl rfl ⟨by decide, by decide, rfl⟩ ?_
      refine Sp.step rfl rfl rfl rfl ?_
      refine Sp.step rfl rfl rfl rfl ?_
      refine Sp.step rfl rfl rfl rfl ?_
      exact Sp.jmp (l0 := [some (.ref 41), some (.int (x1 + (if 4 < x7 then x7 else 4))), none, none, none]) ⟨rfl, rfl, trivial⟩ (fun _ _ h => h)
    · refine Sp.step rfl rfl rfl rfl ?_
      refine Sp.step rfl rfl rfl rfl ?_
      refine Sp.step rfl rfl rfl rfl ?_
      refine Sp.step rfl rfl rfl rfl ?_
      refine Sp.step rfl rfl rfl rfl ?_
      refine Sp.call rfl rfl rfl (xrecv (c := 4) (by decide) rfl (by decide +kernel)) s_Memory_word (fun x8 => ⟨_, _, ⟨rfl, rfl⟩, ?_⟩)
      refine Sp.call rfl rfl rfl (xrecv (c := 4) (by decide) rfl (by decide +kernel)) s_Memory_leadsWell (fun x9 => ⟨_, _, ⟨rfl, rfl⟩, ?_⟩)
      refine Sp.bool (fun e10 => ?_) (fun e10 => ?_)
      · refine Sp.step rfl rfl rfl rfl ?_
        refine Sp.step rfl rfl rfl rfl ?_
        refine Sp.step rfl rfl rfl rfl ?_
        exact Sp.jmp (l0 := [some (.ref 41), some (.int x1), some (.int x3), some (.int x4), some (.int (x5 + 1))]) ⟨rfl, rfl, rfl, rfl, rfl, trivial⟩ (fun _ _ h => h)
      · refine Sp.step rfl rfl rfl rfl ?_
        refine Sp.step rfl rfl rfl rfl ?_
        exact Sp.iret rfl rfl rfl rfl (fun _ _ h => h)
