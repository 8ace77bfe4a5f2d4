/-! methods as functions, by program -/
def f_Engine_step (x : Int32) (X : XS) : Option XS := (lt (xw X 40 1 0) fun X1 => (if f_Engine_isStrand x X1 = true then (ocz (X1.2.1 50 x.toNatClampNeg) none (fun a4 => (if (xT X1 a4 = some (14, 0)) then ((f_Image_at_51 (X1.1 a4 4) X1).bind fun x7 => (((if 3 < x7 then (if 15 < x7 then (if f_P_jumps x7 = true then ((f_Engine_doJump a4 x7 (X1.1 a4 4) X1).bind fun x12 => some (x12.1, x12.2)) else (if x7 = 26 then ((f_Image_at_51 ((X1.1 a4 4) + 1) X1).bind fun x15 => ((f_Engine_doMake a4 x7 x15 X1).bind fun x16 => some (x16.1, x16.2))) else (if x7 = 31 then ((f_Image_at_51 ((X1.1 a4 4) + 1) X1).bind fun x18 => ((f_Engine_doMake a4 x7 x18 X1).bind fun x19 => some (x19.1, x19.2))) else (if ¬ x7 = 35 then (if f_P_usesField x7 = true then ((f_Engine_doField a4 x7 (X1.1 a4 4) X1).bind fun x23 => some (x23.1, x23.2)) else (if ¬ x7 = 34 then (if 32 ≤ x7 ∧ x7 ≤ 37 then ((f_Engine_doPlace a4 x7 X1).bind fun x28 => some (x28.1, x28.2)) else (if 38 ≤ x7 ∧ x7 ≤ 43 then ((f_Image_at_51 ((X1.1 a4 4) + 1) X1).bind fun x32 => ((f_Engine_doCall a4 x7 x32 X1).bind fun x33 => some (x33.1, x33.2))) else (if ¬ x7 = 48 then (if x7 = 49 then ((f_Strand_pop a4 X1).bind fun x37 => ((f_Engine_doMonitor x37.1 x7 (x + 1) x37.2).bind fun x38 => some (x38.1, x38.2))) else (if ¬ x7 = 50 then (if ¬ x7 = 51 then (if 52 ≤ x7 ∧ x7 ≤ 55 then ((f_Image_at_51 ((X1.1 a4 4) + 1) X1).bind fun x43 => ((f_Engine_doStatic a4 x7 x43 X1).bind fun x44 => some (x44.1, x44.2))) else ((f_Engine_doPlain a4 x7 ((X1.1 a4 4) + 1) X1).bind fun x46 => some (x46.1, x46.2))) else (lt (xw X1 40 1 1) fun X47 => some (0, X47))) else ((f_Strand_pop a4 X1).bind fun x48 => ((f_Engine_doMonitor x48.1 x7 (x + 1) x48.2).bind fun x49 => some (x49.1, x49.2))))) else ((f_Strand_pop a4 X1).bind fun x50 => ((f_Engine_doBegin x50.1 x50.2).bind fun x51 => some (x51.1, x51.2)))))) else ((f_Engine_doLength a4 X1).bind fun x52 => some (x52.1, x52.2)))) else ((f_Image_at_51 ((X1.1 a4 4) + 1) X1).bind fun x53 => ((f_Engine_doMake a4 x7 x53 X1).bind fun x54 => some (x54.1, x54.2))))))) else ((f_Engine_doArithmetic a4 x7 X1).bind fun x55 => some (x55.1, x55.2))) else ((f_Engine_doPlain a4 x7 ((X1.1 a4 4) + 1) X1).bind fun x56 => some (x56.1, x56.2))) : Option (Int32 × XS)).bind fun x57 => (if ¬ x57.1 = 0 then (if x57.1 ≤ 0 then some x57.2 else ((f_Engine_raise a4 x57.1 x57.2).bind fun x60 => some x60)) else (if (xT x57.2 a4 = some (14, 0)) then (lt (xw x57.2 a4 4 ((X1.1 a4 4) + (f_P_bytesOf x7))) fun X62 => some X62) else none)))) else none))) else some X1))
set_option maxRecDepth 100000 in
set_option maxHeartbeats 4000000 in
theorem s_Engine_step {L : Nat} {xs : Nat → Int32} {X : XS} {M : MS} {x : Int32} : Sp (mjOO L xs) 109 0 [some (.ref 40), some (.int x), none, none, none, none] [] (hS X M) (f_Engine_step x X) (KVX M) := by
  unfold f_Engine_step
  refine Sp.step rfl rfl rfl rfl ?_
  refine Sp.step rfl rfl rfl rfl ?_
  refine Sp.step rfl rfl rfl (xp_I (c := 0) (f := 1) rfl rfl rfl rfl rfl) ?_
  refine Sp.step rfl rfl rfl rfl ?_
  refine Sp.step rfl rfl rfl rfl ?_
  refine Sp.callS rfl rfl rfl (xrecv (c := 0) (by decide) rfl (by decide +kernel)) s_Engine_isStrand ⟨rfl, rfl⟩ ?_
  refine Sp.bool (fun e2 => ?_) (fun e2 => ?_)
  · refine Sp.id (pc := 10) (l := [some (.ref 40), some (.int x), none, none, none, none]) (st := [.int 1]) (h := hS (xw X 40 1 0) M) ?_
    refine Sp.step rfl rfl rfl rfl ?_
    refine Sp.step rfl rfl rfl rfl ?_
    refine Sp.step rfl rfl rfl (xg_F (c := 0) (f := 5) rfl rfl rfl rfl rfl) ?_
    refine Sp.step rfl rfl rfl rfl ?_
    refine Sp.step rfl rfl rfl (xald (t := 4) rfl (by decide) (fun _ => rfl) (isStrand_ix e2)) ?_
    refine Sp.ocrn (fun a4 e5 => ?_)
    refine Sp.step rfl rfl rfl rfl ?_
    refine Sp.step rfl rfl rfl rfl ?_
    refine Sp.guard (fun e6 => ?_)
    refine Sp.step rfl rfl rfl (xg_I (c := 9) (f := 4) rfl rfl e6 rfl) ?_
    refine Sp.step rfl rfl rfl rfl ?_
    refine Sp.step rfl rfl rfl rfl ?_
    refine Sp.step rfl rfl rfl (xg_F (c := 0) (f := 6) rfl rfl rfl rfl rfl) ?_
    refine Sp.step rfl rfl rfl rfl ?_
    refine Sp.call rfl rfl rfl (xrecv (c := 2) (by decide) rfl (by decide +kernel)) s_Image_at_51 (fun x7 => ⟨_, _, ⟨rfl, rfl⟩, ?_⟩)
    refine Sp.id (pc := 34) (l := [some (.ref 40), some (.int x), some (.ref a4), some (.int ((xw X 40 1 0).1 a4 4)), none, none]) (st := [.int x7]) (h := hS (xw X 40 1 0) M) ?_
    refine Sp.step rfl rfl rfl rfl ?_
    refine Sp.step rfl rfl rfl rfl ?_
    refine Sp.step rfl rfl rfl rfl ?_
    refine Sp.piece (pe := 352) (mf := (fun (x57 : Int32 × XS) => [some (.ref 40), none, some (.ref a4), some (.int ((xw X 40 1 0).1 a4 4)), some (.int x7), some (.int x57.1)])) (sf := (fun (x57 : Int32 × XS) => [])) (hf := (fun (x57 : Int32 × XS) => hS x57.2 M)) ?_ (fun x57 => ?_)
    · refine Sp.if2 rfl rfl rfl rfl (fun e8 => ?_) (fun e8 => ?_)
      · refine Sp.step rfl rfl rfl rfl ?_
        refine Sp.step rfl rfl rfl rfl ?_
        refine Sp.if2 rfl rfl rfl rfl (fun e9 => ?_) (fun e9 => ?_)
        · refine Sp.step rfl rfl rfl rfl ?_
          refine Sp.callS rfl rfl rfl rfl s_P_jumps ⟨rfl, rfl⟩ ?_
          refine Sp.bool (fun e10 => ?_) (fun e10 => ?_)
          · refine Sp.id (pc := 81) (l := [some (.ref 40), some (.int x), some (.ref a4), some (.int ((xw X 40 1 0).1 a4 4)), some (.int x7), none]) (st := [.int 1]) (h := hS (xw X 40 1 0) M) ?_
            refine Sp.step rfl rfl rfl rfl ?_
            refine Sp.step rfl rfl rfl rfl ?_
            refine Sp.step rfl rfl rfl rfl ?_
            refine Sp.step rfl rfl rfl rfl ?_
            refine Sp.step rfl rfl rfl rfl ?_
            refine Sp.call rfl rfl rfl (xrecv (c := 0) (by decide) rfl (by decide +kernel)) s_Engine_doJump (fun x12 => ⟨_, _, ⟨rfl, rfl⟩, ?_⟩)
            refine Sp.id (pc := 92) (l := [some (.ref 40), some (.int x), some (.ref a4), some (.int ((xw X 40 1 0).1 a4 4)), some (.int x7), none]) (st := [.int x12.1]) (h := hS x12.2 M) ?_
            refine Sp.step rfl rfl rfl rfl ?_
            refine Sp.step rfl rfl rfl rfl ?_
            exact Sp.jmp (l0 := [some (.ref 40), none, some (.ref a4), some (.int ((xw X 40 1 0).1 a4 4)), some (.int x7), some (.int x12.1)]) ⟨rfl, rfl, rfl, rfl, rfl, trivial⟩ (fun _ _ h => h)
          · refine Sp.id (pc := 81) (l := [some (.ref 40), some (.int x), some (.ref a4), some (.int ((xw X 40 1 0).1 a4 4)), some (.int x7), none]) (st := [.int 0]) (h := hS (xw X 40 1 0) M) ?_
            refine Sp.step rfl rfl rfl rfl ?_
            refine Sp.step rfl rfl rfl rfl ?_
            refine Sp.step rfl rfl rfl rfl ?_
            refine Sp.if2 rfl rfl rfl rfl (fun e14 => ?_) (fun e14 => ?_)
            · refine Sp.step rfl rfl rfl rfl ?_
              refine Sp.step rfl rfl rfl rfl ?_
              refine Sp.step rfl rfl rfl rfl ?_
              refine Sp.step rfl rfl rfl rfl ?_
              refine Sp.step rfl rfl rfl (xg_F (c := 0) (f := 6) rfl rfl rfl rfl rfl) ?_
              refine Sp.step rfl rfl rfl rfl ?_
              refine Sp.step rfl rfl rfl rfl ?_
              refine Sp.step rfl rfl rfl rfl ?_
              refine Sp.call rfl rfl rfl (xrecv (c := 2) (by decide) rfl (by decide +kernel)) s_Image_at_51 (fun x15 => ⟨_, _, ⟨rfl, rfl⟩, ?_⟩)
              refine Sp.id (pc := 132) (l := [some (.ref 40), some (.int x), some (.ref a4), some (.int ((xw X 40 1 0).1 a4 4)), some (.int x7), none]) (st := [.int x15, .int x7, .ref a4, .ref 40]) (h := hS (xw X 40 1 0) M) ?_
              refine Sp.call rfl rfl rfl (xrecv (c := 0) (by decide) rfl (by decide +kernel)) s_Engine_doMake (fun x16 => ⟨_, _, ⟨rfl, rfl⟩, ?_⟩)
              refine Sp.id (pc := 135) (l := [some (.ref 40), some (.int x), some (.ref a4), some (.int ((xw X 40 1 0).1 a4 4)), some (.int x7), none]) (st := [.int x16.1]) (h := hS x16.2 M) ?_
              refine Sp.step rfl rfl rfl rfl ?_
              refine Sp.step rfl rfl rfl rfl ?_
              exact Sp.jmp (l0 := [some (.ref 40), none, some (.ref a4), some (.int ((xw X 40 1 0).1 a4 4)), some (.int x7), some (.int x16.1)]) ⟨rfl, rfl, rfl, rfl, rfl, trivial⟩ (fun _ _ h => h)
            · refine Sp.step rfl rfl rfl rfl ?_
              refine Sp.step rfl rfl rfl rfl ?_
              refine Sp.if2 rfl rfl rfl rfl (fun e17 => ?_) (fun e17 => ?_)
              · refine Sp.step rfl rfl rfl rfl ?_
                refine Sp.step rfl rfl rfl rfl ?_
                refine Sp.step rfl rfl rfl rfl ?_
                refine Sp.step rfl rfl rfl rfl ?_
                refine Sp.step rfl rfl rfl (xg_F (c := 0) (f := 6) rfl rfl rfl rfl rfl) ?_
                refine Sp.step rfl rfl rfl rfl ?_
                refine Sp.step rfl rfl rfl rfl ?_
                refine Sp.step rfl rfl rfl rfl ?_
                refine Sp.call rfl rfl rfl (xrecv (c := 2) (by decide) rfl (by decide +kernel)) s_Image_at_51 (fun x18 => ⟨_, _, ⟨rfl, rfl⟩, ?_⟩)
                refine Sp.id (pc := 132) (l := [some (.ref 40), some (.int x), some (.ref a4), some (.int ((xw X 40 1 0).1 a4 4)), some (.int x7), none]) (st := [.int x18, .int x7, .ref a4, .ref 40]) (h := hS (xw X 40 1 0) M) ?_
                refine Sp.call rfl rfl rfl (xrecv (c := 0) (by decide) rfl (by decide +kernel)) s_Engine_doMake (fun x19 => ⟨_, _, ⟨rfl, rfl⟩, ?_⟩)
                refine Sp.id (pc := 135) (l := [some (.ref 40), some (.int x), some (.ref a4), some (.int ((xw X 40 1 0).1 a4 4)), some (.int x7), none]) (st := [.int x19.1]) (h := hS x19.2 M) ?_
                refine Sp.step rfl rfl rfl rfl ?_
                refine Sp.step rfl rfl rfl rfl ?_
                exact Sp.jmp (l0 := [some (.ref 40), none, some (.ref a4), some (.int ((xw X 40 1 0).1 a4 4)), some (.int x7), some (.int x19.1)]) ⟨rfl, rfl, rfl, rfl, rfl, trivial⟩ (fun _ _ h => h)
              · refine Sp.step rfl rfl rfl rfl ?_
                refine Sp.step rfl rfl rfl rfl ?_
                refine Sp.if2 rfl rfl rfl rfl (fun e20 => ?_) (fun e20 => ?_)
                · refine Sp.step rfl rfl rfl rfl ?_
                  refine Sp.callS rfl rfl rfl rfl s_P_usesField ⟨rfl, rfl⟩ ?_
                  refine Sp.bool (fun e21 => ?_) (fun e21 => ?_)
                  · refine Sp.id (pc := 145) (l := [some (.ref 40), some (.int x), some (.ref a4), some (.int ((xw X 40 1 0).1 a4 4)), some (.int x7), none]) (st := [.int 1]) (h := hS (xw X 40 1 0) M) ?_
                    refine Sp.step rfl rfl rfl rfl ?_
                    refine Sp.step rfl rfl rfl rfl ?_
                    refine Sp.step rfl rfl rfl rfl ?_
                    refine Sp.step rfl rfl rfl rfl ?_
                    refine Sp.step rfl rfl rfl rfl ?_
                    refine Sp.call rfl rfl rfl (xrecv (c := 0) (by decide) rfl (by decide +kernel)) s_Engine_doField (fun x23 => ⟨_, _, ⟨rfl, rfl⟩, ?_⟩)
                    refine Sp.id (pc := 156) (l := [some (.ref 40), some (.int x), some (.ref a4), some (.int ((xw X 40 1 0).1 a4 4)), some (.int x7), none]) (st := [.int x23.1]) (h := hS x23.2 M) ?_
                    refine Sp.step rfl rfl rfl rfl ?_
                    refine Sp.step rfl rfl rfl rfl ?_
                    exact Sp.jmp (l0 := [some (.ref 40), none, some (.ref a4), some (.int ((xw X 40 1 0).1 a4 4)), some (.int x7), some (.int x23.1)]) ⟨rfl, rfl, rfl, rfl, rfl, trivial⟩ (fun _ _ h => h)
                  · refine Sp.id (pc := 145) (l := [some (.ref 40), some (.int x), some (.ref a4), some (.int ((xw X 40 1 0).1 a4 4)), some (.int x7), none]) (st := [.int 0]) (h := hS (xw X 40 1 0) M) ?_
                    refine Sp.step rfl rfl rfl rfl ?_
                    refine Sp.step rfl rfl rfl rfl ?_
                    refine Sp.step rfl rfl rfl rfl ?_
                    refine Sp.if2 rfl rfl rfl rfl (fun e25 => ?_) (fun e25 => ?_)
                    · refine Sp.step rfl rfl rfl rfl ?_
                      refine Sp.step rfl rfl rfl rfl ?_
                      refine Sp.step rfl rfl rfl rfl ?_
                      refine Sp.callP rfl rfl rfl rfl s_within (fun e26 => ?_) (fun e26 => ?_)
                      · refine Sp.id (pc := 187) (l := [some (.ref 40), some (.int x), some (.ref a4), some (.int ((xw X 40 1 0).1 a4 4)), some (.int x7), none]) (st := [.int 1]) (h := hS (xw X 40 1 0) M) ?_
                        refine Sp.step rfl rfl rfl rfl ?_
                        refine Sp.step rfl rfl rfl rfl ?_
                        refine Sp.step rfl rfl rfl rfl ?_
                        refine Sp.step rfl rfl rfl rfl ?_
                        refine Sp.call rfl rfl rfl (xrecv (c := 0) (by decide) rfl (by decide +kernel)) s_Engine_doPlace (fun x28 => ⟨_, _, ⟨rfl, rfl⟩, ?_⟩)
                        refine Sp.id (pc := 197) (l := [some (.ref 40), some (.int x), some (.ref a4), some (.int ((xw X 40 1 0).1 a4 4)), some (.int x7), none]) (st := [.int x28.1]) (h := hS x28.2 M) ?_
                        refine Sp.step rfl rfl rfl rfl ?_
                        refine Sp.step rfl rfl rfl rfl ?_
                        exact Sp.jmp (l0 := [some (.ref 40), none, some (.ref a4), some (.int ((xw X 40 1 0).1 a4 4)), some (.int x7), some (.int x28.1)]) ⟨rfl, rfl, rfl, rfl, rfl, trivial⟩ (fun _ _ h => h)
                      · refine Sp.id (pc := 187) (l := [some (.ref 40), some (.int x), some (.ref a4), some (.int ((xw X 40 1 0).1 a4 4)), some (.int x7), none]) (st := [.int 0]) (h := hS (xw X 40 1 0) M) ?_
                        refine Sp.step rfl rfl rfl rfl ?_
                        refine Sp.step rfl rfl rfl rfl ?_
                        refine Sp.step rfl rfl rfl rfl ?_
                        refine Sp.step rfl rfl rfl rfl ?_
                        refine Sp.callP rfl rfl rfl rfl s_within (fun e30 => ?_) (fun e30 => ?_)
                        · refine Sp.id (pc := 211) (l := [some (.ref 40), some (.int x), some (.ref a4), some (.int ((xw X 40 1 0).1 a4 4)), some (.int x7), none]) (st := [.int 1]) (h := hS (xw X 40 1 0) M) ?_
                          refine Sp.step rfl rfl rfl rfl ?_
                          refine Sp.step rfl rfl rfl rfl ?_
                          refine Sp.step rfl rfl rfl rfl ?_
                          refine Sp.step rfl rfl rfl rfl ?_
                          refine Sp.step rfl rfl rfl rfl ?_
                          refine Sp.step rfl rfl rfl (xg_F (c := 0) (f := 6) rfl rfl rfl rfl rfl) ?_
                          refine Sp.step rfl rfl rfl rfl ?_
                          refine Sp.step rfl rfl rfl rfl ?_
                          refine Sp.step rfl rfl rfl rfl ?_
                          refine Sp.call rfl rfl rfl (xrecv (c := 2) (by decide) rfl (by decide +kernel)) s_Image_at_51 (fun x32 => ⟨_, _, ⟨rfl, rfl⟩, ?_⟩)
                          refine Sp.id (pc := 228) (l := [some (.ref 40), some (.int x), some (.ref a4), some (.int ((xw X 40 1 0).1 a4 4)), some (.int x7), none]) (st := [.int x32, .int x7, .ref a4, .ref 40]) (h := hS (xw X 40 1 0) M) ?_
                          refine Sp.call rfl rfl rfl (xrecv (c := 0) (by decide) rfl (by decide +kernel)) s_Engine_doCall (fun x33 => ⟨_, _, ⟨rfl, rfl⟩, ?_⟩)
                          refine Sp.id (pc := 231) (l := [some (.ref 40), some (.int x), some (.ref a4), some (.int ((xw X 40 1 0).1 a4 4)), some (.int x7), none]) (st := [.int x33.1]) (h := hS x33.2 M) ?_
                          refine Sp.step rfl rfl rfl rfl ?_
                          refine Sp.step rfl rfl rfl rfl ?_
                          exact Sp.jmp (l0 := [some (.ref 40), none, some (.ref a4), some (.int ((xw X 40 1 0).1 a4 4)), some (.int x7), some (.int x33.1)]) ⟨rfl, rfl, rfl, rfl, rfl, trivial⟩ (fun _ _ h => h)
                        · refine Sp.id (pc := 211) (l := [some (.ref 40), some (.int x), some (.ref a4), some (.int ((xw X 40 1 0).1 a4 4)), some (.int x7), none]) (st := [.int 0]) (h := hS (xw X 40 1 0) M) ?_
                          refine Sp.step rfl rfl rfl rfl ?_
                          refine Sp.step rfl rfl rfl rfl ?_
                          refine Sp.step rfl rfl rfl rfl ?_
                          refine Sp.if2 rfl rfl rfl rfl (fun e35 => ?_) (fun e35 => ?_)
                          · refine Sp.step rfl rfl rfl rfl ?_
                            refine Sp.step rfl rfl rfl rfl ?_
                            refine Sp.if2 rfl rfl rfl rfl (fun e36 => ?_) (fun e36 => ?_)
                            · refine Sp.step rfl rfl rfl rfl ?_
                              refine Sp.step rfl rfl rfl rfl ?_
                              refine Sp.call rfl rfl rfl (xrecv (c := 9) (by decide) e6 (by decide +kernel)) s_Strand_pop (fun x37 => ⟨_, _, ⟨rfl, rfl⟩, ?_⟩)
                              refine Sp.id (pc := 275) (l := [some (.ref 40), some (.int x), some (.ref a4), some (.int ((xw X 40 1 0).1 a4 4)), some (.int x7), none]) (st := [.int x37.1, .ref 40]) (h := hS x37.2 M) ?_
                              refine Sp.step rfl rfl rfl rfl ?_
                              refine Sp.step rfl rfl rfl rfl ?_
                              refine Sp.step rfl rfl rfl rfl ?_
                              refine Sp.step rfl rfl rfl rfl ?_
                              refine Sp.call rfl rfl rfl (xrecv (c := 0) (by decide) rfl (by decide +kernel)) s_Engine_doMonitor (fun x38 => ⟨_, _, ⟨rfl, rfl⟩, ?_⟩)
                              refine Sp.id (pc := 283) (l := [some (.ref 40), some (.int x), some (.ref a4), some (.int ((xw X 40 1 0).1 a4 4)), some (.int x7), none]) (st := [.int x38.1]) (h := hS x38.2 M) ?_
                              refine Sp.step rfl rfl rfl rfl ?_
                              refine Sp.step rfl rfl rfl rfl ?_
                              exact Sp.jmp (l0 := [some (.ref 40), none, some (.ref a4), some (.int ((xw X 40 1 0).1 a4 4)), some (.int x7), some (.int x38.1)]) ⟨rfl, rfl, rfl, rfl, rfl, trivial⟩ (fun _ _ h => h)
                            · refine Sp.step rfl rfl rfl rfl ?_
                              refine Sp.step rfl rfl rfl rfl ?_
                              refine Sp.if2 rfl rfl rfl rfl (fun e39 => ?_) (fun e39 => ?_)
                              · refine Sp.step rfl rfl rfl rfl ?_
                                refine Sp.step rfl rfl rfl rfl ?_
                                refine Sp.if2 rfl rfl rfl rfl (fun e40 => ?_) (fun e40 => ?_)
                                · refine Sp.step rfl rfl rfl rfl ?_
                                  refine Sp.step rfl rfl rfl rfl ?_
                                  refine Sp.step rfl rfl rfl rfl ?_
                                  refine Sp.callP rfl rfl rfl rfl s_within (fun e41 => ?_) (fun e41 => ?_)
                                  · refine Sp.id (pc := 315) (l := [some (.ref 40), some (.int x), some (.ref a4), some (.int ((xw X 40 1 0).1 a4 4)), some (.int x7), none]) (st := [.int 1]) (h := hS (xw X 40 1 0) M) ?_
                                    refine Sp.step rfl rfl rfl rfl ?_
                                    refine Sp.step rfl rfl rfl rfl ?_
                                    refine Sp.step rfl rfl rfl rfl ?_
                                    refine Sp.step rfl rfl rfl rfl ?_
                                    refine Sp.step rfl rfl rfl rfl ?_
                                    refine Sp.step rfl rfl rfl (xg_F (c := 0) (f := 6) rfl rfl rfl rfl rfl) ?_
                                    refine Sp.step rfl rfl rfl rfl ?_
                                    refine Sp.step rfl rfl rfl rfl ?_
                                    refine Sp.step rfl rfl rfl rfl ?_
                                    refine Sp.call rfl rfl rfl (xrecv (c := 2) (by decide) rfl (by decide +kernel)) s_Image_at_51 (fun x43 => ⟨_, _, ⟨rfl, rfl⟩, ?_⟩)
                                    refine Sp.id (pc := 332) (l := [some (.ref 40), some (.int x), some (.ref a4), some (.int ((xw X 40 1 0).1 a4 4)), some (.int x7), none]) (st := [.int x43, .int x7, .ref a4, .ref 40]) (h := hS (xw X 40 1 0) M) ?_
                                    refine Sp.call rfl rfl rfl (xrecv (c := 0) (by decide) rfl (by decide +kernel)) s_Engine_doStatic (fun x44 => ⟨_, _, ⟨rfl, rfl⟩, ?_⟩)
                                    refine Sp.id (pc := 335) (l := [some (.ref 40), some (.int x), some (.ref a4), some (.int ((xw X 40 1 0).1 a4 4)), some (.int x7), none]) (st := [.int x44.1]) (h := hS x44.2 M) ?_
                                    refine Sp.step rfl rfl rfl rfl ?_
                                    refine Sp.step rfl rfl rfl rfl ?_
                                    exact Sp.jmp (l0 := [some (.ref 40), none, some (.ref a4), some (.int ((xw X 40 1 0).1 a4 4)), some (.int x7), some (.int x44.1)]) ⟨rfl, rfl, rfl, rfl, rfl, trivial⟩ (fun _ _ h => h)
                                  · refine Sp.id (pc := 315) (l := [some (.ref 40), some (.int x), some (.ref a4), some (.int ((xw X 40 1 0).1 a4 4)), some (.int x7), none]) (st := [.int 0]) (h := hS (xw X 40 1 0) M) ?_
                                    refine Sp.step rfl rfl rfl rfl ?_
                                    refine Sp.step rfl rfl rfl rfl ?_
                                    refine Sp.step rfl rfl rfl rfl ?_
                                    refine Sp.step rfl rfl rfl rfl ?_
                                    refine Sp.step rfl rfl rfl rfl ?_
                                    refine Sp.step rfl rfl rfl rfl ?_
                                    refine Sp.step rfl rfl rfl rfl ?_
                                    refine Sp.call rfl rfl rfl (xrecv (c := 0) (by decide) rfl (by decide +kernel)) s_Engine_doPlain (fun x46 => ⟨_, _, ⟨rfl, rfl⟩, ?_⟩)
                                    refine Sp.id (pc := 350) (l := [some (.ref 40), some (.int x), some (.ref a4), some (.int ((xw X 40 1 0).1 a4 4)), some (.int x7), none]) (st := [.int x46.1]) (h := hS x46.2 M) ?_
                                    refine Sp.step rfl rfl rfl rfl ?_
                                    exact Sp.jmp (l0 := [some (.ref 40), none, some (.ref a4), some (.int ((xw X 40 1 0).1 a4 4)), some (.int x7), some (.int x46.1)]) ⟨rfl, rfl, rfl, rfl, rfl, trivial⟩ (fun _ _ h => h)
                                · refine Sp.step rfl rfl rfl rfl ?_
                                  refine Sp.step rfl rfl rfl rfl ?_
                                  refine Sp.step rfl rfl rfl (xp_I (c := 0) (f := 1) rfl rfl rfl rfl rfl) ?_
                                  refine Sp.step rfl rfl rfl rfl ?_
                                  refine Sp.step rfl rfl rfl rfl ?_
                                  refine Sp.step rfl rfl rfl rfl ?_
                                  exact Sp.jmp (l0 := [some (.ref 40), none, some (.ref a4), some (.int ((xw X 40 1 0).1 a4 4)), some (.int x7), some (.int 0)]) ⟨rfl, rfl, rfl, rfl, rfl, trivial⟩ (fun _ _ h => h)
                              · refine Sp.step rfl rfl rfl rfl ?_
                                refine Sp.step rfl rfl rfl rfl ?_
                                refine Sp.call rfl rfl rfl (xrecv (c := 9) (by decide) e6 (by decide +kernel)) s_Strand_pop (fun x48 => ⟨_, _, ⟨rfl, rfl⟩, ?_⟩)
                                refine Sp.id (pc := 275) (l := [some (.ref 40), some (.int x), some (.ref a4), some (.int ((xw X 40 1 0).1 a4 4)), some (.int x7), none]) (st := [.int x48.1, .ref 40]) (h := hS x48.2 M) ?_
                                refine Sp.step rfl rfl rfl rfl ?_
                                refine Sp.step rfl rfl rfl rfl ?_
                                refine Sp.step rfl rfl rfl rfl ?_
                                refine Sp.step rfl rfl rfl rfl ?_
                                refine Sp.call rfl rfl rfl (xrecv (c := 0) (by decide) rfl (by decide +kernel)) s_Engine_doMonitor (fun x49 => ⟨_, _, ⟨rfl, rfl⟩, ?_⟩)
                                refine Sp.id (pc := 283) (l := [some (.ref 40), some (.int x), some (.ref a4), some (.int ((xw X 40 1 0).1 a4 4)), some (.int x7), none]) (st := [.int x49.1]) (h := hS x49.2 M) ?_
                                refine Sp.step rfl rfl rfl rfl ?_
                                refine Sp.step rfl rfl rfl rfl ?_
                                exact Sp.jmp (l0 := [some (.ref 40), none, some (.ref a4), some (.int ((xw X 40 1 0).1 a4 4)), some (.int x7), some (.int x49.1)]) ⟨rfl, rfl, rfl, rfl, rfl, trivial⟩ (fun _ _ h => h)
                          · refine Sp.step rfl rfl rfl rfl ?_
                            refine Sp.step rfl rfl rfl rfl ?_
                            refine Sp.call rfl rfl rfl (xrecv (c := 9) (by decide) e6 (by decide +kernel)) s_Strand_pop (fun x50 => ⟨_, _, ⟨rfl, rfl⟩, ?_⟩)
                            refine Sp.id (pc := 248) (l := [some (.ref 40), some (.int x), some (.ref a4), some (.int ((xw X 40 1 0).1 a4 4)), some (.int x7), none]) (st := [.int x50.1, .ref 40]) (h := hS x50.2 M) ?_
                            refine Sp.call rfl rfl rfl (xrecv (c := 0) (by decide) rfl (by decide +kernel)) s_Engine_doBegin (fun x51 => ⟨_, _, ⟨rfl, rfl⟩, ?_⟩)
                            refine Sp.id (pc := 251) (l := [some (.ref 40), some (.int x), some (.ref a4), some (.int ((xw X 40 1 0).1 a4 4)), some (.int x7), none]) (st := [.int x51.1]) (h := hS x51.2 M) ?_
                            refine Sp.step rfl rfl rfl rfl ?_
                            refine Sp.step rfl rfl rfl rfl ?_
                            exact Sp.jmp (l0 := [some (.ref 40), none, some (.ref a4), some (.int ((xw X 40 1 0).1 a4 4)), some (.int x7), some (.int x51.1)]) ⟨rfl, rfl, rfl, rfl, rfl, trivial⟩ (fun _ _ h => h)
                    · refine Sp.step rfl rfl rfl rfl ?_
                      refine Sp.step rfl rfl rfl rfl ?_
                      refine Sp.call rfl rfl rfl (xrecv (c := 0) (by decide) rfl (by decide +kernel)) s_Engine_doLength (fun x52 => ⟨_, _, ⟨rfl, rfl⟩, ?_⟩)
                      refine Sp.id (pc := 173) (l := [some (.ref 40), some (.int x), some (.ref a4), some (.int ((xw X 40 1 0).1 a4 4)), some (.int x7), none]) (st := [.int x52.1]) (h := hS x52.2 M) ?_
                      refine Sp.step rfl rfl rfl rfl ?_
                      refine Sp.step rfl rfl rfl rfl ?_
                      exact Sp.jmp (l0 := [some (.ref 40), none, some (.ref a4), some (.int ((xw X 40 1 0).1 a4 4)), some (.int x7), some (.int x52.1)]) ⟨rfl, rfl, rfl, rfl, rfl, trivial⟩ (fun _ _ h => h)
                · refine Sp.step rfl rfl rfl rfl ?_
                  refine Sp.step rfl rfl rfl rfl ?_
                  refine Sp.step rfl rfl rfl rfl ?_
                  refine Sp.step rfl rfl rfl rfl ?_
                  refine Sp.step rfl rfl rfl (xg_F (c := 0) (f := 6) rfl rfl rfl rfl rfl) ?_
                  refine Sp.step rfl rfl rfl rfl ?_
                  refine Sp.step rfl rfl rfl rfl ?_
                  refine Sp.step rfl rfl rfl rfl ?_
                  refine Sp.call rfl rfl rfl (xrecv (c := 2) (by decide) rfl (by decide +kernel)) s_Image_at_51 (fun x53 => ⟨_, _, ⟨rfl, rfl⟩, ?_⟩)
                  refine Sp.id (pc := 132) (l := [some (.ref 40), some (.int x), some (.ref a4), some (.int ((xw X 40 1 0).1 a4 4)), some (.int x7), none]) (st := [.int x53, .int x7, .ref a4, .ref 40]) (h := hS (xw X 40 1 0) M) ?_
                  refine Sp.call rfl rfl rfl (xrecv (c := 0) (by decide) rfl (by decide +kernel)) s_Engine_doMake (fun x54 => ⟨_, _, ⟨rfl, rfl⟩, ?_⟩)
                  refine Sp.id (pc := 135) (l := [some (.ref 40), some (.int x), some (.ref a4), some (.int ((xw X 40 1 0).1 a4 4)), some (.int x7), none]) (st := [.int x54.1]) (h := hS x54.2 M) ?_
                  refine Sp.step rfl rfl rfl rfl ?_
                  refine Sp.step rfl rfl rfl rfl ?_
                  exact Sp.jmp (l0 := [some (.ref 40), none, some (.ref a4), some (.int ((xw X 40 1 0).1 a4 4)), some (.int x7), some (.int x54.1)]) ⟨rfl, rfl, rfl, rfl, rfl, trivial⟩ (fun _ _ h => h)
        · refine Sp.step rfl rfl rfl rfl ?_
          refine Sp.step rfl rfl rfl rfl ?_
          refine Sp.step rfl rfl rfl rfl ?_
          refine Sp.call rfl rfl rfl (xrecv (c := 0) (by decide) rfl (by decide +kernel)) s_Engine_doArithmetic (fun x55 => ⟨_, _, ⟨rfl, rfl⟩, ?_⟩)
          refine Sp.id (pc := 71) (l := [some (.ref 40), some (.int x), some (.ref a4), some (.int ((xw X 40 1 0).1 a4 4)), some (.int x7), none]) (st := [.int x55.1]) (h := hS x55.2 M) ?_
          refine Sp.step rfl rfl rfl rfl ?_
          refine Sp.step rfl rfl rfl rfl ?_
          exact Sp.jmp (l0 := [some (.ref 40), none, some (.ref a4), some (.int ((xw X 40 1 0).1 a4 4)), some (.int x7), some (.int x55.1)]) ⟨rfl, rfl, rfl, rfl, rfl, trivial⟩ (fun _ _ h => h)
      · refine Sp.step rfl rfl rfl rfl ?_
        refine Sp.step rfl rfl rfl rfl ?_
        refine Sp.step rfl rfl rfl rfl ?_
        refine Sp.step rfl rfl rfl rfl ?_
        refine Sp.step rfl rfl rfl rfl ?_
        refine Sp.step rfl rfl rfl rfl ?_
        refine Sp.call rfl rfl rfl (xrecv (c := 0) (by decide) rfl (by decide +kernel)) s_Engine_doPlain (fun x56 => ⟨_, _, ⟨rfl, rfl⟩, ?_⟩)
        refine Sp.id (pc := 52) (l := [some (.ref 40), some (.int x), some (.ref a4), some (.int ((xw X 40 1 0).1 a4 4)), some (.int x7), none]) (st := [.int x56.1]) (h := hS x56.2 M) ?_
        refine Sp.step rfl rfl rfl rfl ?_
        refine Sp.step rfl rfl rfl rfl ?_
        exact Sp.jmp (l0 := [some (.ref 40), none, some (.ref a4), some (.int ((xw X 40 1 0).1 a4 4)), some (.int x7), some (.int x56.1)]) ⟨rfl, rfl, rfl, rfl, rfl, trivial⟩ (fun _ _ h => h)
    · refine Sp.step rfl rfl rfl rfl ?_
      refine Sp.if1 rfl rfl rfl rfl (fun e58 => ?_) (fun e58 => ?_)
      · refine Sp.step rfl rfl rfl rfl ?_
        refine Sp.if1 rfl rfl rfl rfl (fun e59 => ?_) (fun e59 => ?_)
        · exact Sp.vret rfl rfl rfl (fun _ _ h => h)
        · refine Sp.step rfl rfl rfl rfl ?_
          refine Sp.step rfl rfl rfl rfl ?_
          refine Sp.step rfl rfl rfl rfl ?_
          refine Sp.call rfl rfl rfl (xrecv (c := 0) (by decide) rfl (by decide +kernel)) s_Engine_raise (fun x60 => ⟨_, _, ⟨rfl, rfl⟩, ?_⟩)
          refine Sp.id (pc := 383) (l := [some (.ref 40), none, some (.ref a4), some (.int ((xw X 40 1 0).1 a4 4)), some (.int x7), some (.int x57.1)]) (st := []) (h := hS x60 M) ?_
          exact Sp.vret rfl rfl rfl (fun _ _ h => h)
      · refine Sp.step rfl rfl rfl rfl ?_
        refine Sp.step rfl rfl rfl rfl ?_
        refine Sp.step rfl rfl rfl rfl ?_
        refine Sp.callS rfl rfl rfl rfl s_P_bytesOf ⟨rfl, rfl⟩ ?_
        refine Sp.id (pc := 364) (l := [some (.ref 40), none, some (.ref a4), some (.int ((xw X 40 1 0).1 a4 4)), some (.int x7), some (.int x57.1)]) (st := [.int (f_P_bytesOf x7), .int ((xw X 40 1 0).1 a4 4), .ref a4]) (h := hS x57.2 M) ?_
        refine Sp.step rfl rfl rfl rfl ?_
        refine Sp.guard (fun e61 => ?_)
        refine Sp.step rfl rfl rfl (xp_I (c := 9) (f := 4) rfl rfl e61 rfl rfl) ?_
        refine Sp.step rfl rfl rfl rfl ?_
        exact Sp.vret rfl rfl rfl (fun _ _ h => h)
  · refine Sp.id (pc := 10) (l := [some (.ref 40), some (.int x), none, none, none, none]) (st := [.int 0]) (h := hS (xw X 40 1 0) M) ?_
    refine Sp.step rfl rfl rfl rfl ?_
    exact Sp.vret rfl rfl rfl (fun _ _ h => h)
def b7_Turns_beginNext (X : XS) (x1 : (Int32 × Int32)) : Option ((Int32 × Int32) ⊕ (Bool × XS)) := (if X.1 40 2 ≤ x1.2 then some (.inr (false, X)) else (((if X.1 40 2 ≤ x1.1 + 1 then some 0 else some (x1.1 + 1)) : Option (Int32)).bind fun x4 => ((f_Engine_canGo x4 X).bind fun x5 => (if x5 = true then (lt (xw X 59 2 x4) fun X8 => (lt (xw X8 59 3 (X8.1 59 4)) fun X9 => some (.inr (true, X9)))) else some (.inl (x4, x1.2 + 1))))))
def f_Turns_beginNext (X : XS) : Option (Bool × XS) := (lp (b7_Turns_beginNext X) 10000 (X.1 59 2, (0 : Int32)))
set_option maxRecDepth 100000 in
set_option maxHeartbeats 4000000 in
theorem s_Turns_beginNext {L : Nat} {xs : Nat → Int32} {X : XS} {M : MS} : Sp (mjOO L xs) 304 0 [some (.ref 59), none, none] [] (hS X M) (f_Turns_beginNext X) (KBX M) := by
  unfold f_Turns_beginNext
  refine Sp.step rfl rfl rfl rfl ?_
  refine Sp.step rfl rfl rfl (xg_I (c := 10) (f := 2) rfl rfl rfl rfl) ?_
  refine Sp.step rfl rfl rfl rfl ?_
  refine Sp.step rfl rfl rfl rfl ?_
  refine Sp.step rfl rfl rfl rfl ?_
  refine Sp.weak (l0 := [some (.ref 59), some (.int (X.1 59 2)), some (.int 0)]) ⟨rfl, rfl, rfl, trivial⟩ ?_
  refine Sp.loopL (mf := (fun (x1 : (Int32 × Int32)) => [some (.ref 59), some (.int x1.1), some (.int x1.2)])) (hf := (fun (x1 : (Int32 × Int32)) => hS X M)) (fun x1 => ?_) _ _
  unfold b7_Turns_beginNext
  refine Sp.step rfl rfl rfl rfl ?_
  refine Sp.step rfl rfl rfl rfl ?_
  refine Sp.step rfl rfl rfl (xg_F (c := 10) (f := 1) rfl rfl rfl rfl rfl) ?_
  refine Sp.step rfl rfl rfl (xg_I (c := 0) (f := 2) rfl rfl rfl rfl) ?_
  refine Sp.if2 rfl rfl rfl rfl (fun e2 => ?_) (fun e2 => ?_)
  · refine Sp.step rfl rfl rfl rfl ?_
    exact Sp.iret rfl rfl rfl rfl (fun _ _ h => h)
  · refine Sp.step rfl rfl rfl rfl ?_
    refine Sp.step rfl rfl rfl rfl ?_
    refine Sp.step rfl rfl rfl rfl ?_
    refine Sp.step rfl rfl rfl rfl ?_
    refine Sp.step rfl rfl rfl (xg_F (c := 10) (f := 1) rfl rfl rfl rfl rfl) ?_
    refine Sp.step rfl rfl rfl (xg_I (c := 0) (f := 2) rfl rfl rfl rfl) ?_
    refine Sp.piece (pe := 38) (mf := (fun (x4 : Int32) => [some (.ref 59), none, some (.int x1.2)])) (sf := (fun (x4 : Int32) => [.int x4])) (hf := (fun (x4 : Int32) => hS X M)) ?_ (fun x4 => ?_)
    · refine Sp.if2 rfl rfl rfl rfl (fun e3 => ?_) (fun e3 => ?_)
      · refine Sp.step rfl rfl rfl rfl ?_
        exact Sp.jmp (l0 := [some (.ref 59), none, some (.int x1.2)]) ⟨rfl, rfl, trivial⟩ (fun _ _ h => h)
      · refine Sp.step rfl rfl rfl rfl ?_
        refine Sp.step rfl rfl rfl rfl ?_
        refine Sp.step rfl rfl rfl rfl ?_
        refine Sp.step rfl rfl rfl rfl ?_
        exact Sp.jmp (l0 := [some (.ref 59), none, some (.int x1.2)]) ⟨rfl, rfl, trivial⟩ (fun _ _ h => h)
    · refine Sp.step rfl rfl rfl rfl ?_
      refine Sp.step rfl rfl rfl rfl ?_
      refine Sp.step rfl rfl rfl (xg_F (c := 10) (f := 1) rfl rfl rfl rfl rfl) ?_
      refine Sp.step rfl rfl rfl rfl ?_
      refine Sp.call rfl rfl rfl (xrecv (c := 0) (by decide) rfl (by decide +kernel)) s_Engine_canGo (fun x5 => ⟨_, _, ⟨rfl, rfl⟩, ?_⟩)
      refine Sp.bool (fun e6 => ?_) (fun e6 => ?_)
      · refine Sp.id (pc := 47) (l := [some (.ref 59), some (.int x4), some (.int x1.2)]) (st := [.int 1]) (h := hS X M) ?_
        refine Sp.step rfl rfl rfl rfl ?_
        refine Sp.step rfl rfl rfl rfl ?_
        refine Sp.step rfl rfl rfl rfl ?_
        refine Sp.step rfl rfl rfl (xp_I (c := 10) (f := 2) rfl rfl rfl rfl rfl) ?_
        refine Sp.step rfl rfl rfl rfl ?_
        refine Sp.step rfl rfl rfl rfl ?_
        refine Sp.step rfl rfl rfl (xg_I (c := 10) (f := 4) rfl rfl rfl rfl) ?_
        refine Sp.step rfl rfl rfl (xp_I (c := 10) (f := 3) rfl rfl rfl rfl rfl) ?_
        refine Sp.step rfl rfl rfl rfl ?_
        exact Sp.iret rfl rfl rfl rfl (fun _ _ h => h)
      · refine Sp.id (pc := 47) (l := [some (.ref 59), some (.int x4), some (.int x1.2)]) (st := [.int 0]) (h := hS X M) ?_
        refine Sp.step rfl rfl rfl rfl ?_
        refine Sp.step rfl rfl rfl rfl ?_
        refine Sp.step rfl rfl rfl rfl ?_
        exact Sp.jmp (l0 := [some (.ref 59), some (.int x4), some (.int (x1.2 + 1))]) ⟨rfl, rfl, rfl, trivial⟩ (fun _ _ h => h)
def b2_Turns_advance (x : Int32) (x19 : (Int32 × XS)) : Option ((Int32 × XS) ⊕ (Int32 × XS)) := (if x ≤ x19.1 then some (.inr (x19.1, x19.2)) else ((f_Turns_goesOn x19.2).bind fun x21 => (if x21 = true then ((f_Engine_step (x19.2.1 59 2) x19.2).bind fun x24 => (if x24.1 40 1 = 0 then (lt (xw x24 59 3 ((x24.1 59 3) - 1)) fun X26 => some (.inl (x19.1 + 1, X26))) else (lt (xw x24 59 3 0) fun X27 => some (.inl (x19.1 + 1, X27))))) else ((f_Turns_beginNext x19.2).bind fun x29 => (if x29.1 = true then ((f_Engine_step (x29.2.1 59 2) x29.2).bind fun x32 => (if x32.1 40 1 = 0 then (lt (xw x32 59 3 ((x32.1 59 3) - 1)) fun X34 => some (.inl (x19.1 + 1, X34))) else (lt (xw x32 59 3 0) fun X35 => some (.inl (x19.1 + 1, X35))))) else some (.inr (x19.1, x29.2)))))))
def f_Turns_advance (x : Int32) (X : XS) : Option (Int32 × XS) := ((lp (b2_Turns_advance x) 10000 ((0 : Int32), X)).bind fun x37 => (lt (xw x37.2 59 0 ((x37.2.1 59 0) + x37.1)) fun X38 => some (x37.1, X38)))
set_option maxRecDepth 100000 in
set_option maxHeartbeats 4000000 in
theorem s_Turns_advance {L : Nat} {xs : Nat → Int32} {X : XS} {M : MS} {x : Int32} : Sp (mjOO L xs) 302 0 [some (.ref 59), some (.int x), none] [] (hS X M) (f_Turns_advance x X) (KEX M) := by
  unfold f_Turns_advance
  refine Sp.step rfl rfl rfl rfl ?_
  refine Sp.step rfl rfl rfl rfl ?_
  refine Sp.weak (l0 := [some (.ref 59), some (.int x), some (.int 0)]) ⟨rfl, rfl, rfl, trivial⟩ ?_
  refine Sp.loopX (pe := 62) (mf := (fun (x19 : (Int32 × XS)) => [some (.ref 59), some (.int x), some (.int x19.1)])) (hf := (fun (x19 : (Int32 × XS)) => hS x19.2 M)) (fun x19 => ?_) (fun x37 => ?_) _ _
  · unfold b2_Turns_advance
    refine Sp.step rfl rfl rfl rfl ?_
    refine Sp.step rfl rfl rfl rfl ?_
    refine Sp.if2 rfl rfl rfl rfl (fun e20 => ?_) (fun e20 => ?_)
    · exact Sp.jmp (l0 := [some (.ref 59), some (.int x), some (.int x19.1)]) ⟨rfl, rfl, rfl, trivial⟩ (fun _ _ h => h)
    · refine Sp.step rfl rfl rfl rfl ?_
      refine Sp.call rfl rfl rfl (xrecv (c := 10) (by decide) rfl (by decide +kernel)) s_Turns_goesOn (fun x21 => ⟨_, _, ⟨rfl, rfl⟩, ?_⟩)
      refine Sp.bool (fun e22 => ?_) (fun e22 => ?_)
      · refine Sp.id (pc := 11) (l := [some (.ref 59), some (.int x), some (.int x19.1)]) (st := [.int 1]) (h := hS x19.2 M) ?_
        refine Sp.step rfl rfl rfl rfl ?_
        refine Sp.step rfl rfl rfl rfl ?_
        refine Sp.step rfl rfl rfl (xg_F (c := 10) (f := 1) rfl rfl rfl rfl rfl) ?_
        refine Sp.step rfl rfl rfl rfl ?_
        refine Sp.step rfl rfl rfl (xg_I (c := 10) (f := 2) rfl rfl rfl rfl) ?_
        refine Sp.call rfl rfl rfl (xrecv (c := 0) (by decide) rfl (by decide +kernel)) s_Engine_step (fun x24 => ⟨_, _, ⟨rfl, rfl⟩, ?_⟩)
        refine Sp.id (pc := 32) (l := [some (.ref 59), some (.int x), some (.int x19.1)]) (st := []) (h := hS x24 M) ?_
        refine Sp.step rfl rfl rfl rfl ?_
        refine Sp.step rfl rfl rfl rfl ?_
        refine Sp.step rfl rfl rfl (xg_F (c := 10) (f := 1) rfl rfl rfl rfl rfl) ?_
        refine Sp.step rfl rfl rfl (xg_I (c := 0) (f := 1) rfl rfl rfl rfl) ?_
        refine Sp.if1 rfl rfl rfl rfl (fun e25 => ?_) (fun e25 => ?_)
        · refine Sp.step rfl rfl rfl rfl ?_
          refine Sp.step rfl rfl rfl (xg_I (c := 10) (f := 3) rfl rfl rfl rfl) ?_
          refine Sp.step rfl rfl rfl rfl ?_
          refine Sp.step rfl rfl rfl rfl ?_
          refine Sp.step rfl rfl rfl (xp_I (c := 10) (f := 3) rfl rfl rfl rfl rfl) ?_
          refine Sp.step rfl rfl rfl rfl ?_
          refine Sp.step rfl rfl rfl rfl ?_
          exact Sp.jmp (l0 := [some (.ref 59), some (.int x), some (.int (x19.1 + 1))]) ⟨rfl, rfl, rfl, trivial⟩ (fun _ _ h => h)
        · refine Sp.step rfl rfl rfl rfl ?_
          refine Sp.step rfl rfl rfl rfl ?_
          refine Sp.step rfl rfl rfl (xp_I (c := 10) (f := 3) rfl rfl rfl rfl rfl) ?_
          refine Sp.step rfl rfl rfl rfl ?_
          refine Sp.step rfl rfl rfl rfl ?_
          exact Sp.jmp (l0 := [some (.ref 59), some (.int x), some (.int (x19.1 + 1))]) ⟨rfl, rfl, rfl, trivial⟩ (fun _ _ h => h)
      · refine Sp.id (pc := 11) (l := [some (.ref 59), some (.int x), some (.int x19.1)]) (st := [.int 0]) (h := hS x19.2 M) ?_
        refine Sp.step rfl rfl rfl rfl ?_
        refine Sp.step rfl rfl rfl rfl ?_
        refine Sp.call rfl rfl rfl (xrecv (c := 10) (by decide) rfl (by decide +kernel)) s_Turns_beginNext (fun x29 => ⟨_, _, ⟨rfl, rfl⟩, ?_⟩)
        refine Sp.bool (fun e30 => ?_) (fun e30 => ?_)
        · refine Sp.id (pc := 18) (l := [some (.ref 59), some (.int x), some (.int x19.1)]) (st := [.int 1]) (h := hS x29.2 M) ?_
          refine Sp.step rfl rfl rfl rfl ?_
          refine Sp.step rfl rfl rfl rfl ?_
          refine Sp.step rfl rfl rfl (xg_F (c := 10) (f := 1) rfl rfl rfl rfl rfl) ?_
          refine Sp.step rfl rfl rfl rfl ?_
          refine Sp.step rfl rfl rfl (xg_I (c := 10) (f := 2) rfl rfl rfl rfl) ?_
          refine Sp.call rfl rfl rfl (xrecv (c := 0) (by decide) rfl (by decide +kernel)) s_Engine_step (fun x32 => ⟨_, _, ⟨rfl, rfl⟩, ?_⟩)
          refine Sp.id (pc := 32) (l := [some (.ref 59), some (.int x), some (.int x19.1)]) (st := []) (h := hS x32 M) ?_
          refine Sp.step rfl rfl rfl rfl ?_
          refine Sp.step rfl rfl rfl rfl ?_
          refine Sp.step rfl rfl rfl (xg_F (c := 10) (f := 1) rfl rfl rfl rfl rfl) ?_
          refine Sp.step rfl rfl rfl (xg_I (c := 0) (f := 1) rfl rfl rfl rfl) ?_
          refine Sp.if1 rfl rfl rfl rfl (fun e33 => ?_) (fun e33 => ?_)
          · refine Sp.step rfl rfl rfl rfl ?_
            refine Sp.step rfl rfl rfl (xg_I (c := 10) (f := 3) rfl rfl rfl rfl) ?_
            refine Sp.step rfl rfl rfl rfl ?_
            refine Sp.step rfl rfl rfl rfl ?_
            refine Sp.step rfl rfl rfl (xp_I (c := 10) (f := 3) rfl rfl rfl rfl rfl) ?_
            refine Sp.step rfl rfl rfl rfl ?_
            refine Sp.step rfl rfl rfl rfl ?_
            exact Sp.jmp (l0 := [some (.ref 59), some (.int x), some (.int (x19.1 + 1))]) ⟨rfl, rfl, rfl, trivial⟩ (fun _ _ h => h)
          · refine Sp.step rfl rfl rfl rfl ?_
            refine Sp.step rfl rfl rfl rfl ?_
            refine Sp.step rfl rfl rfl (xp_I (c := 10) (f := 3) rfl rfl rfl rfl rfl) ?_
            refine Sp.step rfl rfl rfl rfl ?_
            refine Sp.step rfl rfl rfl rfl ?_
            exact Sp.jmp (l0 := [some (.ref 59), some (.int x), some (.int (x19.1 + 1))]) ⟨rfl, rfl, rfl, trivial⟩ (fun _ _ h => h)
        · refine Sp.id (pc := 18) (l := [some (.ref 59), some (.int x), some (.int x19.1)]) (st := [.int 0]) (h := hS x29.2 M) ?_
          refine Sp.step rfl rfl rfl rfl ?_
          exact Sp.jmp (l0 := [some (.ref 59), some (.int x), some (.int x19.1)]) ⟨rfl, rfl, rfl, trivial⟩ (fun _ _ h => h)
  · refine Sp.step rfl rfl rfl rfl ?_
    refine Sp.step rfl rfl rfl rfl ?_
    refine Sp.step rfl rfl rfl (xg_I (c := 10) (f := 0) rfl rfl rfl rfl) ?_
    refine Sp.step rfl rfl rfl rfl ?_
    refine Sp.step rfl rfl rfl rfl ?_
    refine Sp.step rfl rfl rfl (xp_I (c := 10) (f := 0) rfl rfl rfl rfl rfl) ?_
    refine Sp.step rfl rfl rfl rfl ?_
    exact Sp.iret rfl rfl rfl rfl (fun _ _ h => h)
def f_P_run (x : Int32) (X : XS) : Option (Int32 × XS) := (if X.1 40 0 = 0 then some ((-1), X) else (if 1 ≤ x ∧ x ≤ 5000 then ((f_Turns_advance x X).bind fun x4 => some (x4.1, x4.2)) else some ((-1), X)))
set_option maxRecDepth 100000 in
set_option maxHeartbeats 4000000 in
theorem s_P_run {L : Nat} {xs : Nat → Int32} {X : XS} {M : MS} {x : Int32} : Sp (mjOO L xs) 11 0 [some (.ref 0), some (.int x)] [] (hS X M) (f_P_run x X) (KEX M) := by
  unfold f_P_run
  refine Sp.step rfl rfl rfl rfl ?_
  refine Sp.step rfl rfl rfl (xg_F (c := 11) (f := 4) rfl rfl rfl rfl rfl) ?_
  refine Sp.step rfl rfl rfl (xg_I (c := 0) (f := 0) rfl rfl rfl rfl) ?_
  refine Sp.if1 rfl rfl rfl rfl (fun e1 => ?_) (fun e1 => ?_)
  · refine Sp.step rfl rfl rfl rfl ?_
    exact Sp.iret rfl rfl rfl rfl (fun _ _ h => h)
  · refine Sp.step rfl rfl rfl rfl ?_
    refine Sp.step rfl rfl rfl rfl ?_
    refine Sp.step rfl rfl rfl rfl ?_
    refine Sp.callP rfl rfl rfl rfl s_within (fun e2 => ?_) (fun e2 => ?_)
    · refine Sp.id (pc := 18) (l := [some (.ref 0), some (.int x)]) (st := [.int 1]) (h := hS X M) ?_
      refine Sp.step rfl rfl rfl rfl ?_
      refine Sp.step rfl rfl rfl rfl ?_
      refine Sp.step rfl rfl rfl (xg_F (c := 11) (f := 5) rfl rfl rfl rfl rfl) ?_
      refine Sp.step rfl rfl rfl rfl ?_
      refine Sp.call rfl rfl rfl (xrecv (c := 10) (by decide) rfl (by decide +kernel)) s_Turns_advance (fun x4 => ⟨_, _, ⟨rfl, rfl⟩, ?_⟩)
      refine Sp.id (pc := 29) (l := [some (.ref 0), some (.int x)]) (st := [.int x4.1]) (h := hS x4.2 M) ?_
      refine Sp.step rfl rfl rfl rfl ?_
      exact Sp.iret rfl rfl rfl rfl (fun _ _ h => h)
    · refine Sp.id (pc := 18) (l := [some (.ref 0), some (.int x)]) (st := [.int 0]) (h := hS X M) ?_
      refine Sp.step rfl rfl rfl rfl ?_
      refine Sp.step rfl rfl rfl rfl ?_
      exact Sp.iret rfl rfl rfl rfl (fun _ _ h => h)
def f_Ports_sent (x : Int32) (X : XS) : Int32 := (if x < 0 then (-2) else (if X.1 47 1 ≤ x then (-2) else (if 300 ≤ x then (-2) else X.1 49 x.toNatClampNeg)))
set_option maxRecDepth 100000 in
set_option maxHeartbeats 4000000 in
theorem s_Ports_sent {L : Nat} {xs : Nat → Int32} {X : XS} {M : MS} {x : Int32} : Sp (mjOO L xs) 239 0 [some (.ref 47), some (.int x)] [] (hS X M) (some (f_Ports_sent x X)) (KQ (hS X M)) := by
  unfold f_Ports_sent
  refine Sp.step rfl rfl rfl rfl ?_
  refine Sp.if1V rfl rfl rfl rfl (fun e1 => ?_) (fun e1 => ?_)
  · refine Sp.step rfl rfl rfl rfl ?_
    exact Sp.iret rfl rfl rfl rfl (fun _ _ h => h)
  · refine Sp.step rfl rfl rfl rfl ?_
    refine Sp.step rfl rfl rfl rfl ?_
    refine Sp.step rfl rfl rfl (xg_I (c := 5) (f := 1) rfl rfl rfl rfl) ?_
    refine Sp.if2V rfl rfl rfl rfl (fun e2 => ?_) (fun e2 => ?_)
    · refine Sp.step rfl rfl rfl rfl ?_
      exact Sp.iret rfl rfl rfl rfl (fun _ _ h => h)
    · refine Sp.step rfl rfl rfl rfl ?_
      refine Sp.step rfl rfl rfl rfl ?_
      refine Sp.if2V rfl rfl rfl rfl (fun e3 => ?_) (fun e3 => ?_)
      · refine Sp.step rfl rfl rfl rfl ?_
        exact Sp.iret rfl rfl rfl rfl (fun _ _ h => h)
      · refine Sp.step rfl rfl rfl rfl ?_
        refine Sp.step rfl rfl rfl (xg_F (c := 5) (f := 4) rfl rfl rfl rfl rfl) ?_
        refine Sp.step rfl rfl rfl rfl ?_
        refine Sp.step rfl rfl rfl (xld rfl (by decide) (ix_ok (N := 300) (n := 300) rfl (Int32.not_lt.mp e1) (Int32.not_le.mp e3))) ?_
        refine Sp.step rfl rfl rfl rfl ?_
        exact Sp.iret rfl rfl rfl rfl (fun _ _ h => h)
def f_P_out (x : Int32) (X : XS) : Int32 := f_Ports_sent x X
set_option maxRecDepth 100000 in
set_option maxHeartbeats 4000000 in
theorem s_P_out {L : Nat} {xs : Nat → Int32} {X : XS} {M : MS} {x : Int32} : Sp (mjOO L xs) 12 0 [some (.ref 0), some (.int x)] [] (hS X M) (some (f_P_out x X)) (KQ (hS X M)) := by
  unfold f_P_out
  refine Sp.step rfl rfl rfl rfl ?_
  refine Sp.step rfl rfl rfl (xg_F (c := 11) (f := 4) rfl rfl rfl rfl rfl) ?_
  refine Sp.step rfl rfl rfl (xg_F (c := 0) (f := 4) rfl rfl rfl rfl rfl) ?_
  refine Sp.step rfl rfl rfl rfl ?_
  refine Sp.callS rfl rfl rfl (xrecv (c := 5) (by decide) rfl (by decide +kernel)) s_Ports_sent ⟨rfl, rfl⟩ ?_
  refine Sp.id (pc := 11) (l := [some (.ref 0), some (.int x)]) (st := [.int (f_Ports_sent x X)]) (h := hS X M) ?_
  exact Sp.iret rfl rfl rfl rfl (fun _ _ h => h)
def f_Engine_tellThread (x : Int32) (y : Int32) (X : XS) : Option Int32 := (if f_Engine_isStrand x X = true then (ocz (X.2.1 50 x.toNatClampNeg) (if y = 0 then none else (if y = 1 then none else (if y = 2 then none else some (-1)))) (fun a3 => (if y = 0 then (if (xT X a3 = some (14, 0)) then (if ¬ X.1 a3 0 = 0 then (if ¬ X.1 a3 0 = 1 then some 3 else some 2) else ((f_Engine_waits a3 (x + 1) X).bind fun x12 => (if x12 = true then some 1 else some 0))) else none) else (if y = 1 then (if (xT X a3 = some (14, 0)) then some (X.1 a3 2) else none) else (if y = 2 then (if (xT X a3 = some (14, 0)) then some (X.1 a3 1) else none) else some (-1)))))) else some (-1))
set_option maxRecDepth 100000 in
set_option maxHeartbeats 4000000 in
theorem s_Engine_tellThread {L : Nat} {xs : Nat → Int32} {X : XS} {M : MS} {x : Int32} {y : Int32} : Sp (mjOO L xs) 133 0 [some (.ref 40), some (.int x), some (.int y), none] [] (hS X M) (f_Engine_tellThread x y X) (KQ (hS X M)) := by
  unfold f_Engine_tellThread
  refine Sp.step rfl rfl rfl rfl ?_
  refine Sp.step rfl rfl rfl rfl ?_
  refine Sp.callS rfl rfl rfl (xrecv (c := 0) (by decide) rfl (by decide +kernel)) s_Engine_isStrand ⟨rfl, rfl⟩ ?_
  refine Sp.bool (fun e1 => ?_) (fun e1 => ?_)
  · refine Sp.id (pc := 5) (l := [some (.ref 40), some (.int x), some (.int y), none]) (st := [.int 1]) (h := hS X M) ?_
    refine Sp.step rfl rfl rfl rfl ?_
    refine Sp.step rfl rfl rfl rfl ?_
    refine Sp.step rfl rfl rfl (xg_F (c := 0) (f := 5) rfl rfl rfl rfl rfl) ?_
    refine Sp.step rfl rfl rfl rfl ?_
    refine Sp.step rfl rfl rfl (xald (t := 4) rfl (by decide) (fun _ => rfl) (isStrand_ix e1)) ?_
    refine Sp.ocr (fun e4 => ?_) (fun a3 e4 => ?_)
    · refine Sp.step rfl rfl rfl rfl ?_
      refine Sp.step rfl rfl rfl rfl ?_
      refine Sp.ite (fun e5 => ?_) (fun e5 => ?_)
      · refine Sp.step rfl rfl rfl (go_sw (t := 44) (sw_of e5 rfl)) ?_
        refine Sp.step rfl rfl rfl rfl ?_
        exact Sp.none
      · refine Sp.ite (fun e6 => ?_) (fun e6 => ?_)
        · refine Sp.step rfl rfl rfl (go_sw (t := 82) (sw_of e6 rfl)) ?_
          refine Sp.step rfl rfl rfl rfl ?_
          exact Sp.none
        · refine Sp.ite (fun e7 => ?_) (fun e7 => ?_)
          · refine Sp.step rfl rfl rfl (go_sw (t := 87) (sw_of e7 rfl)) ?_
            refine Sp.step rfl rfl rfl rfl ?_
            exact Sp.none
          · refine Sp.step rfl rfl rfl (go_sw (t := 92) (mjSw_dflt _ (by
              intro q hq
              simp only [List.mem_cons, List.not_mem_nil, or_false] at hq
              rcases hq with rfl | rfl | rfl
              · exact fun h => absurd h (fun h => e5 h)
              · exact fun h => absurd h (fun h => e6 h)
              · exact fun h => absurd h (fun h => e7 h)))) ?_
            refine Sp.step rfl rfl rfl rfl ?_
            exact Sp.iret rfl rfl rfl rfl (fun _ _ h => h)
    · refine Sp.step rfl rfl rfl rfl ?_
      refine Sp.step rfl rfl rfl rfl ?_
      refine Sp.ite (fun e8 => ?_) (fun e8 => ?_)
      · refine Sp.step rfl rfl rfl (go_sw (t := 44) (sw_of e8 rfl)) ?_
        refine Sp.step rfl rfl rfl rfl ?_
        refine Sp.guard (fun e9 => ?_)
        refine Sp.step rfl rfl rfl (xg_I (c := 9) (f := 0) rfl rfl e9 rfl) ?_
        refine Sp.if1 rfl rfl rfl rfl (fun e10 => ?_) (fun e10 => ?_)
        · refine Sp.step rfl rfl rfl rfl ?_
          refine Sp.step rfl rfl rfl (xg_I (c := 9) (f := 0) rfl rfl e9 rfl) ?_
          refine Sp.step rfl rfl rfl rfl ?_
          refine Sp.if2 rfl rfl rfl rfl (fun e11 => ?_) (fun e11 => ?_)
          · refine Sp.step rfl rfl rfl rfl ?_
            exact Sp.iret rfl rfl rfl rfl (fun _ _ h => h)
          · refine Sp.step rfl rfl rfl rfl ?_
            refine Sp.step rfl rfl rfl rfl ?_
            exact Sp.iret rfl rfl rfl rfl (fun _ _ h => h)
        · refine Sp.step rfl rfl rfl rfl ?_
          refine Sp.step rfl rfl rfl rfl ?_
          refine Sp.step rfl rfl rfl rfl ?_
          refine Sp.step rfl rfl rfl rfl ?_
          refine Sp.step rfl rfl rfl rfl ?_
          refine Sp.call rfl rfl rfl (xrecv (c := 0) (by decide) rfl (by decide +kernel)) s_Engine_waits (fun x12 => ⟨_, _, ⟨rfl, rfl⟩, ?_⟩)
          refine Sp.bool (fun e13 => ?_) (fun e13 => ?_)
          · refine Sp.id (pc := 59) (l := [some (.ref 40), some (.int x), some (.int y), some (.ref a3)]) (st := [.int 1]) (h := hS X M) ?_
            refine Sp.step rfl rfl rfl rfl ?_
            refine Sp.step rfl rfl rfl rfl ?_
            refine Sp.step rfl rfl rfl rfl ?_
            exact Sp.iret rfl rfl rfl rfl (fun _ _ h => h)
          · refine Sp.id (pc := 59) (l := [some (.ref 40), some (.int x), some (.int y), some (.ref a3)]) (st := [.int 0]) (h := hS X M) ?_
            refine Sp.step rfl rfl rfl rfl ?_
            refine Sp.step rfl rfl rfl rfl ?_
            exact Sp.iret rfl rfl rfl rfl (fun _ _ h => h)
      · refine Sp.ite (fun e16 => ?_) (fun e16 => ?_)
        · refine Sp.step rfl rfl rfl (go_sw (t := 82) (sw_of e16 rfl)) ?_
          refine Sp.step rfl rfl rfl rfl ?_
          refine Sp.guard (fun e17 => ?_)
          refine Sp.step rfl rfl rfl (xg_I (c := 9) (f := 2) rfl rfl e17 rfl) ?_
          exact Sp.iret rfl rfl rfl rfl (fun _ _ h => h)
        · refine Sp.ite (fun e18 => ?_) (fun e18 => ?_)
          · refine Sp.step rfl rfl rfl (go_sw (t := 87) (sw_of e18 rfl)) ?_
            refine Sp.step rfl rfl rfl rfl ?_
            refine Sp.guard (fun e19 => ?_)
            refine Sp.step rfl rfl rfl (xg_I (c := 9) (f := 1) rfl rfl e19 rfl) ?_
            exact Sp.iret rfl rfl rfl rfl (fun _ _ h => h)
          · refine Sp.step rfl rfl rfl (go_sw (t := 92) (mjSw_dflt _ (by
              intro q hq
              simp only [List.mem_cons, List.not_mem_nil, or_false] at hq
              rcases hq with rfl | rfl | rfl
              · exact fun h => absurd h (fun h => e8 h)
              · exact fun h => absurd h (fun h => e16 h)
              · exact fun h => absurd h (fun h => e18 h)))) ?_
            refine Sp.step rfl rfl rfl rfl ?_
            exact Sp.iret rfl rfl rfl rfl (fun _ _ h => h)
  · refine Sp.id (pc := 5) (l := [some (.ref 40), some (.int x), some (.int y), none]) (st := [.int 0]) (h := hS X M) ?_
    refine Sp.step rfl rfl rfl rfl ?_
    refine Sp.step rfl rfl rfl rfl ?_
    exact Sp.iret rfl rfl rfl rfl (fun _ _ h => h)
def f_P_thread (x : Int32) (y : Int32) (X : XS) : Option Int32 := ((f_Engine_tellThread x y X).bind fun x1 => some x1)
set_option maxRecDepth 100000 in
set_option maxHeartbeats 4000000 in
theorem s_P_thread {L : Nat} {xs : Nat → Int32} {X : XS} {M : MS} {x : Int32} {y : Int32} : Sp (mjOO L xs) 13 0 [some (.ref 0), some (.int x), some (.int y)] [] (hS X M) (f_P_thread x y X) (KQ (hS X M)) := by
  unfold f_P_thread
  refine Sp.step rfl rfl rfl rfl ?_
  refine Sp.step rfl rfl rfl (xg_F (c := 11) (f := 4) rfl rfl rfl rfl rfl) ?_
  refine Sp.step rfl rfl rfl rfl ?_
  refine Sp.step rfl rfl rfl rfl ?_
  refine Sp.call rfl rfl rfl (xrecv (c := 0) (by decide) rfl (by decide +kernel)) s_Engine_tellThread (fun x1 => ⟨_, _, ⟨rfl, rfl⟩, ?_⟩)
  refine Sp.id (pc := 9) (l := [some (.ref 0), some (.int x), some (.int y)]) (st := [.int x1]) (h := hS X M) ?_
  exact Sp.iret rfl rfl rfl rfl (fun _ _ h => h)
def b2_Memory_findBeginnings (x13 : (Int32 × XS)) : Option ((Int32 × XS) ⊕ (Int32 × XS)) := (ocz (x13.2.2.1 41 3) none (fun a14 => (ocz (xL x13.2 1 a14) none (fun n16 => (if Int32.ofNat n16 ≤ x13.1 then some (.inr (x13.1, x13.2)) else (ocz (x13.2.2.1 41 3) none (fun a19 => (ocz (xL x13.2 1 a19) none (fun n21 => (if ixo x13.1 n21 then (lt (xw x13.2 a19 x13.1.toNatClampNeg 0) fun X24 => some (.inl (x13.1 + 1, X24))) else none))))))))))
def b28_Memory_findBeginnings (x40 : (Int32 × Int32 × XS)) : Option ((Int32 × Int32 × XS) ⊕ (Int32 × Int32 × XS)) := (if x40.2.2.1 41 7 ≤ x40.2.1 then some (.inr (x40.1, x40.2.1, x40.2.2)) else (ocz (x40.2.2.2.1 41 3) none (fun a42 => (ocz (xL x40.2.2 1 a42) none (fun n44 => (if Int32.ofNat n44 ≤ x40.2.1 then some (.inr (x40.1, x40.2.1, x40.2.2)) else (ocz (x40.2.2.2.1 41 3) none (fun a47 => (ocz (xL x40.2.2 1 a47) none (fun n49 => (if ixo x40.2.1 n49 then (lt (xw x40.2.2 a47 x40.2.1.toNatClampNeg 1) fun X52 => ((f_Memory_sizeAt x40.2.1 X52).bind fun x53 => some (.inl (x40.2.1 + (if 4 < x53 then x53 else 4), x40.2.1 + (if 4 < x53 then x53 else 4), X52)))) else none)))))))))))
def f_Memory_findBeginnings (X : XS) : Option (Bool × XS) := ((lp (b2_Memory_findBeginnings) 10000 ((0 : Int32), X)).bind fun x25 => ((lp (b28_Memory_findBeginnings) 10000 ((1 : Int32), (1 : Int32), x25.2)).bind fun x54 => (if ¬ x54.1 = x54.2.2.1 41 7 then some (false, x54.2.2) else (if x54.2.2.1 41 8 < f_Memory_used x54.2.2 then some (false, x54.2.2) else (ocz (x54.2.2.2.1 41 1) none (fun a57 => (ocz (xL x54.2.2 2 a57) none (fun n59 => (if Int32.ofNat n59 < x54.2.2.1 41 7 then some (false, x54.2.2) else some (true, x54.2.2))))))))))
set_option maxRecDepth 100000 in
set_option maxHeartbeats 4000000 in
theorem s_Memory_findBeginnings {L : Nat} {xs : Nat → Int32} {X : XS} {M : MS} : Sp (mjOO L xs) 230 0 [some (.ref 41), none, none] [] (hS X M) (f_Memory_findBeginnings X) (KBX M) := by
  unfold f_Memory_findBeginnings
  refine Sp.step rfl rfl rfl rfl ?_
  refine Sp.step rfl rfl rfl rfl ?_
  refine Sp.weak (l0 := [some (.ref 41), some (.int 0), none]) ⟨rfl, rfl, trivial⟩ ?_
  refine Sp.loopX (pe := 24) (mf := (fun (x13 : (Int32 × XS)) => [some (.ref 41), some (.int x13.1), none])) (hf := (fun (x13 : (Int32 × XS)) => hS x13.2 M)) (fun x13 => ?_) (fun x25 => ?_) _ _
  · unfold b2_Memory_findBeginnings
    refine Sp.step rfl rfl rfl rfl ?_
    refine Sp.step rfl rfl rfl rfl ?_
    refine Sp.step rfl rfl rfl (xg_D (c := 4) (f := 3) rfl rfl rfl rfl rfl) ?_
    refine Sp.ocrn (fun a14 e15 => ?_)
    refine Sp.ocn (fun n16 e17 => ?_)
    refine Sp.step rfl rfl rfl (xlen (xL_ok e17) (by decide)) ?_
    refine Sp.if2 rfl rfl rfl rfl (fun e18 => ?_) (fun e18 => ?_)
    · exact Sp.jmp (l0 := [some (.ref 41), some (.int x13.1), none]) ⟨rfl, rfl, trivial⟩ (fun _ _ h => h)
    · refine Sp.step rfl rfl rfl rfl ?_
      refine Sp.step rfl rfl rfl (xg_D (c := 4) (f := 3) rfl rfl rfl rfl rfl) ?_
      refine Sp.ocrn (fun a19 e20 => ?_)
      refine Sp.step rfl rfl rfl rfl ?_
      refine Sp.step rfl rfl rfl rfl ?_
      refine Sp.ocn (fun n21 e22 => ?_)
      refine Sp.guard (fun e23 => ?_)
      refine Sp.step rfl rfl rfl (xst0 (xL_ok e22) e23) ?_
      refine Sp.step rfl rfl rfl rfl ?_
      refine Sp.step rfl rfl rfl rfl ?_
      exact Sp.jmp (l0 := [some (.ref 41), some (.int (x13.1 + 1)), none]) ⟨rfl, rfl, trivial⟩ (fun _ _ h => h)
  · refine Sp.step rfl rfl rfl rfl ?_
    refine Sp.step rfl rfl rfl rfl ?_
    refine Sp.step rfl rfl rfl rfl ?_
    refine Sp.step rfl rfl rfl rfl ?_
    refine Sp.weak (l0 := [some (.ref 41), some (.int 1), some (.int 1)]) ⟨rfl, rfl, rfl, trivial⟩ ?_
    refine Sp.loopX (pe := 69) (mf := (fun (x40 : (Int32 × Int32 × XS)) => [some (.ref 41), some (.int x40.1), some (.int x40.2.1)])) (hf := (fun (x40 : (Int32 × Int32 × XS)) => hS x40.2.2 M)) (fun x40 => ?_) (fun x54 => ?_) _ _
    · unfold b28_Memory_findBeginnings
      refine Sp.step rfl rfl rfl rfl ?_
      refine Sp.step rfl rfl rfl rfl ?_
      refine Sp.step rfl rfl rfl (xg_I (c := 4) (f := 7) rfl rfl rfl rfl) ?_
      refine Sp.if2 rfl rfl rfl rfl (fun e41 => ?_) (fun e41 => ?_)
      · exact Sp.jmp (l0 := [some (.ref 41), some (.int x40.1), some (.int x40.2.1)]) ⟨rfl, rfl, rfl, trivial⟩ (fun _ _ h => h)
      · refine Sp.step rfl rfl rfl rfl ?_
        refine Sp.step rfl rfl rfl rfl ?_
        refine Sp.step rfl rfl rfl (xg_D (c := 4) (f := 3) rfl rfl rfl rfl rfl) ?_
        refine Sp.ocrn (fun a42 e43 => ?_)
        refine Sp.ocn (fun n44 e45 => ?_)
        refine Sp.step rfl rfl rfl (xlen (xL_ok e45) (by decide)) ?_
        refine Sp.if2 rfl rfl rfl rfl (fun e46 => ?_) (fun e46 => ?_)
        · exact Sp.jmp (l0 := [some (.ref 41), some (.int x40.1), some (.int x40.2.1)]) ⟨rfl, rfl, rfl, trivial⟩ (fun _ _ h => h)
        · refine Sp.step rfl rfl rfl rfl ?_
          refine Sp.step rfl rfl rfl (xg_D (c := 4) (f := 3) rfl rfl rfl rfl rfl) ?_
          refine Sp.ocrn (fun a47 e48 => ?_)
          refine Sp.step rfl rfl rfl rfl ?_
          refine Sp.step rfl rfl rfl rfl ?_
          refine Sp.ocn (fun n49 e50 => ?_)
          refine Sp.guard (fun e51 => ?_)
          refine Sp.step rfl rfl rfl (xst1 (xL_ok e50) e51) ?_
          refine Sp.step rfl rfl rfl rfl ?_
          refine Sp.step rfl rfl rfl rfl ?_
          refine Sp.step rfl rfl rfl rfl ?_
          refine Sp.step rfl rfl rfl rfl ?_
          refine Sp.call rfl rfl rfl (xrecv (c := 4) (by decide) rfl (by decide +kernel)) s_Memory_sizeAt (fun x53 => ⟨_, _, ⟨rfl, rfl⟩, ?_⟩)
          refine Sp.id (pc := 59) (l := [some (.ref 41), some (.int x40.1), some (.int x40.2.1)]) (st := [.int x53, .int 4, .int x40.2.1]) (h := hS (xw x40.2.2 a47 x40.2.1.toNatClampNeg 1) M) ?_
          refine Sp.nat rfl rfl rfl rfl ⟨by decide, by decide, rfl⟩ ?_
          refine Sp.step rfl rfl rfl rfl ?_
          refine Sp.step rfl rfl rfl rfl ?_
          refine Sp.step rfl rfl rfl rfl ?_
          refine Sp.step rfl rfl rfl rfl ?_
          refine Sp.step rfl rfl rfl rfl ?_
          exact Sp.jmp (l0 := [some (.ref 41), some (.int (x40.2.1 + (if 4 < x53 then x53 else 4))), some (.int (x40.2.1 + (if 4 < x53 then x53 else 4)))]) ⟨rfl, rfl, rfl, trivial⟩ (fun _ _ h => h)
    · refine Sp.step rfl rfl rfl rfl ?_
      refine Sp.step rfl rfl rfl rfl ?_
      refine Sp.step rfl rfl rfl (xg_I (c := 4) (f := 7) rfl rfl rfl rfl) ?_
      refine Sp.if2 rfl rfl rfl rfl (fun e55 => ?_) (fun e55 => ?_)
      · refine Sp.step rfl rfl rfl rfl ?_
        exact Sp.iret rfl rfl rfl rfl (fun _ _ h => h)
      · refine Sp.step rfl rfl rfl rfl ?_
        refine Sp.callS rfl rfl rfl (xrecv (c := 4) (by decide) rfl (by decide +kernel)) s_Memory_used ⟨rfl, rfl⟩ ?_
        refine Sp.id (pc := 81) (l := [some (.ref 41), some (.int x54.1), some (.int x54.2.1)]) (st := [.int (f_Memory_used x54.2.2)]) (h := hS x54.2.2 M) ?_
        refine Sp.step rfl rfl rfl rfl ?_
        refine Sp.step rfl rfl rfl (xg_I (c := 4) (f := 8) rfl rfl rfl rfl) ?_
        refine Sp.if2 rfl rfl rfl rfl (fun e56 => ?_) (fun e56 => ?_)
        · refine Sp.step rfl rfl rfl rfl ?_
          exact Sp.iret rfl rfl rfl rfl (fun _ _ h => h)
        · refine Sp.step rfl rfl rfl rfl ?_
          refine Sp.step rfl rfl rfl (xg_I (c := 4) (f := 7) rfl rfl rfl rfl) ?_
          refine Sp.step rfl rfl rfl rfl ?_
          refine Sp.step rfl rfl rfl (xg_D (c := 4) (f := 1) rfl rfl rfl rfl rfl) ?_
          refine Sp.ocrn (fun a57 e58 => ?_)
          refine Sp.ocn (fun n59 e60 => ?_)
          refine Sp.step rfl rfl rfl (xlen (xL_ok e60) (by decide)) ?_
          refine Sp.if2 rfl rfl rfl rfl (fun e61 => ?_) (fun e61 => ?_)
          · refine Sp.step rfl rfl rfl rfl ?_
            exact Sp.iret rfl rfl rfl rfl (fun _ _ h => h)
          · refine Sp.step rfl rfl rfl rfl ?_
            refine Sp.step rfl rfl rfl rfl ?_
            exact Sp.iret rfl rfl rfl rfl (fun _ _ h => h)
def f_Memory_leadsWell (x : Int32) (X : XS) : Option Bool := (if x = 0 then some true else (if x < 1 then some false else (ocz (X.2.1 41 3) none (fun a3 => (ocz (xL X 1 a3) none (fun n5 => (if Int32.ofNat n5 ≤ x then some false else (ocz (X.2.1 41 3) none (fun a8 => (ocz (xL X 1 a8) none (fun n10 => (if ixo x n10 then (if X.1 a8 x.toNatClampNeg = 0 then some false else some true) else none))))))))))))
set_option maxRecDepth 100000 in
set_option maxHeartbeats 4000000 in
theorem s_Memory_leadsWell {L : Nat} {xs : Nat → Int32} {X : XS} {M : MS} {x : Int32} : Sp (mjOO L xs) 232 0 [some (.ref 41), some (.int x)] [] (hS X M) (f_Memory_leadsWell x X) (KB (hS X M)) := by
  unfold f_Memory_leadsWell
  refine Sp.step rfl rfl rfl rfl ?_
  refine Sp.if1 rfl rfl rfl rfl (fun e1 => ?_) (fun e1 => ?_)
  · refine Sp.step rfl rfl rfl rfl ?_
    refine Sp.step rfl rfl rfl rfl ?_
    exact Sp.iret rfl rfl rfl rfl (fun _ _ h => h)
  · refine Sp.step rfl rfl rfl rfl ?_
    refine Sp.step rfl rfl rfl rfl ?_
    refine Sp.if2 rfl rfl rfl rfl (fun e2 => ?_) (fun e2 => ?_)
    · refine Sp.step rfl rfl rfl rfl ?_
      exact Sp.iret rfl rfl rfl rfl (fun _ _ h => h)
    · refine Sp.step rfl rfl rfl rfl ?_
      refine Sp.step rfl rfl rfl rfl ?_
      refine Sp.step rfl rfl rfl (xg_D (c := 4) (f := 3) rfl rfl rfl rfl rfl) ?_
      refine Sp.ocrn (fun a3 e4 => ?_)
      refine Sp.ocn (fun n5 e6 => ?_)
      refine Sp.step rfl rfl rfl (xlen (xL_ok e6) (by decide)) ?_
      refine Sp.if2 rfl rfl rfl rfl (fun e7 => ?_) (fun e7 => ?_)
      · refine Sp.step rfl rfl rfl rfl ?_
        exact Sp.iret rfl rfl rfl rfl (fun _ _ h => h)
      · refine Sp.step rfl rfl rfl rfl ?_
        refine Sp.step rfl rfl rfl (xg_D (c := 4) (f := 3) rfl rfl rfl rfl rfl) ?_
        refine Sp.ocrn (fun a8 e9 => ?_)
        refine Sp.step rfl rfl rfl rfl ?_
        refine Sp.ocn (fun n10 e11 => ?_)
        refine Sp.guard (fun e12 => ?_)
        refine Sp.step rfl rfl rfl (xld (xL_ok e11) (by decide) e12) ?_
        refine Sp.if1 rfl rfl rfl rfl (fun e13 => ?_) (fun e13 => ?_)
        · refine Sp.step rfl rfl rfl rfl ?_
          exact Sp.iret rfl rfl rfl rfl (fun _ _ h => h)
        · refine Sp.step rfl rfl rfl rfl ?_
          refine Sp.step rfl rfl rfl rfl ?_
          exact Sp.iret rfl rfl rfl rfl (fun _ _ h => h)
def b3_Memory_rowLeadsWell_57_58 (x : Int32) (X : XS) (x1 : Int32) : Option (Int32 ⊕ Bool) := (if x ≤ x1 then some (.inr true) else (if 8 ≤ x1 then some (.inr true) else (if ixo x1 8 then (if X.1 58 x1.toNatClampNeg = 0 then some (.inl (x1 + 1)) else ((f_Memory_leadsWell (X.1 57 x1.toNatClampNeg) X).bind fun x7 => (if x7 = true then some (.inl (x1 + 1)) else some (.inr false)))) else none)))
def f_Memory_rowLeadsWell_57_58 (x : Int32) (X : XS) : Option Bool := (lp (b3_Memory_rowLeadsWell_57_58 x X) 10000 (0 : Int32))
set_option maxRecDepth 100000 in
set_option maxHeartbeats 4000000 in
theorem s_Memory_rowLeadsWell_57_58 {L : Nat} {xs : Nat → Int32} {X : XS} {M : MS} {x : Int32} : Sp (mjOO L xs) 231 0 [some (.ref 41), some (.ref 57), some (.ref 58), some (.int x), none] [] (hS X M) (f_Memory_rowLeadsWell_57_58 x X) (KB (hS X M)) := by
  unfold f_Memory_rowLeadsWell_57_58
  refine Sp.step rfl rfl rfl rfl ?_
  refine Sp.step rfl rfl rfl rfl ?_
  refine Sp.weak (l0 := [some (.ref 41), some (.ref 57), some (.ref 58), some (.int x), some (.int 0)]) ⟨rfl, rfl, rfl, rfl, rfl, trivial⟩ ?_
  refine Sp.loopL (mf := (fun (x1 : Int32) => [some (.ref 41), some (.ref 57), some (.ref 58), some (.int x), some (.int x1)])) (hf := (fun (x1 : Int32) => hS X M)) (fun x1 => ?_) _ _
  unfold b3_Memory_rowLeadsWell_57_58
  refine Sp.step rfl rfl rfl rfl ?_
  refine Sp.step rfl rfl rfl rfl ?_
  refine Sp.if2 rfl rfl rfl rfl (fun e2 => ?_) (fun e2 => ?_)
  · refine Sp.step rfl rfl rfl rfl ?_
    exact Sp.iret rfl rfl rfl rfl (fun _ _ h => h)
  · refine Sp.step rfl rfl rfl rfl ?_
    refine Sp.step rfl rfl rfl rfl ?_
    refine Sp.step rfl rfl rfl (xlen rfl (by decide)) ?_
    refine Sp.if2 rfl rfl rfl rfl (fun e3 => ?_) (fun e3 => ?_)
    · refine Sp.step rfl rfl rfl rfl ?_
      exact Sp.iret rfl rfl rfl rfl (fun _ _ h => h)
    · refine Sp.step rfl rfl rfl rfl ?_
      refine Sp.step rfl rfl rfl rfl ?_
      refine Sp.step rfl rfl rfl (xlen rfl (by decide)) ?_
      refine Sp.prune (c := 8 ≤ x1) ?_
      refine Sp.if2 rfl rfl rfl rfl (fun e4 => absurd e4 e3) (fun e4 => ?_)
      refine Sp.step rfl rfl rfl rfl ?_
      refine Sp.step rfl rfl rfl rfl ?_
      refine Sp.guard (fun e5 => ?_)
      refine Sp.step rfl rfl rfl (xld rfl (by decide) e5) ?_
      refine Sp.if1 rfl rfl rfl rfl (fun e6 => ?_) (fun e6 => ?_)
      · refine Sp.step rfl rfl rfl rfl ?_
        refine Sp.step rfl rfl rfl rfl ?_
        exact Sp.jmp (l0 := [some (.ref 41), some (.ref 57), some (.ref 58), some (.int x), some (.int (x1 + 1))]) ⟨rfl, rfl, rfl, rfl, rfl, trivial⟩ (fun _ _ h => h)
      · refine Sp.step rfl rfl rfl rfl ?_
        refine Sp.step rfl rfl rfl rfl ?_
        refine Sp.step rfl rfl rfl rfl ?_
        refine Sp.step rfl rfl rfl (xld rfl (by decide) e5) ?_
        refine Sp.call rfl rfl rfl (xrecv (c := 4) (by decide) rfl (by decide +kernel)) s_Memory_leadsWell (fun x7 => ⟨_, _, ⟨rfl, rfl⟩, ?_⟩)
        refine Sp.bool (fun e8 => ?_) (fun e8 => ?_)
        · refine Sp.id (pc := 38) (l := [some (.ref 41), some (.ref 57), some (.ref 58), some (.int x), some (.int x1)]) (st := [.int 1]) (h := hS X M) ?_
          refine Sp.step rfl rfl rfl rfl ?_
          refine Sp.step rfl rfl rfl rfl ?_
          refine Sp.step rfl rfl rfl rfl ?_
          exact Sp.jmp (l0 := [some (.ref 41), some (.ref 57), some (.ref 58), some (.int x), some (.int (x1 + 1))]) ⟨rfl, rfl, rfl, rfl, rfl, trivial⟩ (fun _ _ h => h)
        · refine Sp.id (pc := 38) (l := [some (.ref 41), some (.ref 57), some (.ref 58), some (.int x), some (.int x1)]) (st := [.int 0]) (h := hS X M) ?_
          refine Sp.step rfl rfl rfl rfl ?_
          refine Sp.step rfl rfl rfl rfl ?_
          exact Sp.iret rfl rfl rfl rfl (fun _ _ h => h)
def b25_Memory_fieldsLeadWell (X : XS) (x1 : Int32) (x3 : Int32) (x4 : Int32) (x5 : Int32) : Option (Int32 ⊕ (Int32 ⊕ Bool)) := (if x4 ≤ x5 then ((f_Memory_sizeAt x1 X).bind fun x7 => some (.inr (.inl (x1 + (if 4 < x7 then x7 else 4))))) else ((f_Memory_word (x3 + x5) X).bind fun x8 => ((f_Memory_leadsWell x8 X).bind fun x9 => (if x9 = true then some (.inl (x5 + 1)) else some (.inr (.inr false))))))
def b2_Memory_fieldsLeadWell (X : XS) (x1 : Int32) : Option (Int32 ⊕ Bool) := (if X.1 41 7 ≤ x1 then some (.inr true) else ((f_Memory_firstRef x1 X).bind fun x3 => ((f_Memory_refsIn x1 X).bind fun x4 => (lp (b25_Memory_fieldsLeadWell X x1 x3 x4) 10000 (0 : Int32)))))
def f_Memory_fieldsLeadWell (X : XS) : Option Bool := (lp (b2_Memory_fieldsLeadWell X) 10000 (1 : Int32))
set_option maxRecDepth 100000 in
set_option maxHeartbeats 4000000 in
theorem s_Memory_fieldsLeadWell {L : Nat} {xs : Nat → Int32} {X : XS} {M : MS} : Sp (mjOO L xs) 233 0 [some (.ref 41), none, none, none, none] [] (hS X M) (f_Memory_fieldsLeadWell X) (KB (hS X M)) := by
  unfold f_Memory_fieldsLeadWell
  refine Sp.step rfl rfl rfl rfl ?_
  refine Sp.step rfl rfl rfl rfl ?_
  refine Sp.weak (l0 := [some (.ref 41), some (.int 1), none, none, none]) ⟨rfl, rfl, trivial⟩ ?_
  refine Sp.loopL (mf := (fun (x1 : Int32) => [some (.ref 41), some (.int x1), none, none, none])) (hf := (fun (x1 : Int32) => hS X M)) (fun x1 => ?_) _ _
  unfold b2_Memory_fieldsLeadWell
  refine Sp.step rfl rfl rfl rfl ?_
  refine Sp.step rfl rfl rfl rfl ?_
  refine Sp.step rfl rfl rfl (xg_I (c := 4) (f := 7) rfl rfl rfl rfl) ?_
  refine Sp.if2 rfl rfl rfl rfl (fun e2 => ?_) (fun e2 => ?_)
  · refine Sp.step rfl rfl rfl rfl ?_
    exact Sp.iret rfl rfl rfl rfl (fun _ _ h => h)
  · refine Sp.step rfl rfl rfl rfl ?_
    refine Sp.step rfl rfl rfl rfl ?_
    refine Sp.call rfl rfl rfl (xrecv (c := 4) (by decide) rfl (by decide +kernel)) s_Memory_firstRef (fun x3 => ⟨_, _, ⟨rfl, rfl⟩, ?_⟩)
    refine Sp.id (pc := 15) (l := [some (.ref 41), some (.int x1), none, none, none]) (st := [.int x3]) (h := hS X M) ?_
    refine Sp.step rfl rfl rfl rfl ?_
    refine Sp.step rfl rfl rfl rfl ?_
    refine Sp.step rfl rfl rfl rfl ?_
    refine Sp.call rfl rfl rfl (xrecv (c := 4) (by decide) rfl (by decide +kernel)) s_Memory_refsIn (fun x4 => ⟨_, _, ⟨rfl, rfl⟩, ?_⟩)
    refine Sp.id (pc := 21) (l := [some (.ref 41), some (.int x1), some (.int x3), none, none]) (st := [.int x4]) (h := hS X M) ?_
    refine Sp.step rfl rfl rfl rfl ?_
    refine Sp.step rfl rfl rfl rfl ?_
    refine Sp.step rfl rfl rfl rfl ?_
    refine Sp.weak (l0 := [some (.ref 41), some (.int x1), some (.int x3), some (.int x4), some (.int 0)]) ⟨rfl, rfl, rfl, rfl, rfl, trivial⟩ ?_
    refine Sp.loopL (mf := (fun (x5 : Int32) => [some (.ref 41), some (.int x1), some (.int x3), some (.int x4), some (.int x5)])) (hf := (fun (x5 : Int32) => hS X M)) (fun x5 => ?_) _ _
    unfold b25_Memory_fieldsLeadWell
    refine Sp.step rfl rfl rfl rfl ?_
    refine Sp.step rfl rfl rfl rfl ?_
    refine Sp.if2 rfl rfl rfl rfl (fun e6 => ?_) (fun e6 => ?_)
    · refine Sp.step rfl rfl rfl rfl ?_
      refine Sp.step rfl rfl rfl rfl ?_
      refine Sp.step rfl rfl rfl rfl ?_
      refine Sp.step rfl rfl rfl rfl ?_
      refine Sp.call rfl rfl rfl (xrecv (c := 4) (by decide) rfl (by decide +kernel)) s_Memory_sizeAt (fun x7 => ⟨_, _, ⟨rfl, rfl⟩, ?_⟩)
      refine Sp.id (pc := 61) (l := [some (.ref 41), some (.int x1), some (.int x3), some (.int x4), some (.int x5)]) (st := [.int x7, .int 4, .int x1]) (h := hS X M) ?_
      refine Sp.nat rfl rfl rfl rfl ⟨by decide, by decide, rfl⟩ ?_
      refine Sp.step rfl rfl rfl rfl ?_
      refine Sp.step rfl rfl rfl rfl ?_
      refine Sp.step rfl rfl rfl rfl ?_
      exact Sp.jmp (l0 := [some (.ref 41), some (.int (x1 + (if 4 < x7 then x7 else 4))), none, none, none]) ⟨rfl, rfl, trivial⟩ (fun _ _ h => h)
    · refine Sp.step rfl rfl rfl rfl ?_
      refine Sp.step rfl rfl rfl rfl ?_
      refine Sp.step rfl rfl rfl rfl ?_
      refine Sp.step rfl rfl rfl rfl ?_
      refine Sp.step rfl rfl rfl rfl ?_
      refine Sp.call rfl rfl rfl (xrecv (c := 4) (by decide) rfl (by decide +kernel)) s_Memory_word (fun x8 => ⟨_, _, ⟨rfl, rfl⟩, ?_⟩)
      refine Sp.id (pc := 40) (l := [some (.ref 41), some (.int x1), some (.int x3), some (.int x4), some (.int x5)]) (st := [.int x8, .ref 41]) (h := hS X M) ?_
      refine Sp.call rfl rfl rfl (xrecv (c := 4) (by decide) rfl (by decide +kernel)) s_Memory_leadsWell (fun x9 => ⟨_, _, ⟨rfl, rfl⟩, ?_⟩)
      refine Sp.bool (fun e10 => ?_) (fun e10 => ?_)
      · refine Sp.id (pc := 43) (l := [some (.ref 41), some (.int x1), some (.int x3), some (.int x4), some (.int x5)]) (st := [.int 1]) (h := hS X M) ?_
        refine Sp.step rfl rfl rfl rfl ?_
        refine Sp.step rfl rfl rfl rfl ?_
        refine Sp.step rfl rfl rfl rfl ?_
        exact Sp.jmp (l0 := [some (.ref 41), some (.int x1), some (.int x3), some (.int x4), some (.int (x5 + 1))]) ⟨rfl, rfl, rfl, rfl, rfl, trivial⟩ (fun _ _ h => h)
      · refine Sp.id (pc := 43) (l := [some (.ref 41), some (.int x1), some (.int x3), some (.int x4), some (.int x5)]) (st := [.int 0]) (h := hS X M) ?_
        refine Sp.step rfl rfl rfl rfl ?_
        refine Sp.step rfl rfl rfl rfl ?_
        exact Sp.iret rfl rfl rfl rfl (fun _ _ h => h)
def b3_Memory_rowLeadsWell (x : Nat) (y : Nat) (z : Int32) (X : XS) (x1 : Int32) : Option (Int32 ⊕ Bool) := (if z ≤ x1 then some (.inr true) else (ocz (xL X 0 x) none (fun n3 => (if Int32.ofNat n3 ≤ x1 then some (.inr true) else (ocz (xL X 0 y) none (fun n6 => (if Int32.ofNat n6 ≤ x1 then some (.inr true) else (if ixo x1 n6 then (if X.1 y x1.toNatClampNeg = 0 then some (.inl (x1 + 1)) else (if ixo x1 n3 then ((f_Memory_leadsWell (X.1 x x1.toNatClampNeg) X).bind fun x12 => (if x12 = true then some (.inl (x1 + 1)) else some (.inr false))) else none)) else none))))))))
def f_Memory_rowLeadsWell (x : Nat) (y : Nat) (z : Int32) (X : XS) : Option Bool := (lp (b3_Memory_rowLeadsWell x y z X) 10000 (0 : Int32))
set_option maxRecDepth 100000 in
set_option maxHeartbeats 4000000 in
theorem s_Memory_rowLeadsWell {L : Nat} {xs : Nat → Int32} {X : XS} {M : MS} {x : Nat} {y : Nat} {z : Int32} : Sp (mjOO L xs) 231 0 [some (.ref 41), some (.ref x), some (.ref y), some (.int z), none] [] (hS X M) (f_Memory_rowLeadsWell x y z X) (KB (hS X M)) := by
  unfold f_Memory_rowLeadsWell
  refine Sp.step rfl rfl rfl rfl ?_
  refine Sp.step rfl rfl rfl rfl ?_
  refine Sp.weak (l0 := [some (.ref 41), some (.ref x), some (.ref y), some (.int z), some (.int 0)]) ⟨rfl, rfl, rfl, rfl, rfl, trivial⟩ ?_
  refine Sp.loopL (mf := (fun (x1 : Int32) => [some (.ref 41), some (.ref x), some (.ref y), some (.int z), some (.int x1)])) (hf := (fun (x1 : Int32) => hS X M)) (fun x1 => ?_) _ _
  unfold b3_Memory_rowLeadsWell
  refine Sp.step rfl rfl rfl rfl ?_
  refine Sp.step rfl rfl rfl rfl ?_
  refine Sp.if2 rfl rfl rfl rfl (fun e2 => ?_) (fun e2 => ?_)
  · refine Sp.step rfl rfl rfl rfl ?_
    exact Sp.iret rfl rfl rfl rfl (fun _ _ h => h)
  · refine Sp.step rfl rfl rfl rfl ?_
    refine Sp.step rfl rfl rfl rfl ?_
    refine Sp.ocn (fun n3 e4 => ?_)
    refine Sp.step rfl rfl rfl (xlen (xL_ok e4) (by decide)) ?_
    refine Sp.if2 rfl rfl rfl rfl (fun e5 => ?_) (fun e5 => ?_)
    · refine Sp.step rfl rfl rfl rfl ?_
      exact Sp.iret rfl rfl rfl rfl (fun _ _ h => h)
    · refine Sp.step rfl rfl rfl rfl ?_
      refine Sp.step rfl rfl rfl rfl ?_
      refine Sp.ocn (fun n6 e7 => ?_)
      refine Sp.step rfl rfl rfl (xlen (xL_ok e7) (by decide)) ?_
      refine Sp.if2 rfl rfl rfl rfl (fun e8 => ?_) (fun e8 => ?_)
      · refine Sp.step rfl rfl rfl rfl ?_
        exact Sp.iret rfl rfl rfl rfl (fun _ _ h => h)
      · refine Sp.step rfl rfl rfl rfl ?_
        refine Sp.step rfl rfl rfl rfl ?_
        refine Sp.guard (fun e9 => ?_)
        refine Sp.step rfl rfl rfl (xld (xL_ok e7) (by decide) e9) ?_
        refine Sp.if1 rfl rfl rfl rfl (fun e10 => ?_) (fun e10 => ?_)
        · refine Sp.step rfl rfl rfl rfl ?_
          refine Sp.step rfl rfl rfl rfl ?_
          exact Sp.jmp (l0 := [some (.ref 41), some (.ref x), some (.ref y), some (.int z), some (.int (x1 + 1))]) ⟨rfl, rfl, rfl, rfl, rfl, trivial⟩ (fun _ _ h => h)
        · refine Sp.step rfl rfl rfl rfl ?_
          refine Sp.step rfl rfl rfl rfl ?_
          refine Sp.step rfl rfl rfl rfl ?_
          refine Sp.guard (fun e11 => ?_)
          refine Sp.step rfl rfl rfl (xld (xL_ok e4) (by decide) e11) ?_
          refine Sp.call rfl rfl rfl (xrecv (c := 4) (by decide) rfl (by decide +kernel)) s_Memory_leadsWell (fun x12 => ⟨_, _, ⟨rfl, rfl⟩, ?_⟩)
          refine Sp.bool (fun e13 => ?_) (fun e13 => ?_)
          · refine Sp.id (pc := 38) (l := [some (.ref 41), some (.ref x), some (.ref y), some (.int z), some (.int x1)]) (st := [.int 1]) (h := hS X M) ?_
            refine Sp.step rfl rfl rfl rfl ?_
            refine Sp.step rfl rfl rfl rfl ?_
            refine Sp.step rfl rfl rfl rfl ?_
            exact Sp.jmp (l0 := [some (.ref 41), some (.ref x), some (.ref y), some (.int z), some (.int (x1 + 1))]) ⟨rfl, rfl, rfl, rfl, rfl, trivial⟩ (fun _ _ h => h)
          · refine Sp.id (pc := 38) (l := [some (.ref 41), some (.ref x), some (.ref y), some (.int z), some (.int x1)]) (st := [.int 0]) (h := hS X M) ?_
            refine Sp.step rfl rfl rfl rfl ?_
            refine Sp.step rfl rfl rfl rfl ?_
            exact Sp.iret rfl rfl rfl rfl (fun _ _ h => h)
def b43_Engine_isSound (x2 : (Bool × XS)) (x8 : Int32) : Option (Int32 ⊕ (Bool × XS)) := (if 6 ≤ x8 then ((f_Memory_fieldsLeadWell x2.2).bind fun x10 => (if x10 = true then some (.inr (true, x2.2)) else some (.inr (false, x2.2)))) else (if f_Engine_isStrand x8 x2.2 = true then (ocz (x2.2.2.1 50 x8.toNatClampNeg) none (fun a14 => (if (xT x2.2 a14 = some (14, 0)) then (ocz (x2.2.2.1 a14 5) none (fun a17 => (ocz (x2.2.2.1 50 x8.toNatClampNeg) none (fun a19 => (if (xT x2.2 a19 = some (14, 0)) then (ocz (x2.2.2.1 a19 6) none (fun a22 => (ocz (x2.2.2.1 50 x8.toNatClampNeg) none (fun a24 => (if (xT x2.2 a24 = some (14, 0)) then ((f_Strand_slots a24 x2.2).bind fun x27 => ((f_Memory_rowLeadsWell a17 a22 x27 x2.2).bind fun x28 => (if x28 = true then some (.inl (x8 + 1)) else some (.inr (false, x2.2))))) else none))))) else none))))) else none))) else ((f_Memory_fieldsLeadWell x2.2).bind fun x33 => (if x33 = true then some (.inr (true, x2.2)) else some (.inr (false, x2.2))))))
def f_Engine_isSound (X : XS) : Option (Bool × XS) := (if ¬ X.1 40 0 = 0 then ((f_Memory_findBeginnings X).bind fun x2 => (if x2.1 = true then ((f_Memory_rowLeadsWell_57_58 8 x2.2).bind fun x5 => (if x5 = true then (lp (b43_Engine_isSound x2) 10000 (0 : Int32)) else some (false, x2.2))) else some (false, x2.2))) else some (true, X))
set_option maxRecDepth 100000 in
set_option maxHeartbeats 4000000 in
theorem s_Engine_isSound {L : Nat} {xs : Nat → Int32} {X : XS} {M : MS} : Sp (mjOO L xs) 134 0 [some (.ref 40), none] [] (hS X M) (f_Engine_isSound X) (KBX M) := by
  unfold f_Engine_isSound
  refine Sp.step rfl rfl rfl rfl ?_
  refine Sp.step rfl rfl rfl (xg_I (c := 0) (f := 0) rfl rfl rfl rfl) ?_
  refine Sp.if1 rfl rfl rfl rfl (fun e1 => ?_) (fun e1 => ?_)
  · refine Sp.step rfl rfl rfl rfl ?_
    refine Sp.step rfl rfl rfl (xg_F (c := 0) (f := 3) rfl rfl rfl rfl rfl) ?_
    refine Sp.call rfl rfl rfl (xrecv (c := 4) (by decide) rfl (by decide +kernel)) s_Memory_findBeginnings (fun x2 => ⟨_, _, ⟨rfl, rfl⟩, ?_⟩)
    refine Sp.bool (fun e3 => ?_) (fun e3 => ?_)
    · refine Sp.id (pc := 16) (l := [some (.ref 40), none]) (st := [.int 1]) (h := hS x2.2 M) ?_
      refine Sp.step rfl rfl rfl rfl ?_
      refine Sp.step rfl rfl rfl rfl ?_
      refine Sp.step rfl rfl rfl (xg_F (c := 0) (f := 3) rfl rfl rfl rfl rfl) ?_
      refine Sp.step rfl rfl rfl rfl ?_
      refine Sp.step rfl rfl rfl (xg_F (c := 0) (f := 8) rfl rfl rfl rfl rfl) ?_
      refine Sp.step rfl rfl rfl rfl ?_
      refine Sp.step rfl rfl rfl (xg_F (c := 0) (f := 9) rfl rfl rfl rfl rfl) ?_
      refine Sp.step rfl rfl rfl rfl ?_
      refine Sp.call rfl rfl rfl (xrecv (c := 4) (by decide) rfl (by decide +kernel)) s_Memory_rowLeadsWell_57_58 (fun x5 => ⟨_, _, ⟨rfl, rfl⟩, ?_⟩)
      refine Sp.bool (fun e6 => ?_) (fun e6 => ?_)
      · refine Sp.id (pc := 36) (l := [some (.ref 40), none]) (st := [.int 1]) (h := hS x2.2 M) ?_
        refine Sp.step rfl rfl rfl rfl ?_
        refine Sp.step rfl rfl rfl rfl ?_
        refine Sp.step rfl rfl rfl rfl ?_
        refine Sp.weak (l0 := [some (.ref 40), some (.int 0)]) ⟨rfl, rfl, trivial⟩ ?_
        refine Sp.loopL (mf := (fun (x8 : Int32) => [some (.ref 40), some (.int x8)])) (hf := (fun (x8 : Int32) => hS x2.2 M)) (fun x8 => ?_) _ _
        unfold b43_Engine_isSound
        refine Sp.step rfl rfl rfl rfl ?_
        refine Sp.step rfl rfl rfl rfl ?_
        refine Sp.if2 rfl rfl rfl rfl (fun e9 => ?_) (fun e9 => ?_)
        · refine Sp.step rfl rfl rfl rfl ?_
          refine Sp.step rfl rfl rfl (xg_F (c := 0) (f := 3) rfl rfl rfl rfl rfl) ?_
          refine Sp.call rfl rfl rfl (xrecv (c := 4) (by decide) rfl (by decide +kernel)) s_Memory_fieldsLeadWell (fun x10 => ⟨_, _, ⟨rfl, rfl⟩, ?_⟩)
          refine Sp.bool (fun e11 => ?_) (fun e11 => ?_)
          · refine Sp.id (pc := 109) (l := [some (.ref 40), some (.int x8)]) (st := [.int 1]) (h := hS x2.2 M) ?_
            exact Sp.iret rfl rfl rfl rfl (fun _ _ h => h)
          · refine Sp.id (pc := 109) (l := [some (.ref 40), some (.int x8)]) (st := [.int 0]) (h := hS x2.2 M) ?_
            exact Sp.iret rfl rfl rfl rfl (fun _ _ h => h)
        · refine Sp.step rfl rfl rfl rfl ?_
          refine Sp.step rfl rfl rfl rfl ?_
          refine Sp.callS rfl rfl rfl (xrecv (c := 0) (by decide) rfl (by decide +kernel)) s_Engine_isStrand ⟨rfl, rfl⟩ ?_
          refine Sp.bool (fun e12 => ?_) (fun e12 => ?_)
          · refine Sp.id (pc := 54) (l := [some (.ref 40), some (.int x8)]) (st := [.int 1]) (h := hS x2.2 M) ?_
            refine Sp.step rfl rfl rfl rfl ?_
            refine Sp.step rfl rfl rfl rfl ?_
            refine Sp.step rfl rfl rfl (xg_F (c := 0) (f := 3) rfl rfl rfl rfl rfl) ?_
            refine Sp.step rfl rfl rfl rfl ?_
            refine Sp.step rfl rfl rfl (xg_F (c := 0) (f := 5) rfl rfl rfl rfl rfl) ?_
            refine Sp.step rfl rfl rfl rfl ?_
            refine Sp.step rfl rfl rfl (xald (t := 4) rfl (by decide) (fun _ => rfl) (isStrand_ix e12)) ?_
            refine Sp.ocrn (fun a14 e15 => ?_)
            refine Sp.guard (fun e16 => ?_)
            refine Sp.step rfl rfl rfl (xg_D (c := 9) (f := 5) rfl rfl e16 rfl (fxP_big (dyn_of (c := 9) e16 rfl))) ?_
            refine Sp.ocrn (fun a17 e18 => ?_)
            refine Sp.step rfl rfl rfl rfl ?_
            refine Sp.step rfl rfl rfl (xg_F (c := 0) (f := 5) rfl rfl rfl rfl rfl) ?_
            refine Sp.step rfl rfl rfl rfl ?_
            refine Sp.step rfl rfl rfl (xald (t := 4) rfl (by decide) (fun _ => rfl) (isStrand_ix e12)) ?_
            refine Sp.ocrn (fun a19 e20 => ?_)
            refine Sp.guard (fun e21 => ?_)
            refine Sp.step rfl rfl rfl (xg_D (c := 9) (f := 6) rfl rfl e21 rfl (fxP_big (dyn_of (c := 9) e21 rfl))) ?_
            refine Sp.ocrn (fun a22 e23 => ?_)
            refine Sp.step rfl rfl rfl rfl ?_
            refine Sp.step rfl rfl rfl (xg_F (c := 0) (f := 5) rfl rfl rfl rfl rfl) ?_
            refine Sp.step rfl rfl rfl rfl ?_
            refine Sp.step rfl rfl rfl (xald (t := 4) rfl (by decide) (fun _ => rfl) (isStrand_ix e12)) ?_
            refine Sp.ocrn (fun a24 e25 => ?_)
            refine Sp.guard (fun e26 => ?_)
            refine Sp.call rfl rfl rfl (xrecv (c := 9) (by decide) e26 (by decide +kernel)) s_Strand_slots (fun x27 => ⟨_, _, ⟨rfl, rfl⟩, ?_⟩)
            refine Sp.id (pc := 88) (l := [some (.ref 40), some (.int x8)]) (st := [.int x27, .ref a22, .ref a17, .ref 41]) (h := hS x2.2 M) ?_
            refine Sp.call rfl rfl rfl (xrecv (c := 4) (by decide) rfl (by decide +kernel)) s_Memory_rowLeadsWell (fun x28 => ⟨_, _, ⟨rfl, rfl⟩, ?_⟩)
            refine Sp.bool (fun e29 => ?_) (fun e29 => ?_)
            · refine Sp.id (pc := 91) (l := [some (.ref 40), some (.int x8)]) (st := [.int 1]) (h := hS x2.2 M) ?_
              refine Sp.step rfl rfl rfl rfl ?_
              refine Sp.step rfl rfl rfl rfl ?_
              refine Sp.step rfl rfl rfl rfl ?_
              exact Sp.jmp (l0 := [some (.ref 40), some (.int (x8 + 1))]) ⟨rfl, rfl, trivial⟩ (fun _ _ h => h)
            · refine Sp.id (pc := 91) (l := [some (.ref 40), some (.int x8)]) (st := [.int 0]) (h := hS x2.2 M) ?_
              refine Sp.step rfl rfl rfl rfl ?_
              refine Sp.step rfl rfl rfl rfl ?_
              exact Sp.iret rfl rfl rfl rfl (fun _ _ h => h)
          · refine Sp.id (pc := 54) (l := [some (.ref 40), some (.int x8)]) (st := [.int 0]) (h := hS x2.2 M) ?_
            refine Sp.step rfl rfl rfl rfl ?_
            refine Sp.step rfl rfl rfl rfl ?_
            refine Sp.step rfl rfl rfl (xg_F (c := 0) (f := 3) rfl rfl rfl rfl rfl) ?_
            refine Sp.call rfl rfl rfl (xrecv (c := 4) (by decide) rfl (by decide +kernel)) s_Memory_fieldsLeadWell (fun x33 => ⟨_, _, ⟨rfl, rfl⟩, ?_⟩)
            refine Sp.bool (fun e34 => ?_) (fun e34 => ?_)
            · refine Sp.id (pc := 109) (l := [some (.ref 40), some (.int x8)]) (st := [.int 1]) (h := hS x2.2 M) ?_
              exact Sp.iret rfl rfl rfl rfl (fun _ _ h => h)
            · refine Sp.id (pc := 109) (l := [some (.ref 40), some (.int x8)]) (st := [.int 0]) (h := hS x2.2 M) ?_
              exact Sp.iret rfl rfl rfl rfl (fun _ _ h => h)
      · refine Sp.id (pc := 36) (l := [some (.ref 40), none]) (st := [.int 0]) (h := hS x2.2 M) ?_
        refine Sp.step rfl rfl rfl rfl ?_
        refine Sp.step rfl rfl rfl rfl ?_
        exact Sp.iret rfl rfl rfl rfl (fun _ _ h => h)
    · refine Sp.id (pc := 16) (l := [some (.ref 40), none]) (st := [.int 0]) (h := hS x2.2 M) ?_
      refine Sp.step rfl rfl rfl rfl ?_
      refine Sp.step rfl rfl rfl rfl ?_
      exact Sp.iret rfl rfl rfl rfl (fun _ _ h => h)
  · refine Sp.step rfl rfl rfl rfl ?_
    exact Sp.iret rfl rfl rfl rfl (fun _ _ h => h)
def f_P_sound (X : XS) : Option (Bool × XS) := ((f_Engine_isSound X).bind fun x1 => (if x1.1 = true then some (true, x1.2) else some (false, x1.2)))
set_option maxRecDepth 100000 in
set_option maxHeartbeats 4000000 in
theorem s_P_sound {L : Nat} {xs : Nat → Int32} {X : XS} {M : MS} : Sp (mjOO L xs) 14 0 [some (.ref 0)] [] (hS X M) (f_P_sound X) (KBX M) := by
  unfold f_P_sound
  refine Sp.step rfl rfl rfl rfl ?_
  refine Sp.step rfl rfl rfl (xg_F (c := 11) (f := 4) rfl rfl rfl rfl rfl) ?_
  refine Sp.call rfl rfl rfl (xrecv (c := 0) (by decide) rfl (by decide +kernel)) s_Engine_isSound (fun x1 => ⟨_, _, ⟨rfl, rfl⟩, ?_⟩)
  refine Sp.bool (fun e2 => ?_) (fun e2 => ?_)
  · refine Sp.id (pc := 7) (l := [some (.ref 0)]) (st := [.int 1]) (h := hS x1.2 M) ?_
    exact Sp.iret rfl rfl rfl rfl (fun _ _ h => h)
  · refine Sp.id (pc := 7) (l := [some (.ref 0)]) (st := [.int 0]) (h := hS x1.2 M) ?_
    exact Sp.iret rfl rfl rfl rfl (fun _ _ h => h)
def f_P_told (x : Int32) (X : XS) : Int32 := (if x = 0 then X.1 1 1 else (if x = 1 then X.1 1 2 else (if x = 2 then X.1 30 0 else (if x = 3 then X.1 59 0 else (if x = 4 then X.1 40 2 else (if x = 5 then f_Memory_used X else (if x = 6 then X.1 41 0 else (if x = 7 then X.1 47 1 else (if x = 8 then X.1 47 0 else (if x = 9 then X.1 35 0 else (-1)))))))))))
set_option maxRecDepth 100000 in
set_option maxHeartbeats 4000000 in
theorem s_P_told {L : Nat} {xs : Nat → Int32} {X : XS} {M : MS} {x : Int32} : Sp (mjOO L xs) 15 0 [some (.ref 0), some (.int x)] [] (hS X M) (some (f_P_told x X)) (KQ (hS X M)) := by
  unfold f_P_told
  refine Sp.step rfl rfl rfl rfl ?_
  refine Sp.iteV (fun e1 => ?_) (fun e1 => ?_)
  · refine Sp.step rfl rfl rfl (go_sw (t := 56) (sw_of e1 rfl)) ?_
    refine Sp.step rfl rfl rfl rfl ?_
    refine Sp.step rfl rfl rfl (xg_F (c := 11) (f := 0) rfl rfl rfl rfl rfl) ?_
    refine Sp.step rfl rfl rfl (xg_I (c := 8) (f := 1) rfl rfl rfl rfl) ?_
    exact Sp.iret rfl rfl rfl rfl (fun _ _ h => h)
  · refine Sp.iteV (fun e2 => ?_) (fun e2 => ?_)
    · refine Sp.step rfl rfl rfl (go_sw (t := 64) (sw_of e2 rfl)) ?_
      refine Sp.step rfl rfl rfl rfl ?_
      refine Sp.step rfl rfl rfl (xg_F (c := 11) (f := 0) rfl rfl rfl rfl rfl) ?_
      refine Sp.step rfl rfl rfl (xg_I (c := 8) (f := 2) rfl rfl rfl rfl) ?_
      exact Sp.iret rfl rfl rfl rfl (fun _ _ h => h)
    · refine Sp.iteV (fun e3 => ?_) (fun e3 => ?_)
      · refine Sp.step rfl rfl rfl (go_sw (t := 72) (sw_of e3 rfl)) ?_
        refine Sp.step rfl rfl rfl rfl ?_
        refine Sp.step rfl rfl rfl (xg_F (c := 11) (f := 2) rfl rfl rfl rfl rfl) ?_
        refine Sp.step rfl rfl rfl (xg_I (c := 2) (f := 0) rfl rfl rfl rfl) ?_
        exact Sp.iret rfl rfl rfl rfl (fun _ _ h => h)
      · refine Sp.iteV (fun e4 => ?_) (fun e4 => ?_)
        · refine Sp.step rfl rfl rfl (go_sw (t := 80) (sw_of e4 rfl)) ?_
          refine Sp.step rfl rfl rfl rfl ?_
          refine Sp.step rfl rfl rfl (xg_F (c := 11) (f := 5) rfl rfl rfl rfl rfl) ?_
          refine Sp.step rfl rfl rfl (xg_I (c := 10) (f := 0) rfl rfl rfl rfl) ?_
          exact Sp.iret rfl rfl rfl rfl (fun _ _ h => h)
        · refine Sp.iteV (fun e5 => ?_) (fun e5 => ?_)
          · refine Sp.step rfl rfl rfl (go_sw (t := 88) (sw_of e5 rfl)) ?_
            refine Sp.step rfl rfl rfl rfl ?_
            refine Sp.step rfl rfl rfl (xg_F (c := 11) (f := 4) rfl rfl rfl rfl rfl) ?_
            refine Sp.step rfl rfl rfl (xg_I (c := 0) (f := 2) rfl rfl rfl rfl) ?_
            exact Sp.iret rfl rfl rfl rfl (fun _ _ h => h)
          · refine Sp.iteV (fun e6 => ?_) (fun e6 => ?_)
            · refine Sp.step rfl rfl rfl (go_sw (t := 96) (sw_of e6 rfl)) ?_
              refine Sp.step rfl rfl rfl rfl ?_
              refine Sp.step rfl rfl rfl (xg_F (c := 11) (f := 4) rfl rfl rfl rfl rfl) ?_
              refine Sp.step rfl rfl rfl (xg_F (c := 0) (f := 3) rfl rfl rfl rfl rfl) ?_
              refine Sp.callS rfl rfl rfl (xrecv (c := 4) (by decide) rfl (by decide +kernel)) s_Memory_used ⟨rfl, rfl⟩ ?_
              refine Sp.id (pc := 106) (l := [some (.ref 0), some (.int x)]) (st := [.int (f_Memory_used X)]) (h := hS X M) ?_
              exact Sp.iret rfl rfl rfl rfl (fun _ _ h => h)
            · refine Sp.iteV (fun e7 => ?_) (fun e7 => ?_)
              · refine Sp.step rfl rfl rfl (go_sw (t := 107) (sw_of e7 rfl)) ?_
                refine Sp.step rfl rfl rfl rfl ?_
                refine Sp.step rfl rfl rfl (xg_F (c := 11) (f := 4) rfl rfl rfl rfl rfl) ?_
                refine Sp.step rfl rfl rfl (xg_F (c := 0) (f := 3) rfl rfl rfl rfl rfl) ?_
                refine Sp.step rfl rfl rfl (xg_I (c := 4) (f := 0) rfl rfl rfl rfl) ?_
                exact Sp.iret rfl rfl rfl rfl (fun _ _ h => h)
              · refine Sp.iteV (fun e8 => ?_) (fun e8 => ?_)
                · refine Sp.step rfl rfl rfl (go_sw (t := 118) (sw_of e8 rfl)) ?_
                  refine Sp.step rfl rfl rfl rfl ?_
                  refine Sp.step rfl rfl rfl (xg_F (c := 11) (f := 4) rfl rfl rfl rfl rfl) ?_
                  refine Sp.step rfl rfl rfl (xg_F (c := 0) (f := 4) rfl rfl rfl rfl rfl) ?_
                  refine Sp.step rfl rfl rfl (xg_I (c := 5) (f := 1) rfl rfl rfl rfl) ?_
                  exact Sp.iret rfl rfl rfl rfl (fun _ _ h => h)
                · refine Sp.iteV (fun e9 => ?_) (fun e9 => ?_)
                  · refine Sp.step rfl rfl rfl (go_sw (t := 129) (sw_of e9 rfl)) ?_
                    refine Sp.step rfl rfl rfl rfl ?_
                    refine Sp.step rfl rfl rfl (xg_F (c := 11) (f := 4) rfl rfl rfl rfl rfl) ?_
                    refine Sp.step rfl rfl rfl (xg_F (c := 0) (f := 4) rfl rfl rfl rfl rfl) ?_
                    refine Sp.step rfl rfl rfl (xg_I (c := 5) (f := 0) rfl rfl rfl rfl) ?_
                    exact Sp.iret rfl rfl rfl rfl (fun _ _ h => h)
                  · refine Sp.iteV (fun e10 => ?_) (fun e10 => ?_)
                    · refine Sp.step rfl rfl rfl (go_sw (t := 140) (sw_of e10 rfl)) ?_
                      refine Sp.step rfl rfl rfl rfl ?_
                      refine Sp.step rfl rfl rfl (xg_F (c := 11) (f := 3) rfl rfl rfl rfl rfl) ?_
                      refine Sp.step rfl rfl rfl (xg_I (c := 2) (f := 0) rfl rfl rfl rfl) ?_
                      exact Sp.iret rfl rfl rfl rfl (fun _ _ h => h)
                    · refine Sp.step rfl rfl rfl (go_sw (t := 148) (mjSw_dflt _ (by
                        intro q hq
                        simp only [List.mem_cons, List.not_mem_nil, or_false] at hq
                        rcases hq with rfl | rfl | rfl | rfl | rfl | rfl | rfl | rfl | rfl | rfl
                        · exact fun h => absurd h (fun h => e1 h)
                        · exact fun h => absurd h (fun h => e2 h)
                        · exact fun h => absurd h (fun h => e3 h)
                        · exact fun h => absurd h (fun h => e4 h)
                        · exact fun h => absurd h (fun h => e5 h)
                        · exact fun h => absurd h (fun h => e6 h)
                        · exact fun h => absurd h (fun h => e7 h)
                        · exact fun h => absurd h (fun h => e8 h)
                        · exact fun h => absurd h (fun h => e9 h)
                        · exact fun h => absurd h (fun h => e10 h)))) ?_
                      refine Sp.step rfl rfl rfl rfl ?_
                      exact Sp.iret rfl rfl rfl rfl (fun _ _ h => h)
def f_M_cls (x : Int32) (y : Int32) (z : Int32) (M : MS) : Option (Int32 × MS) := (if M.1 60 3 = 10 then some ((-1), M) else (if x = (-1) then (if 0 ≤ y ∧ y ≤ 6 then (if 0 ≤ z ∧ z ≤ 6 then (if ixo (M.1 60 3) 10 then (lt (mw M 61 (M.1 60 3).toNatClampNeg x) fun M8 => (if ixo (M8.1 60 3) 10 then (lt (mw M8 62 (M8.1 60 3).toNatClampNeg y) fun M10 => (if ixo (M10.1 60 3) 10 then (lt (mw M10 63 (M10.1 60 3).toNatClampNeg z) fun M12 => (lt (mw M12 60 3 ((M12.1 60 3) + 1)) fun M13 => some ((M13.1 60 3) - 1, M13))) else none)) else none)) else none) else some ((-1), M)) else some ((-1), M)) else (if 0 ≤ x ∧ x ≤ (M.1 60 3) - 1 then (if 0 ≤ y ∧ y ≤ 6 then (if 0 ≤ z ∧ z ≤ 6 then (if ixo (M.1 60 3) 10 then (lt (mw M 61 (M.1 60 3).toNatClampNeg x) fun M23 => (if ixo (M23.1 60 3) 10 then (lt (mw M23 62 (M23.1 60 3).toNatClampNeg y) fun M25 => (if ixo (M25.1 60 3) 10 then (lt (mw M25 63 (M25.1 60 3).toNatClampNeg z) fun M27 => (lt (mw M27 60 3 ((M27.1 60 3) + 1)) fun M28 => some ((M28.1 60 3) - 1, M28))) else none)) else none)) else none) else some ((-1), M)) else some ((-1), M)) else some ((-1), M))))
set_option maxRecDepth 100000 in
set_option maxHeartbeats 4000000 in
theorem s_M_cls {L : Nat} {xs : Nat → Int32} {X : XS} {M : MS} {x : Int32} {y : Int32} {z : Int32} : Sp (mjOO L xs) 22 0 [some (.ref 60), some (.int x), some (.int y), some (.int z)] [] (hS X M) (f_M_cls x y z M) (KEM X) := by
  unfold f_M_cls
  refine Sp.step rfl rfl rfl rfl ?_
  refine Sp.step rfl rfl rfl (mg_I (f := 3) rfl rfl rfl) ?_
  refine Sp.step rfl rfl rfl rfl ?_
  refine Sp.if2 rfl rfl rfl rfl (fun e1 => ?_) (fun e1 => ?_)
  · refine Sp.step rfl rfl rfl rfl ?_
    exact Sp.iret rfl rfl rfl rfl (fun _ _ h => h)
  · refine Sp.step rfl rfl rfl rfl ?_
    refine Sp.step rfl rfl rfl rfl ?_
    refine Sp.if2 rfl rfl rfl rfl (fun e2 => ?_) (fun e2 => ?_)
    · refine Sp.step rfl rfl rfl rfl ?_
      refine Sp.step rfl rfl rfl rfl ?_
      refine Sp.step rfl rfl rfl rfl ?_
      refine Sp.callP rfl rfl rfl rfl s_isIn (fun e3 => ?_) (fun e3 => ?_)
      · refine Sp.id (pc := 35) (l := [some (.ref 60), some (.int x), some (.int y), some (.int z)]) (st := [.int 1]) (h := hS X M) ?_
        refine Sp.step rfl rfl rfl rfl ?_
        refine Sp.step rfl rfl rfl rfl ?_
        refine Sp.step rfl rfl rfl rfl ?_
        refine Sp.step rfl rfl rfl rfl ?_
        refine Sp.callP rfl rfl rfl rfl s_isIn (fun e5 => ?_) (fun e5 => ?_)
        · refine Sp.id (pc := 45) (l := [some (.ref 60), some (.int x), some (.int y), some (.int z)]) (st := [.int 1]) (h := hS X M) ?_
          refine Sp.step rfl rfl rfl rfl ?_
          refine Sp.step rfl rfl rfl rfl ?_
          refine Sp.step rfl rfl rfl (mg_F (f := 0) rfl rfl rfl rfl) ?_
          refine Sp.step rfl rfl rfl rfl ?_
          refine Sp.step rfl rfl rfl (mg_I (f := 3) rfl rfl rfl) ?_
          refine Sp.step rfl rfl rfl rfl ?_
          refine Sp.guard (fun e7 => ?_)
          refine Sp.step rfl rfl rfl (mst rfl rfl (by decide) e7) ?_
          refine Sp.step rfl rfl rfl rfl ?_
          refine Sp.step rfl rfl rfl (mg_F (f := 1) rfl rfl rfl rfl) ?_
          refine Sp.step rfl rfl rfl rfl ?_
          refine Sp.step rfl rfl rfl (mg_I (f := 3) rfl rfl rfl) ?_
          refine Sp.step rfl rfl rfl rfl ?_
          refine Sp.guard (fun e9 => ?_)
          refine Sp.step rfl rfl rfl (mst rfl rfl (by decide) e9) ?_
          refine Sp.step rfl rfl rfl rfl ?_
          refine Sp.step rfl rfl rfl (mg_F (f := 2) rfl rfl rfl rfl) ?_
          refine Sp.step rfl rfl rfl rfl ?_
          refine Sp.step rfl rfl rfl (mg_I (f := 3) rfl rfl rfl) ?_
          refine Sp.step rfl rfl rfl rfl ?_
          refine Sp.guard (fun e11 => ?_)
          refine Sp.step rfl rfl rfl (mst rfl rfl (by decide) e11) ?_
          refine Sp.step rfl rfl rfl rfl ?_
          refine Sp.step rfl rfl rfl rfl ?_
          refine Sp.step rfl rfl rfl (mg_I (f := 3) rfl rfl rfl) ?_
          refine Sp.step rfl rfl rfl rfl ?_
          refine Sp.step rfl rfl rfl rfl ?_
          refine Sp.step rfl rfl rfl (mp_I (f := 3) rfl rfl rfl rfl) ?_
          refine Sp.step rfl rfl rfl rfl ?_
          refine Sp.step rfl rfl rfl (mg_I (f := 3) rfl rfl rfl) ?_
          refine Sp.step rfl rfl rfl rfl ?_
          refine Sp.step rfl rfl rfl rfl ?_
          exact Sp.iret rfl rfl rfl rfl (fun _ _ h => h)
        · refine Sp.id (pc := 45) (l := [some (.ref 60), some (.int x), some (.int y), some (.int z)]) (st := [.int 0]) (h := hS X M) ?_
          refine Sp.step rfl rfl rfl rfl ?_
          refine Sp.step rfl rfl rfl rfl ?_
          exact Sp.iret rfl rfl rfl rfl (fun _ _ h => h)
      · refine Sp.id (pc := 35) (l := [some (.ref 60), some (.int x), some (.int y), some (.int z)]) (st := [.int 0]) (h := hS X M) ?_
        refine Sp.step rfl rfl rfl rfl ?_
        refine Sp.step rfl rfl rfl rfl ?_
        exact Sp.iret rfl rfl rfl rfl (fun _ _ h => h)
    · refine Sp.step rfl rfl rfl rfl ?_
      refine Sp.step rfl rfl rfl rfl ?_
      refine Sp.step rfl rfl rfl rfl ?_
      refine Sp.step rfl rfl rfl (mg_I (f := 3) rfl rfl rfl) ?_
      refine Sp.step rfl rfl rfl rfl ?_
      refine Sp.step rfl rfl rfl rfl ?_
      refine Sp.callP rfl rfl rfl rfl s_isIn (fun e16 => ?_) (fun e16 => ?_)
      · refine Sp.id (pc := 25) (l := [some (.ref 60), some (.int x), some (.int y), some (.int z)]) (st := [.int 1]) (h := hS X M) ?_
        refine Sp.step rfl rfl rfl rfl ?_
        refine Sp.step rfl rfl rfl rfl ?_
        refine Sp.step rfl rfl rfl rfl ?_
        refine Sp.step rfl rfl rfl rfl ?_
        refine Sp.callP rfl rfl rfl rfl s_isIn (fun e18 => ?_) (fun e18 => ?_)
        · refine Sp.id (pc := 35) (l := [some (.ref 60), some (.int x), some (.int y), some (.int z)]) (st := [.int 1]) (h := hS X M) ?_
          refine Sp.step rfl rfl rfl rfl ?_
          refine Sp.step rfl rfl rfl rfl ?_
          refine Sp.step rfl rfl rfl rfl ?_
          refine Sp.step rfl rfl rfl rfl ?_
          refine Sp.callP rfl rfl rfl rfl s_isIn (fun e20 => ?_) (fun e20 => ?_)
          · refine Sp.id (pc := 45) (l := [some (.ref 60), some (.int x), some (.int y), some (.int z)]) (st := [.int 1]) (h := hS X M) ?_
            refine Sp.step rfl rfl rfl rfl ?_
            refine Sp.step rfl rfl rfl rfl ?_
            refine Sp.step rfl rfl rfl (mg_F (f := 0) rfl rfl rfl rfl) ?_
            refine Sp.step rfl rfl rfl rfl ?_
            refine Sp.step rfl rfl rfl (mg_I (f := 3) rfl rfl rfl) ?_
            refine Sp.step rfl rfl rfl rfl ?_
            refine Sp.guard (fun e22 => ?_)
            refine Sp.step rfl rfl rfl (mst rfl rfl (by decide) e22) ?_
            refine Sp.step rfl rfl rfl rfl ?_
            refine Sp.step rfl rfl rfl (mg_F (f := 1) rfl rfl rfl rfl) ?_
            refine Sp.step rfl rfl rfl rfl ?_
            refine Sp.step rfl rfl rfl (mg_I (f := 3) rfl rfl rfl) ?_
            refine Sp.step rfl rfl rfl rfl ?_
            refine Sp.guard (fun e24 => ?_)
            refine Sp.step rfl rfl rfl (mst rfl rfl (by decide) e24) ?_
            refine Sp.step rfl rfl rfl rfl ?_
            refine Sp.step rfl rfl rfl (mg_F (f := 2) rfl rfl rfl rfl) ?_
            refine Sp.step rfl rfl rfl rfl ?_
            refine Sp.step rfl rfl rfl (mg_I (f := 3) rfl rfl rfl) ?_
            refine Sp.step rfl rfl rfl rfl ?_
            refine Sp.guard (fun e26 => ?_)
            refine Sp.step rfl rfl rfl (mst rfl rfl (by decide) e26) ?_
            refine Sp.step rfl rfl rfl rfl ?_
            refine Sp.step rfl rfl rfl rfl ?_
            refine Sp.step rfl rfl rfl (mg_I (f := 3) rfl rfl rfl) ?_
            refine Sp.step rfl rfl rfl rfl ?_
            refine Sp.step rfl rfl rfl rfl ?_
            refine Sp.step rfl rfl rfl (mp_I (f := 3) rfl rfl rfl rfl) ?_
            refine Sp.step rfl rfl rfl rfl ?_
            refine Sp.step rfl rfl rfl (mg_I (f := 3) rfl rfl rfl) ?_
            refine Sp.step rfl rfl rfl rfl ?_
            refine Sp.step rfl rfl rfl rfl ?_
            exact Sp.iret rfl rfl rfl rfl (fun _ _ h => h)
          · refine Sp.id (pc := 45) (l := [some (.ref 60), some (.int x), some (.int y), some (.int z)]) (st := [.int 0]) (h := hS X M) ?_
            refine Sp.step rfl rfl rfl rfl ?_
            refine Sp.step rfl rfl rfl rfl ?_
            exact Sp.iret rfl rfl rfl rfl (fun _ _ h => h)
        · refine Sp.id (pc := 35) (l := [some (.ref 60), some (.int x), some (.int y), some (.int z)]) (st := [.int 0]) (h := hS X M) ?_
          refine Sp.step rfl rfl rfl rfl ?_
          refine Sp.step rfl rfl rfl rfl ?_
          exact Sp.iret rfl rfl rfl rfl (fun _ _ h => h)
      · refine Sp.id (pc := 25) (l := [some (.ref 60), some (.int x), some (.int y), some (.int z)]) (st := [.int 0]) (h := hS X M) ?_
        refine Sp.step rfl rfl rfl rfl ?_
        refine Sp.step rfl rfl rfl rfl ?_
        exact Sp.iret rfl rfl rfl rfl (fun _ _ h => h)
def b117_M_method (M : MS) (x16 : Int32) : Option (Int32 ⊕ (Int32 ⊕ (Int32 × MS))) := (if M.1 60 15 ≤ x16 then some (.inr (.inl x16)) else some (.inl (x16 + 1)))
def b117_M_method' (x : Int32) (y : Int32) (z : Int32) (u : Int32) (v : Int32) (M : MS) (x57 : Int32) : Option (Int32 ⊕ (Int32 ⊕ (Int32 × MS))) := (if M.1 60 15 ≤ x57 then some (.inr (.inl x57)) else (if ixo x57 24 then (if ¬ M.1 65 x57.toNatClampNeg = y then some (.inl (x57 + 1)) else (if M.1 64 x57.toNatClampNeg = x then some (.inr (.inr ((-1), M))) else (if ¬ M.1 66 x57.toNatClampNeg = z then some (.inr (.inr ((-1), M))) else (if ¬ M.1 67 x57.toNatClampNeg = u then some (.inr (.inr ((-1), M))) else (if M.1 68 x57.toNatClampNeg = v then some (.inl (x57 + 1)) else some (.inr (.inr ((-1), M)))))))) else none))
def f_M_method (x : Int32) (y : Int32) (z : Int32) (u : Int32) (v : Int32) (t : Int32) (M : MS) : Option (Int32 × MS) := (if 0 ≤ x ∧ x ≤ (M.1 60 3) - 1 then (if y = (-2) then (if 0 ≤ z ∧ z ≤ 4 then (if 0 ≤ v ∧ v ≤ 2 then (if 0 ≤ t ∧ t ≤ 12 then (if M.1 60 15 = 24 then some ((-1), M) else (if u < 0 then some ((-1), M) else (if (1 : Int32) <<< ((z : Int32) &&& 31) ≤ u then some ((-1), M) else (if z + 0 ≤ t then ((lp (b117_M_method M) 10000 (0 : Int32)).bind fun s => sb s fun x19 => (if ixo (M.1 60 15) 24 then (lt (mw M 64 (M.1 60 15).toNatClampNeg x) fun M21 => (if ixo (M21.1 60 15) 24 then (lt (mw M21 65 (M21.1 60 15).toNatClampNeg y) fun M23 => (if ixo (M23.1 60 15) 24 then (lt (mw M23 66 (M23.1 60 15).toNatClampNeg z) fun M25 => (if ixo (M25.1 60 15) 24 then (lt (mw M25 67 (M25.1 60 15).toNatClampNeg u) fun M27 => (if ixo (M27.1 60 15) 24 then (lt (mw M27 68 (M27.1 60 15).toNatClampNeg v) fun M29 => (if ixo (M29.1 60 15) 24 then (lt (mw M29 69 (M29.1 60 15).toNatClampNeg t) fun M31 => (if ixo (M31.1 60 15) 24 then (lt (mw M31 70 (M31.1 60 15).toNatClampNeg 0) fun M33 => (if ixo (M33.1 60 15) 24 then (lt (mw M33 73 (M33.1 60 15).toNatClampNeg 0) fun M35 => (lt (mw M35 60 15 ((M35.1 60 15) + 1)) fun M36 => some ((M36.1 60 15) - 1, M36))) else none)) else none)) else none)) else none)) else none)) else none)) else none)) else none)) else some ((-1), M))))) else some ((-1), M)) else some ((-1), M)) else some ((-1), M)) else (if 0 ≤ y ∧ y ≤ 7 then (if 0 ≤ z ∧ z ≤ 4 then (if 0 ≤ v ∧ v ≤ 2 then (if 0 ≤ t ∧ t ≤ 12 then (if M.1 60 15 = 24 then some ((-1), M) else (if u < 0 then some ((-1), M) else (if (1 : Int32) <<< ((z : Int32) &&& 31) ≤ u then some ((-1), M) else (if z + 1 ≤ t then ((lp (b117_M_method' x y z u v M) 10000 (0 : Int32)).bind fun s => sb s fun x66 => (if ixo (M.1 60 15) 24 then (lt (mw M 64 (M.1 60 15).toNatClampNeg x) fun M68 => (if ixo (M68.1 60 15) 24 then (lt (mw M68 65 (M68.1 60 15).toNatClampNeg y) fun M70 => (if ixo (M70.1 60 15) 24 then (lt (mw M70 66 (M70.1 60 15).toNatClampNeg z) fun M72 => (if ixo (M72.1 60 15) 24 then (lt (mw M72 67 (M72.1 60 15).toNatClampNeg u) fun M74 => (if ixo (M74.1 60 15) 24 then (lt (mw M74 68 (M74.1 60 15).toNatClampNeg v) fun M76 => (if ixo (M76.1 60 15) 24 then (lt (mw M76 69 (M76.1 60 15).toNatClampNeg t) fun M78 => (if ixo (M78.1 60 15) 24 then (lt (mw M78 70 (M78.1 60 15).toNatClampNeg 0) fun M80 => (if ixo (M80.1 60 15) 24 then (lt (mw M80 73 (M80.1 60 15).toNatClampNeg 0) fun M82 => (lt (mw M82 60 15 ((M82.1 60 15) + 1)) fun M83 => some ((M83.1 60 15) - 1, M83))) else none)) else none)) else none)) else none)) else none)) else none)) else none)) else none)) else some ((-1), M))))) else some ((-1), M)) else some ((-1), M)) else some ((-1), M)) else some ((-1), M))) else some ((-1), M))
set_option maxRecDepth 100000 in
set_option maxHeartbeats 4000000 in
theorem s_M_method {L : Nat} {xs : Nat → Int32} {X : XS} {M : MS} {x : Int32} {y : Int32} {z : Int32} {u : Int32} {v : Int32} {t : Int32} : Sp (mjOO L xs) 23 0 [some (.ref 60), some (.int x), some (.int y), some (.int z), some (.int u), some (.int v), some (.int t), none, none] [] (hS X M) (f_M_method x y z u v t M) (KEM X) := by
  unfold f_M_method
  refine Sp.step rfl rfl rfl rfl ?_
  refine Sp.step rfl rfl rfl rfl ?_
  refine Sp.step rfl rfl rfl rfl ?_
  refine Sp.step rfl rfl rfl (mg_I (f := 3) rfl rfl rfl) ?_
  refine Sp.step rfl rfl rfl rfl ?_
  refine Sp.step rfl rfl rfl rfl ?_
  refine Sp.callP rfl rfl rfl rfl s_isIn (fun e1 => ?_) (fun e1 => ?_)
  · refine Sp.id (pc := 11) (l := [some (.ref 60), some (.int x), some (.int y), some (.int z), some (.int u), some (.int v), some (.int t), none, none]) (st := [.int 1]) (h := hS X M) ?_
    refine Sp.step rfl rfl rfl rfl ?_
    refine Sp.step rfl rfl rfl rfl ?_
    refine Sp.step rfl rfl rfl rfl ?_
    refine Sp.if2 rfl rfl rfl rfl (fun e3 => ?_) (fun e3 => ?_)
    · refine Sp.step rfl rfl rfl rfl ?_
      refine Sp.step rfl rfl rfl rfl ?_
      refine Sp.step rfl rfl rfl rfl ?_
      refine Sp.callP rfl rfl rfl rfl s_isIn (fun e4 => ?_) (fun e4 => ?_)
      · refine Sp.id (pc := 36) (l := [some (.ref 60), some (.int x), some (.int y), some (.int z), some (.int u), some (.int v), some (.int t), none, none]) (st := [.int 1]) (h := hS X M) ?_
        refine Sp.step rfl rfl rfl rfl ?_
        refine Sp.step rfl rfl rfl rfl ?_
        refine Sp.step rfl rfl rfl rfl ?_
        refine Sp.step rfl rfl rfl rfl ?_
        refine Sp.callP rfl rfl rfl rfl s_isIn (fun e6 => ?_) (fun e6 => ?_)
        · refine Sp.id (pc := 46) (l := [some (.ref 60), some (.int x), some (.int y), some (.int z), some (.int u), some (.int v), some (.int t), none, none]) (st := [.int 1]) (h := hS X M) ?_
          refine Sp.step rfl rfl rfl rfl ?_
          refine Sp.step rfl rfl rfl rfl ?_
          refine Sp.step rfl rfl rfl rfl ?_
          refine Sp.step rfl rfl rfl rfl ?_
          refine Sp.callP rfl rfl rfl rfl s_isIn (fun e8 => ?_) (fun e8 => ?_)
          · refine Sp.id (pc := 57) (l := [some (.ref 60), some (.int x), some (.int y), some (.int z), some (.int u), some (.int v), some (.int t), none, none]) (st := [.int 1]) (h := hS X M) ?_
            refine Sp.step rfl rfl rfl rfl ?_
            refine Sp.step rfl rfl rfl rfl ?_
            refine Sp.step rfl rfl rfl rfl ?_
            refine Sp.step rfl rfl rfl rfl ?_
            refine Sp.step rfl rfl rfl rfl ?_
            refine Sp.step rfl rfl rfl rfl ?_
            refine Sp.step rfl rfl rfl rfl ?_
            refine Sp.step rfl rfl rfl (mg_I (f := 15) rfl rfl rfl) ?_
            refine Sp.step rfl rfl rfl rfl ?_
            refine Sp.if2 rfl rfl rfl rfl (fun e11 => ?_) (fun e11 => ?_)
            · refine Sp.step rfl rfl rfl rfl ?_
              exact Sp.iret rfl rfl rfl rfl (fun _ _ h => h)
            · refine Sp.step rfl rfl rfl rfl ?_
              refine Sp.if1 rfl rfl rfl rfl (fun e12 => ?_) (fun e12 => ?_)
              · refine Sp.step rfl rfl rfl rfl ?_
                exact Sp.iret rfl rfl rfl rfl (fun _ _ h => h)
              · refine Sp.step rfl rfl rfl rfl ?_
                refine Sp.step rfl rfl rfl rfl ?_
                refine Sp.step rfl rfl rfl rfl ?_
                refine Sp.step rfl rfl rfl rfl ?_
                refine Sp.if2 rfl rfl rfl rfl (fun e13 => ?_) (fun e13 => ?_)
                · refine Sp.step rfl rfl rfl rfl ?_
                  exact Sp.iret rfl rfl rfl rfl (fun _ _ h => h)
                · refine Sp.step rfl rfl rfl rfl ?_
                  refine Sp.step rfl rfl rfl rfl ?_
                  refine Sp.step rfl rfl rfl rfl ?_
                  refine Sp.step rfl rfl rfl rfl ?_
                  refine Sp.prune (c := ¬ y = (-2)) ?_
                  refine Sp.if2 rfl rfl rfl rfl (fun e14 => absurd e14 (fun h => h e3)) (fun e14 => ?_)
                  refine Sp.step rfl rfl rfl rfl ?_
                  refine Sp.step rfl rfl rfl rfl ?_
                  refine Sp.step rfl rfl rfl rfl ?_
                  refine Sp.if2 rfl rfl rfl rfl (fun e15 => ?_) (fun e15 => ?_)
                  · refine Sp.step rfl rfl rfl rfl ?_
                    refine Sp.step rfl rfl rfl rfl ?_
                    refine Sp.weak (l0 := [some (.ref 60), some (.int x), some (.int y), some (.int z), some (.int u), some (.int v), some (.int t), none, some (.int 0)]) ⟨rfl, rfl, rfl, rfl, rfl, rfl, rfl, rfl, trivial⟩ ?_
                    refine Sp.loopY (pe := 197) (mf := (fun (x16 : Int32) => [some (.ref 60), some (.int x), some (.int y), some (.int z), some (.int u), some (.int v), some (.int t), none, some (.int x16)])) (hf := (fun (x16 : Int32) => hS X M)) (fun x16 => ?_) (fun x19 => ?_) _ _
                    · unfold b117_M_method
                      refine Sp.step rfl rfl rfl rfl ?_
                      refine Sp.step rfl rfl rfl rfl ?_
                      refine Sp.step rfl rfl rfl (mg_I (f := 15) rfl rfl rfl) ?_
                      refine Sp.if2 rfl rfl rfl rfl (fun e17 => ?_) (fun e17 => ?_)
                      · exact Sp.jmp (l0 := [some (.ref 60), some (.int x), some (.int y), some (.int z), some (.int u), some (.int v), some (.int t), none, some (.int x16)]) ⟨rfl, rfl, rfl, rfl, rfl, rfl, rfl, rfl, trivial⟩ (fun _ _ h => h)
                      · refine Sp.step rfl rfl rfl rfl ?_
                        refine Sp.step rfl rfl rfl rfl ?_
                        refine Sp.prune (c := y = (-2)) ?_
                        refine Sp.if2 rfl rfl rfl rfl (fun e18 => ?_) (fun e18 => absurd e3 e18)
                        refine Sp.step rfl rfl rfl rfl ?_
                        refine Sp.step rfl rfl rfl rfl ?_
                        exact Sp.jmp (l0 := [some (.ref 60), some (.int x), some (.int y), some (.int z), some (.int u), some (.int v), some (.int t), none, some (.int (x16 + 1))]) ⟨rfl, rfl, rfl, rfl, rfl, rfl, rfl, rfl, trivial⟩ (fun _ _ h => h)
                    · refine Sp.step rfl rfl rfl rfl ?_
                      refine Sp.step rfl rfl rfl (mg_F (f := 4) rfl rfl rfl rfl) ?_
                      refine Sp.step rfl rfl rfl rfl ?_
                      refine Sp.step rfl rfl rfl (mg_I (f := 15) rfl rfl rfl) ?_
                      refine Sp.step rfl rfl rfl rfl ?_
                      refine Sp.guard (fun e20 => ?_)
                      refine Sp.step rfl rfl rfl (mst rfl rfl (by decide) e20) ?_
                      refine Sp.step rfl rfl rfl rfl ?_
                      refine Sp.step rfl rfl rfl (mg_F (f := 5) rfl rfl rfl rfl) ?_
                      refine Sp.step rfl rfl rfl rfl ?_
                      refine Sp.step rfl rfl rfl (mg_I (f := 15) rfl rfl rfl) ?_
                      refine Sp.step rfl rfl rfl rfl ?_
                      refine Sp.guard (fun e22 => ?_)
                      refine Sp.step rfl rfl rfl (mst rfl rfl (by decide) e22) ?_
                      refine Sp.step rfl rfl rfl rfl ?_
                      refine Sp.step rfl rfl rfl (mg_F (f := 6) rfl rfl rfl rfl) ?_
                      refine Sp.step rfl rfl rfl rfl ?_
                      refine Sp.step rfl rfl rfl (mg_I (f := 15) rfl rfl rfl) ?_
                      refine Sp.step rfl rfl rfl rfl ?_
                      refine Sp.guard (fun e24 => ?_)
                      refine Sp.step rfl rfl rfl (mst rfl rfl (by decide) e24) ?_
                      refine Sp.step rfl rfl rfl rfl ?_
                      refine Sp.step rfl rfl rfl (mg_F (f := 7) rfl rfl rfl rfl) ?_
                      refine Sp.step rfl rfl rfl rfl ?_
                      refine Sp.step rfl rfl rfl (mg_I (f := 15) rfl rfl rfl) ?_
                      refine Sp.step rfl rfl rfl rfl ?_
                      refine Sp.guard (fun e26 => ?_)
                      refine Sp.step rfl rfl rfl (mst rfl rfl (by decide) e26) ?_
                      refine Sp.step rfl rfl rfl rfl ?_
                      refine Sp.step rfl rfl rfl (mg_F (f := 8) rfl rfl rfl rfl) ?_
                      refine Sp.step rfl rfl rfl rfl ?_
                      refine Sp.step rfl rfl rfl (mg_I (f := 15) rfl rfl rfl) ?_
                      refine Sp.step rfl rfl rfl rfl ?_
                      refine Sp.guard (fun e28 => ?_)
                      refine Sp.step rfl rfl rfl (mst rfl rfl (by decide) e28) ?_
                      refine Sp.step rfl rfl rfl rfl ?_
                      refine Sp.step rfl rfl rfl (mg_F (f := 9) rfl rfl rfl rfl) ?_
                      refine Sp.step rfl rfl rfl rfl ?_
                      refine Sp.step rfl rfl rfl (mg_I (f := 15) rfl rfl rfl) ?_
                      refine Sp.step rfl rfl rfl rfl ?_
                      refine Sp.guard (fun e30 => ?_)
                      refine Sp.step rfl rfl rfl (mst rfl rfl (by decide) e30) ?_
                      refine Sp.step rfl rfl rfl rfl ?_
                      refine Sp.step rfl rfl rfl (mg_F (f := 10) rfl rfl rfl rfl) ?_
                      refine Sp.step rfl rfl rfl rfl ?_
                      refine Sp.step rfl rfl rfl (mg_I (f := 15) rfl rfl rfl) ?_
                      refine Sp.step rfl rfl rfl rfl ?_
                      refine Sp.guard (fun e32 => ?_)
                      refine Sp.step rfl rfl rfl (mst rfl rfl (by decide) e32) ?_
                      refine Sp.step rfl rfl rfl rfl ?_
                      refine Sp.step rfl rfl rfl (mg_F (f := 13) rfl rfl rfl rfl) ?_
                      refine Sp.step rfl rfl rfl rfl ?_
                      refine Sp.step rfl rfl rfl (mg_I (f := 15) rfl rfl rfl) ?_
                      refine Sp.step rfl rfl rfl rfl ?_
                      refine Sp.guard (fun e34 => ?_)
                      refine Sp.step rfl rfl rfl (mst rfl rfl (by decide) e34) ?_
                      refine Sp.step rfl rfl rfl rfl ?_
                      refine Sp.step rfl rfl rfl rfl ?_
                      refine Sp.step rfl rfl rfl (mg_I (f := 15) rfl rfl rfl) ?_
                      refine Sp.step rfl rfl rfl rfl ?_
                      refine Sp.step rfl rfl rfl rfl ?_
                      refine Sp.step rfl rfl rfl (mp_I (f := 15) rfl rfl rfl rfl) ?_
                      refine Sp.step rfl rfl rfl rfl ?_
                      refine Sp.step rfl rfl rfl (mg_I (f := 15) rfl rfl rfl) ?_
                      refine Sp.step rfl rfl rfl rfl ?_
                      refine Sp.step rfl rfl rfl rfl ?_
                      exact Sp.iret rfl rfl rfl rfl (fun _ _ h => h)
                  · refine Sp.step rfl rfl rfl rfl ?_
                    exact Sp.iret rfl rfl rfl rfl (fun _ _ h => h)
          · refine Sp.id (pc := 57) (l := [some (.ref 60), some (.int x), some (.int y), some (.int z), some (.int u), some (.int v), some (.int t), none, none]) (st := [.int 0]) (h := hS X M) ?_
            refine Sp.step rfl rfl rfl rfl ?_
            refine Sp.step rfl rfl rfl rfl ?_
            refine Sp.step rfl rfl rfl rfl ?_
            refine Sp.step rfl rfl rfl rfl ?_
            refine Sp.step rfl rfl rfl rfl ?_
            refine Sp.step rfl rfl rfl rfl ?_
            exact Sp.iret rfl rfl rfl rfl (fun _ _ h => h)
        · refine Sp.id (pc := 46) (l := [some (.ref 60), some (.int x), some (.int y), some (.int z), some (.int u), some (.int v), some (.int t), none, none]) (st := [.int 0]) (h := hS X M) ?_
          refine Sp.step rfl rfl rfl rfl ?_
          refine Sp.step rfl rfl rfl rfl ?_
          refine Sp.step rfl rfl rfl rfl ?_
          refine Sp.step rfl rfl rfl rfl ?_
          refine Sp.step rfl rfl rfl rfl ?_
          refine Sp.step rfl rfl rfl rfl ?_
          exact Sp.iret rfl rfl rfl rfl (fun _ _ h => h)
      · refine Sp.id (pc := 36) (l := [some (.ref 60), some (.int x), some (.int y), some (.int z), some (.int u), some (.int v), some (.int t), none, none]) (st := [.int 0]) (h := hS X M) ?_
        refine Sp.step rfl rfl rfl rfl ?_
        refine Sp.step rfl rfl rfl rfl ?_
        refine Sp.step rfl rfl rfl rfl ?_
        refine Sp.step rfl rfl rfl rfl ?_
        refine Sp.step rfl rfl rfl rfl ?_
        refine Sp.step rfl rfl rfl rfl ?_
        exact Sp.iret rfl rfl rfl rfl (fun _ _ h => h)
    · refine Sp.step rfl rfl rfl rfl ?_
      refine Sp.step rfl rfl rfl rfl ?_
      refine Sp.step rfl rfl rfl rfl ?_
      refine Sp.callP rfl rfl rfl rfl s_isIn (fun e43 => ?_) (fun e43 => ?_)
      · refine Sp.id (pc := 27) (l := [some (.ref 60), some (.int x), some (.int y), some (.int z), some (.int u), some (.int v), some (.int t), none, none]) (st := [.int 1]) (h := hS X M) ?_
        refine Sp.step rfl rfl rfl rfl ?_
        refine Sp.step rfl rfl rfl rfl ?_
        refine Sp.step rfl rfl rfl rfl ?_
        refine Sp.step rfl rfl rfl rfl ?_
        refine Sp.callP rfl rfl rfl rfl s_isIn (fun e45 => ?_) (fun e45 => ?_)
        · refine Sp.id (pc := 36) (l := [some (.ref 60), some (.int x), some (.int y), some (.int z), some (.int u), some (.int v), some (.int t), none, none]) (st := [.int 1]) (h := hS X M) ?_
          refine Sp.step rfl rfl rfl rfl ?_
          refine Sp.step rfl rfl rfl rfl ?_
          refine Sp.step rfl rfl rfl rfl ?_
          refine Sp.step rfl rfl rfl rfl ?_
          refine Sp.callP rfl rfl rfl rfl s_isIn (fun e47 => ?_) (fun e47 => ?_)
          · refine Sp.id (pc := 46) (l := [some (.ref 60), some (.int x), some (.int y), some (.int z), some (.int u), some (.int v), some (.int t), none, none]) (st := [.int 1]) (h := hS X M) ?_
            refine Sp.step rfl rfl rfl rfl ?_
            refine Sp.step rfl rfl rfl rfl ?_
            refine Sp.step rfl rfl rfl rfl ?_
            refine Sp.step rfl rfl rfl rfl ?_
            refine Sp.callP rfl rfl rfl rfl s_isIn (fun e49 => ?_) (fun e49 => ?_)
            · refine Sp.id (pc := 57) (l := [some (.ref 60), some (.int x), some (.int y), some (.int z), some (.int u), some (.int v), some (.int t), none, none]) (st := [.int 1]) (h := hS X M) ?_
              refine Sp.step rfl rfl rfl rfl ?_
              refine Sp.step rfl rfl rfl rfl ?_
              refine Sp.step rfl rfl rfl rfl ?_
              refine Sp.step rfl rfl rfl rfl ?_
              refine Sp.step rfl rfl rfl rfl ?_
              refine Sp.step rfl rfl rfl rfl ?_
              refine Sp.step rfl rfl rfl rfl ?_
              refine Sp.step rfl rfl rfl (mg_I (f := 15) rfl rfl rfl) ?_
              refine Sp.step rfl rfl rfl rfl ?_
              refine Sp.if2 rfl rfl rfl rfl (fun e52 => ?_) (fun e52 => ?_)
              · refine Sp.step rfl rfl rfl rfl ?_
                exact Sp.iret rfl rfl rfl rfl (fun _ _ h => h)
              · refine Sp.step rfl rfl rfl rfl ?_
                refine Sp.if1 rfl rfl rfl rfl (fun e53 => ?_) (fun e53 => ?_)
                · refine Sp.step rfl rfl rfl rfl ?_
                  exact Sp.iret rfl rfl rfl rfl (fun _ _ h => h)
                · refine Sp.step rfl rfl rfl rfl ?_
                  refine Sp.step rfl rfl rfl rfl ?_
                  refine Sp.step rfl rfl rfl rfl ?_
                  refine Sp.step rfl rfl rfl rfl ?_
                  refine Sp.if2 rfl rfl rfl rfl (fun e54 => ?_) (fun e54 => ?_)
                  · refine Sp.step rfl rfl rfl rfl ?_
                    exact Sp.iret rfl rfl rfl rfl (fun _ _ h => h)
                  · refine Sp.step rfl rfl rfl rfl ?_
                    refine Sp.step rfl rfl rfl rfl ?_
                    refine Sp.step rfl rfl rfl rfl ?_
                    refine Sp.step rfl rfl rfl rfl ?_
                    refine Sp.prune (c := ¬ y = (-2)) ?_
                    refine Sp.if2 rfl rfl rfl rfl (fun e55 => ?_) (fun e55 => absurd e3 e55)
                    refine Sp.step rfl rfl rfl rfl ?_
                    refine Sp.step rfl rfl rfl rfl ?_
                    refine Sp.if2 rfl rfl rfl rfl (fun e56 => ?_) (fun e56 => ?_)
                    · refine Sp.step rfl rfl rfl rfl ?_
                      refine Sp.step rfl rfl rfl rfl ?_
                      refine Sp.weak (l0 := [some (.ref 60), some (.int x), some (.int y), some (.int z), some (.int u), some (.int v), some (.int t), none, some (.int 0)]) ⟨rfl, rfl, rfl, rfl, rfl, rfl, rfl, rfl, trivial⟩ ?_
                      refine Sp.loopY (pe := 197) (mf := (fun (x57 : Int32) => [some (.ref 60), some (.int x), some (.int y), some (.int z), some (.int u), some (.int v), some (.int t), none, some (.int x57)])) (hf := (fun (x57 : Int32) => hS X M)) (fun x57 => ?_) (fun x66 => ?_) _ _
                      · unfold b117_M_method'
                        refine Sp.step rfl rfl rfl rfl ?_
                        refine Sp.step rfl rfl rfl rfl ?_
                        refine Sp.step rfl rfl rfl (mg_I (f := 15) rfl rfl rfl) ?_
                        refine Sp.if2 rfl rfl rfl rfl (fun e58 => ?_) (fun e58 => ?_)
                        · exact Sp.jmp (l0 := [some (.ref 60), some (.int x), some (.int y), some (.int z), some (.int u), some (.int v), some (.int t), none, some (.int x57)]) ⟨rfl, rfl, rfl, rfl, rfl, rfl, rfl, rfl, trivial⟩ (fun _ _ h => h)
                        · refine Sp.step rfl rfl rfl rfl ?_
                          refine Sp.step rfl rfl rfl rfl ?_
                          refine Sp.prune (c := y = (-2)) ?_
                          refine Sp.if2 rfl rfl rfl rfl (fun e59 => absurd e59 e3) (fun e59 => ?_)
                          refine Sp.step rfl rfl rfl rfl ?_
                          refine Sp.step rfl rfl rfl (mg_F (f := 5) rfl rfl rfl rfl) ?_
                          refine Sp.step rfl rfl rfl rfl ?_
                          refine Sp.guard (fun e60 => ?_)
                          refine Sp.step rfl rfl rfl (mld rfl rfl (by decide) e60) ?_
                          refine Sp.step rfl rfl rfl rfl ?_
                          refine Sp.if2 rfl rfl rfl rfl (fun e61 => ?_) (fun e61 => ?_)
                          · refine Sp.step rfl rfl rfl rfl ?_
                            refine Sp.step rfl rfl rfl rfl ?_
                            exact Sp.jmp (l0 := [some (.ref 60), some (.int x), some (.int y), some (.int z), some (.int u), some (.int v), some (.int t), none, some (.int (x57 + 1))]) ⟨rfl, rfl, rfl, rfl, rfl, rfl, rfl, rfl, trivial⟩ (fun _ _ h => h)
                          · refine Sp.step rfl rfl rfl rfl ?_
                            refine Sp.step rfl rfl rfl (mg_F (f := 4) rfl rfl rfl rfl) ?_
                            refine Sp.step rfl rfl rfl rfl ?_
                            refine Sp.step rfl rfl rfl (mld rfl rfl (by decide) e60) ?_
                            refine Sp.step rfl rfl rfl rfl ?_
                            refine Sp.if2 rfl rfl rfl rfl (fun e62 => ?_) (fun e62 => ?_)
                            · refine Sp.step rfl rfl rfl rfl ?_
                              exact Sp.iret rfl rfl rfl rfl (fun _ _ h => h)
                            · refine Sp.step rfl rfl rfl rfl ?_
                              refine Sp.step rfl rfl rfl (mg_F (f := 6) rfl rfl rfl rfl) ?_
                              refine Sp.step rfl rfl rfl rfl ?_
                              refine Sp.step rfl rfl rfl (mld rfl rfl (by decide) e60) ?_
                              refine Sp.step rfl rfl rfl rfl ?_
                              refine Sp.if2 rfl rfl rfl rfl (fun e63 => ?_) (fun e63 => ?_)
                              · refine Sp.step rfl rfl rfl rfl ?_
                                exact Sp.iret rfl rfl rfl rfl (fun _ _ h => h)
                              · refine Sp.step rfl rfl rfl rfl ?_
                                refine Sp.step rfl rfl rfl (mg_F (f := 7) rfl rfl rfl rfl) ?_
                                refine Sp.step rfl rfl rfl rfl ?_
                                refine Sp.step rfl rfl rfl (mld rfl rfl (by decide) e60) ?_
                                refine Sp.step rfl rfl rfl rfl ?_
                                refine Sp.if2 rfl rfl rfl rfl (fun e64 => ?_) (fun e64 => ?_)
                                · refine Sp.step rfl rfl rfl rfl ?_
                                  exact Sp.iret rfl rfl rfl rfl (fun _ _ h => h)
                                · refine Sp.step rfl rfl rfl rfl ?_
                                  refine Sp.step rfl rfl rfl (mg_F (f := 8) rfl rfl rfl rfl) ?_
                                  refine Sp.step rfl rfl rfl rfl ?_
                                  refine Sp.step rfl rfl rfl (mld rfl rfl (by decide) e60) ?_
                                  refine Sp.step rfl rfl rfl rfl ?_
                                  refine Sp.if2 rfl rfl rfl rfl (fun e65 => ?_) (fun e65 => ?_)
                                  · refine Sp.step rfl rfl rfl rfl ?_
                                    refine Sp.step rfl rfl rfl rfl ?_
                                    exact Sp.jmp (l0 := [some (.ref 60), some (.int x), some (.int y), some (.int z), some (.int u), some (.int v), some (.int t), none, some (.int (x57 + 1))]) ⟨rfl, rfl, rfl, rfl, rfl, rfl, rfl, rfl, trivial⟩ (fun _ _ h => h)
                                  · refine Sp.step rfl rfl rfl rfl ?_
                                    exact Sp.iret rfl rfl rfl rfl (fun _ _ h => h)
                      · refine Sp.step rfl rfl rfl rfl ?_
                        refine Sp.step rfl rfl rfl (mg_F (f := 4) rfl rfl rfl rfl) ?_
                        refine Sp.step rfl rfl rfl rfl ?_
                        refine Sp.step rfl rfl rfl (mg_I (f := 15) rfl rfl rfl) ?_
                        refine Sp.step rfl rfl rfl rfl ?_
                        refine Sp.guard (fun e67 => ?_)
                        refine Sp.step rfl rfl rfl (mst rfl rfl (by decide) e67) ?_
                        refine Sp.step rfl rfl rfl rfl ?_
                        refine Sp.step rfl rfl rfl (mg_F (f := 5) rfl rfl rfl rfl) ?_
                        refine Sp.step rfl rfl rfl rfl ?_
                        refine Sp.step rfl rfl rfl (mg_I (f := 15) rfl rfl rfl) ?_
                        refine Sp.step rfl rfl rfl rfl ?_
                        refine Sp.guard (fun e69 => ?_)
                        refine Sp.step rfl rfl rfl (mst rfl rfl (by decide) e69) ?_
                        refine Sp.step rfl rfl rfl rfl ?_
                        refine Sp.step rfl rfl rfl (mg_F (f := 6) rfl rfl rfl rfl) ?_
                        refine Sp.step rfl rfl rfl rfl ?_
                        refine Sp.step rfl rfl rfl (mg_I (f := 15) rfl rfl rfl) ?_
                        refine Sp.step rfl rfl rfl rfl ?_
                        refine Sp.guard (fun e71 => ?_)
                        refine Sp.step rfl rfl rfl (mst rfl rfl (by decide) e71) ?_
                        refine Sp.step rfl rfl rfl rfl ?_
                        refine Sp.step rfl rfl rfl (mg_F (f := 7) rfl rfl rfl rfl) ?_
                        refine Sp.step rfl rfl rfl rfl ?_
                        refine Sp.step rfl rfl rfl (mg_I (f := 15) rfl rfl rfl) ?_
                        refine Sp.step rfl rfl rfl rfl ?_
                        refine Sp.guard (fun e73 => ?_)
                        refine Sp.step rfl rfl rfl (mst rfl rfl (by decide) e73) ?_
                        refine Sp.step rfl rfl rfl rfl ?_
                        refine Sp.step rfl rfl rfl (mg_F (f := 8) rfl rfl rfl rfl) ?_
                        refine Sp.step rfl rfl rfl rfl ?_
                        refine Sp.step rfl rfl rfl (mg_I (f := 15) rfl rfl rfl) ?_
                        refine Sp.step rfl rfl rfl rfl ?_
                        refine Sp.guard (fun e75 => ?_)
                        refine Sp.step rfl rfl rfl (mst rfl rfl (by decide) e75) ?_
                        refine Sp.step rfl rfl rfl rfl ?_
                        refine Sp.step rfl rfl rfl (mg_F (f := 9) rfl rfl rfl rfl) ?_
                        refine Sp.step rfl rfl rfl rfl ?_
                        refine Sp.step rfl rfl rfl (mg_I (f := 15) rfl rfl rfl) ?_
                        refine Sp.step rfl rfl rfl rfl ?_
                        refine Sp.guard (fun e77 => ?_)
                        refine Sp.step rfl rfl rfl (mst rfl rfl (by decide) e77) ?_
                        refine Sp.step rfl rfl rfl rfl ?_
                        refine Sp.step rfl rfl rfl (mg_F (f := 10) rfl rfl rfl rfl) ?_
                        refine Sp.step rfl rfl rfl rfl ?_
                        refine Sp.step rfl rfl rfl (mg_I (f := 15) rfl rfl rfl) ?_
                        refine Sp.step rfl rfl rfl rfl ?_
                        refine Sp.guard (fun e79 => ?_)
                        refine Sp.step rfl rfl rfl (mst rfl rfl (by decide) e79) ?_
                        refine Sp.step rfl rfl rfl rfl ?_
                        refine Sp.step rfl rfl rfl (mg_F (f := 13) rfl rfl rfl rfl) ?_
                        refine Sp.step rfl rfl rfl rfl ?_
                        refine Sp.step rfl rfl rfl (mg_I (f := 15) rfl rfl rfl) ?_
                        refine Sp.step rfl rfl rfl rfl ?_
                        refine Sp.guard (fun e81 => ?_)
                        refine Sp.step rfl rfl rfl (mst rfl rfl (by decide) e81) ?_
                        refine Sp.step rfl rfl rfl rfl ?_
                        refine Sp.step rfl rfl rfl rfl ?_
                        refine Sp.step rfl rfl rfl (mg_I (f := 15) rfl rfl rfl) ?_
                        refine Sp.step rfl rfl rfl rfl ?_
                        refine Sp.step rfl rfl rfl rfl ?_
                        refine Sp.step rfl rfl rfl (mp_I (f := 15) rfl rfl rfl rfl) ?_
                        refine Sp.step rfl rfl rfl rfl ?_
                        refine Sp.step rfl rfl rfl (mg_I (f := 15) rfl rfl rfl) ?_
                        refine Sp.step rfl rfl rfl rfl ?_
                        refine Sp.step rfl rfl rfl rfl ?_
                        exact Sp.iret rfl rfl rfl rfl (fun _ _ h => h)
                    · refine Sp.step rfl rfl rfl rfl ?_
                      exact Sp.iret rfl rfl rfl rfl (fun _ _ h => h)
            · refine Sp.id (pc := 57) (l := [some (.ref 60), some (.int x), some (.int y), some (.int z), some (.int u), some (.int v), some (.int t), none, none]) (st := [.int 0]) (h := hS X M) ?_
              refine Sp.step rfl rfl rfl rfl ?_
              refine Sp.step rfl rfl rfl rfl ?_
              refine Sp.step rfl rfl rfl rfl ?_
              refine Sp.step rfl rfl rfl rfl ?_
              refine Sp.step rfl rfl rfl rfl ?_
              refine Sp.step rfl rfl rfl rfl ?_
              exact Sp.iret rfl rfl rfl rfl (fun _ _ h => h)
          · refine Sp.id (pc := 46) (l := [some (.ref 60), some (.int x), some (.int y), some (.int z), some (.int u), some (.int v), some (.int t), none, none]) (st := [.int 0]) (h := hS X M) ?_
            refine Sp.step rfl rfl rfl rfl ?_
            refine Sp.step rfl rfl rfl rfl ?_
            refine Sp.step rfl rfl rfl rfl ?_
            refine Sp.step rfl rfl rfl rfl ?_
            refine Sp.step rfl rfl rfl rfl ?_
            refine Sp.step rfl rfl rfl rfl ?_
            exact Sp.iret rfl rfl rfl rfl (fun _ _ h => h)
        · refine Sp.id (pc := 36) (l := [some (.ref 60), some (.int x), some (.int y), some (.int z), some (.int u), some (.int v), some (.int t), none, none]) (st := [.int 0]) (h := hS X M) ?_
          refine Sp.step rfl rfl rfl rfl ?_
          refine Sp.step rfl rfl rfl rfl ?_
          refine Sp.step rfl rfl rfl rfl ?_
          refine Sp.step rfl rfl rfl rfl ?_
          refine Sp.step rfl rfl rfl rfl ?_
          refine Sp.step rfl rfl rfl rfl ?_
          exact Sp.iret rfl rfl rfl rfl (fun _ _ h => h)
      · refine Sp.id (pc := 27) (l := [some (.ref 60), some (.int x), some (.int y), some (.int z), some (.int u), some (.int v), some (.int t), none, none]) (st := [.int 0]) (h := hS X M) ?_
        refine Sp.step rfl rfl rfl rfl ?_
        refine Sp.step rfl rfl rfl rfl ?_
        refine Sp.step rfl rfl rfl rfl ?_
        refine Sp.step rfl rfl rfl rfl ?_
        refine Sp.step rfl rfl rfl rfl ?_
        refine Sp.step rfl rfl rfl rfl ?_
        exact Sp.iret rfl rfl rfl rfl (fun _ _ h => h)
  · refine Sp.id (pc := 11) (l := [some (.ref 60), some (.int x), some (.int y), some (.int z), some (.int u), some (.int v), some (.int t), none, none]) (st := [.int 0]) (h := hS X M) ?_
    refine Sp.step rfl rfl rfl rfl ?_
    refine Sp.step rfl rfl rfl rfl ?_
    refine Sp.step rfl rfl rfl rfl ?_
    refine Sp.step rfl rfl rfl rfl ?_
    refine Sp.step rfl rfl rfl rfl ?_
    refine Sp.step rfl rfl rfl rfl ?_
    exact Sp.iret rfl rfl rfl rfl (fun _ _ h => h)
