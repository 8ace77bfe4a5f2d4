/-! methods as functions, by program -/
def f_Image_noteTaken_30 (x : Int32) (y : Int32) (X : XS) : Option XS := (if 0 ≤ x ∧ x ≤ 7 then (lt (xw X 33 x.toNatClampNeg y) fun X3 => some X3) else some X)
set_option maxRecDepth 100000 in
set_option maxHeartbeats 4000000 in
theorem s_Image_noteTaken_30 {L : Nat} {xs : Nat → Int32} {X : XS} {M : MS} {x : Int32} {y : Int32} : Sp (mjOO L xs) 160 0 [some (.ref 30), some (.int x), some (.int y)] [] (hS X M) (f_Image_noteTaken_30 x y X) (KVX M) := by
  unfold f_Image_noteTaken_30
  refine Sp.step rfl rfl rfl rfl ?_
  refine Sp.step rfl rfl rfl rfl ?_
  refine Sp.step rfl rfl rfl rfl ?_
  refine Sp.callP rfl rfl rfl rfl s_within (fun e1 => ?_) (fun e1 => ?_)
  · refine Sp.id (pc := 7) (l := [some (.ref 30), some (.int x), some (.int y)]) (st := [.int 1]) (h := hS X M) ?_
    refine Sp.step rfl rfl rfl rfl ?_
    refine Sp.step rfl rfl rfl rfl ?_
    refine Sp.step rfl rfl rfl (xg_F (c := 2) (f := 4) rfl rfl rfl rfl rfl) ?_
    refine Sp.step rfl rfl rfl rfl ?_
    refine Sp.step rfl rfl rfl rfl ?_
    refine Sp.step rfl rfl rfl (xst rfl (by decide) (ix_le (N := 7) rfl e1.1 e1.2)) ?_
    exact Sp.vret rfl rfl rfl (fun _ _ h => h)
  · refine Sp.id (pc := 7) (l := [some (.ref 30), some (.int x), some (.int y)]) (st := [.int 0]) (h := hS X M) ?_
    refine Sp.step rfl rfl rfl rfl ?_
    exact Sp.vret rfl rfl rfl (fun _ _ h => h)
def b2_Linker_noteNames_30 (x12 : (Int32 × XS)) : Option ((Int32 × XS) ⊕ (Int32 × XS)) := (if 8 ≤ x12.1 then some (.inr (x12.1, x12.2)) else (if f_Source_isRoutine (f_Source_routineOfName x12.1 x12.2) x12.2 = true then (ocz (x12.2.2.1 2 (f_Source_routineOfName x12.1 x12.2).toNatClampNeg) none (fun a16 => (if (xT x12.2 a16 = some (12, 0)) then ((f_Routine_taken a16 x12.2).bind fun x19 => ((f_Image_noteTaken_30 x12.1 x19 x12.2).bind fun x20 => some (.inl (x12.1 + 1, x20)))) else none))) else ((f_Image_noteTaken_30 x12.1 1 x12.2).bind fun x22 => some (.inl (x12.1 + 1, x22)))))
def f_Linker_noteNames_30 (X : XS) : Option XS := ((lp (b2_Linker_noteNames_30) 10000 ((0 : Int32), X)).bind fun x23 => some x23.2)
set_option maxRecDepth 100000 in
set_option maxHeartbeats 4000000 in
theorem s_Linker_noteNames_30 {L : Nat} {xs : Nat → Int32} {X : XS} {M : MS} : Sp (mjOO L xs) 193 0 [some (.ref 10), some (.ref 30), none, none] [] (hS X M) (f_Linker_noteNames_30 X) (KVX M) := by
  unfold f_Linker_noteNames_30
  refine Sp.step rfl rfl rfl rfl ?_
  refine Sp.step rfl rfl rfl rfl ?_
  refine Sp.weak (l0 := [some (.ref 10), some (.ref 30), some (.int 0), none]) ⟨rfl, rfl, rfl, trivial⟩ ?_
  refine Sp.loopX (pe := 55) (mf := (fun (x12 : (Int32 × XS)) => [some (.ref 10), some (.ref 30), some (.int x12.1), none])) (hf := (fun (x12 : (Int32 × XS)) => hS x12.2 M)) (fun x12 => ?_) (fun x23 => ?_) _ _
  · unfold b2_Linker_noteNames_30
    refine Sp.step rfl rfl rfl rfl ?_
    refine Sp.step rfl rfl rfl rfl ?_
    refine Sp.if2 rfl rfl rfl rfl (fun e13 => ?_) (fun e13 => ?_)
    · exact Sp.jmp (l0 := [some (.ref 10), some (.ref 30), some (.int x12.1), none]) ⟨rfl, rfl, rfl, trivial⟩ (fun _ _ h => h)
    · refine Sp.step rfl rfl rfl rfl ?_
      refine Sp.step rfl rfl rfl (xg_F (c := 3) (f := 0) rfl rfl rfl rfl rfl) ?_
      refine Sp.step rfl rfl rfl rfl ?_
      refine Sp.callS rfl rfl rfl (xrecv (c := 8) (by decide) rfl (by decide +kernel)) s_Source_routineOfName ⟨rfl, rfl⟩ ?_
      refine Sp.id (pc := 16) (l := [some (.ref 10), some (.ref 30), some (.int x12.1), none]) (st := [.int (f_Source_routineOfName x12.1 x12.2)]) (h := hS x12.2 M) ?_
      refine Sp.step rfl rfl rfl rfl ?_
      refine Sp.step rfl rfl rfl rfl ?_
      refine Sp.step rfl rfl rfl rfl ?_
      refine Sp.step rfl rfl rfl rfl ?_
      refine Sp.step rfl rfl rfl (xg_F (c := 3) (f := 0) rfl rfl rfl rfl rfl) ?_
      refine Sp.step rfl rfl rfl rfl ?_
      refine Sp.callS rfl rfl rfl (xrecv (c := 8) (by decide) rfl (by decide +kernel)) s_Source_isRoutine ⟨rfl, rfl⟩ ?_
      refine Sp.bool (fun e14 => ?_) (fun e14 => ?_)
      · refine Sp.id (pc := 27) (l := [some (.ref 10), some (.ref 30), some (.int x12.1), some (.int (f_Source_routineOfName x12.1 x12.2))]) (st := [.int 1, .int x12.1, .ref 30]) (h := hS x12.2 M) ?_
        refine Sp.step rfl rfl rfl rfl ?_
        refine Sp.step rfl rfl rfl rfl ?_
        refine Sp.step rfl rfl rfl (xg_F (c := 3) (f := 0) rfl rfl rfl rfl rfl) ?_
        refine Sp.step rfl rfl rfl (xg_F (c := 8) (f := 0) rfl rfl rfl rfl rfl) ?_
        refine Sp.step rfl rfl rfl rfl ?_
        refine Sp.step rfl rfl rfl (xald (t := 3) rfl (by decide) (fun _ => rfl) (isRoutine_ix e14)) ?_
        refine Sp.ocrn (fun a16 e17 => ?_)
        refine Sp.guard (fun e18 => ?_)
        refine Sp.call rfl rfl rfl (xrecv (c := 7) (by decide) e18 (by decide +kernel)) s_Routine_taken (fun x19 => ⟨_, _, ⟨rfl, rfl⟩, ?_⟩)
        refine Sp.id (pc := 42) (l := [some (.ref 10), some (.ref 30), some (.int x12.1), some (.int (f_Source_routineOfName x12.1 x12.2))]) (st := [.int x19, .int x12.1, .ref 30]) (h := hS x12.2 M) ?_
        refine Sp.step rfl rfl rfl rfl ?_
        refine Sp.call rfl rfl rfl (xrecv (c := 2) (by decide) rfl (by decide +kernel)) s_Image_noteTaken_30 (fun x20 => ⟨_, _, ⟨rfl, rfl⟩, ?_⟩)
        refine Sp.id (pc := 49) (l := [some (.ref 10), some (.ref 30), some (.int x12.1), some (.int (f_Source_routineOfName x12.1 x12.2))]) (st := []) (h := hS x20 M) ?_
        refine Sp.step rfl rfl rfl rfl ?_
        refine Sp.step rfl rfl rfl rfl ?_
        exact Sp.jmp (l0 := [some (.ref 10), some (.ref 30), some (.int (x12.1 + 1)), none]) ⟨rfl, rfl, rfl, trivial⟩ (fun _ _ h => h)
      · refine Sp.id (pc := 27) (l := [some (.ref 10), some (.ref 30), some (.int x12.1), some (.int (f_Source_routineOfName x12.1 x12.2))]) (st := [.int 0, .int x12.1, .ref 30]) (h := hS x12.2 M) ?_
        refine Sp.step rfl rfl rfl rfl ?_
        refine Sp.step rfl rfl rfl rfl ?_
        refine Sp.call rfl rfl rfl (xrecv (c := 2) (by decide) rfl (by decide +kernel)) s_Image_noteTaken_30 (fun x22 => ⟨_, _, ⟨rfl, rfl⟩, ?_⟩)
        refine Sp.id (pc := 49) (l := [some (.ref 10), some (.ref 30), some (.int x12.1), some (.int (f_Source_routineOfName x12.1 x12.2))]) (st := []) (h := hS x22 M) ?_
        refine Sp.step rfl rfl rfl rfl ?_
        refine Sp.step rfl rfl rfl rfl ?_
        exact Sp.jmp (l0 := [some (.ref 10), some (.ref 30), some (.int (x12.1 + 1)), none]) ⟨rfl, rfl, rfl, trivial⟩ (fun _ _ h => h)
  · exact Sp.vret rfl rfl rfl (fun _ _ h => h)
def b67_Linker_write_30 (x15 : (Int32 × XS)) : Option ((Int32 × XS) ⊕ (Int32 × XS)) := (if 10 ≤ x15.1 then some (.inr (x15.1, x15.2)) else (if f_Reach_hasKind x15.1 x15.2 = true then ((f_Linker_writeKind_30 x15.1 x15.2).bind fun x19 => some (.inl (x15.1 + 1, x19))) else some (.inl (x15.1 + 1, x15.2))))
def b118_Linker_write_30 (x29 : (Int32 × Int32 × XS)) : Option ((Int32 × Int32 × XS) ⊕ (Int32 × Int32 × XS)) := (if 24 ≤ x29.2.1 then some (.inr (x29.1, x29.2.1, x29.2.2)) else (if f_Reach_hasRoutine x29.2.1 x29.2.2 = true then ((f_Linker_writeHead_30 x29.2.1 x29.1 x29.2.2).bind fun x33 => some (.inl (x29.1 + x33.1, x29.2.1 + 1, x33.2))) else some (.inl (x29.1, x29.2.1 + 1, x29.2.2))))
def b157_Linker_write_30 (x42 : (Int32 × XS)) : Option ((Int32 × XS) ⊕ (Int32 × XS)) := (if 24 ≤ x42.1 then some (.inr (x42.1, x42.2)) else (if f_Reach_hasRoutine x42.1 x42.2 = true then ((f_Linker_writeCode_30 x42.1 x42.2).bind fun x46 => some (.inl (x42.1 + 1, x46))) else some (.inl (x42.1 + 1, x42.2))))
def f_Linker_write_30 (x : Int32) (X : XS) : Option XS := ((f_Image_clear_30 X).bind fun x1 => ((f_Image_put_30 80 x1).bind fun x2 => ((f_Image_put_30 77 x2.2).bind fun x3 => ((f_Image_put_30 (x3.2.1 14 0) x3.2).bind fun x4 => ((f_Image_put_30 (x4.2.1 14 1) x4.2).bind fun x5 => ((f_Image_put_30 (f_Reach_newRoutine x x5.2) x5.2).bind fun x6 => ((f_Image_putTwo_30 0 x6.2).bind fun x7 => ((f_Image_putTwo_30 0 x7).bind fun x8 => ((lp (b67_Linker_write_30) 10000 ((0 : Int32), x8)).bind fun x21 => ((f_Linker_headBytes x21.2).bind fun x22 => ((lp (b118_Linker_write_30) 10000 ((9 + (11 * (x21.2.1 14 0))) + x22, (0 : Int32), x21.2)).bind fun x35 => ((lp (b157_Linker_write_30) 10000 ((0 : Int32), x35.2.2)).bind fun x48 => ((f_Image_seal_30 x48.2).bind fun x49 => ((f_Linker_noteNames_30 x49).bind fun x50 => some x50))))))))))))))
set_option maxRecDepth 100000 in
set_option maxHeartbeats 4000000 in
theorem s_Linker_write_30 {L : Nat} {xs : Nat → Int32} {X : XS} {M : MS} {x : Int32} : Sp (mjOO L xs) 183 0 [some (.ref 10), some (.int x), some (.ref 30), none, none] [] (hS X M) (f_Linker_write_30 x X) (KVX M) := by
  unfold f_Linker_write_30
  refine Sp.step rfl rfl rfl rfl ?_
  refine Sp.call rfl rfl rfl (xrecv (c := 2) (by decide) rfl (by decide +kernel)) s_Image_clear_30 (fun x1 => ⟨_, _, ⟨rfl, rfl⟩, ?_⟩)
  refine Sp.id (pc := 4) (l := [some (.ref 10), some (.int x), some (.ref 30), none, none]) (st := []) (h := hS x1 M) ?_
  refine Sp.step rfl rfl rfl rfl ?_
  refine Sp.step rfl rfl rfl rfl ?_
  refine Sp.call rfl rfl rfl (xrecv (c := 2) (by decide) rfl (by decide +kernel)) s_Image_put_30 (fun x2 => ⟨_, _, ⟨rfl, rfl⟩, ?_⟩)
  refine Sp.id (pc := 10) (l := [some (.ref 10), some (.int x), some (.ref 30), none, none]) (st := [.int (if x2.1 = true then 1 else 0)]) (h := hS x2.2 M) ?_
  refine Sp.step rfl rfl rfl rfl ?_
  refine Sp.step rfl rfl rfl rfl ?_
  refine Sp.step rfl rfl rfl rfl ?_
  refine Sp.call rfl rfl rfl (xrecv (c := 2) (by decide) rfl (by decide +kernel)) s_Image_put_30 (fun x3 => ⟨_, _, ⟨rfl, rfl⟩, ?_⟩)
  refine Sp.id (pc := 17) (l := [some (.ref 10), some (.int x), some (.ref 30), none, none]) (st := [.int (if x3.1 = true then 1 else 0)]) (h := hS x3.2 M) ?_
  refine Sp.step rfl rfl rfl rfl ?_
  refine Sp.step rfl rfl rfl rfl ?_
  refine Sp.step rfl rfl rfl rfl ?_
  refine Sp.step rfl rfl rfl (xg_F (c := 3) (f := 1) rfl rfl rfl rfl rfl) ?_
  refine Sp.step rfl rfl rfl (xg_I (c := 6) (f := 0) rfl rfl rfl rfl) ?_
  refine Sp.call rfl rfl rfl (xrecv (c := 2) (by decide) rfl (by decide +kernel)) s_Image_put_30 (fun x4 => ⟨_, _, ⟨rfl, rfl⟩, ?_⟩)
  refine Sp.id (pc := 29) (l := [some (.ref 10), some (.int x), some (.ref 30), none, none]) (st := [.int (if x4.1 = true then 1 else 0)]) (h := hS x4.2 M) ?_
  refine Sp.step rfl rfl rfl rfl ?_
  refine Sp.step rfl rfl rfl rfl ?_
  refine Sp.step rfl rfl rfl rfl ?_
  refine Sp.step rfl rfl rfl (xg_F (c := 3) (f := 1) rfl rfl rfl rfl rfl) ?_
  refine Sp.step rfl rfl rfl (xg_I (c := 6) (f := 1) rfl rfl rfl rfl) ?_
  refine Sp.call rfl rfl rfl (xrecv (c := 2) (by decide) rfl (by decide +kernel)) s_Image_put_30 (fun x5 => ⟨_, _, ⟨rfl, rfl⟩, ?_⟩)
  refine Sp.id (pc := 41) (l := [some (.ref 10), some (.int x), some (.ref 30), none, none]) (st := [.int (if x5.1 = true then 1 else 0)]) (h := hS x5.2 M) ?_
  refine Sp.step rfl rfl rfl rfl ?_
  refine Sp.step rfl rfl rfl rfl ?_
  refine Sp.step rfl rfl rfl rfl ?_
  refine Sp.step rfl rfl rfl (xg_F (c := 3) (f := 1) rfl rfl rfl rfl rfl) ?_
  refine Sp.step rfl rfl rfl rfl ?_
  refine Sp.callS rfl rfl rfl (xrecv (c := 6) (by decide) rfl (by decide +kernel)) s_Reach_newRoutine ⟨rfl, rfl⟩ ?_
  refine Sp.id (pc := 51) (l := [some (.ref 10), some (.int x), some (.ref 30), none, none]) (st := [.int (f_Reach_newRoutine x x5.2), .ref 30]) (h := hS x5.2 M) ?_
  refine Sp.call rfl rfl rfl (xrecv (c := 2) (by decide) rfl (by decide +kernel)) s_Image_put_30 (fun x6 => ⟨_, _, ⟨rfl, rfl⟩, ?_⟩)
  refine Sp.id (pc := 54) (l := [some (.ref 10), some (.int x), some (.ref 30), none, none]) (st := [.int (if x6.1 = true then 1 else 0)]) (h := hS x6.2 M) ?_
  refine Sp.step rfl rfl rfl rfl ?_
  refine Sp.step rfl rfl rfl rfl ?_
  refine Sp.step rfl rfl rfl rfl ?_
  refine Sp.call rfl rfl rfl (xrecv (c := 2) (by decide) rfl (by decide +kernel)) s_Image_putTwo_30 (fun x7 => ⟨_, _, ⟨rfl, rfl⟩, ?_⟩)
  refine Sp.id (pc := 60) (l := [some (.ref 10), some (.int x), some (.ref 30), none, none]) (st := []) (h := hS x7 M) ?_
  refine Sp.step rfl rfl rfl rfl ?_
  refine Sp.step rfl rfl rfl rfl ?_
  refine Sp.call rfl rfl rfl (xrecv (c := 2) (by decide) rfl (by decide +kernel)) s_Image_putTwo_30 (fun x8 => ⟨_, _, ⟨rfl, rfl⟩, ?_⟩)
  refine Sp.id (pc := 65) (l := [some (.ref 10), some (.int x), some (.ref 30), none, none]) (st := []) (h := hS x8 M) ?_
  refine Sp.step rfl rfl rfl rfl ?_
  refine Sp.step rfl rfl rfl rfl ?_
  refine Sp.weak (l0 := [some (.ref 10), none, some (.ref 30), some (.int 0), none]) ⟨rfl, rfl, rfl, trivial⟩ ?_
  refine Sp.loopX (pe := 96) (mf := (fun (x15 : (Int32 × XS)) => [some (.ref 10), none, some (.ref 30), some (.int x15.1), none])) (hf := (fun (x15 : (Int32 × XS)) => hS x15.2 M)) (fun x15 => ?_) (fun x21 => ?_) _ _
  · unfold b67_Linker_write_30
    refine Sp.step rfl rfl rfl rfl ?_
    refine Sp.step rfl rfl rfl rfl ?_
    refine Sp.if2 rfl rfl rfl rfl (fun e16 => ?_) (fun e16 => ?_)
    · exact Sp.jmp (l0 := [some (.ref 10), none, some (.ref 30), some (.int x15.1), none]) ⟨rfl, rfl, rfl, trivial⟩ (fun _ _ h => h)
    · refine Sp.step rfl rfl rfl rfl ?_
      refine Sp.step rfl rfl rfl (xg_F (c := 3) (f := 1) rfl rfl rfl rfl rfl) ?_
      refine Sp.step rfl rfl rfl rfl ?_
      refine Sp.callS rfl rfl rfl (xrecv (c := 6) (by decide) rfl (by decide +kernel)) s_Reach_hasKind ⟨rfl, rfl⟩ ?_
      refine Sp.bool (fun e17 => ?_) (fun e17 => ?_)
      · refine Sp.id (pc := 81) (l := [some (.ref 10), none, some (.ref 30), some (.int x15.1), none]) (st := [.int 1]) (h := hS x15.2 M) ?_
        refine Sp.step rfl rfl rfl rfl ?_
        refine Sp.step rfl rfl rfl rfl ?_
        refine Sp.step rfl rfl rfl rfl ?_
        refine Sp.step rfl rfl rfl rfl ?_
        refine Sp.call rfl rfl rfl (xrecv (c := 3) (by decide) rfl (by decide +kernel)) s_Linker_writeKind_30 (fun x19 => ⟨_, _, ⟨rfl, rfl⟩, ?_⟩)
        refine Sp.id (pc := 90) (l := [some (.ref 10), none, some (.ref 30), some (.int x15.1), none]) (st := []) (h := hS x19 M) ?_
        refine Sp.step rfl rfl rfl rfl ?_
        refine Sp.step rfl rfl rfl rfl ?_
        exact Sp.jmp (l0 := [some (.ref 10), none, some (.ref 30), some (.int (x15.1 + 1)), none]) ⟨rfl, rfl, rfl, trivial⟩ (fun _ _ h => h)
      · refine Sp.id (pc := 81) (l := [some (.ref 10), none, some (.ref 30), some (.int x15.1), none]) (st := [.int 0]) (h := hS x15.2 M) ?_
        refine Sp.step rfl rfl rfl rfl ?_
        refine Sp.step rfl rfl rfl rfl ?_
        refine Sp.step rfl rfl rfl rfl ?_
        exact Sp.jmp (l0 := [some (.ref 10), none, some (.ref 30), some (.int (x15.1 + 1)), none]) ⟨rfl, rfl, rfl, trivial⟩ (fun _ _ h => h)
  · refine Sp.step rfl rfl rfl rfl ?_
    refine Sp.step rfl rfl rfl rfl ?_
    refine Sp.step rfl rfl rfl rfl ?_
    refine Sp.step rfl rfl rfl (xg_F (c := 3) (f := 1) rfl rfl rfl rfl rfl) ?_
    refine Sp.step rfl rfl rfl (xg_I (c := 6) (f := 0) rfl rfl rfl rfl) ?_
    refine Sp.step rfl rfl rfl rfl ?_
    refine Sp.step rfl rfl rfl rfl ?_
    refine Sp.step rfl rfl rfl rfl ?_
    refine Sp.call rfl rfl rfl (xrecv (c := 3) (by decide) rfl (by decide +kernel)) s_Linker_headBytes (fun x22 => ⟨_, _, ⟨rfl, rfl⟩, ?_⟩)
    refine Sp.id (pc := 113) (l := [some (.ref 10), none, some (.ref 30), some (.int x21.1), none]) (st := [.int x22, .int (9 + (11 * (x21.2.1 14 0)))]) (h := hS x21.2 M) ?_
    refine Sp.step rfl rfl rfl rfl ?_
    refine Sp.step rfl rfl rfl rfl ?_
    refine Sp.step rfl rfl rfl rfl ?_
    refine Sp.step rfl rfl rfl rfl ?_
    refine Sp.weak (l0 := [some (.ref 10), none, some (.ref 30), some (.int ((9 + (11 * (x21.2.1 14 0))) + x22)), some (.int 0)]) ⟨rfl, rfl, rfl, rfl, trivial⟩ ?_
    refine Sp.loopX (pe := 154) (mf := (fun (x29 : (Int32 × Int32 × XS)) => [some (.ref 10), none, some (.ref 30), some (.int x29.1), some (.int x29.2.1)])) (hf := (fun (x29 : (Int32 × Int32 × XS)) => hS x29.2.2 M)) (fun x29 => ?_) (fun x35 => ?_) _ _
    · unfold b118_Linker_write_30
      refine Sp.step rfl rfl rfl rfl ?_
      refine Sp.step rfl rfl rfl rfl ?_
      refine Sp.if2 rfl rfl rfl rfl (fun e30 => ?_) (fun e30 => ?_)
      · exact Sp.jmp (l0 := [some (.ref 10), none, some (.ref 30), some (.int x29.1), some (.int x29.2.1)]) ⟨rfl, rfl, rfl, rfl, trivial⟩ (fun _ _ h => h)
      · refine Sp.step rfl rfl rfl rfl ?_
        refine Sp.step rfl rfl rfl (xg_F (c := 3) (f := 1) rfl rfl rfl rfl rfl) ?_
        refine Sp.step rfl rfl rfl rfl ?_
        refine Sp.callS rfl rfl rfl (xrecv (c := 6) (by decide) rfl (by decide +kernel)) s_Reach_hasRoutine ⟨rfl, rfl⟩ ?_
        refine Sp.bool (fun e31 => ?_) (fun e31 => ?_)
        · refine Sp.id (pc := 134) (l := [some (.ref 10), none, some (.ref 30), some (.int x29.1), some (.int x29.2.1)]) (st := [.int 1]) (h := hS x29.2.2 M) ?_
          refine Sp.step rfl rfl rfl rfl ?_
          refine Sp.step rfl rfl rfl rfl ?_
          refine Sp.step rfl rfl rfl rfl ?_
          refine Sp.step rfl rfl rfl rfl ?_
          refine Sp.step rfl rfl rfl rfl ?_
          refine Sp.step rfl rfl rfl rfl ?_
          refine Sp.call rfl rfl rfl (xrecv (c := 3) (by decide) rfl (by decide +kernel)) s_Linker_writeHead_30 (fun x33 => ⟨_, _, ⟨rfl, rfl⟩, ?_⟩)
          refine Sp.id (pc := 146) (l := [some (.ref 10), none, some (.ref 30), some (.int x29.1), some (.int x29.2.1)]) (st := [.int x33.1, .int x29.1]) (h := hS x33.2 M) ?_
          refine Sp.step rfl rfl rfl rfl ?_
          refine Sp.step rfl rfl rfl rfl ?_
          refine Sp.step rfl rfl rfl rfl ?_
          refine Sp.step rfl rfl rfl rfl ?_
          exact Sp.jmp (l0 := [some (.ref 10), none, some (.ref 30), some (.int (x29.1 + x33.1)), some (.int (x29.2.1 + 1))]) ⟨rfl, rfl, rfl, rfl, trivial⟩ (fun _ _ h => h)
        · refine Sp.id (pc := 134) (l := [some (.ref 10), none, some (.ref 30), some (.int x29.1), some (.int x29.2.1)]) (st := [.int 0]) (h := hS x29.2.2 M) ?_
          refine Sp.step rfl rfl rfl rfl ?_
          refine Sp.step rfl rfl rfl rfl ?_
          refine Sp.step rfl rfl rfl rfl ?_
          exact Sp.jmp (l0 := [some (.ref 10), none, some (.ref 30), some (.int x29.1), some (.int (x29.2.1 + 1))]) ⟨rfl, rfl, rfl, rfl, trivial⟩ (fun _ _ h => h)
    · refine Sp.step rfl rfl rfl rfl ?_
      refine Sp.step rfl rfl rfl rfl ?_
      refine Sp.weak (l0 := [some (.ref 10), none, some (.ref 30), none, some (.int 0)]) ⟨rfl, rfl, rfl, trivial⟩ ?_
      refine Sp.loopX (pe := 189) (mf := (fun (x42 : (Int32 × XS)) => [some (.ref 10), none, some (.ref 30), none, some (.int x42.1)])) (hf := (fun (x42 : (Int32 × XS)) => hS x42.2 M)) (fun x42 => ?_) (fun x48 => ?_) _ _
      · unfold b157_Linker_write_30
        refine Sp.step rfl rfl rfl rfl ?_
        refine Sp.step rfl rfl rfl rfl ?_
        refine Sp.if2 rfl rfl rfl rfl (fun e43 => ?_) (fun e43 => ?_)
        · exact Sp.jmp (l0 := [some (.ref 10), none, some (.ref 30), none, some (.int x42.1)]) ⟨rfl, rfl, rfl, trivial⟩ (fun _ _ h => h)
        · refine Sp.step rfl rfl rfl rfl ?_
          refine Sp.step rfl rfl rfl (xg_F (c := 3) (f := 1) rfl rfl rfl rfl rfl) ?_
          refine Sp.step rfl rfl rfl rfl ?_
          refine Sp.callS rfl rfl rfl (xrecv (c := 6) (by decide) rfl (by decide +kernel)) s_Reach_hasRoutine ⟨rfl, rfl⟩ ?_
          refine Sp.bool (fun e44 => ?_) (fun e44 => ?_)
          · refine Sp.id (pc := 173) (l := [some (.ref 10), none, some (.ref 30), none, some (.int x42.1)]) (st := [.int 1]) (h := hS x42.2 M) ?_
            refine Sp.step rfl rfl rfl rfl ?_
            refine Sp.step rfl rfl rfl rfl ?_
            refine Sp.step rfl rfl rfl rfl ?_
            refine Sp.step rfl rfl rfl rfl ?_
            refine Sp.call rfl rfl rfl (xrecv (c := 3) (by decide) rfl (by decide +kernel)) s_Linker_writeCode_30 (fun x46 => ⟨_, _, ⟨rfl, rfl⟩, ?_⟩)
            refine Sp.id (pc := 183) (l := [some (.ref 10), none, some (.ref 30), none, some (.int x42.1)]) (st := []) (h := hS x46 M) ?_
            refine Sp.step rfl rfl rfl rfl ?_
            refine Sp.step rfl rfl rfl rfl ?_
            exact Sp.jmp (l0 := [some (.ref 10), none, some (.ref 30), none, some (.int (x42.1 + 1))]) ⟨rfl, rfl, rfl, trivial⟩ (fun _ _ h => h)
          · refine Sp.id (pc := 173) (l := [some (.ref 10), none, some (.ref 30), none, some (.int x42.1)]) (st := [.int 0]) (h := hS x42.2 M) ?_
            refine Sp.step rfl rfl rfl rfl ?_
            refine Sp.step rfl rfl rfl rfl ?_
            refine Sp.step rfl rfl rfl rfl ?_
            exact Sp.jmp (l0 := [some (.ref 10), none, some (.ref 30), none, some (.int (x42.1 + 1))]) ⟨rfl, rfl, rfl, trivial⟩ (fun _ _ h => h)
      · refine Sp.step rfl rfl rfl rfl ?_
        refine Sp.call rfl rfl rfl (xrecv (c := 2) (by decide) rfl (by decide +kernel)) s_Image_seal_30 (fun x49 => ⟨_, _, ⟨rfl, rfl⟩, ?_⟩)
        refine Sp.id (pc := 193) (l := [some (.ref 10), none, some (.ref 30), none, some (.int x48.1)]) (st := []) (h := hS x49 M) ?_
        refine Sp.step rfl rfl rfl rfl ?_
        refine Sp.step rfl rfl rfl rfl ?_
        refine Sp.call rfl rfl rfl (xrecv (c := 3) (by decide) rfl (by decide +kernel)) s_Linker_noteNames_30 (fun x50 => ⟨_, _, ⟨rfl, rfl⟩, ?_⟩)
        refine Sp.id (pc := 198) (l := [some (.ref 10), none, some (.ref 30), none, some (.int x48.1)]) (st := []) (h := hS x50 M) ?_
        exact Sp.vret rfl rfl rfl (fun _ _ h => h)
def b2_Flow_trapsFit (x : Nat) (X : XS) (x1 : Int32) : Option (Int32 ⊕ Bool) := (if (xT X x = some (12, 0)) then (if X.1 x 9 ≤ x1 then some (.inr true) else (if 6 ≤ x1 then some (.inr true) else (ocz (X.2.1 x 10) none (fun a5 => (ocz (xL X 0 a5) none (fun n7 => (if ixo x1 n7 then (if X.1 a5 x1.toNatClampNeg < 0 then (ocz (X.2.1 x 13) none (fun a11 => (ocz (xL X 0 a11) none (fun n13 => (if ixo x1 n13 then (if f_Source_isKind (X.1 a11 x1.toNatClampNeg) X = true then some (.inr false) else (ocz (X.2.1 x 13) none (fun a20 => (ocz (xL X 0 a20) none (fun n22 => (if ixo x1 n22 then (if (-10) ≤ X.1 a20 x1.toNatClampNeg ∧ X.1 a20 x1.toNatClampNeg ≤ (-1) then some (.inr false) else some (.inr false)) else none)))))) else none))))) else (ocz (X.2.1 x 10) none (fun a30 => (ocz (xL X 0 a30) none (fun n32 => (if ixo x1 n32 then (ocz (X.2.1 x 11) none (fun a35 => (ocz (xL X 0 a35) none (fun n37 => (if ixo x1 n37 then (if X.1 a35 x1.toNatClampNeg ≤ X.1 a30 x1.toNatClampNeg then (ocz (X.2.1 x 13) none (fun a41 => (ocz (xL X 0 a41) none (fun n43 => (if ixo x1 n43 then (if f_Source_isKind (X.1 a41 x1.toNatClampNeg) X = true then some (.inr false) else (ocz (X.2.1 x 13) none (fun a50 => (ocz (xL X 0 a50) none (fun n52 => (if ixo x1 n52 then (if (-10) ≤ X.1 a50 x1.toNatClampNeg ∧ X.1 a50 x1.toNatClampNeg ≤ (-1) then some (.inr false) else some (.inr false)) else none)))))) else none))))) else (ocz (X.2.1 x 11) none (fun a60 => (ocz (xL X 0 a60) none (fun n62 => (if ixo x1 n62 then (if X.1 x 6 < X.1 a60 x1.toNatClampNeg then (ocz (X.2.1 x 13) none (fun a66 => (ocz (xL X 0 a66) none (fun n68 => (if ixo x1 n68 then (if f_Source_isKind (X.1 a66 x1.toNatClampNeg) X = true then some (.inr false) else (ocz (X.2.1 x 13) none (fun a75 => (ocz (xL X 0 a75) none (fun n77 => (if ixo x1 n77 then (if (-10) ≤ X.1 a75 x1.toNatClampNeg ∧ X.1 a75 x1.toNatClampNeg ≤ (-1) then some (.inr false) else some (.inr false)) else none)))))) else none))))) else (ocz (X.2.1 x 13) none (fun a85 => (ocz (xL X 0 a85) none (fun n87 => (if ixo x1 n87 then (if f_Source_isKind (X.1 a85 x1.toNatClampNeg) X = true then (ocz (X.2.1 x 12) none (fun a94 => (ocz (xL X 0 a94) none (fun n96 => (if ixo x1 n96 then (if 0 ≤ X.1 a94 x1.toNatClampNeg ∧ X.1 a94 x1.toNatClampNeg ≤ (X.1 x 6) - 1 then some (.inl (x1 + 1)) else some (.inr false)) else none))))) else (ocz (X.2.1 x 13) none (fun a103 => (ocz (xL X 0 a103) none (fun n105 => (if ixo x1 n105 then (if (-10) ≤ X.1 a103 x1.toNatClampNeg ∧ X.1 a103 x1.toNatClampNeg ≤ (-1) then (ocz (X.2.1 x 12) none (fun a112 => (ocz (xL X 0 a112) none (fun n114 => (if ixo x1 n114 then (if 0 ≤ X.1 a112 x1.toNatClampNeg ∧ X.1 a112 x1.toNatClampNeg ≤ (X.1 x 6) - 1 then some (.inl (x1 + 1)) else some (.inr false)) else none))))) else some (.inr false)) else none)))))) else none)))))) else none)))))) else none))))) else none)))))) else none))))))) else none)
def f_Flow_trapsFit (x : Nat) (X : XS) : Option Bool := (lp (b2_Flow_trapsFit x X) 10000 (0 : Int32))
set_option maxRecDepth 100000 in
set_option maxHeartbeats 4000000 in
theorem s_Flow_trapsFit {L : Nat} {xs : Nat → Int32} {X : XS} {M : MS} {x : Nat} : Sp (mjOO L xs) 138 0 [some (.ref 22), some (.ref x), none, none, none] [] (hS X M) (f_Flow_trapsFit x X) (KB (hS X M)) := by
  unfold f_Flow_trapsFit
  refine Sp.step rfl rfl rfl rfl ?_
  refine Sp.step rfl rfl rfl rfl ?_
  refine Sp.weak (l0 := [some (.ref 22), some (.ref x), some (.int 0), none, none]) ⟨rfl, rfl, rfl, trivial⟩ ?_
  refine Sp.loopL (mf := (fun (x1 : Int32) => [some (.ref 22), some (.ref x), some (.int x1), none, none])) (hf := (fun (x1 : Int32) => hS X M)) (fun x1 => ?_) _ _
  unfold b2_Flow_trapsFit
  refine Sp.step rfl rfl rfl rfl ?_
  refine Sp.step rfl rfl rfl rfl ?_
  refine Sp.guard (fun e2 => ?_)
  refine Sp.step rfl rfl rfl (xg_I (c := 7) (f := 9) rfl rfl e2 rfl) ?_
  refine Sp.if2 rfl rfl rfl rfl (fun e3 => ?_) (fun e3 => ?_)
  · refine Sp.step rfl rfl rfl rfl ?_
    exact Sp.iret rfl rfl rfl rfl (fun _ _ h => h)
  · refine Sp.step rfl rfl rfl rfl ?_
    refine Sp.step rfl rfl rfl rfl ?_
    refine Sp.if2 rfl rfl rfl rfl (fun e4 => ?_) (fun e4 => ?_)
    · refine Sp.step rfl rfl rfl rfl ?_
      exact Sp.iret rfl rfl rfl rfl (fun _ _ h => h)
    · refine Sp.step rfl rfl rfl rfl ?_
      refine Sp.step rfl rfl rfl (xg_D (c := 7) (f := 10) rfl rfl e2 rfl (fxP_big (dyn_of (c := 7) e2 rfl))) ?_
      refine Sp.ocrn (fun a5 e6 => ?_)
      refine Sp.step rfl rfl rfl rfl ?_
      refine Sp.ocn (fun n7 e8 => ?_)
      refine Sp.guard (fun e9 => ?_)
      refine Sp.step rfl rfl rfl (xld (xL_ok e8) (by decide) e9) ?_
      refine Sp.if1 rfl rfl rfl rfl (fun e10 => ?_) (fun e10 => ?_)
      · refine Sp.step rfl rfl rfl rfl ?_
        refine Sp.step rfl rfl rfl rfl ?_
        refine Sp.step rfl rfl rfl rfl ?_
        refine Sp.step rfl rfl rfl (xg_F (c := 1) (f := 1) rfl rfl rfl rfl rfl) ?_
        refine Sp.step rfl rfl rfl rfl ?_
        refine Sp.step rfl rfl rfl (xg_D (c := 7) (f := 13) rfl rfl e2 rfl (fxP_big (dyn_of (c := 7) e2 rfl))) ?_
        refine Sp.ocrn (fun a11 e12 => ?_)
        refine Sp.step rfl rfl rfl rfl ?_
        refine Sp.ocn (fun n13 e14 => ?_)
        refine Sp.guard (fun e15 => ?_)
        refine Sp.step rfl rfl rfl (xld (xL_ok e14) (by decide) e15) ?_
        refine Sp.callS rfl rfl rfl (xrecv (c := 8) (by decide) rfl (by decide +kernel)) s_Source_isKind ⟨rfl, rfl⟩ ?_
        refine Sp.bool (fun e16 => ?_) (fun e16 => ?_)
        · refine Sp.id (pc := 72) (l := [some (.ref 22), some (.ref x), some (.int x1), some (.int 0), none]) (st := [.int 1]) (h := hS X M) ?_
          refine Sp.step rfl rfl rfl rfl ?_
          refine Sp.step rfl rfl rfl rfl ?_
          refine Sp.step rfl rfl rfl rfl ?_
          refine Sp.step rfl rfl rfl rfl ?_
          refine Sp.step rfl rfl rfl rfl ?_
          refine Sp.step rfl rfl rfl rfl ?_
          refine Sp.step rfl rfl rfl rfl ?_
          exact Sp.iret rfl rfl rfl rfl (fun _ _ h => h)
        · refine Sp.id (pc := 72) (l := [some (.ref 22), some (.ref x), some (.int x1), some (.int 0), none]) (st := [.int 0]) (h := hS X M) ?_
          refine Sp.step rfl rfl rfl rfl ?_
          refine Sp.step rfl rfl rfl rfl ?_
          refine Sp.step rfl rfl rfl (xg_D (c := 7) (f := 13) rfl rfl e2 rfl (fxP_big (dyn_of (c := 7) e2 rfl))) ?_
          refine Sp.ocrn (fun a20 e21 => ?_)
          refine Sp.step rfl rfl rfl rfl ?_
          refine Sp.ocn (fun n22 e23 => ?_)
          refine Sp.guard (fun e24 => ?_)
          refine Sp.step rfl rfl rfl (xld (xL_ok e23) (by decide) e24) ?_
          refine Sp.step rfl rfl rfl rfl ?_
          refine Sp.step rfl rfl rfl rfl ?_
          refine Sp.callP rfl rfl rfl rfl s_within (fun e25 => ?_) (fun e25 => ?_)
          · refine Sp.id (pc := 87) (l := [some (.ref 22), some (.ref x), some (.int x1), some (.int 0), none]) (st := [.int 1]) (h := hS X M) ?_
            refine Sp.step rfl rfl rfl rfl ?_
            refine Sp.step rfl rfl rfl rfl ?_
            refine Sp.step rfl rfl rfl rfl ?_
            refine Sp.step rfl rfl rfl rfl ?_
            refine Sp.step rfl rfl rfl rfl ?_
            refine Sp.step rfl rfl rfl rfl ?_
            refine Sp.step rfl rfl rfl rfl ?_
            exact Sp.iret rfl rfl rfl rfl (fun _ _ h => h)
          · refine Sp.id (pc := 87) (l := [some (.ref 22), some (.ref x), some (.int x1), some (.int 0), none]) (st := [.int 0]) (h := hS X M) ?_
            refine Sp.step rfl rfl rfl rfl ?_
            refine Sp.step rfl rfl rfl rfl ?_
            refine Sp.step rfl rfl rfl rfl ?_
            refine Sp.step rfl rfl rfl rfl ?_
            refine Sp.step rfl rfl rfl rfl ?_
            refine Sp.step rfl rfl rfl rfl ?_
            exact Sp.iret rfl rfl rfl rfl (fun _ _ h => h)
      · refine Sp.step rfl rfl rfl rfl ?_
        refine Sp.step rfl rfl rfl (xg_D (c := 7) (f := 10) rfl rfl e2 rfl (fxP_big (dyn_of (c := 7) e2 rfl))) ?_
        refine Sp.ocrn (fun a30 e31 => ?_)
        refine Sp.step rfl rfl rfl rfl ?_
        refine Sp.ocn (fun n32 e33 => ?_)
        refine Sp.guard (fun e34 => ?_)
        refine Sp.step rfl rfl rfl (xld (xL_ok e33) (by decide) e34) ?_
        refine Sp.step rfl rfl rfl rfl ?_
        refine Sp.step rfl rfl rfl (xg_D (c := 7) (f := 11) rfl rfl e2 rfl (fxP_big (dyn_of (c := 7) e2 rfl))) ?_
        refine Sp.ocrn (fun a35 e36 => ?_)
        refine Sp.step rfl rfl rfl rfl ?_
        refine Sp.ocn (fun n37 e38 => ?_)
        refine Sp.guard (fun e39 => ?_)
        refine Sp.step rfl rfl rfl (xld (xL_ok e38) (by decide) e39) ?_
        refine Sp.if2 rfl rfl rfl rfl (fun e40 => ?_) (fun e40 => ?_)
        · refine Sp.step rfl rfl rfl rfl ?_
          refine Sp.step rfl rfl rfl rfl ?_
          refine Sp.step rfl rfl rfl rfl ?_
          refine Sp.step rfl rfl rfl (xg_F (c := 1) (f := 1) rfl rfl rfl rfl rfl) ?_
          refine Sp.step rfl rfl rfl rfl ?_
          refine Sp.step rfl rfl rfl (xg_D (c := 7) (f := 13) rfl rfl e2 rfl (fxP_big (dyn_of (c := 7) e2 rfl))) ?_
          refine Sp.ocrn (fun a41 e42 => ?_)
          refine Sp.step rfl rfl rfl rfl ?_
          refine Sp.ocn (fun n43 e44 => ?_)
          refine Sp.guard (fun e45 => ?_)
          refine Sp.step rfl rfl rfl (xld (xL_ok e44) (by decide) e45) ?_
          refine Sp.callS rfl rfl rfl (xrecv (c := 8) (by decide) rfl (by decide +kernel)) s_Source_isKind ⟨rfl, rfl⟩ ?_
          refine Sp.bool (fun e46 => ?_) (fun e46 => ?_)
          · refine Sp.id (pc := 72) (l := [some (.ref 22), some (.ref x), some (.int x1), some (.int 0), none]) (st := [.int 1]) (h := hS X M) ?_
            refine Sp.step rfl rfl rfl rfl ?_
            refine Sp.step rfl rfl rfl rfl ?_
            refine Sp.step rfl rfl rfl rfl ?_
            refine Sp.step rfl rfl rfl rfl ?_
            refine Sp.step rfl rfl rfl rfl ?_
            refine Sp.step rfl rfl rfl rfl ?_
            refine Sp.step rfl rfl rfl rfl ?_
            exact Sp.iret rfl rfl rfl rfl (fun _ _ h => h)
          · refine Sp.id (pc := 72) (l := [some (.ref 22), some (.ref x), some (.int x1), some (.int 0), none]) (st := [.int 0]) (h := hS X M) ?_
            refine Sp.step rfl rfl rfl rfl ?_
            refine Sp.step rfl rfl rfl rfl ?_
            refine Sp.step rfl rfl rfl (xg_D (c := 7) (f := 13) rfl rfl e2 rfl (fxP_big (dyn_of (c := 7) e2 rfl))) ?_
            refine Sp.ocrn (fun a50 e51 => ?_)
            refine Sp.step rfl rfl rfl rfl ?_
            refine Sp.ocn (fun n52 e53 => ?_)
            refine Sp.guard (fun e54 => ?_)
            refine Sp.step rfl rfl rfl (xld (xL_ok e53) (by decide) e54) ?_
            refine Sp.step rfl rfl rfl rfl ?_
            refine Sp.step rfl rfl rfl rfl ?_
            refine Sp.callP rfl rfl rfl rfl s_within (fun e55 => ?_) (fun e55 => ?_)
            · refine Sp.id (pc := 87) (l := [some (.ref 22), some (.ref x), some (.int x1), some (.int 0), none]) (st := [.int 1]) (h := hS X M) ?_
              refine Sp.step rfl rfl rfl rfl ?_
              refine Sp.step rfl rfl rfl rfl ?_
              refine Sp.step rfl rfl rfl rfl ?_
              refine Sp.step rfl rfl rfl rfl ?_
              refine Sp.step rfl rfl rfl rfl ?_
              refine Sp.step rfl rfl rfl rfl ?_
              refine Sp.step rfl rfl rfl rfl ?_
              exact Sp.iret rfl rfl rfl rfl (fun _ _ h => h)
            · refine Sp.id (pc := 87) (l := [some (.ref 22), some (.ref x), some (.int x1), some (.int 0), none]) (st := [.int 0]) (h := hS X M) ?_
              refine Sp.step rfl rfl rfl rfl ?_
              refine Sp.step rfl rfl rfl rfl ?_
              refine Sp.step rfl rfl rfl rfl ?_
              refine Sp.step rfl rfl rfl rfl ?_
              refine Sp.step rfl rfl rfl rfl ?_
              refine Sp.step rfl rfl rfl rfl ?_
              exact Sp.iret rfl rfl rfl rfl (fun _ _ h => h)
        · refine Sp.step rfl rfl rfl rfl ?_
          refine Sp.step rfl rfl rfl (xg_D (c := 7) (f := 11) rfl rfl e2 rfl (fxP_big (dyn_of (c := 7) e2 rfl))) ?_
          refine Sp.ocrn (fun a60 e61 => ?_)
          refine Sp.step rfl rfl rfl rfl ?_
          refine Sp.ocn (fun n62 e63 => ?_)
          refine Sp.guard (fun e64 => ?_)
          refine Sp.step rfl rfl rfl (xld (xL_ok e63) (by decide) e64) ?_
          refine Sp.step rfl rfl rfl rfl ?_
          refine Sp.step rfl rfl rfl (xg_I (c := 7) (f := 6) rfl rfl e2 rfl) ?_
          refine Sp.if2 rfl rfl rfl rfl (fun e65 => ?_) (fun e65 => ?_)
          · refine Sp.step rfl rfl rfl rfl ?_
            refine Sp.step rfl rfl rfl rfl ?_
            refine Sp.step rfl rfl rfl rfl ?_
            refine Sp.step rfl rfl rfl (xg_F (c := 1) (f := 1) rfl rfl rfl rfl rfl) ?_
            refine Sp.step rfl rfl rfl rfl ?_
            refine Sp.step rfl rfl rfl (xg_D (c := 7) (f := 13) rfl rfl e2 rfl (fxP_big (dyn_of (c := 7) e2 rfl))) ?_
            refine Sp.ocrn (fun a66 e67 => ?_)
            refine Sp.step rfl rfl rfl rfl ?_
            refine Sp.ocn (fun n68 e69 => ?_)
            refine Sp.guard (fun e70 => ?_)
            refine Sp.step rfl rfl rfl (xld (xL_ok e69) (by decide) e70) ?_
            refine Sp.callS rfl rfl rfl (xrecv (c := 8) (by decide) rfl (by decide +kernel)) s_Source_isKind ⟨rfl, rfl⟩ ?_
            refine Sp.bool (fun e71 => ?_) (fun e71 => ?_)
            · refine Sp.id (pc := 72) (l := [some (.ref 22), some (.ref x), some (.int x1), some (.int 0), none]) (st := [.int 1]) (h := hS X M) ?_
              refine Sp.step rfl rfl rfl rfl ?_
              refine Sp.step rfl rfl rfl rfl ?_
              refine Sp.step rfl rfl rfl rfl ?_
              refine Sp.step rfl rfl rfl rfl ?_
              refine Sp.step rfl rfl rfl rfl ?_
              refine Sp.step rfl rfl rfl rfl ?_
              refine Sp.step rfl rfl rfl rfl ?_
              exact Sp.iret rfl rfl rfl rfl (fun _ _ h => h)
            · refine Sp.id (pc := 72) (l := [some (.ref 22), some (.ref x), some (.int x1), some (.int 0), none]) (st := [.int 0]) (h := hS X M) ?_
              refine Sp.step rfl rfl rfl rfl ?_
              refine Sp.step rfl rfl rfl rfl ?_
              refine Sp.step rfl rfl rfl (xg_D (c := 7) (f := 13) rfl rfl e2 rfl (fxP_big (dyn_of (c := 7) e2 rfl))) ?_
              refine Sp.ocrn (fun a75 e76 => ?_)
              refine Sp.step rfl rfl rfl rfl ?_
              refine Sp.ocn (fun n77 e78 => ?_)
              refine Sp.guard (fun e79 => ?_)
              refine Sp.step rfl rfl rfl (xld (xL_ok e78) (by decide) e79) ?_
              refine Sp.step rfl rfl rfl rfl ?_
              refine Sp.step rfl rfl rfl rfl ?_
              refine Sp.callP rfl rfl rfl rfl s_within (fun e80 => ?_) (fun e80 => ?_)
              · refine Sp.id (pc := 87) (l := [some (.ref 22), some (.ref x), some (.int x1), some (.int 0), none]) (st := [.int 1]) (h := hS X M) ?_
                refine Sp.step rfl rfl rfl rfl ?_
                refine Sp.step rfl rfl rfl rfl ?_
                refine Sp.step rfl rfl rfl rfl ?_
                refine Sp.step rfl rfl rfl rfl ?_
                refine Sp.step rfl rfl rfl rfl ?_
                refine Sp.step rfl rfl rfl rfl ?_
                refine Sp.step rfl rfl rfl rfl ?_
                exact Sp.iret rfl rfl rfl rfl (fun _ _ h => h)
              · refine Sp.id (pc := 87) (l := [some (.ref 22), some (.ref x), some (.int x1), some (.int 0), none]) (st := [.int 0]) (h := hS X M) ?_
                refine Sp.step rfl rfl rfl rfl ?_
                refine Sp.step rfl rfl rfl rfl ?_
                refine Sp.step rfl rfl rfl rfl ?_
                refine Sp.step rfl rfl rfl rfl ?_
                refine Sp.step rfl rfl rfl rfl ?_
                refine Sp.step rfl rfl rfl rfl ?_
                exact Sp.iret rfl rfl rfl rfl (fun _ _ h => h)
          · refine Sp.step rfl rfl rfl rfl ?_
            refine Sp.step rfl rfl rfl rfl ?_
            refine Sp.step rfl rfl rfl rfl ?_
            refine Sp.step rfl rfl rfl rfl ?_
            refine Sp.step rfl rfl rfl (xg_F (c := 1) (f := 1) rfl rfl rfl rfl rfl) ?_
            refine Sp.step rfl rfl rfl rfl ?_
            refine Sp.step rfl rfl rfl (xg_D (c := 7) (f := 13) rfl rfl e2 rfl (fxP_big (dyn_of (c := 7) e2 rfl))) ?_
            refine Sp.ocrn (fun a85 e86 => ?_)
            refine Sp.step rfl rfl rfl rfl ?_
            refine Sp.ocn (fun n87 e88 => ?_)
            refine Sp.guard (fun e89 => ?_)
            refine Sp.step rfl rfl rfl (xld (xL_ok e88) (by decide) e89) ?_
            refine Sp.callS rfl rfl rfl (xrecv (c := 8) (by decide) rfl (by decide +kernel)) s_Source_isKind ⟨rfl, rfl⟩ ?_
            refine Sp.bool (fun e90 => ?_) (fun e90 => ?_)
            · refine Sp.id (pc := 72) (l := [some (.ref 22), some (.ref x), some (.int x1), some (.int 1), none]) (st := [.int 1]) (h := hS X M) ?_
              refine Sp.step rfl rfl rfl rfl ?_
              refine Sp.step rfl rfl rfl rfl ?_
              refine Sp.step rfl rfl rfl rfl ?_
              refine Sp.step rfl rfl rfl rfl ?_
              refine Sp.step rfl rfl rfl rfl ?_
              refine Sp.step rfl rfl rfl rfl ?_
              refine Sp.step rfl rfl rfl rfl ?_
              refine Sp.step rfl rfl rfl rfl ?_
              refine Sp.step rfl rfl rfl rfl ?_
              refine Sp.step rfl rfl rfl (xg_D (c := 7) (f := 12) rfl rfl e2 rfl (fxP_big (dyn_of (c := 7) e2 rfl))) ?_
              refine Sp.ocrn (fun a94 e95 => ?_)
              refine Sp.step rfl rfl rfl rfl ?_
              refine Sp.ocn (fun n96 e97 => ?_)
              refine Sp.guard (fun e98 => ?_)
              refine Sp.step rfl rfl rfl (xld (xL_ok e97) (by decide) e98) ?_
              refine Sp.step rfl rfl rfl rfl ?_
              refine Sp.step rfl rfl rfl rfl ?_
              refine Sp.step rfl rfl rfl (xg_I (c := 7) (f := 6) rfl rfl e2 rfl) ?_
              refine Sp.step rfl rfl rfl rfl ?_
              refine Sp.step rfl rfl rfl rfl ?_
              refine Sp.callP rfl rfl rfl rfl s_within (fun e99 => ?_) (fun e99 => ?_)
              · refine Sp.id (pc := 122) (l := [some (.ref 22), some (.ref x), some (.int x1), some (.int 1), some (.int 1)]) (st := [.int 1]) (h := hS X M) ?_
                refine Sp.step rfl rfl rfl rfl ?_
                refine Sp.step rfl rfl rfl rfl ?_
                refine Sp.step rfl rfl rfl rfl ?_
                exact Sp.jmp (l0 := [some (.ref 22), some (.ref x), some (.int (x1 + 1)), none, none]) ⟨rfl, rfl, rfl, trivial⟩ (fun _ _ h => h)
              · refine Sp.id (pc := 122) (l := [some (.ref 22), some (.ref x), some (.int x1), some (.int 1), some (.int 1)]) (st := [.int 0]) (h := hS X M) ?_
                refine Sp.step rfl rfl rfl rfl ?_
                refine Sp.step rfl rfl rfl rfl ?_
                exact Sp.iret rfl rfl rfl rfl (fun _ _ h => h)
            · refine Sp.id (pc := 72) (l := [some (.ref 22), some (.ref x), some (.int x1), some (.int 1), none]) (st := [.int 0]) (h := hS X M) ?_
              refine Sp.step rfl rfl rfl rfl ?_
              refine Sp.step rfl rfl rfl rfl ?_
              refine Sp.step rfl rfl rfl (xg_D (c := 7) (f := 13) rfl rfl e2 rfl (fxP_big (dyn_of (c := 7) e2 rfl))) ?_
              refine Sp.ocrn (fun a103 e104 => ?_)
              refine Sp.step rfl rfl rfl rfl ?_
              refine Sp.ocn (fun n105 e106 => ?_)
              refine Sp.guard (fun e107 => ?_)
              refine Sp.step rfl rfl rfl (xld (xL_ok e106) (by decide) e107) ?_
              refine Sp.step rfl rfl rfl rfl ?_
              refine Sp.step rfl rfl rfl rfl ?_
              refine Sp.callP rfl rfl rfl rfl s_within (fun e108 => ?_) (fun e108 => ?_)
              · refine Sp.id (pc := 87) (l := [some (.ref 22), some (.ref x), some (.int x1), some (.int 1), none]) (st := [.int 1]) (h := hS X M) ?_
                refine Sp.step rfl rfl rfl rfl ?_
                refine Sp.step rfl rfl rfl rfl ?_
                refine Sp.step rfl rfl rfl rfl ?_
                refine Sp.step rfl rfl rfl rfl ?_
                refine Sp.step rfl rfl rfl rfl ?_
                refine Sp.step rfl rfl rfl rfl ?_
                refine Sp.step rfl rfl rfl rfl ?_
                refine Sp.step rfl rfl rfl rfl ?_
                refine Sp.step rfl rfl rfl rfl ?_
                refine Sp.step rfl rfl rfl (xg_D (c := 7) (f := 12) rfl rfl e2 rfl (fxP_big (dyn_of (c := 7) e2 rfl))) ?_
                refine Sp.ocrn (fun a112 e113 => ?_)
                refine Sp.step rfl rfl rfl rfl ?_
                refine Sp.ocn (fun n114 e115 => ?_)
                refine Sp.guard (fun e116 => ?_)
                refine Sp.step rfl rfl rfl (xld (xL_ok e115) (by decide) e116) ?_
                refine Sp.step rfl rfl rfl rfl ?_
                refine Sp.step rfl rfl rfl rfl ?_
                refine Sp.step rfl rfl rfl (xg_I (c := 7) (f := 6) rfl rfl e2 rfl) ?_
                refine Sp.step rfl rfl rfl rfl ?_
                refine Sp.step rfl rfl rfl rfl ?_
                refine Sp.callP rfl rfl rfl rfl s_within (fun e117 => ?_) (fun e117 => ?_)
                · refine Sp.id (pc := 122) (l := [some (.ref 22), some (.ref x), some (.int x1), some (.int 1), some (.int 1)]) (st := [.int 1]) (h := hS X M) ?_
                  refine Sp.step rfl rfl rfl rfl ?_
                  refine Sp.step rfl rfl rfl rfl ?_
                  refine Sp.step rfl rfl rfl rfl ?_
                  exact Sp.jmp (l0 := [some (.ref 22), some (.ref x), some (.int (x1 + 1)), none, none]) ⟨rfl, rfl, rfl, trivial⟩ (fun _ _ h => h)
                · refine Sp.id (pc := 122) (l := [some (.ref 22), some (.ref x), some (.int x1), some (.int 1), some (.int 1)]) (st := [.int 0]) (h := hS X M) ?_
                  refine Sp.step rfl rfl rfl rfl ?_
                  refine Sp.step rfl rfl rfl rfl ?_
                  exact Sp.iret rfl rfl rfl rfl (fun _ _ h => h)
              · refine Sp.id (pc := 87) (l := [some (.ref 22), some (.ref x), some (.int x1), some (.int 1), none]) (st := [.int 0]) (h := hS X M) ?_
                refine Sp.step rfl rfl rfl rfl ?_
                refine Sp.step rfl rfl rfl rfl ?_
                refine Sp.step rfl rfl rfl rfl ?_
                refine Sp.step rfl rfl rfl rfl ?_
                refine Sp.step rfl rfl rfl rfl ?_
                refine Sp.step rfl rfl rfl rfl ?_
                refine Sp.step rfl rfl rfl rfl ?_
                refine Sp.step rfl rfl rfl rfl ?_
                exact Sp.iret rfl rfl rfl rfl (fun _ _ h => h)
def b5_Arrays_fill_292 (x : Int32) (x5 : (Int32 × XS)) : Option ((Int32 × XS) ⊕ (Int32 × XS)) := (if 12 ≤ x5.1 then some (.inr (x5.1, x5.2)) else (if ixo x5.1 12 then (lt (xw x5.2 29 x5.1.toNatClampNeg x) fun X8 => some (.inl (x5.1 + 1, X8))) else none))
def f_Arrays_fill_292 (x : Int32) (X : XS) : Option XS := ((lp (b5_Arrays_fill_292 x) 10000 ((0 : Int32), X)).bind fun x9 => some x9.2)
set_option maxRecDepth 100000 in
set_option maxHeartbeats 4000000 in
theorem s_Arrays_fill_292 {L : Nat} {xs : Nat → Int32} {X : XS} {M : MS} {x : Int32} : Sp (mjOO L xs) 306 0 [some (.ref 29), some (.int x), none, none] [] (hS X M) (f_Arrays_fill_292 x X) (KVX M) := by
  unfold f_Arrays_fill_292
  refine Sp.step rfl rfl rfl rfl ?_
  refine Sp.step rfl rfl rfl rfl ?_
  refine Sp.step rfl rfl rfl rfl ?_
  refine Sp.step rfl rfl rfl (xlen rfl (by decide)) ?_
  refine Sp.step rfl rfl rfl rfl ?_
  refine Sp.weak (l0 := [some (.ref 29), some (.int x), some (.int 0), some (.int 12)]) ⟨rfl, rfl, rfl, rfl, trivial⟩ ?_
  refine Sp.loopX (pe := 20) (mf := (fun (x5 : (Int32 × XS)) => [some (.ref 29), some (.int x), some (.int x5.1), some (.int 12)])) (hf := (fun (x5 : (Int32 × XS)) => hS x5.2 M)) (fun x5 => ?_) (fun x9 => ?_) _ _
  · unfold b5_Arrays_fill_292
    refine Sp.step rfl rfl rfl rfl ?_
    refine Sp.step rfl rfl rfl rfl ?_
    refine Sp.if2 rfl rfl rfl rfl (fun e6 => ?_) (fun e6 => ?_)
    · exact Sp.jmp (l0 := [some (.ref 29), some (.int x), some (.int x5.1), some (.int 12)]) ⟨rfl, rfl, rfl, rfl, trivial⟩ (fun _ _ h => h)
    · refine Sp.step rfl rfl rfl rfl ?_
      refine Sp.step rfl rfl rfl rfl ?_
      refine Sp.step rfl rfl rfl rfl ?_
      refine Sp.guard (fun e7 => ?_)
      refine Sp.step rfl rfl rfl (xst rfl (by decide) e7) ?_
      refine Sp.step rfl rfl rfl rfl ?_
      refine Sp.step rfl rfl rfl rfl ?_
      exact Sp.jmp (l0 := [some (.ref 29), some (.int x), some (.int (x5.1 + 1)), some (.int 12)]) ⟨rfl, rfl, rfl, rfl, trivial⟩ (fun _ _ h => h)
  · exact Sp.vret rfl rfl rfl (fun _ _ h => h)
def f_Routine_takenKind (x : Nat) (y : Int32) (X : XS) : Option Int32 := (if (xT X x = some (12, 0)) then ((f_Routine_isStatic x X).bind fun x2 => (if x2 = true then ((f_Routine_isStatic x X).bind fun x5 => (if x5 = true then (if ¬ ((X.1 x 3 : Int32) >>> ((y : Int32) &&& 31)) &&& 1 = 1 then some 1 else some 2) else (if ¬ ((X.1 x 3 : Int32) >>> ((y - 1 : Int32) &&& 31)) &&& 1 = 1 then some 1 else some 2))) else (if ¬ y = 0 then ((f_Routine_isStatic x X).bind fun x13 => (if x13 = true then (if ¬ ((X.1 x 3 : Int32) >>> ((y : Int32) &&& 31)) &&& 1 = 1 then some 1 else some 2) else (if ¬ ((X.1 x 3 : Int32) >>> ((y - 1 : Int32) &&& 31)) &&& 1 = 1 then some 1 else some 2))) else some 2))) else none)
set_option maxRecDepth 100000 in
set_option maxHeartbeats 4000000 in
theorem s_Routine_takenKind {L : Nat} {xs : Nat → Int32} {X : XS} {M : MS} {x : Nat} {y : Int32} : Sp (mjOO L xs) 259 0 [some (.ref x), some (.int y), none] [] (hS X M) (f_Routine_takenKind x y X) (KQ (hS X M)) := by
  unfold f_Routine_takenKind
  refine Sp.step rfl rfl rfl rfl ?_
  refine Sp.guard (fun e1 => ?_)
  refine Sp.call rfl rfl rfl (xrecv (c := 7) (by decide) e1 (by decide +kernel)) s_Routine_isStatic (fun x2 => ⟨_, _, ⟨rfl, rfl⟩, ?_⟩)
  refine Sp.bool (fun e3 => ?_) (fun e3 => ?_)
  · refine Sp.id (pc := 4) (l := [some (.ref x), some (.int y), none]) (st := [.int 1]) (h := hS X M) ?_
    refine Sp.step rfl rfl rfl rfl ?_
    refine Sp.step rfl rfl rfl rfl ?_
    refine Sp.call rfl rfl rfl (xrecv (c := 7) (by decide) e1 (by decide +kernel)) s_Routine_isStatic (fun x5 => ⟨_, _, ⟨rfl, rfl⟩, ?_⟩)
    refine Sp.bool (fun e6 => ?_) (fun e6 => ?_)
    · refine Sp.id (pc := 17) (l := [some (.ref x), some (.int y), none]) (st := [.int 1]) (h := hS X M) ?_
      refine Sp.step rfl rfl rfl rfl ?_
      refine Sp.step rfl rfl rfl rfl ?_
      refine Sp.step rfl rfl rfl rfl ?_
      refine Sp.step rfl rfl rfl rfl ?_
      refine Sp.step rfl rfl rfl rfl ?_
      refine Sp.step rfl rfl rfl (xg_I (c := 7) (f := 3) rfl rfl e1 rfl) ?_
      refine Sp.step rfl rfl rfl rfl ?_
      refine Sp.step rfl rfl rfl rfl ?_
      refine Sp.step rfl rfl rfl rfl ?_
      refine Sp.step rfl rfl rfl rfl ?_
      refine Sp.step rfl rfl rfl rfl ?_
      refine Sp.if2 rfl rfl rfl rfl (fun e8 => ?_) (fun e8 => ?_)
      · refine Sp.step rfl rfl rfl rfl ?_
        exact Sp.iret rfl rfl rfl rfl (fun _ _ h => h)
      · refine Sp.step rfl rfl rfl rfl ?_
        refine Sp.step rfl rfl rfl rfl ?_
        exact Sp.iret rfl rfl rfl rfl (fun _ _ h => h)
    · refine Sp.id (pc := 17) (l := [some (.ref x), some (.int y), none]) (st := [.int 0]) (h := hS X M) ?_
      refine Sp.step rfl rfl rfl rfl ?_
      refine Sp.step rfl rfl rfl rfl ?_
      refine Sp.step rfl rfl rfl rfl ?_
      refine Sp.step rfl rfl rfl rfl ?_
      refine Sp.step rfl rfl rfl rfl ?_
      refine Sp.step rfl rfl rfl rfl ?_
      refine Sp.step rfl rfl rfl (xg_I (c := 7) (f := 3) rfl rfl e1 rfl) ?_
      refine Sp.step rfl rfl rfl rfl ?_
      refine Sp.step rfl rfl rfl rfl ?_
      refine Sp.step rfl rfl rfl rfl ?_
      refine Sp.step rfl rfl rfl rfl ?_
      refine Sp.step rfl rfl rfl rfl ?_
      refine Sp.if2 rfl rfl rfl rfl (fun e10 => ?_) (fun e10 => ?_)
      · refine Sp.step rfl rfl rfl rfl ?_
        exact Sp.iret rfl rfl rfl rfl (fun _ _ h => h)
      · refine Sp.step rfl rfl rfl rfl ?_
        refine Sp.step rfl rfl rfl rfl ?_
        exact Sp.iret rfl rfl rfl rfl (fun _ _ h => h)
  · refine Sp.id (pc := 4) (l := [some (.ref x), some (.int y), none]) (st := [.int 0]) (h := hS X M) ?_
    refine Sp.step rfl rfl rfl rfl ?_
    refine Sp.step rfl rfl rfl rfl ?_
    refine Sp.if1 rfl rfl rfl rfl (fun e12 => ?_) (fun e12 => ?_)
    · refine Sp.step rfl rfl rfl rfl ?_
      refine Sp.call rfl rfl rfl (xrecv (c := 7) (by decide) e1 (by decide +kernel)) s_Routine_isStatic (fun x13 => ⟨_, _, ⟨rfl, rfl⟩, ?_⟩)
      refine Sp.bool (fun e14 => ?_) (fun e14 => ?_)
      · refine Sp.id (pc := 17) (l := [some (.ref x), some (.int y), none]) (st := [.int 1]) (h := hS X M) ?_
        refine Sp.step rfl rfl rfl rfl ?_
        refine Sp.step rfl rfl rfl rfl ?_
        refine Sp.step rfl rfl rfl rfl ?_
        refine Sp.step rfl rfl rfl rfl ?_
        refine Sp.step rfl rfl rfl rfl ?_
        refine Sp.step rfl rfl rfl (xg_I (c := 7) (f := 3) rfl rfl e1 rfl) ?_
        refine Sp.step rfl rfl rfl rfl ?_
        refine Sp.step rfl rfl rfl rfl ?_
        refine Sp.step rfl rfl rfl rfl ?_
        refine Sp.step rfl rfl rfl rfl ?_
        refine Sp.step rfl rfl rfl rfl ?_
        refine Sp.if2 rfl rfl rfl rfl (fun e16 => ?_) (fun e16 => ?_)
        · refine Sp.step rfl rfl rfl rfl ?_
          exact Sp.iret rfl rfl rfl rfl (fun _ _ h => h)
        · refine Sp.step rfl rfl rfl rfl ?_
          refine Sp.step rfl rfl rfl rfl ?_
          exact Sp.iret rfl rfl rfl rfl (fun _ _ h => h)
      · refine Sp.id (pc := 17) (l := [some (.ref x), some (.int y), none]) (st := [.int 0]) (h := hS X M) ?_
        refine Sp.step rfl rfl rfl rfl ?_
        refine Sp.step rfl rfl rfl rfl ?_
        refine Sp.step rfl rfl rfl rfl ?_
        refine Sp.step rfl rfl rfl rfl ?_
        refine Sp.step rfl rfl rfl rfl ?_
        refine Sp.step rfl rfl rfl rfl ?_
        refine Sp.step rfl rfl rfl (xg_I (c := 7) (f := 3) rfl rfl e1 rfl) ?_
        refine Sp.step rfl rfl rfl rfl ?_
        refine Sp.step rfl rfl rfl rfl ?_
        refine Sp.step rfl rfl rfl rfl ?_
        refine Sp.step rfl rfl rfl rfl ?_
        refine Sp.step rfl rfl rfl rfl ?_
        refine Sp.if2 rfl rfl rfl rfl (fun e18 => ?_) (fun e18 => ?_)
        · refine Sp.step rfl rfl rfl rfl ?_
          exact Sp.iret rfl rfl rfl rfl (fun _ _ h => h)
        · refine Sp.step rfl rfl rfl rfl ?_
          refine Sp.step rfl rfl rfl rfl ?_
          exact Sp.iret rfl rfl rfl rfl (fun _ _ h => h)
    · refine Sp.step rfl rfl rfl rfl ?_
      exact Sp.iret rfl rfl rfl rfl (fun _ _ h => h)
def b15_Flow_sameStack_28 (x : Int32) (y : Int32) (X : XS) (x3 : Int32) : Option (Int32 ⊕ Bool) := (if y ≤ x3 then some (.inr true) else (if ixo ((x * 10) + x3) 600 then (if ixo x3 10 then (if X.1 26 ((x * 10) + x3).toNatClampNeg = X.1 28 x3.toNatClampNeg then some (.inl (x3 + 1)) else some (.inr false)) else none) else none))
def f_Flow_sameStack_28 (x : Int32) (y : Int32) (X : XS) : Option Bool := (if ixo x 60 then (if X.1 25 x.toNatClampNeg = y then (lp (b15_Flow_sameStack_28 x y X) 10000 (0 : Int32)) else some false) else none)
set_option maxRecDepth 100000 in
set_option maxHeartbeats 4000000 in
theorem s_Flow_sameStack_28 {L : Nat} {xs : Nat → Int32} {X : XS} {M : MS} {x : Int32} {y : Int32} : Sp (mjOO L xs) 144 0 [some (.ref 22), some (.int x), some (.ref 28), some (.int y), none] [] (hS X M) (f_Flow_sameStack_28 x y X) (KB (hS X M)) := by
  unfold f_Flow_sameStack_28
  refine Sp.step rfl rfl rfl rfl ?_
  refine Sp.step rfl rfl rfl (xg_F (c := 1) (f := 4) rfl rfl rfl rfl rfl) ?_
  refine Sp.step rfl rfl rfl rfl ?_
  refine Sp.guard (fun e1 => ?_)
  refine Sp.step rfl rfl rfl (xld rfl (by decide) e1) ?_
  refine Sp.step rfl rfl rfl rfl ?_
  refine Sp.if2 rfl rfl rfl rfl (fun e2 => ?_) (fun e2 => ?_)
  · refine Sp.step rfl rfl rfl rfl ?_
    refine Sp.step rfl rfl rfl rfl ?_
    refine Sp.weak (l0 := [some (.ref 22), some (.int x), some (.ref 28), some (.int y), some (.int 0)]) ⟨rfl, rfl, rfl, rfl, rfl, trivial⟩ ?_
    refine Sp.loopL (mf := (fun (x3 : Int32) => [some (.ref 22), some (.int x), some (.ref 28), some (.int y), some (.int x3)])) (hf := (fun (x3 : Int32) => hS X M)) (fun x3 => ?_) _ _
    unfold b15_Flow_sameStack_28
    refine Sp.step rfl rfl rfl rfl ?_
    refine Sp.step rfl rfl rfl rfl ?_
    refine Sp.if2 rfl rfl rfl rfl (fun e4 => ?_) (fun e4 => ?_)
    · refine Sp.step rfl rfl rfl rfl ?_
      exact Sp.iret rfl rfl rfl rfl (fun _ _ h => h)
    · refine Sp.step rfl rfl rfl rfl ?_
      refine Sp.step rfl rfl rfl (xg_F (c := 1) (f := 5) rfl rfl rfl rfl rfl) ?_
      refine Sp.step rfl rfl rfl rfl ?_
      refine Sp.step rfl rfl rfl rfl ?_
      refine Sp.step rfl rfl rfl rfl ?_
      refine Sp.step rfl rfl rfl rfl ?_
      refine Sp.step rfl rfl rfl rfl ?_
      refine Sp.guard (fun e5 => ?_)
      refine Sp.step rfl rfl rfl (xld rfl (by decide) e5) ?_
      refine Sp.step rfl rfl rfl rfl ?_
      refine Sp.step rfl rfl rfl rfl ?_
      refine Sp.guard (fun e6 => ?_)
      refine Sp.step rfl rfl rfl (xld rfl (by decide) e6) ?_
      refine Sp.if2 rfl rfl rfl rfl (fun e7 => ?_) (fun e7 => ?_)
      · refine Sp.step rfl rfl rfl rfl ?_
        refine Sp.step rfl rfl rfl rfl ?_
        exact Sp.jmp (l0 := [some (.ref 22), some (.int x), some (.ref 28), some (.int y), some (.int (x3 + 1))]) ⟨rfl, rfl, rfl, rfl, rfl, trivial⟩ (fun _ _ h => h)
      · refine Sp.step rfl rfl rfl rfl ?_
        exact Sp.iret rfl rfl rfl rfl (fun _ _ h => h)
  · refine Sp.step rfl rfl rfl rfl ?_
    exact Sp.iret rfl rfl rfl rfl (fun _ _ h => h)
def b2_Flow_mergeLocals (x : Int32) (x10 : (Int32 × XS)) : Option ((Int32 × XS) ⊕ (Int32 × XS)) := (if 12 ≤ x10.1 then some (.inr (x10.1, x10.2)) else (if ixo ((x * 12) + x10.1) 720 then (if x10.2.1 27 ((x * 12) + x10.1).toNatClampNeg = 0 then some (.inl (x10.1 + 1, x10.2)) else (if ixo x10.1 12 then (if x10.2.1 27 ((x * 12) + x10.1).toNatClampNeg = x10.2.1 29 x10.1.toNatClampNeg then some (.inl (x10.1 + 1, x10.2)) else (lt (xw x10.2 27 ((x * 12) + x10.1).toNatClampNeg 0) fun X16 => (if ixo x 60 then (lt (xw X16 24 x.toNatClampNeg 1) fun X18 => some (.inl (x10.1 + 1, X18))) else none))) else none)) else none))
def f_Flow_mergeLocals (x : Int32) (X : XS) : Option XS := ((lp (b2_Flow_mergeLocals x) 10000 ((0 : Int32), X)).bind fun x19 => some x19.2)
set_option maxRecDepth 100000 in
set_option maxHeartbeats 4000000 in
theorem s_Flow_mergeLocals {L : Nat} {xs : Nat → Int32} {X : XS} {M : MS} {x : Int32} : Sp (mjOO L xs) 145 0 [some (.ref 22), some (.int x), none, none] [] (hS X M) (f_Flow_mergeLocals x X) (KVX M) := by
  unfold f_Flow_mergeLocals
  refine Sp.step rfl rfl rfl rfl ?_
  refine Sp.step rfl rfl rfl rfl ?_
  refine Sp.weak (l0 := [some (.ref 22), some (.int x), some (.int 0), none]) ⟨rfl, rfl, rfl, trivial⟩ ?_
  refine Sp.loopX (pe := 59) (mf := (fun (x10 : (Int32 × XS)) => [some (.ref 22), some (.int x), some (.int x10.1), none])) (hf := (fun (x10 : (Int32 × XS)) => hS x10.2 M)) (fun x10 => ?_) (fun x19 => ?_) _ _
  · unfold b2_Flow_mergeLocals
    refine Sp.step rfl rfl rfl rfl ?_
    refine Sp.step rfl rfl rfl rfl ?_
    refine Sp.if2 rfl rfl rfl rfl (fun e11 => ?_) (fun e11 => ?_)
    · exact Sp.jmp (l0 := [some (.ref 22), some (.int x), some (.int x10.1), none]) ⟨rfl, rfl, rfl, trivial⟩ (fun _ _ h => h)
    · refine Sp.step rfl rfl rfl rfl ?_
      refine Sp.step rfl rfl rfl rfl ?_
      refine Sp.step rfl rfl rfl rfl ?_
      refine Sp.step rfl rfl rfl rfl ?_
      refine Sp.step rfl rfl rfl rfl ?_
      refine Sp.step rfl rfl rfl rfl ?_
      refine Sp.step rfl rfl rfl rfl ?_
      refine Sp.step rfl rfl rfl (xg_F (c := 1) (f := 6) rfl rfl rfl rfl rfl) ?_
      refine Sp.step rfl rfl rfl rfl ?_
      refine Sp.guard (fun e12 => ?_)
      refine Sp.step rfl rfl rfl (xld rfl (by decide) e12) ?_
      refine Sp.if1 rfl rfl rfl rfl (fun e13 => ?_) (fun e13 => ?_)
      · refine Sp.step rfl rfl rfl rfl ?_
        refine Sp.step rfl rfl rfl rfl ?_
        exact Sp.jmp (l0 := [some (.ref 22), some (.int x), some (.int (x10.1 + 1)), none]) ⟨rfl, rfl, rfl, trivial⟩ (fun _ _ h => h)
      · refine Sp.step rfl rfl rfl rfl ?_
        refine Sp.step rfl rfl rfl (xg_F (c := 1) (f := 6) rfl rfl rfl rfl rfl) ?_
        refine Sp.step rfl rfl rfl rfl ?_
        refine Sp.step rfl rfl rfl (xld rfl (by decide) e12) ?_
        refine Sp.step rfl rfl rfl rfl ?_
        refine Sp.step rfl rfl rfl (xg_F (c := 1) (f := 8) rfl rfl rfl rfl rfl) ?_
        refine Sp.step rfl rfl rfl rfl ?_
        refine Sp.guard (fun e14 => ?_)
        refine Sp.step rfl rfl rfl (xld rfl (by decide) e14) ?_
        refine Sp.if2 rfl rfl rfl rfl (fun e15 => ?_) (fun e15 => ?_)
        · refine Sp.step rfl rfl rfl rfl ?_
          refine Sp.step rfl rfl rfl rfl ?_
          exact Sp.jmp (l0 := [some (.ref 22), some (.int x), some (.int (x10.1 + 1)), none]) ⟨rfl, rfl, rfl, trivial⟩ (fun _ _ h => h)
        · refine Sp.step rfl rfl rfl rfl ?_
          refine Sp.step rfl rfl rfl (xg_F (c := 1) (f := 6) rfl rfl rfl rfl rfl) ?_
          refine Sp.step rfl rfl rfl rfl ?_
          refine Sp.step rfl rfl rfl rfl ?_
          refine Sp.step rfl rfl rfl (xst rfl (by decide) e12) ?_
          refine Sp.step rfl rfl rfl rfl ?_
          refine Sp.step rfl rfl rfl (xg_F (c := 1) (f := 3) rfl rfl rfl rfl rfl) ?_
          refine Sp.step rfl rfl rfl rfl ?_
          refine Sp.step rfl rfl rfl rfl ?_
          refine Sp.guard (fun e17 => ?_)
          refine Sp.step rfl rfl rfl (xst1 rfl e17) ?_
          refine Sp.step rfl rfl rfl rfl ?_
          refine Sp.step rfl rfl rfl rfl ?_
          exact Sp.jmp (l0 := [some (.ref 22), some (.int x), some (.int (x10.1 + 1)), none]) ⟨rfl, rfl, rfl, trivial⟩ (fun _ _ h => h)
  · exact Sp.vret rfl rfl rfl (fun _ _ h => h)
def f_Flow_comeTo_28 (x : Int32) (y : Int32) (X : XS) : Option XS := (if 0 ≤ x ∧ x ≤ 59 then (if 0 ≤ y ∧ y ≤ (if 10 < 10 then 10 else 10) then (if ¬ X.1 23 x.toNatClampNeg = 0 then ((f_Flow_sameStack_28 x y X).bind fun x6 => (if x6 = true then ((f_Flow_mergeLocals x X).bind fun x9 => some x9) else (lt (xw X 22 10 x) fun X11 => some X11))) else (lt (xw X 23 x.toNatClampNeg 1) fun X12 => (lt (xw X12 24 x.toNatClampNeg 1) fun X13 => (lt (xw X13 25 x.toNatClampNeg y) fun X14 => (lt (xw X14 22 0 (if X14.1 22 0 < y then y else X14.1 22 0)) fun X15 => (if cpo 0 (x * 10) y 10 600 then (lt (xc X15 (X15.1 28) 26 0 (x * 10).toNatClampNeg y.toNatClampNeg) fun X17 => (if cpo 0 (x * 12) 12 12 720 then (lt (xc X17 (X17.1 29) 27 0 (x * 12).toNatClampNeg 12) fun X19 => some X19) else none)) else none)))))) else some X) else some X)
set_option maxRecDepth 100000 in
set_option maxHeartbeats 4000000 in
theorem s_Flow_comeTo_28 {L : Nat} {xs : Nat → Int32} {X : XS} {M : MS} {x : Int32} {y : Int32} : Sp (mjOO L xs) 143 0 [some (.ref 22), some (.int x), some (.ref 28), some (.int y)] [] (hS X M) (f_Flow_comeTo_28 x y X) (KVX M) := by
  unfold f_Flow_comeTo_28
  refine Sp.step rfl rfl rfl rfl ?_
  refine Sp.step rfl rfl rfl rfl ?_
  refine Sp.step rfl rfl rfl rfl ?_
  refine Sp.callP rfl rfl rfl rfl s_within (fun e1 => ?_) (fun e1 => ?_)
  · refine Sp.id (pc := 7) (l := [some (.ref 22), some (.int x), some (.ref 28), some (.int y)]) (st := [.int 1]) (h := hS X M) ?_
    refine Sp.step rfl rfl rfl rfl ?_
    refine Sp.step rfl rfl rfl rfl ?_
    refine Sp.step rfl rfl rfl rfl ?_
    refine Sp.step rfl rfl rfl rfl ?_
    refine Sp.step rfl rfl rfl rfl ?_
    refine Sp.step rfl rfl rfl (xlen rfl (by decide)) ?_
    refine Sp.nat rfl rfl rfl rfl ⟨by decide, by decide, rfl⟩ ?_
    refine Sp.callP rfl rfl rfl rfl s_within (fun e3 => ?_) (fun e3 => ?_)
    · refine Sp.id (pc := 22) (l := [some (.ref 22), some (.int x), some (.ref 28), some (.int y)]) (st := [.int 1]) (h := hS X M) ?_
      refine Sp.step rfl rfl rfl rfl ?_
      refine Sp.step rfl rfl rfl rfl ?_
      refine Sp.step rfl rfl rfl (xg_F (c := 1) (f := 2) rfl rfl rfl rfl rfl) ?_
      refine Sp.step rfl rfl rfl rfl ?_
      refine Sp.step rfl rfl rfl (xld rfl (by decide) (ix_le (N := 59) rfl e1.1 e1.2)) ?_
      refine Sp.if1 rfl rfl rfl rfl (fun e5 => ?_) (fun e5 => ?_)
      · refine Sp.step rfl rfl rfl rfl ?_
        refine Sp.step rfl rfl rfl rfl ?_
        refine Sp.step rfl rfl rfl rfl ?_
        refine Sp.step rfl rfl rfl rfl ?_
        refine Sp.call rfl rfl rfl (xrecv (c := 1) (by decide) rfl (by decide +kernel)) s_Flow_sameStack_28 (fun x6 => ⟨_, _, ⟨rfl, rfl⟩, ?_⟩)
        refine Sp.bool (fun e7 => ?_) (fun e7 => ?_)
        · refine Sp.id (pc := 110) (l := [some (.ref 22), some (.int x), some (.ref 28), some (.int y)]) (st := [.int 1]) (h := hS X M) ?_
          refine Sp.step rfl rfl rfl rfl ?_
          refine Sp.step rfl rfl rfl rfl ?_
          refine Sp.step rfl rfl rfl rfl ?_
          refine Sp.call rfl rfl rfl (xrecv (c := 1) (by decide) rfl (by decide +kernel)) s_Flow_mergeLocals (fun x9 => ⟨_, _, ⟨rfl, rfl⟩, ?_⟩)
          refine Sp.id (pc := 126) (l := [some (.ref 22), some (.int x), some (.ref 28), some (.int y)]) (st := []) (h := hS x9 M) ?_
          exact Sp.vret rfl rfl rfl (fun _ _ h => h)
        · refine Sp.id (pc := 110) (l := [some (.ref 22), some (.int x), some (.ref 28), some (.int y)]) (st := [.int 0]) (h := hS X M) ?_
          refine Sp.step rfl rfl rfl rfl ?_
          refine Sp.step rfl rfl rfl rfl ?_
          refine Sp.step rfl rfl rfl rfl ?_
          refine Sp.step rfl rfl rfl (xp_I (c := 1) (f := 10) rfl rfl rfl rfl rfl) ?_
          refine Sp.step rfl rfl rfl rfl ?_
          exact Sp.vret rfl rfl rfl (fun _ _ h => h)
      · refine Sp.step rfl rfl rfl rfl ?_
        refine Sp.step rfl rfl rfl (xg_F (c := 1) (f := 2) rfl rfl rfl rfl rfl) ?_
        refine Sp.step rfl rfl rfl rfl ?_
        refine Sp.step rfl rfl rfl rfl ?_
        refine Sp.step rfl rfl rfl (xst1 rfl (ix_le (N := 59) rfl e1.1 e1.2)) ?_
        refine Sp.step rfl rfl rfl rfl ?_
        refine Sp.step rfl rfl rfl (xg_F (c := 1) (f := 3) rfl rfl rfl rfl rfl) ?_
        refine Sp.step rfl rfl rfl rfl ?_
        refine Sp.step rfl rfl rfl rfl ?_
        refine Sp.step rfl rfl rfl (xst1 rfl (ix_le (N := 59) rfl e1.1 e1.2)) ?_
        refine Sp.step rfl rfl rfl rfl ?_
        refine Sp.step rfl rfl rfl (xg_F (c := 1) (f := 4) rfl rfl rfl rfl rfl) ?_
        refine Sp.step rfl rfl rfl rfl ?_
        refine Sp.step rfl rfl rfl rfl ?_
        refine Sp.step rfl rfl rfl (xst rfl (by decide) (ix_le (N := 59) rfl e1.1 e1.2)) ?_
        refine Sp.step rfl rfl rfl rfl ?_
        refine Sp.step rfl rfl rfl rfl ?_
        refine Sp.step rfl rfl rfl (xg_I (c := 1) (f := 0) rfl rfl rfl rfl) ?_
        refine Sp.step rfl rfl rfl rfl ?_
        refine Sp.nat rfl rfl rfl rfl ⟨by decide, by decide, rfl⟩ ?_
        refine Sp.step rfl rfl rfl (xp_I (c := 1) (f := 0) rfl rfl rfl rfl rfl) ?_
        refine Sp.step rfl rfl rfl rfl ?_
        refine Sp.step rfl rfl rfl rfl ?_
        refine Sp.step rfl rfl rfl rfl ?_
        refine Sp.step rfl rfl rfl (xg_F (c := 1) (f := 5) rfl rfl rfl rfl rfl) ?_
        refine Sp.step rfl rfl rfl rfl ?_
        refine Sp.step rfl rfl rfl rfl ?_
        refine Sp.step rfl rfl rfl rfl ?_
        refine Sp.step rfl rfl rfl rfl ?_
        refine Sp.guard (fun e16 => ?_)
        refine Sp.nat rfl rfl rfl (xcopy rfl rfl (Or.inl rfl) e16) ⟨by decide, by decide, rfl⟩ ?_
        refine Sp.step rfl rfl rfl rfl ?_
        refine Sp.step rfl rfl rfl (xg_F (c := 1) (f := 8) rfl rfl rfl rfl rfl) ?_
        refine Sp.step rfl rfl rfl rfl ?_
        refine Sp.step rfl rfl rfl rfl ?_
        refine Sp.step rfl rfl rfl (xg_F (c := 1) (f := 6) rfl rfl rfl rfl rfl) ?_
        refine Sp.step rfl rfl rfl rfl ?_
        refine Sp.step rfl rfl rfl rfl ?_
        refine Sp.step rfl rfl rfl rfl ?_
        refine Sp.step rfl rfl rfl rfl ?_
        refine Sp.guard (fun e18 => ?_)
        refine Sp.nat rfl rfl rfl (xcopy rfl rfl (Or.inl rfl) e18) ⟨by decide, by decide, rfl⟩ ?_
        refine Sp.step rfl rfl rfl rfl ?_
        exact Sp.vret rfl rfl rfl (fun _ _ h => h)
    · refine Sp.id (pc := 22) (l := [some (.ref 22), some (.int x), some (.ref 28), some (.int y)]) (st := [.int 0]) (h := hS X M) ?_
      refine Sp.step rfl rfl rfl rfl ?_
      exact Sp.vret rfl rfl rfl (fun _ _ h => h)
  · refine Sp.id (pc := 7) (l := [some (.ref 22), some (.int x), some (.ref 28), some (.int y)]) (st := [.int 0]) (h := hS X M) ?_
    refine Sp.step rfl rfl rfl rfl ?_
    exact Sp.vret rfl rfl rfl (fun _ _ h => h)
def b2_Flow_begin (x6 : (Int32 × XS)) : Option ((Int32 × XS) ⊕ (Int32 × XS)) := (if 60 ≤ x6.1 then some (.inr (x6.1, x6.2)) else (if ixo x6.1 60 then (lt (xw x6.2 23 x6.1.toNatClampNeg 0) fun X9 => (lt (xw X9 24 x6.1.toNatClampNeg 0) fun X10 => some (.inl (x6.1 + 1, X10)))) else none))
def b53_Flow_begin (x : Nat) (x24 : (Int32 × XS)) : Option ((Int32 × XS) ⊕ (Int32 × XS)) := (if (xT x24.2 x = some (12, 0)) then ((f_Routine_taken x x24.2).bind fun x26 => (if x26 ≤ x24.1 then some (.inr (x24.1, x24.2)) else (if 12 ≤ x24.1 then some (.inr (x24.1, x24.2)) else ((f_Routine_takenKind x x24.1 x24.2).bind fun x29 => (if ixo x24.1 12 then (lt (xw x24.2 29 x24.1.toNatClampNeg x29) fun X31 => some (.inl (x24.1 + 1, X31))) else none))))) else none)
def f_Flow_begin (x : Nat) (X : XS) : Option XS := ((lp (b2_Flow_begin) 10000 ((0 : Int32), X)).bind fun x11 => (lt (xw x11.2 22 0 0) fun X12 => (lt (xw X12 22 10 (-1)) fun X13 => (lt (xw X13 22 9 0) fun X14 => ((f_Arrays_fill_292 0 X14).bind fun x15 => ((lp (b53_Flow_begin x) 10000 ((0 : Int32), x15)).bind fun x32 => ((f_Flow_comeTo_28 0 0 x32.2).bind fun x33 => some x33)))))))
set_option maxRecDepth 100000 in
set_option maxHeartbeats 4000000 in
theorem s_Flow_begin {L : Nat} {xs : Nat → Int32} {X : XS} {M : MS} {x : Nat} : Sp (mjOO L xs) 139 0 [some (.ref 22), some (.ref x), none] [] (hS X M) (f_Flow_begin x X) (KVX M) := by
  unfold f_Flow_begin
  refine Sp.step rfl rfl rfl rfl ?_
  refine Sp.step rfl rfl rfl rfl ?_
  refine Sp.weak (l0 := [some (.ref 22), some (.ref x), some (.int 0)]) ⟨rfl, rfl, rfl, trivial⟩ ?_
  refine Sp.loopX (pe := 28) (mf := (fun (x6 : (Int32 × XS)) => [some (.ref 22), some (.ref x), some (.int x6.1)])) (hf := (fun (x6 : (Int32 × XS)) => hS x6.2 M)) (fun x6 => ?_) (fun x11 => ?_) _ _
  · unfold b2_Flow_begin
    refine Sp.step rfl rfl rfl rfl ?_
    refine Sp.step rfl rfl rfl rfl ?_
    refine Sp.if2 rfl rfl rfl rfl (fun e7 => ?_) (fun e7 => ?_)
    · exact Sp.jmp (l0 := [some (.ref 22), some (.ref x), some (.int x6.1)]) ⟨rfl, rfl, rfl, trivial⟩ (fun _ _ h => h)
    · refine Sp.step rfl rfl rfl rfl ?_
      refine Sp.step rfl rfl rfl (xg_F (c := 1) (f := 2) rfl rfl rfl rfl rfl) ?_
      refine Sp.step rfl rfl rfl rfl ?_
      refine Sp.step rfl rfl rfl rfl ?_
      refine Sp.guard (fun e8 => ?_)
      refine Sp.step rfl rfl rfl (xst0 rfl e8) ?_
      refine Sp.step rfl rfl rfl rfl ?_
      refine Sp.step rfl rfl rfl (xg_F (c := 1) (f := 3) rfl rfl rfl rfl rfl) ?_
      refine Sp.step rfl rfl rfl rfl ?_
      refine Sp.step rfl rfl rfl rfl ?_
      refine Sp.step rfl rfl rfl (xst0 rfl e8) ?_
      refine Sp.step rfl rfl rfl rfl ?_
      refine Sp.step rfl rfl rfl rfl ?_
      exact Sp.jmp (l0 := [some (.ref 22), some (.ref x), some (.int (x6.1 + 1))]) ⟨rfl, rfl, rfl, trivial⟩ (fun _ _ h => h)
  · refine Sp.step rfl rfl rfl rfl ?_
    refine Sp.step rfl rfl rfl rfl ?_
    refine Sp.step rfl rfl rfl (xp_I (c := 1) (f := 0) rfl rfl rfl rfl rfl) ?_
    refine Sp.step rfl rfl rfl rfl ?_
    refine Sp.step rfl rfl rfl rfl ?_
    refine Sp.step rfl rfl rfl (xp_I (c := 1) (f := 10) rfl rfl rfl rfl rfl) ?_
    refine Sp.step rfl rfl rfl rfl ?_
    refine Sp.step rfl rfl rfl rfl ?_
    refine Sp.step rfl rfl rfl (xp_I (c := 1) (f := 9) rfl rfl rfl rfl rfl) ?_
    refine Sp.step rfl rfl rfl rfl ?_
    refine Sp.step rfl rfl rfl (xg_F (c := 1) (f := 8) rfl rfl rfl rfl rfl) ?_
    refine Sp.step rfl rfl rfl rfl ?_
    refine Sp.call rfl rfl rfl rfl s_Arrays_fill_292 (fun x15 => ⟨_, _, ⟨rfl, rfl⟩, ?_⟩)
    refine Sp.id (pc := 51) (l := [some (.ref 22), some (.ref x), some (.int x11.1)]) (st := []) (h := hS x15 M) ?_
    refine Sp.step rfl rfl rfl rfl ?_
    refine Sp.step rfl rfl rfl rfl ?_
    refine Sp.weak (l0 := [some (.ref 22), some (.ref x), some (.int 0)]) ⟨rfl, rfl, rfl, trivial⟩ ?_
    refine Sp.loopX (pe := 84) (mf := (fun (x24 : (Int32 × XS)) => [some (.ref 22), some (.ref x), some (.int x24.1)])) (hf := (fun (x24 : (Int32 × XS)) => hS x24.2 M)) (fun x24 => ?_) (fun x32 => ?_) _ _
    · unfold b53_Flow_begin
      refine Sp.step rfl rfl rfl rfl ?_
      refine Sp.step rfl rfl rfl rfl ?_
      refine Sp.guard (fun e25 => ?_)
      refine Sp.call rfl rfl rfl (xrecv (c := 7) (by decide) e25 (by decide +kernel)) s_Routine_taken (fun x26 => ⟨_, _, ⟨rfl, rfl⟩, ?_⟩)
      refine Sp.id (pc := 58) (l := [some (.ref 22), some (.ref x), some (.int x24.1)]) (st := [.int x26, .int x24.1]) (h := hS x24.2 M) ?_
      refine Sp.if2 rfl rfl rfl rfl (fun e27 => ?_) (fun e27 => ?_)
      · exact Sp.jmp (l0 := [some (.ref 22), some (.ref x), some (.int x24.1)]) ⟨rfl, rfl, rfl, trivial⟩ (fun _ _ h => h)
      · refine Sp.step rfl rfl rfl rfl ?_
        refine Sp.step rfl rfl rfl rfl ?_
        refine Sp.if2 rfl rfl rfl rfl (fun e28 => ?_) (fun e28 => ?_)
        · exact Sp.jmp (l0 := [some (.ref 22), some (.ref x), some (.int x24.1)]) ⟨rfl, rfl, rfl, trivial⟩ (fun _ _ h => h)
        · refine Sp.step rfl rfl rfl rfl ?_
          refine Sp.step rfl rfl rfl (xg_F (c := 1) (f := 8) rfl rfl rfl rfl rfl) ?_
          refine Sp.step rfl rfl rfl rfl ?_
          refine Sp.step rfl rfl rfl rfl ?_
          refine Sp.step rfl rfl rfl rfl ?_
          refine Sp.call rfl rfl rfl (xrecv (c := 7) (by decide) e25 (by decide +kernel)) s_Routine_takenKind (fun x29 => ⟨_, _, ⟨rfl, rfl⟩, ?_⟩)
          refine Sp.id (pc := 77) (l := [some (.ref 22), some (.ref x), some (.int x24.1)]) (st := [.int x29, .int x24.1, .ref 29]) (h := hS x24.2 M) ?_
          refine Sp.guard (fun e30 => ?_)
          refine Sp.step rfl rfl rfl (xst rfl (by decide) e30) ?_
          refine Sp.step rfl rfl rfl rfl ?_
          refine Sp.step rfl rfl rfl rfl ?_
          exact Sp.jmp (l0 := [some (.ref 22), some (.ref x), some (.int (x24.1 + 1))]) ⟨rfl, rfl, rfl, trivial⟩ (fun _ _ h => h)
    · refine Sp.step rfl rfl rfl rfl ?_
      refine Sp.step rfl rfl rfl rfl ?_
      refine Sp.step rfl rfl rfl rfl ?_
      refine Sp.step rfl rfl rfl (xg_F (c := 1) (f := 7) rfl rfl rfl rfl rfl) ?_
      refine Sp.step rfl rfl rfl rfl ?_
      refine Sp.call rfl rfl rfl (xrecv (c := 1) (by decide) rfl (by decide +kernel)) s_Flow_comeTo_28 (fun x33 => ⟨_, _, ⟨rfl, rfl⟩, ?_⟩)
      refine Sp.id (pc := 94) (l := [some (.ref 22), some (.ref x), some (.int x32.1)]) (st := []) (h := hS x33 M) ?_
      exact Sp.vret rfl rfl rfl (fun _ _ h => h)
def b2_Flow_lowestWaiting (X : XS) (x1 : Int32) : Option (Int32 ⊕ Int32) := (if 60 ≤ x1 then some (.inr (-1)) else (if ixo x1 60 then (if X.1 24 x1.toNatClampNeg = 0 then some (.inl (x1 + 1)) else some (.inr x1)) else none))
def f_Flow_lowestWaiting (X : XS) : Option Int32 := (lp (b2_Flow_lowestWaiting X) 10000 (0 : Int32))
set_option maxRecDepth 100000 in
set_option maxHeartbeats 4000000 in
theorem s_Flow_lowestWaiting {L : Nat} {xs : Nat → Int32} {X : XS} {M : MS} : Sp (mjOO L xs) 140 0 [some (.ref 22), none] [] (hS X M) (f_Flow_lowestWaiting X) (KQ (hS X M)) := by
  unfold f_Flow_lowestWaiting
  refine Sp.step rfl rfl rfl rfl ?_
  refine Sp.step rfl rfl rfl rfl ?_
  refine Sp.weak (l0 := [some (.ref 22), some (.int 0)]) ⟨rfl, rfl, trivial⟩ ?_
  refine Sp.loopL (mf := (fun (x1 : Int32) => [some (.ref 22), some (.int x1)])) (hf := (fun (x1 : Int32) => hS X M)) (fun x1 => ?_) _ _
  unfold b2_Flow_lowestWaiting
  refine Sp.step rfl rfl rfl rfl ?_
  refine Sp.step rfl rfl rfl rfl ?_
  refine Sp.if2 rfl rfl rfl rfl (fun e2 => ?_) (fun e2 => ?_)
  · refine Sp.step rfl rfl rfl rfl ?_
    exact Sp.iret rfl rfl rfl rfl (fun _ _ h => h)
  · refine Sp.step rfl rfl rfl rfl ?_
    refine Sp.step rfl rfl rfl (xg_F (c := 1) (f := 3) rfl rfl rfl rfl rfl) ?_
    refine Sp.step rfl rfl rfl rfl ?_
    refine Sp.guard (fun e3 => ?_)
    refine Sp.step rfl rfl rfl (xld rfl (by decide) e3) ?_
    refine Sp.if1 rfl rfl rfl rfl (fun e4 => ?_) (fun e4 => ?_)
    · refine Sp.step rfl rfl rfl rfl ?_
      refine Sp.step rfl rfl rfl rfl ?_
      exact Sp.jmp (l0 := [some (.ref 22), some (.int (x1 + 1))]) ⟨rfl, rfl, trivial⟩ (fun _ _ h => h)
    · refine Sp.step rfl rfl rfl rfl ?_
      exact Sp.iret rfl rfl rfl rfl (fun _ _ h => h)
def b15_Flow_sameStack_o4 (x : Int32) (y : Int32) (X : XS) (x3 : Int32) : Option (Int32 ⊕ Bool) := (if y ≤ x3 then some (.inr true) else (if ixo ((x * 10) + x3) 600 then (if ixo x3 1 then (if X.1 26 ((x * 10) + x3).toNatClampNeg = oT 4 x3.toNatClampNeg then some (.inl (x3 + 1)) else some (.inr false)) else none) else none))
def f_Flow_sameStack_o4 (x : Int32) (y : Int32) (X : XS) : Option Bool := (if ixo x 60 then (if X.1 25 x.toNatClampNeg = y then (lp (b15_Flow_sameStack_o4 x y X) 10000 (0 : Int32)) else some false) else none)
set_option maxRecDepth 100000 in
set_option maxHeartbeats 4000000 in
theorem s_Flow_sameStack_o4 {L : Nat} {xs : Nat → Int32} {X : XS} {M : MS} {x : Int32} {y : Int32} : Sp (mjOO L xs) 144 0 [some (.ref 22), some (.int x), some (.retAddr 4), some (.int y), none] [] (hS X M) (f_Flow_sameStack_o4 x y X) (KB (hS X M)) := by
  unfold f_Flow_sameStack_o4
  refine Sp.step rfl rfl rfl rfl ?_
  refine Sp.step rfl rfl rfl (xg_F (c := 1) (f := 4) rfl rfl rfl rfl rfl) ?_
  refine Sp.step rfl rfl rfl rfl ?_
  refine Sp.guard (fun e1 => ?_)
  refine Sp.step rfl rfl rfl (xld rfl (by decide) e1) ?_
  refine Sp.step rfl rfl rfl rfl ?_
  refine Sp.if2 rfl rfl rfl rfl (fun e2 => ?_) (fun e2 => ?_)
  · refine Sp.step rfl rfl rfl rfl ?_
    refine Sp.step rfl rfl rfl rfl ?_
    refine Sp.weak (l0 := [some (.ref 22), some (.int x), some (.retAddr 4), some (.int y), some (.int 0)]) ⟨rfl, rfl, rfl, rfl, rfl, trivial⟩ ?_
    refine Sp.loopL (mf := (fun (x3 : Int32) => [some (.ref 22), some (.int x), some (.retAddr 4), some (.int y), some (.int x3)])) (hf := (fun (x3 : Int32) => hS X M)) (fun x3 => ?_) _ _
    unfold b15_Flow_sameStack_o4
    refine Sp.step rfl rfl rfl rfl ?_
    refine Sp.step rfl rfl rfl rfl ?_
    refine Sp.if2 rfl rfl rfl rfl (fun e4 => ?_) (fun e4 => ?_)
    · refine Sp.step rfl rfl rfl rfl ?_
      exact Sp.iret rfl rfl rfl rfl (fun _ _ h => h)
    · refine Sp.step rfl rfl rfl rfl ?_
      refine Sp.step rfl rfl rfl (xg_F (c := 1) (f := 5) rfl rfl rfl rfl rfl) ?_
      refine Sp.step rfl rfl rfl rfl ?_
      refine Sp.step rfl rfl rfl rfl ?_
      refine Sp.step rfl rfl rfl rfl ?_
      refine Sp.step rfl rfl rfl rfl ?_
      refine Sp.step rfl rfl rfl rfl ?_
      refine Sp.guard (fun e5 => ?_)
      refine Sp.step rfl rfl rfl (xld rfl (by decide) e5) ?_
      refine Sp.step rfl rfl rfl rfl ?_
      refine Sp.step rfl rfl rfl rfl ?_
      refine Sp.guard (fun e6 => ?_)
      refine Sp.step rfl rfl rfl (old_ld (f := oT 4) rfl e6) ?_
      refine Sp.if2 rfl rfl rfl rfl (fun e7 => ?_) (fun e7 => ?_)
      · refine Sp.step rfl rfl rfl rfl ?_
        refine Sp.step rfl rfl rfl rfl ?_
        exact Sp.jmp (l0 := [some (.ref 22), some (.int x), some (.retAddr 4), some (.int y), some (.int (x3 + 1))]) ⟨rfl, rfl, rfl, rfl, rfl, trivial⟩ (fun _ _ h => h)
      · refine Sp.step rfl rfl rfl rfl ?_
        exact Sp.iret rfl rfl rfl rfl (fun _ _ h => h)
  · refine Sp.step rfl rfl rfl rfl ?_
    exact Sp.iret rfl rfl rfl rfl (fun _ _ h => h)
def f_Flow_comeTo_o4 (x : Int32) (y : Int32) (X : XS) : Option XS := (if 0 ≤ x ∧ x ≤ 59 then (if 0 ≤ y ∧ y ≤ (if 1 < 10 then 1 else 10) then (if ¬ X.1 23 x.toNatClampNeg = 0 then ((f_Flow_sameStack_o4 x y X).bind fun x6 => (if x6 = true then ((f_Flow_mergeLocals x X).bind fun x9 => some x9) else (lt (xw X 22 10 x) fun X11 => some X11))) else (lt (xw X 23 x.toNatClampNeg 1) fun X12 => (lt (xw X12 24 x.toNatClampNeg 1) fun X13 => (lt (xw X13 25 x.toNatClampNeg y) fun X14 => (lt (xw X14 22 0 (if X14.1 22 0 < y then y else X14.1 22 0)) fun X15 => (if cpo 0 (x * 10) y 1 600 then (lt (xc X15 (oT 4) 26 0 (x * 10).toNatClampNeg y.toNatClampNeg) fun X17 => (if cpo 0 (x * 12) 12 12 720 then (lt (xc X17 (X17.1 29) 27 0 (x * 12).toNatClampNeg 12) fun X19 => some X19) else none)) else none)))))) else some X) else some X)
set_option maxRecDepth 100000 in
set_option maxHeartbeats 4000000 in
theorem s_Flow_comeTo_o4 {L : Nat} {xs : Nat → Int32} {X : XS} {M : MS} {x : Int32} {y : Int32} : Sp (mjOO L xs) 143 0 [some (.ref 22), some (.int x), some (.retAddr 4), some (.int y)] [] (hS X M) (f_Flow_comeTo_o4 x y X) (KVX M) := by
  unfold f_Flow_comeTo_o4
  refine Sp.step rfl rfl rfl rfl ?_
  refine Sp.step rfl rfl rfl rfl ?_
  refine Sp.step rfl rfl rfl rfl ?_
  refine Sp.callP rfl rfl rfl rfl s_within (fun e1 => ?_) (fun e1 => ?_)
  · refine Sp.id (pc := 7) (l := [some (.ref 22), some (.int x), some (.retAddr 4), some (.int y)]) (st := [.int 1]) (h := hS X M) ?_
    refine Sp.step rfl rfl rfl rfl ?_
    refine Sp.step rfl rfl rfl rfl ?_
    refine Sp.step rfl rfl rfl rfl ?_
    refine Sp.step rfl rfl rfl rfl ?_
    refine Sp.step rfl rfl rfl rfl ?_
    refine Sp.step rfl rfl rfl (old_len (f := oT 4) rfl) ?_
    refine Sp.nat rfl rfl rfl rfl ⟨by decide, by decide, rfl⟩ ?_
    refine Sp.callP rfl rfl rfl rfl s_within (fun e3 => ?_) (fun e3 => ?_)
    · refine Sp.id (pc := 22) (l := [some (.ref 22), some (.int x), some (.retAddr 4), some (.int y)]) (st := [.int 1]) (h := hS X M) ?_
      refine Sp.step rfl rfl rfl rfl ?_
      refine Sp.step rfl rfl rfl rfl ?_
      refine Sp.step rfl rfl rfl (xg_F (c := 1) (f := 2) rfl rfl rfl rfl rfl) ?_
      refine Sp.step rfl rfl rfl rfl ?_
      refine Sp.step rfl rfl rfl (xld rfl (by decide) (ix_le (N := 59) rfl e1.1 e1.2)) ?_
      refine Sp.if1 rfl rfl rfl rfl (fun e5 => ?_) (fun e5 => ?_)
      · refine Sp.step rfl rfl rfl rfl ?_
        refine Sp.step rfl rfl rfl rfl ?_
        refine Sp.step rfl rfl rfl rfl ?_
        refine Sp.step rfl rfl rfl rfl ?_
        refine Sp.call rfl rfl rfl (xrecv (c := 1) (by decide) rfl (by decide +kernel)) s_Flow_sameStack_o4 (fun x6 => ⟨_, _, ⟨rfl, rfl⟩, ?_⟩)
        refine Sp.bool (fun e7 => ?_) (fun e7 => ?_)
        · refine Sp.id (pc := 110) (l := [some (.ref 22), some (.int x), some (.retAddr 4), some (.int y)]) (st := [.int 1]) (h := hS X M) ?_
          refine Sp.step rfl rfl rfl rfl ?_
          refine Sp.step rfl rfl rfl rfl ?_
          refine Sp.step rfl rfl rfl rfl ?_
          refine Sp.call rfl rfl rfl (xrecv (c := 1) (by decide) rfl (by decide +kernel)) s_Flow_mergeLocals (fun x9 => ⟨_, _, ⟨rfl, rfl⟩, ?_⟩)
          refine Sp.id (pc := 126) (l := [some (.ref 22), some (.int x), some (.retAddr 4), some (.int y)]) (st := []) (h := hS x9 M) ?_
          exact Sp.vret rfl rfl rfl (fun _ _ h => h)
        · refine Sp.id (pc := 110) (l := [some (.ref 22), some (.int x), some (.retAddr 4), some (.int y)]) (st := [.int 0]) (h := hS X M) ?_
          refine Sp.step rfl rfl rfl rfl ?_
          refine Sp.step rfl rfl rfl rfl ?_
          refine Sp.step rfl rfl rfl rfl ?_
          refine Sp.step rfl rfl rfl (xp_I (c := 1) (f := 10) rfl rfl rfl rfl rfl) ?_
          refine Sp.step rfl rfl rfl rfl ?_
          exact Sp.vret rfl rfl rfl (fun _ _ h => h)
      · refine Sp.step rfl rfl rfl rfl ?_
        refine Sp.step rfl rfl rfl (xg_F (c := 1) (f := 2) rfl rfl rfl rfl rfl) ?_
        refine Sp.step rfl rfl rfl rfl ?_
        refine Sp.step rfl rfl rfl rfl ?_
        refine Sp.step rfl rfl rfl (xst1 rfl (ix_le (N := 59) rfl e1.1 e1.2)) ?_
        refine Sp.step rfl rfl rfl rfl ?_
        refine Sp.step rfl rfl rfl (xg_F (c := 1) (f := 3) rfl rfl rfl rfl rfl) ?_
        refine Sp.step rfl rfl rfl rfl ?_
        refine Sp.step rfl rfl rfl rfl ?_
        refine Sp.step rfl rfl rfl (xst1 rfl (ix_le (N := 59) rfl e1.1 e1.2)) ?_
        refine Sp.step rfl rfl rfl rfl ?_
        refine Sp.step rfl rfl rfl (xg_F (c := 1) (f := 4) rfl rfl rfl rfl rfl) ?_
        refine Sp.step rfl rfl rfl rfl ?_
        refine Sp.step rfl rfl rfl rfl ?_
        refine Sp.step rfl rfl rfl (xst rfl (by decide) (ix_le (N := 59) rfl e1.1 e1.2)) ?_
        refine Sp.step rfl rfl rfl rfl ?_
        refine Sp.step rfl rfl rfl rfl ?_
        refine Sp.step rfl rfl rfl (xg_I (c := 1) (f := 0) rfl rfl rfl rfl) ?_
        refine Sp.step rfl rfl rfl rfl ?_
        refine Sp.nat rfl rfl rfl rfl ⟨by decide, by decide, rfl⟩ ?_
        refine Sp.step rfl rfl rfl (xp_I (c := 1) (f := 0) rfl rfl rfl rfl rfl) ?_
        refine Sp.step rfl rfl rfl rfl ?_
        refine Sp.step rfl rfl rfl rfl ?_
        refine Sp.step rfl rfl rfl rfl ?_
        refine Sp.step rfl rfl rfl (xg_F (c := 1) (f := 5) rfl rfl rfl rfl rfl) ?_
        refine Sp.step rfl rfl rfl rfl ?_
        refine Sp.step rfl rfl rfl rfl ?_
        refine Sp.step rfl rfl rfl rfl ?_
        refine Sp.step rfl rfl rfl rfl ?_
        refine Sp.guard (fun e16 => ?_)
        refine Sp.nat rfl rfl rfl (xcopyO (f := oT 4) rfl rfl e16) ⟨by decide, by decide, rfl⟩ ?_
        refine Sp.step rfl rfl rfl rfl ?_
        refine Sp.step rfl rfl rfl (xg_F (c := 1) (f := 8) rfl rfl rfl rfl rfl) ?_
        refine Sp.step rfl rfl rfl rfl ?_
        refine Sp.step rfl rfl rfl rfl ?_
        refine Sp.step rfl rfl rfl (xg_F (c := 1) (f := 6) rfl rfl rfl rfl rfl) ?_
        refine Sp.step rfl rfl rfl rfl ?_
        refine Sp.step rfl rfl rfl rfl ?_
        refine Sp.step rfl rfl rfl rfl ?_
        refine Sp.step rfl rfl rfl rfl ?_
        refine Sp.guard (fun e18 => ?_)
        refine Sp.nat rfl rfl rfl (xcopy rfl rfl (Or.inl rfl) e18) ⟨by decide, by decide, rfl⟩ ?_
        refine Sp.step rfl rfl rfl rfl ?_
        exact Sp.vret rfl rfl rfl (fun _ _ h => h)
    · refine Sp.id (pc := 22) (l := [some (.ref 22), some (.int x), some (.retAddr 4), some (.int y)]) (st := [.int 0]) (h := hS X M) ?_
      refine Sp.step rfl rfl rfl rfl ?_
      exact Sp.vret rfl rfl rfl (fun _ _ h => h)
  · refine Sp.id (pc := 7) (l := [some (.ref 22), some (.int x), some (.retAddr 4), some (.int y)]) (st := [.int 0]) (h := hS X M) ?_
    refine Sp.step rfl rfl rfl rfl ?_
    exact Sp.vret rfl rfl rfl (fun _ _ h => h)
def b2_Flow_comeToHandlers (x : Nat) (y : Int32) (x24 : (Int32 × XS)) : Option ((Int32 × XS) ⊕ (Int32 × XS)) := (if (xT x24.2 x = some (12, 0)) then (if x24.2.1 x 9 ≤ x24.1 then some (.inr (x24.1, x24.2)) else (if 6 ≤ x24.1 then some (.inr (x24.1, x24.2)) else (if ¬ x24.2.1 22 10 = (-1) then some (.inl (x24.1 + 1, x24.2)) else (ocz (x24.2.2.1 x 10) none (fun a29 => (ocz (xL x24.2 0 a29) none (fun n31 => (if ixo x24.1 n31 then (if y < x24.2.1 a29 x24.1.toNatClampNeg then some (.inl (x24.1 + 1, x24.2)) else (ocz (x24.2.2.1 x 11) none (fun a35 => (ocz (xL x24.2 0 a35) none (fun n37 => (if ixo x24.1 n37 then (if x24.2.1 a35 x24.1.toNatClampNeg ≤ y then some (.inl (x24.1 + 1, x24.2)) else (ocz (x24.2.2.1 x 12) none (fun a41 => (ocz (xL x24.2 0 a41) none (fun n43 => (if ixo x24.1 n43 then ((f_Flow_comeTo_o4 (x24.2.1 a41 x24.1.toNatClampNeg) 1 x24.2).bind fun x46 => some (.inl (x24.1 + 1, x46))) else none)))))) else none)))))) else none)))))))) else none)
def f_Flow_comeToHandlers (x : Nat) (y : Int32) (X : XS) : Option XS := ((lp (b2_Flow_comeToHandlers x y) 10000 ((0 : Int32), X)).bind fun x47 => some x47.2)
set_option maxRecDepth 100000 in
set_option maxHeartbeats 4000000 in
theorem s_Flow_comeToHandlers {L : Nat} {xs : Nat → Int32} {X : XS} {M : MS} {x : Nat} {y : Int32} : Sp (mjOO L xs) 142 0 [some (.ref 22), some (.ref x), some (.int y), none] [] (hS X M) (f_Flow_comeToHandlers x y X) (KVX M) := by
  unfold f_Flow_comeToHandlers
  refine Sp.step rfl rfl rfl rfl ?_
  refine Sp.step rfl rfl rfl rfl ?_
  refine Sp.weak (l0 := [some (.ref 22), some (.ref x), some (.int y), some (.int 0)]) ⟨rfl, rfl, rfl, rfl, trivial⟩ ?_
  refine Sp.loopX (pe := 67) (mf := (fun (x24 : (Int32 × XS)) => [some (.ref 22), some (.ref x), some (.int y), some (.int x24.1)])) (hf := (fun (x24 : (Int32 × XS)) => hS x24.2 M)) (fun x24 => ?_) (fun x47 => ?_) _ _
  · unfold b2_Flow_comeToHandlers
    refine Sp.step rfl rfl rfl rfl ?_
    refine Sp.step rfl rfl rfl rfl ?_
    refine Sp.guard (fun e25 => ?_)
    refine Sp.step rfl rfl rfl (xg_I (c := 7) (f := 9) rfl rfl e25 rfl) ?_
    refine Sp.if2 rfl rfl rfl rfl (fun e26 => ?_) (fun e26 => ?_)
    · exact Sp.jmp (l0 := [some (.ref 22), some (.ref x), some (.int y), some (.int x24.1)]) ⟨rfl, rfl, rfl, rfl, trivial⟩ (fun _ _ h => h)
    · refine Sp.step rfl rfl rfl rfl ?_
      refine Sp.step rfl rfl rfl rfl ?_
      refine Sp.if2 rfl rfl rfl rfl (fun e27 => ?_) (fun e27 => ?_)
      · exact Sp.jmp (l0 := [some (.ref 22), some (.ref x), some (.int y), some (.int x24.1)]) ⟨rfl, rfl, rfl, rfl, trivial⟩ (fun _ _ h => h)
      · refine Sp.step rfl rfl rfl rfl ?_
        refine Sp.step rfl rfl rfl (xg_I (c := 1) (f := 10) rfl rfl rfl rfl) ?_
        refine Sp.step rfl rfl rfl rfl ?_
        refine Sp.if2 rfl rfl rfl rfl (fun e28 => ?_) (fun e28 => ?_)
        · refine Sp.step rfl rfl rfl rfl ?_
          refine Sp.step rfl rfl rfl rfl ?_
          exact Sp.jmp (l0 := [some (.ref 22), some (.ref x), some (.int y), some (.int (x24.1 + 1))]) ⟨rfl, rfl, rfl, rfl, trivial⟩ (fun _ _ h => h)
        · refine Sp.step rfl rfl rfl rfl ?_
          refine Sp.step rfl rfl rfl (xg_D (c := 7) (f := 10) rfl rfl e25 rfl (fxP_big (dyn_of (c := 7) e25 rfl))) ?_
          refine Sp.ocrn (fun a29 e30 => ?_)
          refine Sp.step rfl rfl rfl rfl ?_
          refine Sp.ocn (fun n31 e32 => ?_)
          refine Sp.guard (fun e33 => ?_)
          refine Sp.step rfl rfl rfl (xld (xL_ok e32) (by decide) e33) ?_
          refine Sp.step rfl rfl rfl rfl ?_
          refine Sp.if2 rfl rfl rfl rfl (fun e34 => ?_) (fun e34 => ?_)
          · refine Sp.step rfl rfl rfl rfl ?_
            refine Sp.step rfl rfl rfl rfl ?_
            exact Sp.jmp (l0 := [some (.ref 22), some (.ref x), some (.int y), some (.int (x24.1 + 1))]) ⟨rfl, rfl, rfl, rfl, trivial⟩ (fun _ _ h => h)
          · refine Sp.step rfl rfl rfl rfl ?_
            refine Sp.step rfl rfl rfl rfl ?_
            refine Sp.step rfl rfl rfl (xg_D (c := 7) (f := 11) rfl rfl e25 rfl (fxP_big (dyn_of (c := 7) e25 rfl))) ?_
            refine Sp.ocrn (fun a35 e36 => ?_)
            refine Sp.step rfl rfl rfl rfl ?_
            refine Sp.ocn (fun n37 e38 => ?_)
            refine Sp.guard (fun e39 => ?_)
            refine Sp.step rfl rfl rfl (xld (xL_ok e38) (by decide) e39) ?_
            refine Sp.if2 rfl rfl rfl rfl (fun e40 => ?_) (fun e40 => ?_)
            · refine Sp.step rfl rfl rfl rfl ?_
              refine Sp.step rfl rfl rfl rfl ?_
              exact Sp.jmp (l0 := [some (.ref 22), some (.ref x), some (.int y), some (.int (x24.1 + 1))]) ⟨rfl, rfl, rfl, rfl, trivial⟩ (fun _ _ h => h)
            · refine Sp.step rfl rfl rfl rfl ?_
              refine Sp.step rfl rfl rfl rfl ?_
              refine Sp.step rfl rfl rfl (xg_D (c := 7) (f := 12) rfl rfl e25 rfl (fxP_big (dyn_of (c := 7) e25 rfl))) ?_
              refine Sp.ocrn (fun a41 e42 => ?_)
              refine Sp.step rfl rfl rfl rfl ?_
              refine Sp.ocn (fun n43 e44 => ?_)
              refine Sp.guard (fun e45 => ?_)
              refine Sp.step rfl rfl rfl (xld (xL_ok e44) (by decide) e45) ?_
              refine Sp.step rfl rfl rfl rfl ?_
              refine Sp.step rfl rfl rfl rfl ?_
              refine Sp.step rfl rfl rfl (old_len (f := oT 4) rfl) ?_
              refine Sp.call rfl rfl rfl (xrecv (c := 1) (by decide) rfl (by decide +kernel)) s_Flow_comeTo_o4 (fun x46 => ⟨_, _, ⟨rfl, rfl⟩, ?_⟩)
              refine Sp.id (pc := 61) (l := [some (.ref 22), some (.ref x), some (.int y), some (.int x24.1)]) (st := []) (h := hS x46 M) ?_
              refine Sp.step rfl rfl rfl rfl ?_
              refine Sp.step rfl rfl rfl rfl ?_
              exact Sp.jmp (l0 := [some (.ref 22), some (.ref x), some (.int y), some (.int (x24.1 + 1))]) ⟨rfl, rfl, rfl, rfl, trivial⟩ (fun _ _ h => h)
  · exact Sp.vret rfl rfl rfl (fun _ _ h => h)
def f_Source_isField (x : Int32) (y : Int32) (X : XS) : Bool := (if f_Source_isKind (f_Source_fieldKind y X) X = true then (if x = 27 then (if X.1 4 (f_Source_fieldKind y X).toNatClampNeg ≤ y - y / 8 * 8 then false else true) else (if ¬ x = 28 then (if X.1 5 (f_Source_fieldKind y X).toNatClampNeg ≤ y - y / 8 * 8 then false else true) else (if X.1 4 (f_Source_fieldKind y X).toNatClampNeg ≤ y - y / 8 * 8 then false else true))) else false)
set_option maxRecDepth 100000 in
set_option maxHeartbeats 4000000 in
theorem s_Source_isField {L : Nat} {xs : Nat → Int32} {X : XS} {M : MS} {x : Int32} {y : Int32} : Sp (mjOO L xs) 279 0 [some (.ref 1), some (.int x), some (.int y), none, none] [] (hS X M) (some (f_Source_isField x y X)) (KB (hS X M)) := by
  unfold f_Source_isField
  refine Sp.step rfl rfl rfl rfl ?_
  refine Sp.step rfl rfl rfl rfl ?_
  refine Sp.callS rfl rfl rfl (xrecv (c := 8) (by decide) rfl (by decide +kernel)) s_Source_fieldKind ⟨rfl, rfl⟩ ?_
  refine Sp.id (pc := 5) (l := [some (.ref 1), some (.int x), some (.int y), none, none]) (st := [.int (f_Source_fieldKind y X)]) (h := hS X M) ?_
  refine Sp.step rfl rfl rfl rfl ?_
  refine Sp.step rfl rfl rfl rfl ?_
  refine Sp.step rfl rfl rfl rfl ?_
  refine Sp.callS rfl rfl rfl (xrecv (c := 8) (by decide) rfl (by decide +kernel)) s_Source_isKind ⟨rfl, rfl⟩ ?_
  refine Sp.boolV (fun e1 => ?_) (fun e1 => ?_)
  · refine Sp.id (pc := 11) (l := [some (.ref 1), some (.int x), some (.int y), some (.int (f_Source_fieldKind y X)), none]) (st := [.int 1]) (h := hS X M) ?_
    refine Sp.step rfl rfl rfl rfl ?_
    refine Sp.step rfl rfl rfl rfl ?_
    refine Sp.step rfl rfl rfl rfl ?_
    refine Sp.if2V rfl rfl rfl rfl (fun e3 => ?_) (fun e3 => ?_)
    · refine Sp.step rfl rfl rfl rfl ?_
      refine Sp.step rfl rfl rfl (xg_F (c := 8) (f := 4) rfl rfl rfl rfl rfl) ?_
      refine Sp.step rfl rfl rfl rfl ?_
      refine Sp.step rfl rfl rfl (xld rfl (by decide) (isKind_ix e1)) ?_
      refine Sp.step rfl rfl rfl rfl ?_
      refine Sp.step rfl rfl rfl rfl ?_
      refine Sp.step rfl rfl rfl rfl ?_
      refine Sp.step rfl rfl rfl rfl ?_
      refine Sp.step rfl rfl rfl (go_div (by decide)) ?_
      refine Sp.step rfl rfl rfl rfl ?_
      refine Sp.if2V rfl rfl rfl rfl (fun e4 => ?_) (fun e4 => ?_)
      · refine Sp.step rfl rfl rfl rfl ?_
        exact Sp.iret rfl rfl rfl rfl (fun _ _ h => h)
      · refine Sp.step rfl rfl rfl rfl ?_
        refine Sp.step rfl rfl rfl rfl ?_
        exact Sp.iret rfl rfl rfl rfl (fun _ _ h => h)
    · refine Sp.step rfl rfl rfl rfl ?_
      refine Sp.step rfl rfl rfl rfl ?_
      refine Sp.if2V rfl rfl rfl rfl (fun e5 => ?_) (fun e5 => ?_)
      · refine Sp.step rfl rfl rfl rfl ?_
        refine Sp.step rfl rfl rfl (xg_F (c := 8) (f := 5) rfl rfl rfl rfl rfl) ?_
        refine Sp.step rfl rfl rfl rfl ?_
        refine Sp.step rfl rfl rfl (xld rfl (by decide) (isKind_ix e1)) ?_
        refine Sp.step rfl rfl rfl rfl ?_
        refine Sp.step rfl rfl rfl rfl ?_
        refine Sp.step rfl rfl rfl rfl ?_
        refine Sp.step rfl rfl rfl (go_div (by decide)) ?_
        refine Sp.step rfl rfl rfl rfl ?_
        refine Sp.if2V rfl rfl rfl rfl (fun e6 => ?_) (fun e6 => ?_)
        · refine Sp.step rfl rfl rfl rfl ?_
          exact Sp.iret rfl rfl rfl rfl (fun _ _ h => h)
        · refine Sp.step rfl rfl rfl rfl ?_
          refine Sp.step rfl rfl rfl rfl ?_
          exact Sp.iret rfl rfl rfl rfl (fun _ _ h => h)
      · refine Sp.step rfl rfl rfl rfl ?_
        refine Sp.step rfl rfl rfl (xg_F (c := 8) (f := 4) rfl rfl rfl rfl rfl) ?_
        refine Sp.step rfl rfl rfl rfl ?_
        refine Sp.step rfl rfl rfl (xld rfl (by decide) (isKind_ix e1)) ?_
        refine Sp.step rfl rfl rfl rfl ?_
        refine Sp.step rfl rfl rfl rfl ?_
        refine Sp.step rfl rfl rfl rfl ?_
        refine Sp.step rfl rfl rfl rfl ?_
        refine Sp.step rfl rfl rfl (go_div (by decide)) ?_
        refine Sp.step rfl rfl rfl rfl ?_
        refine Sp.if2V rfl rfl rfl rfl (fun e7 => ?_) (fun e7 => ?_)
        · refine Sp.step rfl rfl rfl rfl ?_
          exact Sp.iret rfl rfl rfl rfl (fun _ _ h => h)
        · refine Sp.step rfl rfl rfl rfl ?_
          refine Sp.step rfl rfl rfl rfl ?_
          exact Sp.iret rfl rfl rfl rfl (fun _ _ h => h)
  · refine Sp.id (pc := 11) (l := [some (.ref 1), some (.int x), some (.int y), some (.int (f_Source_fieldKind y X)), none]) (st := [.int 0]) (h := hS X M) ?_
    refine Sp.step rfl rfl rfl rfl ?_
    refine Sp.step rfl rfl rfl rfl ?_
    exact Sp.iret rfl rfl rfl rfl (fun _ _ h => h)
def f_Source_canBegin (X : XS) : Option Bool := (if f_Source_isRoutine (f_Source_routineOfName 0 X) X = true then (ocz (X.2.1 2 (f_Source_routineOfName 0 X).toNatClampNeg) none (fun a3 => (if (xT X a3 = some (12, 0)) then (if ¬ X.1 a3 2 = 0 then some false else some true) else none))) else some false)
set_option maxRecDepth 100000 in
set_option maxHeartbeats 4000000 in
theorem s_Source_canBegin {L : Nat} {xs : Nat → Int32} {X : XS} {M : MS} : Sp (mjOO L xs) 277 0 [some (.ref 1), none] [] (hS X M) (f_Source_canBegin X) (KB (hS X M)) := by
  unfold f_Source_canBegin
  refine Sp.step rfl rfl rfl rfl ?_
  refine Sp.step rfl rfl rfl rfl ?_
  refine Sp.callS rfl rfl rfl (xrecv (c := 8) (by decide) rfl (by decide +kernel)) s_Source_routineOfName ⟨rfl, rfl⟩ ?_
  refine Sp.id (pc := 5) (l := [some (.ref 1), none]) (st := [.int (f_Source_routineOfName 0 X)]) (h := hS X M) ?_
  refine Sp.step rfl rfl rfl rfl ?_
  refine Sp.step rfl rfl rfl rfl ?_
  refine Sp.step rfl rfl rfl rfl ?_
  refine Sp.callS rfl rfl rfl (xrecv (c := 8) (by decide) rfl (by decide +kernel)) s_Source_isRoutine ⟨rfl, rfl⟩ ?_
  refine Sp.bool (fun e1 => ?_) (fun e1 => ?_)
  · refine Sp.id (pc := 11) (l := [some (.ref 1), some (.int (f_Source_routineOfName 0 X))]) (st := [.int 1]) (h := hS X M) ?_
    refine Sp.step rfl rfl rfl rfl ?_
    refine Sp.step rfl rfl rfl rfl ?_
    refine Sp.step rfl rfl rfl (xg_F (c := 8) (f := 0) rfl rfl rfl rfl rfl) ?_
    refine Sp.step rfl rfl rfl rfl ?_
    refine Sp.step rfl rfl rfl (xald (t := 3) rfl (by decide) (fun _ => rfl) (isRoutine_ix e1)) ?_
    refine Sp.ocrn (fun a3 e4 => ?_)
    refine Sp.guard (fun e5 => ?_)
    refine Sp.step rfl rfl rfl (xg_I (c := 7) (f := 2) rfl rfl e5 rfl) ?_
    refine Sp.if1 rfl rfl rfl rfl (fun e6 => ?_) (fun e6 => ?_)
    · refine Sp.step rfl rfl rfl rfl ?_
      exact Sp.iret rfl rfl rfl rfl (fun _ _ h => h)
    · refine Sp.step rfl rfl rfl rfl ?_
      refine Sp.step rfl rfl rfl rfl ?_
      exact Sp.iret rfl rfl rfl rfl (fun _ _ h => h)
  · refine Sp.id (pc := 11) (l := [some (.ref 1), some (.int (f_Source_routineOfName 0 X))]) (st := [.int 0]) (h := hS X M) ?_
    refine Sp.step rfl rfl rfl rfl ?_
    refine Sp.step rfl rfl rfl rfl ?_
    exact Sp.iret rfl rfl rfl rfl (fun _ _ h => h)
def f_Flow_possible (x : Nat) (y : Int32) (z : Int32) (X : XS) : Option Bool := (if f_P_jumps y = true then (if (xT X x = some (12, 0)) then (if 0 ≤ z ∧ z ≤ (X.1 x 6) - 1 then some true else some false) else none) else (if f_P_usesField y = true then (if f_Source_isField y z X = true then some true else some false) else (if 52 ≤ y ∧ y ≤ 55 then (if 0 ≤ z ∧ z ≤ 7 then some true else some false) else (if 40 ≤ y ∧ y ≤ 42 then (if (xT X x = some (12, 0)) then (if ¬ y - 40 = X.1 x 4 then some false else some true) else none) else (if y = 1 then (if (-32768) ≤ z ∧ z ≤ 32767 then some true else some false) else (if (y = 2 ∨ y = 3) then (if (xT X x = some (12, 0)) then (if 0 ≤ z ∧ z ≤ (X.1 x 5) - 1 then some true else some false) else none) else (if (y = 26 ∨ y = 44) then (if f_Source_isKind z X = true then some true else some false) else (if y = 38 then ((f_Source_isStaticRoutine z X).bind fun x27 => (if x27 = true then some true else some false)) else (if y = 39 then (if f_Source_routineOfName z X = (-1) then some false else some true) else (if y = 48 then ((f_Source_canBegin X).bind fun x32 => (if x32 = true then some true else some false)) else some true))))))))))
set_option maxRecDepth 100000 in
set_option maxHeartbeats 4000000 in
theorem s_Flow_possible {L : Nat} {xs : Nat → Int32} {X : XS} {M : MS} {x : Nat} {y : Int32} {z : Int32} : Sp (mjOO L xs) 146 0 [some (.ref 22), some (.ref x), some (.int y), some (.int z)] [] (hS X M) (f_Flow_possible x y z X) (KB (hS X M)) := by
  unfold f_Flow_possible
  refine Sp.step rfl rfl rfl rfl ?_
  refine Sp.callS rfl rfl rfl rfl s_P_jumps ⟨rfl, rfl⟩ ?_
  refine Sp.bool (fun e1 => ?_) (fun e1 => ?_)
  · refine Sp.id (pc := 4) (l := [some (.ref 22), some (.ref x), some (.int y), some (.int z)]) (st := [.int 1]) (h := hS X M) ?_
    refine Sp.step rfl rfl rfl rfl ?_
    refine Sp.step rfl rfl rfl rfl ?_
    refine Sp.step rfl rfl rfl rfl ?_
    refine Sp.step rfl rfl rfl rfl ?_
    refine Sp.guard (fun e3 => ?_)
    refine Sp.step rfl rfl rfl (xg_I (c := 7) (f := 6) rfl rfl e3 rfl) ?_
    refine Sp.step rfl rfl rfl rfl ?_
    refine Sp.step rfl rfl rfl rfl ?_
    refine Sp.callP rfl rfl rfl rfl s_within (fun e4 => ?_) (fun e4 => ?_)
    · refine Sp.id (pc := 18) (l := [some (.ref 22), some (.ref x), some (.int y), some (.int z)]) (st := [.int 1]) (h := hS X M) ?_
      exact Sp.iret rfl rfl rfl rfl (fun _ _ h => h)
    · refine Sp.id (pc := 18) (l := [some (.ref 22), some (.ref x), some (.int y), some (.int z)]) (st := [.int 0]) (h := hS X M) ?_
      exact Sp.iret rfl rfl rfl rfl (fun _ _ h => h)
  · refine Sp.id (pc := 4) (l := [some (.ref 22), some (.ref x), some (.int y), some (.int z)]) (st := [.int 0]) (h := hS X M) ?_
    refine Sp.step rfl rfl rfl rfl ?_
    refine Sp.step rfl rfl rfl rfl ?_
    refine Sp.callS rfl rfl rfl rfl s_P_usesField ⟨rfl, rfl⟩ ?_
    refine Sp.bool (fun e6 => ?_) (fun e6 => ?_)
    · refine Sp.id (pc := 23) (l := [some (.ref 22), some (.ref x), some (.int y), some (.int z)]) (st := [.int 1]) (h := hS X M) ?_
      refine Sp.step rfl rfl rfl rfl ?_
      refine Sp.step rfl rfl rfl rfl ?_
      refine Sp.step rfl rfl rfl (xg_F (c := 1) (f := 1) rfl rfl rfl rfl rfl) ?_
      refine Sp.step rfl rfl rfl rfl ?_
      refine Sp.step rfl rfl rfl rfl ?_
      refine Sp.callS rfl rfl rfl (xrecv (c := 8) (by decide) rfl (by decide +kernel)) s_Source_isField ⟨rfl, rfl⟩ ?_
      refine Sp.bool (fun e8 => ?_) (fun e8 => ?_)
      · refine Sp.id (pc := 35) (l := [some (.ref 22), some (.ref x), some (.int y), some (.int z)]) (st := [.int 1]) (h := hS X M) ?_
        exact Sp.iret rfl rfl rfl rfl (fun _ _ h => h)
      · refine Sp.id (pc := 35) (l := [some (.ref 22), some (.ref x), some (.int y), some (.int z)]) (st := [.int 0]) (h := hS X M) ?_
        exact Sp.iret rfl rfl rfl rfl (fun _ _ h => h)
    · refine Sp.id (pc := 23) (l := [some (.ref 22), some (.ref x), some (.int y), some (.int z)]) (st := [.int 0]) (h := hS X M) ?_
      refine Sp.step rfl rfl rfl rfl ?_
      refine Sp.step rfl rfl rfl rfl ?_
      refine Sp.step rfl rfl rfl rfl ?_
      refine Sp.step rfl rfl rfl rfl ?_
      refine Sp.callP rfl rfl rfl rfl s_within (fun e10 => ?_) (fun e10 => ?_)
      · refine Sp.id (pc := 44) (l := [some (.ref 22), some (.ref x), some (.int y), some (.int z)]) (st := [.int 1]) (h := hS X M) ?_
        refine Sp.step rfl rfl rfl rfl ?_
        refine Sp.step rfl rfl rfl rfl ?_
        refine Sp.step rfl rfl rfl rfl ?_
        refine Sp.step rfl rfl rfl rfl ?_
        refine Sp.callP rfl rfl rfl rfl s_within (fun e12 => ?_) (fun e12 => ?_)
        · refine Sp.id (pc := 54) (l := [some (.ref 22), some (.ref x), some (.int y), some (.int z)]) (st := [.int 1]) (h := hS X M) ?_
          exact Sp.iret rfl rfl rfl rfl (fun _ _ h => h)
        · refine Sp.id (pc := 54) (l := [some (.ref 22), some (.ref x), some (.int y), some (.int z)]) (st := [.int 0]) (h := hS X M) ?_
          exact Sp.iret rfl rfl rfl rfl (fun _ _ h => h)
      · refine Sp.id (pc := 44) (l := [some (.ref 22), some (.ref x), some (.int y), some (.int z)]) (st := [.int 0]) (h := hS X M) ?_
        refine Sp.step rfl rfl rfl rfl ?_
        refine Sp.step rfl rfl rfl rfl ?_
        refine Sp.step rfl rfl rfl rfl ?_
        refine Sp.step rfl rfl rfl rfl ?_
        refine Sp.callP rfl rfl rfl rfl s_within (fun e14 => ?_) (fun e14 => ?_)
        · refine Sp.id (pc := 63) (l := [some (.ref 22), some (.ref x), some (.int y), some (.int z)]) (st := [.int 1]) (h := hS X M) ?_
          refine Sp.step rfl rfl rfl rfl ?_
          refine Sp.step rfl rfl rfl rfl ?_
          refine Sp.step rfl rfl rfl rfl ?_
          refine Sp.step rfl rfl rfl rfl ?_
          refine Sp.step rfl rfl rfl rfl ?_
          refine Sp.guard (fun e16 => ?_)
          refine Sp.step rfl rfl rfl (xg_I (c := 7) (f := 4) rfl rfl e16 rfl) ?_
          refine Sp.if2 rfl rfl rfl rfl (fun e17 => ?_) (fun e17 => ?_)
          · refine Sp.step rfl rfl rfl rfl ?_
            exact Sp.iret rfl rfl rfl rfl (fun _ _ h => h)
          · refine Sp.step rfl rfl rfl rfl ?_
            refine Sp.step rfl rfl rfl rfl ?_
            exact Sp.iret rfl rfl rfl rfl (fun _ _ h => h)
        · refine Sp.id (pc := 63) (l := [some (.ref 22), some (.ref x), some (.int y), some (.int z)]) (st := [.int 0]) (h := hS X M) ?_
          refine Sp.step rfl rfl rfl rfl ?_
          refine Sp.step rfl rfl rfl rfl ?_
          refine Sp.ite (fun e19 => ?_) (fun e19 => ?_)
          · refine Sp.step rfl rfl rfl (go_sw (t := 160) (sw_of e19 rfl)) ?_
            refine Sp.step rfl rfl rfl rfl ?_
            refine Sp.step rfl rfl rfl rfl ?_
            refine Sp.step rfl rfl rfl rfl ?_
            refine Sp.callP rfl rfl rfl rfl s_within (fun e20 => ?_) (fun e20 => ?_)
            · refine Sp.id (pc := 170) (l := [some (.ref 22), some (.ref x), some (.int y), some (.int z)]) (st := [.int 1]) (h := hS X M) ?_
              exact Sp.iret rfl rfl rfl rfl (fun _ _ h => h)
            · refine Sp.id (pc := 170) (l := [some (.ref 22), some (.ref x), some (.int y), some (.int z)]) (st := [.int 0]) (h := hS X M) ?_
              exact Sp.iret rfl rfl rfl rfl (fun _ _ h => h)
          · refine Sp.ite (fun e21 => ?_) (fun e21 => ?_)
            · refine Sp.step rfl rfl rfl (go_sw (t := 171) (by rcases e21 with e | e <;> exact sw_of e rfl)) ?_
              refine Sp.step rfl rfl rfl rfl ?_
              refine Sp.step rfl rfl rfl rfl ?_
              refine Sp.step rfl rfl rfl rfl ?_
              refine Sp.guard (fun e22 => ?_)
              refine Sp.step rfl rfl rfl (xg_I (c := 7) (f := 5) rfl rfl e22 rfl) ?_
              refine Sp.step rfl rfl rfl rfl ?_
              refine Sp.step rfl rfl rfl rfl ?_
              refine Sp.callP rfl rfl rfl rfl s_within (fun e23 => ?_) (fun e23 => ?_)
              · refine Sp.id (pc := 182) (l := [some (.ref 22), some (.ref x), some (.int y), some (.int z)]) (st := [.int 1]) (h := hS X M) ?_
                exact Sp.iret rfl rfl rfl rfl (fun _ _ h => h)
              · refine Sp.id (pc := 182) (l := [some (.ref 22), some (.ref x), some (.int y), some (.int z)]) (st := [.int 0]) (h := hS X M) ?_
                exact Sp.iret rfl rfl rfl rfl (fun _ _ h => h)
            · refine Sp.ite (fun e24 => ?_) (fun e24 => ?_)
              · refine Sp.step rfl rfl rfl (go_sw (t := 183) (by rcases e24 with e | e <;> exact sw_of e rfl)) ?_
                refine Sp.step rfl rfl rfl rfl ?_
                refine Sp.step rfl rfl rfl (xg_F (c := 1) (f := 1) rfl rfl rfl rfl rfl) ?_
                refine Sp.step rfl rfl rfl rfl ?_
                refine Sp.callS rfl rfl rfl (xrecv (c := 8) (by decide) rfl (by decide +kernel)) s_Source_isKind ⟨rfl, rfl⟩ ?_
                refine Sp.bool (fun e25 => ?_) (fun e25 => ?_)
                · refine Sp.id (pc := 191) (l := [some (.ref 22), some (.ref x), some (.int y), some (.int z)]) (st := [.int 1]) (h := hS X M) ?_
                  exact Sp.iret rfl rfl rfl rfl (fun _ _ h => h)
                · refine Sp.id (pc := 191) (l := [some (.ref 22), some (.ref x), some (.int y), some (.int z)]) (st := [.int 0]) (h := hS X M) ?_
                  exact Sp.iret rfl rfl rfl rfl (fun _ _ h => h)
              · refine Sp.ite (fun e26 => ?_) (fun e26 => ?_)
                · refine Sp.step rfl rfl rfl (go_sw (t := 192) (sw_of e26 rfl)) ?_
                  refine Sp.step rfl rfl rfl rfl ?_
                  refine Sp.step rfl rfl rfl (xg_F (c := 1) (f := 1) rfl rfl rfl rfl rfl) ?_
                  refine Sp.step rfl rfl rfl rfl ?_
                  refine Sp.call rfl rfl rfl (xrecv (c := 8) (by decide) rfl (by decide +kernel)) s_Source_isStaticRoutine (fun x27 => ⟨_, _, ⟨rfl, rfl⟩, ?_⟩)
                  refine Sp.bool (fun e28 => ?_) (fun e28 => ?_)
                  · refine Sp.id (pc := 200) (l := [some (.ref 22), some (.ref x), some (.int y), some (.int z)]) (st := [.int 1]) (h := hS X M) ?_
                    exact Sp.iret rfl rfl rfl rfl (fun _ _ h => h)
                  · refine Sp.id (pc := 200) (l := [some (.ref 22), some (.ref x), some (.int y), some (.int z)]) (st := [.int 0]) (h := hS X M) ?_
                    exact Sp.iret rfl rfl rfl rfl (fun _ _ h => h)
                · refine Sp.ite (fun e29 => ?_) (fun e29 => ?_)
                  · refine Sp.step rfl rfl rfl (go_sw (t := 201) (sw_of e29 rfl)) ?_
                    refine Sp.step rfl rfl rfl rfl ?_
                    refine Sp.step rfl rfl rfl (xg_F (c := 1) (f := 1) rfl rfl rfl rfl rfl) ?_
                    refine Sp.step rfl rfl rfl rfl ?_
                    refine Sp.callS rfl rfl rfl (xrecv (c := 8) (by decide) rfl (by decide +kernel)) s_Source_routineOfName ⟨rfl, rfl⟩ ?_
                    refine Sp.id (pc := 209) (l := [some (.ref 22), some (.ref x), some (.int y), some (.int z)]) (st := [.int (f_Source_routineOfName z X)]) (h := hS X M) ?_
                    refine Sp.step rfl rfl rfl rfl ?_
                    refine Sp.if2 rfl rfl rfl rfl (fun e30 => ?_) (fun e30 => ?_)
                    · refine Sp.step rfl rfl rfl rfl ?_
                      exact Sp.iret rfl rfl rfl rfl (fun _ _ h => h)
                    · refine Sp.step rfl rfl rfl rfl ?_
                      refine Sp.step rfl rfl rfl rfl ?_
                      exact Sp.iret rfl rfl rfl rfl (fun _ _ h => h)
                  · refine Sp.ite (fun e31 => ?_) (fun e31 => ?_)
                    · refine Sp.step rfl rfl rfl (go_sw (t := 219) (sw_of e31 rfl)) ?_
                      refine Sp.step rfl rfl rfl rfl ?_
                      refine Sp.step rfl rfl rfl (xg_F (c := 1) (f := 1) rfl rfl rfl rfl rfl) ?_
                      refine Sp.call rfl rfl rfl (xrecv (c := 8) (by decide) rfl (by decide +kernel)) s_Source_canBegin (fun x32 => ⟨_, _, ⟨rfl, rfl⟩, ?_⟩)
                      refine Sp.bool (fun e33 => ?_) (fun e33 => ?_)
                      · refine Sp.id (pc := 226) (l := [some (.ref 22), some (.ref x), some (.int y), some (.int z)]) (st := [.int 1]) (h := hS X M) ?_
                        exact Sp.iret rfl rfl rfl rfl (fun _ _ h => h)
                      · refine Sp.id (pc := 226) (l := [some (.ref 22), some (.ref x), some (.int y), some (.int z)]) (st := [.int 0]) (h := hS X M) ?_
                        exact Sp.iret rfl rfl rfl rfl (fun _ _ h => h)
                    · refine Sp.step rfl rfl rfl (go_sw (t := 227) (mjSw_dflt _ (by
                        intro q hq
                        simp only [List.mem_cons, List.not_mem_nil, or_false] at hq
                        rcases hq with rfl | rfl | rfl | rfl | rfl | rfl | rfl | rfl
                        · exact fun h => absurd h (fun h => e19 h)
                        · exact fun h => absurd h (fun h => e21 (Or.inl h))
                        · exact fun h => absurd h (fun h => e21 (Or.inr h))
                        · exact fun h => absurd h (fun h => e24 (Or.inl h))
                        · exact fun h => absurd h (fun h => e26 h)
                        · exact fun h => absurd h (fun h => e29 h)
                        · exact fun h => absurd h (fun h => e24 (Or.inr h))
                        · exact fun h => absurd h (fun h => e31 h)))) ?_
                      refine Sp.step rfl rfl rfl rfl ?_
                      exact Sp.iret rfl rfl rfl rfl (fun _ _ h => h)
def f_Flow_put (x : Int32) (X : XS) : Option (Bool × XS) := (if 0 ≤ X.1 22 9 ∧ X.1 22 9 ≤ 9 then (lt (xw X 28 (X.1 22 9).toNatClampNeg x) fun X3 => (lt (xw X3 22 9 ((X3.1 22 9) + 1)) fun X4 => some (true, X4))) else some (false, X))
set_option maxRecDepth 100000 in
set_option maxHeartbeats 4000000 in
theorem s_Flow_put {L : Nat} {xs : Nat → Int32} {X : XS} {M : MS} {x : Int32} : Sp (mjOO L xs) 153 0 [some (.ref 22), some (.int x)] [] (hS X M) (f_Flow_put x X) (KBX M) := by
  unfold f_Flow_put
  refine Sp.step rfl rfl rfl rfl ?_
  refine Sp.step rfl rfl rfl (xg_I (c := 1) (f := 9) rfl rfl rfl rfl) ?_
  refine Sp.step rfl rfl rfl rfl ?_
  refine Sp.step rfl rfl rfl rfl ?_
  refine Sp.callP rfl rfl rfl rfl s_within (fun e1 => ?_) (fun e1 => ?_)
  · refine Sp.id (pc := 10) (l := [some (.ref 22), some (.int x)]) (st := [.int 1]) (h := hS X M) ?_
    refine Sp.step rfl rfl rfl rfl ?_
    refine Sp.step rfl rfl rfl rfl ?_
    refine Sp.step rfl rfl rfl (xg_F (c := 1) (f := 7) rfl rfl rfl rfl rfl) ?_
    refine Sp.step rfl rfl rfl rfl ?_
    refine Sp.step rfl rfl rfl (xg_I (c := 1) (f := 9) rfl rfl rfl rfl) ?_
    refine Sp.step rfl rfl rfl rfl ?_
    refine Sp.step rfl rfl rfl (xst rfl (by decide) (ix_le (N := 9) rfl e1.1 e1.2)) ?_
    refine Sp.step rfl rfl rfl rfl ?_
    refine Sp.step rfl rfl rfl rfl ?_
    refine Sp.step rfl rfl rfl (xg_I (c := 1) (f := 9) rfl rfl rfl rfl) ?_
    refine Sp.step rfl rfl rfl rfl ?_
    refine Sp.step rfl rfl rfl rfl ?_
    refine Sp.step rfl rfl rfl (xp_I (c := 1) (f := 9) rfl rfl rfl rfl rfl) ?_
    refine Sp.step rfl rfl rfl rfl ?_
    exact Sp.iret rfl rfl rfl rfl (fun _ _ h => h)
  · refine Sp.id (pc := 10) (l := [some (.ref 22), some (.int x)]) (st := [.int 0]) (h := hS X M) ?_
    refine Sp.step rfl rfl rfl rfl ?_
    refine Sp.step rfl rfl rfl rfl ?_
    exact Sp.iret rfl rfl rfl rfl (fun _ _ h => h)
def f_Flow_take (x : Int32) (X : XS) : Option (Bool × XS) := (if 1 ≤ X.1 22 9 ∧ X.1 22 9 ≤ 10 then (lt (xw X 22 9 ((X.1 22 9) - 1)) fun X3 => (if x = 3 then some (true, X3) else (if ixo (X3.1 22 9) 10 then (if ¬ X3.1 28 (X3.1 22 9).toNatClampNeg = x then some (false, X3) else some (true, X3)) else none))) else some (false, X))
set_option maxRecDepth 100000 in
set_option maxHeartbeats 4000000 in
theorem s_Flow_take {L : Nat} {xs : Nat → Int32} {X : XS} {M : MS} {x : Int32} : Sp (mjOO L xs) 152 0 [some (.ref 22), some (.int x)] [] (hS X M) (f_Flow_take x X) (KBX M) := by
  unfold f_Flow_take
  refine Sp.step rfl rfl rfl rfl ?_
  refine Sp.step rfl rfl rfl (xg_I (c := 1) (f := 9) rfl rfl rfl rfl) ?_
  refine Sp.step rfl rfl rfl rfl ?_
  refine Sp.step rfl rfl rfl rfl ?_
  refine Sp.callP rfl rfl rfl rfl s_within (fun e1 => ?_) (fun e1 => ?_)
  · refine Sp.id (pc := 10) (l := [some (.ref 22), some (.int x)]) (st := [.int 1]) (h := hS X M) ?_
    refine Sp.step rfl rfl rfl rfl ?_
    refine Sp.step rfl rfl rfl rfl ?_
    refine Sp.step rfl rfl rfl rfl ?_
    refine Sp.step rfl rfl rfl (xg_I (c := 1) (f := 9) rfl rfl rfl rfl) ?_
    refine Sp.step rfl rfl rfl rfl ?_
    refine Sp.step rfl rfl rfl rfl ?_
    refine Sp.step rfl rfl rfl (xp_I (c := 1) (f := 9) rfl rfl rfl rfl rfl) ?_
    refine Sp.step rfl rfl rfl rfl ?_
    refine Sp.step rfl rfl rfl rfl ?_
    refine Sp.if2 rfl rfl rfl rfl (fun e4 => ?_) (fun e4 => ?_)
    · refine Sp.step rfl rfl rfl rfl ?_
      refine Sp.step rfl rfl rfl rfl ?_
      exact Sp.iret rfl rfl rfl rfl (fun _ _ h => h)
    · refine Sp.step rfl rfl rfl rfl ?_
      refine Sp.step rfl rfl rfl (xg_F (c := 1) (f := 7) rfl rfl rfl rfl rfl) ?_
      refine Sp.step rfl rfl rfl rfl ?_
      refine Sp.step rfl rfl rfl (xg_I (c := 1) (f := 9) rfl rfl rfl rfl) ?_
      refine Sp.guard (fun e5 => ?_)
      refine Sp.step rfl rfl rfl (xld rfl (by decide) e5) ?_
      refine Sp.step rfl rfl rfl rfl ?_
      refine Sp.if2 rfl rfl rfl rfl (fun e6 => ?_) (fun e6 => ?_)
      · refine Sp.step rfl rfl rfl rfl ?_
        exact Sp.iret rfl rfl rfl rfl (fun _ _ h => h)
      · refine Sp.step rfl rfl rfl rfl ?_
        refine Sp.step rfl rfl rfl rfl ?_
        exact Sp.iret rfl rfl rfl rfl (fun _ _ h => h)
  · refine Sp.id (pc := 10) (l := [some (.ref 22), some (.int x)]) (st := [.int 0]) (h := hS X M) ?_
    refine Sp.step rfl rfl rfl rfl ?_
    refine Sp.step rfl rfl rfl rfl ?_
    exact Sp.iret rfl rfl rfl rfl (fun _ _ h => h)
