/-! methods as functions, by program -/
def f_M_isArray (x : Int32) (y : Int32) (z : Int32) (M : MS) : Option (Bool × MS) := (if ¬ x = 0 then (if ixo x 1002 then (if M.1 121 x.toNatClampNeg = y then (if 0 ≤ z ∧ z ≤ (M.1 122 x.toNatClampNeg) - 1 then (lt (mw M 60 90 0) fun M6 => (if ¬ M6.1 60 90 = 0 then some (false, M6) else some (true, M6))) else (lt (mw M 60 90 5) fun M9 => (if ¬ M9.1 60 90 = 0 then some (false, M9) else some (true, M9)))) else (lt (mw M 60 90 3) fun M11 => (if ¬ M11.1 60 90 = 0 then some (false, M11) else some (true, M11)))) else none) else (lt (mw M 60 90 1) fun M13 => (if ¬ M13.1 60 90 = 0 then some (false, M13) else some (true, M13))))
set_option maxRecDepth 100000 in
set_option maxHeartbeats 4000000 in
theorem s_M_isArray {L : Nat} {xs : Nat → Int32} {X : XS} {M : MS} {x : Int32} {y : Int32} {z : Int32} : Sp (mjOO L xs) 79 0 [some (.ref 60), some (.int x), some (.int y), some (.int z)] [] (hS X M) (f_M_isArray x y z M) (KBM X) := by
  unfold f_M_isArray
  refine Sp.step rfl rfl rfl rfl ?_
  refine Sp.step rfl rfl rfl rfl ?_
  refine Sp.if1 rfl rfl rfl rfl (fun e1 => ?_) (fun e1 => ?_)
  · refine Sp.step rfl rfl rfl rfl ?_
    refine Sp.step rfl rfl rfl (mg_F (f := 79) rfl rfl rfl rfl) ?_
    refine Sp.step rfl rfl rfl rfl ?_
    refine Sp.guard (fun e2 => ?_)
    refine Sp.step rfl rfl rfl (mld rfl rfl (by decide) e2) ?_
    refine Sp.step rfl rfl rfl rfl ?_
    refine Sp.if2 rfl rfl rfl rfl (fun e3 => ?_) (fun e3 => ?_)
    · refine Sp.step rfl rfl rfl rfl ?_
      refine Sp.step rfl rfl rfl rfl ?_
      refine Sp.step rfl rfl rfl rfl ?_
      refine Sp.step rfl rfl rfl (mg_F (f := 80) rfl rfl rfl rfl) ?_
      refine Sp.step rfl rfl rfl rfl ?_
      refine Sp.step rfl rfl rfl (mld rfl rfl (by decide) e2) ?_
      refine Sp.step rfl rfl rfl rfl ?_
      refine Sp.step rfl rfl rfl rfl ?_
      refine Sp.callP rfl rfl rfl rfl s_isIn (fun e4 => ?_) (fun e4 => ?_)
      · refine Sp.id (pc := 36) (l := [some (.ref 60), some (.int x), some (.int y), some (.int z)]) (st := [.int 1, .ref 60]) (h := hS X M) ?_
        refine Sp.step rfl rfl rfl rfl ?_
        refine Sp.step rfl rfl rfl rfl ?_
        refine Sp.step rfl rfl rfl (mp_I (f := 90) rfl rfl rfl rfl) ?_
        refine Sp.step rfl rfl rfl rfl ?_
        refine Sp.step rfl rfl rfl (mg_I (f := 90) rfl rfl rfl) ?_
        refine Sp.if1 rfl rfl rfl rfl (fun e7 => ?_) (fun e7 => ?_)
        · refine Sp.step rfl rfl rfl rfl ?_
          exact Sp.iret rfl rfl rfl rfl (fun _ _ h => h)
        · refine Sp.step rfl rfl rfl rfl ?_
          refine Sp.step rfl rfl rfl rfl ?_
          exact Sp.iret rfl rfl rfl rfl (fun _ _ h => h)
      · refine Sp.id (pc := 36) (l := [some (.ref 60), some (.int x), some (.int y), some (.int z)]) (st := [.int 0, .ref 60]) (h := hS X M) ?_
        refine Sp.step rfl rfl rfl rfl ?_
        refine Sp.step rfl rfl rfl rfl ?_
        refine Sp.step rfl rfl rfl rfl ?_
        refine Sp.step rfl rfl rfl (mp_I (f := 90) rfl rfl rfl rfl) ?_
        refine Sp.step rfl rfl rfl rfl ?_
        refine Sp.step rfl rfl rfl (mg_I (f := 90) rfl rfl rfl) ?_
        refine Sp.if1 rfl rfl rfl rfl (fun e10 => ?_) (fun e10 => ?_)
        · refine Sp.step rfl rfl rfl rfl ?_
          exact Sp.iret rfl rfl rfl rfl (fun _ _ h => h)
        · refine Sp.step rfl rfl rfl rfl ?_
          refine Sp.step rfl rfl rfl rfl ?_
          exact Sp.iret rfl rfl rfl rfl (fun _ _ h => h)
    · refine Sp.step rfl rfl rfl rfl ?_
      refine Sp.step rfl rfl rfl rfl ?_
      refine Sp.step rfl rfl rfl (mp_I (f := 90) rfl rfl rfl rfl) ?_
      refine Sp.step rfl rfl rfl rfl ?_
      refine Sp.step rfl rfl rfl (mg_I (f := 90) rfl rfl rfl) ?_
      refine Sp.if1 rfl rfl rfl rfl (fun e12 => ?_) (fun e12 => ?_)
      · refine Sp.step rfl rfl rfl rfl ?_
        exact Sp.iret rfl rfl rfl rfl (fun _ _ h => h)
      · refine Sp.step rfl rfl rfl rfl ?_
        refine Sp.step rfl rfl rfl rfl ?_
        exact Sp.iret rfl rfl rfl rfl (fun _ _ h => h)
  · refine Sp.step rfl rfl rfl rfl ?_
    refine Sp.step rfl rfl rfl rfl ?_
    refine Sp.step rfl rfl rfl (mp_I (f := 90) rfl rfl rfl rfl) ?_
    refine Sp.step rfl rfl rfl rfl ?_
    refine Sp.step rfl rfl rfl (mg_I (f := 90) rfl rfl rfl) ?_
    refine Sp.if1 rfl rfl rfl rfl (fun e14 => ?_) (fun e14 => ?_)
    · refine Sp.step rfl rfl rfl rfl ?_
      exact Sp.iret rfl rfl rfl rfl (fun _ _ h => h)
    · refine Sp.step rfl rfl rfl rfl ?_
      refine Sp.step rfl rfl rfl rfl ?_
      exact Sp.iret rfl rfl rfl rfl (fun _ _ h => h)
def f_M_arrays (x : Int32) (M : MS) : Option MS := (if x = 31 then ((f_M_takeValue M).bind fun x2 => (((if x2.1 < 0 then some 4 else (if x2.1 ≤ 200 then some 0 else some 4)) : Option (Int32)).bind fun x5 => (lt (mw x2.2 60 90 x5) fun M6 => (if ¬ M6.1 60 90 = 0 then some M6 else ((f_M_make 10 x2.1 M6).bind fun x10 => (if ¬ x10.2.1 60 90 = 0 then some x10.2 else ((f_M_putRef x10.1 x10.2).bind fun x12 => some x12))))))) else (if ¬ x = 35 then (if ¬ x = 34 then (if x = 33 then ((f_M_takeValue M).bind fun x17 => ((f_M_takeValue x17.2).bind fun x18 => ((f_M_takeValue x18.2).bind fun x19 => (((if 34 ≤ x then some 11 else some 10) : Option (Int32)).bind fun x21 => ((f_M_isArray x19.1 x21 x18.1 x19.2).bind fun x22 => (if x22.1 = true then (if ixo x19.1 1002 then (if ixo ((x22.2.1 123 x19.1.toNatClampNeg) + x18.1) 8200 then (lt (mw x22.2 127 ((x22.2.1 123 x19.1.toNatClampNeg) + x18.1).toNatClampNeg x17.1) fun M28 => some M28) else none) else none) else some x22.2)))))) else (if ¬ x = 37 then ((f_M_takeValue M).bind fun x32 => ((f_M_takeValue x32.2).bind fun x33 => (((if 34 ≤ x then some 11 else some 10) : Option (Int32)).bind fun x35 => ((f_M_isArray x33.1 x35 x32.1 x33.2).bind fun x36 => (if x36.1 = true then (if ¬ x = 32 then (if ixo x33.1 1002 then (if ixo ((x36.2.1 123 x33.1.toNatClampNeg) + x32.1) 8200 then ((f_M_putRef (x36.2.1 127 ((x36.2.1 123 x33.1.toNatClampNeg) + x32.1).toNatClampNeg) x36.2).bind fun x43 => some x43) else none) else none) else (if ixo x33.1 1002 then (if ixo ((x36.2.1 123 x33.1.toNatClampNeg) + x32.1) 8200 then ((f_M_putInt (x36.2.1 127 ((x36.2.1 123 x33.1.toNatClampNeg) + x32.1).toNatClampNeg) x36.2).bind fun x46 => some x46) else none) else none)) else some x36.2))))) else ((f_M_takeValue M).bind fun x49 => ((f_M_takeValue x49.2).bind fun x50 => ((f_M_takeValue x50.2).bind fun x51 => (((if 34 ≤ x then some 11 else some 10) : Option (Int32)).bind fun x53 => ((f_M_isArray x51.1 x53 x50.1 x51.2).bind fun x54 => (if x54.1 = true then (if ixo x51.1 1002 then (if ixo ((x54.2.1 123 x51.1.toNatClampNeg) + x50.1) 8200 then (lt (mw x54.2 127 ((x54.2.1 123 x51.1.toNatClampNeg) + x50.1).toNatClampNeg x49.1) fun M60 => some M60) else none) else none) else some x54.2)))))))) else ((f_M_takeValue M).bind fun x62 => (if ¬ x62.1 = 0 then (if ixo x62.1 1002 then (if 10 ≤ x62.2.1 121 x62.1.toNatClampNeg then (lt (mw x62.2 60 90 0) fun M66 => (if ¬ M66.1 60 90 = 0 then some M66 else ((f_M_putInt (M66.1 122 x62.1.toNatClampNeg) M66).bind fun x68 => some x68))) else (lt (mw x62.2 60 90 3) fun M69 => (if ¬ M69.1 60 90 = 0 then some M69 else ((f_M_putInt (M69.1 122 x62.1.toNatClampNeg) M69).bind fun x71 => some x71)))) else none) else (lt (mw x62.2 60 90 1) fun M72 => (if ¬ M72.1 60 90 = 0 then some M72 else (if ixo x62.1 1002 then ((f_M_putInt (M72.1 122 x62.1.toNatClampNeg) M72).bind fun x75 => some x75) else none)))))) else ((f_M_takeValue M).bind fun x76 => (((if x76.1 < 0 then some 4 else (if x76.1 ≤ 200 then some 0 else some 4)) : Option (Int32)).bind fun x79 => (lt (mw x76.2 60 90 x79) fun M80 => (if ¬ M80.1 60 90 = 0 then some M80 else ((f_M_make 11 x76.1 M80).bind fun x84 => (if ¬ x84.2.1 60 90 = 0 then some x84.2 else ((f_M_putRef x84.1 x84.2).bind fun x86 => some x86)))))))))
set_option maxRecDepth 100000 in
set_option maxHeartbeats 4000000 in
theorem s_M_arrays {L : Nat} {xs : Nat → Int32} {X : XS} {M : MS} {x : Int32} : Sp (mjOO L xs) 84 0 [some (.ref 60), some (.int x), none, none, none, none] [] (hS X M) (f_M_arrays x M) (KVM X) := by
  unfold f_M_arrays
  refine Sp.step rfl rfl rfl rfl ?_
  refine Sp.step rfl rfl rfl rfl ?_
  refine Sp.if2 rfl rfl rfl rfl (fun e1 => ?_) (fun e1 => ?_)
  · refine Sp.step rfl rfl rfl rfl ?_
    refine Sp.call rfl rfl rfl (mrecv (by decide) (by decide +kernel)) s_M_takeValue (fun x2 => ⟨_, _, ⟨rfl, rfl⟩, ?_⟩)
    refine Sp.id (pc := 16) (l := [some (.ref 60), some (.int x), none, none, none, none]) (st := [.int x2.1]) (h := hS X x2.2) ?_
    refine Sp.step rfl rfl rfl rfl ?_
    refine Sp.step rfl rfl rfl rfl ?_
    refine Sp.step rfl rfl rfl rfl ?_
    refine Sp.piece (pe := 34) (mf := (fun (x5 : Int32) => [some (.ref 60), some (.int x), some (.int x2.1), none, none, none])) (sf := (fun (x5 : Int32) => [.int x5, .ref 60])) (hf := (fun (x5 : Int32) => hS X x2.2)) ?_ (fun x5 => ?_)
    · refine Sp.if1 rfl rfl rfl rfl (fun e3 => ?_) (fun e3 => ?_)
      · refine Sp.step rfl rfl rfl rfl ?_
        refine Sp.step rfl rfl rfl rfl ?_
        exact Sp.jmp (l0 := [some (.ref 60), some (.int x), some (.int x2.1), none, none, none]) ⟨rfl, rfl, rfl, trivial⟩ (fun _ _ h => h)
      · refine Sp.step rfl rfl rfl rfl ?_
        refine Sp.step rfl rfl rfl rfl ?_
        refine Sp.if2 rfl rfl rfl rfl (fun e4 => ?_) (fun e4 => ?_)
        · refine Sp.step rfl rfl rfl rfl ?_
          exact Sp.jmp (l0 := [some (.ref 60), some (.int x), some (.int x2.1), none, none, none]) ⟨rfl, rfl, rfl, trivial⟩ (fun _ _ h => h)
        · refine Sp.step rfl rfl rfl rfl ?_
          refine Sp.step rfl rfl rfl rfl ?_
          exact Sp.jmp (l0 := [some (.ref 60), some (.int x), some (.int x2.1), none, none, none]) ⟨rfl, rfl, rfl, trivial⟩ (fun _ _ h => h)
    · refine Sp.step rfl rfl rfl (mp_I (f := 90) rfl rfl rfl rfl) ?_
      refine Sp.step rfl rfl rfl rfl ?_
      refine Sp.step rfl rfl rfl (mg_I (f := 90) rfl rfl rfl) ?_
      refine Sp.if1 rfl rfl rfl rfl (fun e7 => ?_) (fun e7 => ?_)
      · refine Sp.step rfl rfl rfl rfl ?_
        refine Sp.step rfl rfl rfl rfl ?_
        refine Sp.step rfl rfl rfl rfl ?_
        refine Sp.step rfl rfl rfl (mg_I (f := 90) rfl rfl rfl) ?_
        refine Sp.prune (c := ¬ (mw x2.2 60 90 x5).1 60 90 = 0) ?_
        refine Sp.if1 rfl rfl rfl rfl (fun e8 => ?_) (fun e8 => absurd e7 e8)
        refine Sp.step rfl rfl rfl rfl ?_
        exact Sp.vret rfl rfl rfl (fun _ _ h => h)
      · refine Sp.step rfl rfl rfl rfl ?_
        refine Sp.step rfl rfl rfl rfl ?_
        refine Sp.step rfl rfl rfl rfl ?_
        refine Sp.prune (c := ¬ x = 31) ?_
        refine Sp.if2 rfl rfl rfl rfl (fun e9 => absurd e9 (fun h => h e1)) (fun e9 => ?_)
        refine Sp.step rfl rfl rfl rfl ?_
        refine Sp.step rfl rfl rfl rfl ?_
        refine Sp.step rfl rfl rfl rfl ?_
        refine Sp.call rfl rfl rfl (mrecv (by decide) (by decide +kernel)) s_M_make (fun x10 => ⟨_, _, ⟨rfl, rfl⟩, ?_⟩)
        refine Sp.id (pc := 62) (l := [some (.ref 60), some (.int x), some (.int x2.1), none, none, none]) (st := [.int x10.1]) (h := hS X x10.2) ?_
        refine Sp.step rfl rfl rfl rfl ?_
        refine Sp.step rfl rfl rfl rfl ?_
        refine Sp.step rfl rfl rfl rfl ?_
        refine Sp.step rfl rfl rfl (mg_I (f := 90) rfl rfl rfl) ?_
        refine Sp.if1 rfl rfl rfl rfl (fun e11 => ?_) (fun e11 => ?_)
        · refine Sp.step rfl rfl rfl rfl ?_
          exact Sp.vret rfl rfl rfl (fun _ _ h => h)
        · refine Sp.step rfl rfl rfl rfl ?_
          refine Sp.step rfl rfl rfl rfl ?_
          refine Sp.call rfl rfl rfl (mrecv (by decide) (by decide +kernel)) s_M_putRef (fun x12 => ⟨_, _, ⟨rfl, rfl⟩, ?_⟩)
          refine Sp.id (pc := 79) (l := [some (.ref 60), some (.int x), some (.int x2.1), some (.int x10.1), none, none]) (st := []) (h := hS X x12) ?_
          refine Sp.step rfl rfl rfl rfl ?_
          exact Sp.vret rfl rfl rfl (fun _ _ h => h)
  · refine Sp.step rfl rfl rfl rfl ?_
    refine Sp.step rfl rfl rfl rfl ?_
    refine Sp.if2 rfl rfl rfl rfl (fun e13 => ?_) (fun e13 => ?_)
    · refine Sp.step rfl rfl rfl rfl ?_
      refine Sp.step rfl rfl rfl rfl ?_
      refine Sp.if2 rfl rfl rfl rfl (fun e14 => ?_) (fun e14 => ?_)
      · refine Sp.step rfl rfl rfl rfl ?_
        refine Sp.step rfl rfl rfl rfl ?_
        refine Sp.if2 rfl rfl rfl rfl (fun e15 => ?_) (fun e15 => ?_)
        · refine Sp.step rfl rfl rfl rfl ?_
          refine Sp.step rfl rfl rfl rfl ?_
          refine Sp.step rfl rfl rfl rfl ?_
          refine Sp.step rfl rfl rfl rfl ?_
          refine Sp.step rfl rfl rfl rfl ?_
          refine Sp.step rfl rfl rfl rfl ?_
          refine Sp.call rfl rfl rfl (mrecv (by decide) (by decide +kernel)) s_M_takeValue (fun x17 => ⟨_, _, ⟨rfl, rfl⟩, ?_⟩)
          refine Sp.id (pc := 167) (l := [some (.ref 60), some (.int x), some (.int 1), none, none, none]) (st := [.int x17.1]) (h := hS X x17.2) ?_
          refine Sp.step rfl rfl rfl rfl ?_
          refine Sp.step rfl rfl rfl rfl ?_
          refine Sp.step rfl rfl rfl rfl ?_
          refine Sp.call rfl rfl rfl (mrecv (by decide) (by decide +kernel)) s_M_takeValue (fun x18 => ⟨_, _, ⟨rfl, rfl⟩, ?_⟩)
          refine Sp.id (pc := 176) (l := [some (.ref 60), some (.int x), some (.int 1), some (.int x17.1), none, none]) (st := [.int x18.1]) (h := hS X x18.2) ?_
          refine Sp.step rfl rfl rfl rfl ?_
          refine Sp.step rfl rfl rfl rfl ?_
          refine Sp.call rfl rfl rfl (mrecv (by decide) (by decide +kernel)) s_M_takeValue (fun x19 => ⟨_, _, ⟨rfl, rfl⟩, ?_⟩)
          refine Sp.id (pc := 182) (l := [some (.ref 60), some (.int x), some (.int 1), some (.int x17.1), some (.int x18.1), none]) (st := [.int x19.1]) (h := hS X x19.2) ?_
          refine Sp.step rfl rfl rfl rfl ?_
          refine Sp.step rfl rfl rfl rfl ?_
          refine Sp.step rfl rfl rfl rfl ?_
          refine Sp.step rfl rfl rfl rfl ?_
          refine Sp.step rfl rfl rfl rfl ?_
          refine Sp.piece (pe := 200) (mf := (fun (x21 : Int32) => [some (.ref 60), some (.int x), some (.int 1), some (.int x17.1), some (.int x18.1), some (.int x19.1)])) (sf := (fun (x21 : Int32) => [.int x21, .int x19.1, .ref 60])) (hf := (fun (x21 : Int32) => hS X x19.2)) ?_ (fun x21 => ?_)
          · refine Sp.if2 rfl rfl rfl rfl (fun e20 => ?_) (fun e20 => ?_)
            · refine Sp.step rfl rfl rfl rfl ?_
              exact Sp.jmp (l0 := [some (.ref 60), some (.int x), some (.int 1), some (.int x17.1), some (.int x18.1), some (.int x19.1)]) ⟨rfl, rfl, rfl, rfl, rfl, rfl, trivial⟩ (fun _ _ h => h)
            · refine Sp.step rfl rfl rfl rfl ?_
              refine Sp.step rfl rfl rfl rfl ?_
              exact Sp.jmp (l0 := [some (.ref 60), some (.int x), some (.int 1), some (.int x17.1), some (.int x18.1), some (.int x19.1)]) ⟨rfl, rfl, rfl, rfl, rfl, rfl, trivial⟩ (fun _ _ h => h)
          · refine Sp.step rfl rfl rfl rfl ?_
            refine Sp.call rfl rfl rfl (mrecv (by decide) (by decide +kernel)) s_M_isArray (fun x22 => ⟨_, _, ⟨rfl, rfl⟩, ?_⟩)
            refine Sp.bool (fun e23 => ?_) (fun e23 => ?_)
            · refine Sp.id (pc := 205) (l := [some (.ref 60), some (.int x), some (.int 1), some (.int x17.1), some (.int x18.1), some (.int x19.1)]) (st := [.int 1]) (h := hS X x22.2) ?_
              refine Sp.step rfl rfl rfl rfl ?_
              refine Sp.step rfl rfl rfl rfl ?_
              refine Sp.step rfl rfl rfl rfl ?_
              refine Sp.step rfl rfl rfl rfl ?_
              refine Sp.step rfl rfl rfl (mg_F (f := 85) rfl rfl rfl rfl) ?_
              refine Sp.step rfl rfl rfl rfl ?_
              refine Sp.step rfl rfl rfl (mg_F (f := 81) rfl rfl rfl rfl) ?_
              refine Sp.step rfl rfl rfl rfl ?_
              refine Sp.guard (fun e26 => ?_)
              refine Sp.step rfl rfl rfl (mld rfl rfl (by decide) e26) ?_
              refine Sp.step rfl rfl rfl rfl ?_
              refine Sp.step rfl rfl rfl rfl ?_
              refine Sp.step rfl rfl rfl rfl ?_
              refine Sp.guard (fun e27 => ?_)
              refine Sp.step rfl rfl rfl (mst rfl rfl (by decide) e27) ?_
              refine Sp.step rfl rfl rfl rfl ?_
              exact Sp.vret rfl rfl rfl (fun _ _ h => h)
            · refine Sp.id (pc := 205) (l := [some (.ref 60), some (.int x), some (.int 1), some (.int x17.1), some (.int x18.1), some (.int x19.1)]) (st := [.int 0]) (h := hS X x22.2) ?_
              refine Sp.step rfl rfl rfl rfl ?_
              exact Sp.vret rfl rfl rfl (fun _ _ h => h)
        · refine Sp.step rfl rfl rfl rfl ?_
          refine Sp.step rfl rfl rfl rfl ?_
          refine Sp.if2 rfl rfl rfl rfl (fun e30 => ?_) (fun e30 => ?_)
          · refine Sp.step rfl rfl rfl rfl ?_
            refine Sp.step rfl rfl rfl rfl ?_
            refine Sp.step rfl rfl rfl rfl ?_
            refine Sp.step rfl rfl rfl rfl ?_
            refine Sp.step rfl rfl rfl rfl ?_
            refine Sp.step rfl rfl rfl rfl ?_
            refine Sp.step rfl rfl rfl rfl ?_
            refine Sp.call rfl rfl rfl (mrecv (by decide) (by decide +kernel)) s_M_takeValue (fun x32 => ⟨_, _, ⟨rfl, rfl⟩, ?_⟩)
            refine Sp.id (pc := 176) (l := [some (.ref 60), some (.int x), some (.int 0), some (.int 0), none, none]) (st := [.int x32.1]) (h := hS X x32.2) ?_
            refine Sp.step rfl rfl rfl rfl ?_
            refine Sp.step rfl rfl rfl rfl ?_
            refine Sp.call rfl rfl rfl (mrecv (by decide) (by decide +kernel)) s_M_takeValue (fun x33 => ⟨_, _, ⟨rfl, rfl⟩, ?_⟩)
            refine Sp.id (pc := 182) (l := [some (.ref 60), some (.int x), some (.int 0), some (.int 0), some (.int x32.1), none]) (st := [.int x33.1]) (h := hS X x33.2) ?_
            refine Sp.step rfl rfl rfl rfl ?_
            refine Sp.step rfl rfl rfl rfl ?_
            refine Sp.step rfl rfl rfl rfl ?_
            refine Sp.step rfl rfl rfl rfl ?_
            refine Sp.step rfl rfl rfl rfl ?_
            refine Sp.piece (pe := 200) (mf := (fun (x35 : Int32) => [some (.ref 60), some (.int x), some (.int 0), some (.int 0), some (.int x32.1), some (.int x33.1)])) (sf := (fun (x35 : Int32) => [.int x35, .int x33.1, .ref 60])) (hf := (fun (x35 : Int32) => hS X x33.2)) ?_ (fun x35 => ?_)
            · refine Sp.if2 rfl rfl rfl rfl (fun e34 => ?_) (fun e34 => ?_)
              · refine Sp.step rfl rfl rfl rfl ?_
                exact Sp.jmp (l0 := [some (.ref 60), some (.int x), some (.int 0), some (.int 0), some (.int x32.1), some (.int x33.1)]) ⟨rfl, rfl, rfl, rfl, rfl, rfl, trivial⟩ (fun _ _ h => h)
              · refine Sp.step rfl rfl rfl rfl ?_
                refine Sp.step rfl rfl rfl rfl ?_
                exact Sp.jmp (l0 := [some (.ref 60), some (.int x), some (.int 0), some (.int 0), some (.int x32.1), some (.int x33.1)]) ⟨rfl, rfl, rfl, rfl, rfl, rfl, trivial⟩ (fun _ _ h => h)
            · refine Sp.step rfl rfl rfl rfl ?_
              refine Sp.call rfl rfl rfl (mrecv (by decide) (by decide +kernel)) s_M_isArray (fun x36 => ⟨_, _, ⟨rfl, rfl⟩, ?_⟩)
              refine Sp.bool (fun e37 => ?_) (fun e37 => ?_)
              · refine Sp.id (pc := 205) (l := [some (.ref 60), some (.int x), some (.int 0), some (.int 0), some (.int x32.1), some (.int x33.1)]) (st := [.int 1]) (h := hS X x36.2) ?_
                refine Sp.step rfl rfl rfl rfl ?_
                refine Sp.step rfl rfl rfl rfl ?_
                refine Sp.step rfl rfl rfl rfl ?_
                refine Sp.step rfl rfl rfl rfl ?_
                refine Sp.step rfl rfl rfl rfl ?_
                refine Sp.if2 rfl rfl rfl rfl (fun e40 => ?_) (fun e40 => ?_)
                · refine Sp.step rfl rfl rfl rfl ?_
                  refine Sp.step rfl rfl rfl rfl ?_
                  refine Sp.step rfl rfl rfl (mg_F (f := 85) rfl rfl rfl rfl) ?_
                  refine Sp.step rfl rfl rfl rfl ?_
                  refine Sp.step rfl rfl rfl (mg_F (f := 81) rfl rfl rfl rfl) ?_
                  refine Sp.step rfl rfl rfl rfl ?_
                  refine Sp.guard (fun e41 => ?_)
                  refine Sp.step rfl rfl rfl (mld rfl rfl (by decide) e41) ?_
                  refine Sp.step rfl rfl rfl rfl ?_
                  refine Sp.step rfl rfl rfl rfl ?_
                  refine Sp.guard (fun e42 => ?_)
                  refine Sp.step rfl rfl rfl (mld rfl rfl (by decide) e42) ?_
                  refine Sp.call rfl rfl rfl (mrecv (by decide) (by decide +kernel)) s_M_putRef (fun x43 => ⟨_, _, ⟨rfl, rfl⟩, ?_⟩)
                  refine Sp.id (pc := 279) (l := [some (.ref 60), some (.int x), some (.int 0), some (.int 0), some (.int x32.1), some (.int x33.1)]) (st := []) (h := hS X x43) ?_
                  exact Sp.vret rfl rfl rfl (fun _ _ h => h)
                · refine Sp.step rfl rfl rfl rfl ?_
                  refine Sp.step rfl rfl rfl rfl ?_
                  refine Sp.step rfl rfl rfl (mg_F (f := 85) rfl rfl rfl rfl) ?_
                  refine Sp.step rfl rfl rfl rfl ?_
                  refine Sp.step rfl rfl rfl (mg_F (f := 81) rfl rfl rfl rfl) ?_
                  refine Sp.step rfl rfl rfl rfl ?_
                  refine Sp.guard (fun e44 => ?_)
                  refine Sp.step rfl rfl rfl (mld rfl rfl (by decide) e44) ?_
                  refine Sp.step rfl rfl rfl rfl ?_
                  refine Sp.step rfl rfl rfl rfl ?_
                  refine Sp.guard (fun e45 => ?_)
                  refine Sp.step rfl rfl rfl (mld rfl rfl (by decide) e45) ?_
                  refine Sp.call rfl rfl rfl (mrecv (by decide) (by decide +kernel)) s_M_putInt (fun x46 => ⟨_, _, ⟨rfl, rfl⟩, ?_⟩)
                  refine Sp.id (pc := 257) (l := [some (.ref 60), some (.int x), some (.int 0), some (.int 0), some (.int x32.1), some (.int x33.1)]) (st := []) (h := hS X x46) ?_
                  refine Sp.step rfl rfl rfl rfl ?_
                  exact Sp.vret rfl rfl rfl (fun _ _ h => h)
              · refine Sp.id (pc := 205) (l := [some (.ref 60), some (.int x), some (.int 0), some (.int 0), some (.int x32.1), some (.int x33.1)]) (st := [.int 0]) (h := hS X x36.2) ?_
                refine Sp.step rfl rfl rfl rfl ?_
                exact Sp.vret rfl rfl rfl (fun _ _ h => h)
          · refine Sp.step rfl rfl rfl rfl ?_
            refine Sp.step rfl rfl rfl rfl ?_
            refine Sp.step rfl rfl rfl rfl ?_
            refine Sp.step rfl rfl rfl rfl ?_
            refine Sp.step rfl rfl rfl rfl ?_
            refine Sp.step rfl rfl rfl rfl ?_
            refine Sp.call rfl rfl rfl (mrecv (by decide) (by decide +kernel)) s_M_takeValue (fun x49 => ⟨_, _, ⟨rfl, rfl⟩, ?_⟩)
            refine Sp.id (pc := 167) (l := [some (.ref 60), some (.int x), some (.int 1), none, none, none]) (st := [.int x49.1]) (h := hS X x49.2) ?_
            refine Sp.step rfl rfl rfl rfl ?_
            refine Sp.step rfl rfl rfl rfl ?_
            refine Sp.step rfl rfl rfl rfl ?_
            refine Sp.call rfl rfl rfl (mrecv (by decide) (by decide +kernel)) s_M_takeValue (fun x50 => ⟨_, _, ⟨rfl, rfl⟩, ?_⟩)
            refine Sp.id (pc := 176) (l := [some (.ref 60), some (.int x), some (.int 1), some (.int x49.1), none, none]) (st := [.int x50.1]) (h := hS X x50.2) ?_
            refine Sp.step rfl rfl rfl rfl ?_
            refine Sp.step rfl rfl rfl rfl ?_
            refine Sp.call rfl rfl rfl (mrecv (by decide) (by decide +kernel)) s_M_takeValue (fun x51 => ⟨_, _, ⟨rfl, rfl⟩, ?_⟩)
            refine Sp.id (pc := 182) (l := [some (.ref 60), some (.int x), some (.int 1), some (.int x49.1), some (.int x50.1), none]) (st := [.int x51.1]) (h := hS X x51.2) ?_
            refine Sp.step rfl rfl rfl rfl ?_
            refine Sp.step rfl rfl rfl rfl ?_
            refine Sp.step rfl rfl rfl rfl ?_
            refine Sp.step rfl rfl rfl rfl ?_
            refine Sp.step rfl rfl rfl rfl ?_
            refine Sp.piece (pe := 200) (mf := (fun (x53 : Int32) => [some (.ref 60), some (.int x), some (.int 1), some (.int x49.1), some (.int x50.1), some (.int x51.1)])) (sf := (fun (x53 : Int32) => [.int x53, .int x51.1, .ref 60])) (hf := (fun (x53 : Int32) => hS X x51.2)) ?_ (fun x53 => ?_)
            · refine Sp.if2 rfl rfl rfl rfl (fun e52 => ?_) (fun e52 => ?_)
              · refine Sp.step rfl rfl rfl rfl ?_
                exact Sp.jmp (l0 := [some (.ref 60), some (.int x), some (.int 1), some (.int x49.1), some (.int x50.1), some (.int x51.1)]) ⟨rfl, rfl, rfl, rfl, rfl, rfl, trivial⟩ (fun _ _ h => h)
              · refine Sp.step rfl rfl rfl rfl ?_
                refine Sp.step rfl rfl rfl rfl ?_
                exact Sp.jmp (l0 := [some (.ref 60), some (.int x), some (.int 1), some (.int x49.1), some (.int x50.1), some (.int x51.1)]) ⟨rfl, rfl, rfl, rfl, rfl, rfl, trivial⟩ (fun _ _ h => h)
            · refine Sp.step rfl rfl rfl rfl ?_
              refine Sp.call rfl rfl rfl (mrecv (by decide) (by decide +kernel)) s_M_isArray (fun x54 => ⟨_, _, ⟨rfl, rfl⟩, ?_⟩)
              refine Sp.bool (fun e55 => ?_) (fun e55 => ?_)
              · refine Sp.id (pc := 205) (l := [some (.ref 60), some (.int x), some (.int 1), some (.int x49.1), some (.int x50.1), some (.int x51.1)]) (st := [.int 1]) (h := hS X x54.2) ?_
                refine Sp.step rfl rfl rfl rfl ?_
                refine Sp.step rfl rfl rfl rfl ?_
                refine Sp.step rfl rfl rfl rfl ?_
                refine Sp.step rfl rfl rfl rfl ?_
                refine Sp.step rfl rfl rfl (mg_F (f := 85) rfl rfl rfl rfl) ?_
                refine Sp.step rfl rfl rfl rfl ?_
                refine Sp.step rfl rfl rfl (mg_F (f := 81) rfl rfl rfl rfl) ?_
                refine Sp.step rfl rfl rfl rfl ?_
                refine Sp.guard (fun e58 => ?_)
                refine Sp.step rfl rfl rfl (mld rfl rfl (by decide) e58) ?_
                refine Sp.step rfl rfl rfl rfl ?_
                refine Sp.step rfl rfl rfl rfl ?_
                refine Sp.step rfl rfl rfl rfl ?_
                refine Sp.guard (fun e59 => ?_)
                refine Sp.step rfl rfl rfl (mst rfl rfl (by decide) e59) ?_
                refine Sp.step rfl rfl rfl rfl ?_
                exact Sp.vret rfl rfl rfl (fun _ _ h => h)
              · refine Sp.id (pc := 205) (l := [some (.ref 60), some (.int x), some (.int 1), some (.int x49.1), some (.int x50.1), some (.int x51.1)]) (st := [.int 0]) (h := hS X x54.2) ?_
                refine Sp.step rfl rfl rfl rfl ?_
                exact Sp.vret rfl rfl rfl (fun _ _ h => h)
      · refine Sp.step rfl rfl rfl rfl ?_
        refine Sp.call rfl rfl rfl (mrecv (by decide) (by decide +kernel)) s_M_takeValue (fun x62 => ⟨_, _, ⟨rfl, rfl⟩, ?_⟩)
        refine Sp.id (pc := 92) (l := [some (.ref 60), some (.int x), none, none, none, none]) (st := [.int x62.1]) (h := hS X x62.2) ?_
        refine Sp.step rfl rfl rfl rfl ?_
        refine Sp.step rfl rfl rfl rfl ?_
        refine Sp.step rfl rfl rfl rfl ?_
        refine Sp.if1 rfl rfl rfl rfl (fun e63 => ?_) (fun e63 => ?_)
        · refine Sp.step rfl rfl rfl rfl ?_
          refine Sp.step rfl rfl rfl (mg_F (f := 79) rfl rfl rfl rfl) ?_
          refine Sp.step rfl rfl rfl rfl ?_
          refine Sp.guard (fun e64 => ?_)
          refine Sp.step rfl rfl rfl (mld rfl rfl (by decide) e64) ?_
          refine Sp.step rfl rfl rfl rfl ?_
          refine Sp.if2 rfl rfl rfl rfl (fun e65 => ?_) (fun e65 => ?_)
          · refine Sp.step rfl rfl rfl rfl ?_
            refine Sp.step rfl rfl rfl (mp_I (f := 90) rfl rfl rfl rfl) ?_
            refine Sp.step rfl rfl rfl rfl ?_
            refine Sp.step rfl rfl rfl (mg_I (f := 90) rfl rfl rfl) ?_
            refine Sp.if1 rfl rfl rfl rfl (fun e67 => ?_) (fun e67 => ?_)
            · refine Sp.step rfl rfl rfl rfl ?_
              exact Sp.vret rfl rfl rfl (fun _ _ h => h)
            · refine Sp.step rfl rfl rfl rfl ?_
              refine Sp.step rfl rfl rfl rfl ?_
              refine Sp.step rfl rfl rfl (mg_F (f := 80) rfl rfl rfl rfl) ?_
              refine Sp.step rfl rfl rfl rfl ?_
              refine Sp.step rfl rfl rfl (mld rfl rfl (by decide) e64) ?_
              refine Sp.call rfl rfl rfl (mrecv (by decide) (by decide +kernel)) s_M_putInt (fun x68 => ⟨_, _, ⟨rfl, rfl⟩, ?_⟩)
              refine Sp.id (pc := 138) (l := [some (.ref 60), some (.int x), some (.int x62.1), none, none, none]) (st := []) (h := hS X x68) ?_
              refine Sp.step rfl rfl rfl rfl ?_
              exact Sp.vret rfl rfl rfl (fun _ _ h => h)
          · refine Sp.step rfl rfl rfl rfl ?_
            refine Sp.step rfl rfl rfl rfl ?_
            refine Sp.step rfl rfl rfl (mp_I (f := 90) rfl rfl rfl rfl) ?_
            refine Sp.step rfl rfl rfl rfl ?_
            refine Sp.step rfl rfl rfl (mg_I (f := 90) rfl rfl rfl) ?_
            refine Sp.if1 rfl rfl rfl rfl (fun e70 => ?_) (fun e70 => ?_)
            · refine Sp.step rfl rfl rfl rfl ?_
              exact Sp.vret rfl rfl rfl (fun _ _ h => h)
            · refine Sp.step rfl rfl rfl rfl ?_
              refine Sp.step rfl rfl rfl rfl ?_
              refine Sp.step rfl rfl rfl (mg_F (f := 80) rfl rfl rfl rfl) ?_
              refine Sp.step rfl rfl rfl rfl ?_
              refine Sp.step rfl rfl rfl (mld rfl rfl (by decide) e64) ?_
              refine Sp.call rfl rfl rfl (mrecv (by decide) (by decide +kernel)) s_M_putInt (fun x71 => ⟨_, _, ⟨rfl, rfl⟩, ?_⟩)
              refine Sp.id (pc := 138) (l := [some (.ref 60), some (.int x), some (.int x62.1), none, none, none]) (st := []) (h := hS X x71) ?_
              refine Sp.step rfl rfl rfl rfl ?_
              exact Sp.vret rfl rfl rfl (fun _ _ h => h)
        · refine Sp.step rfl rfl rfl rfl ?_
          refine Sp.step rfl rfl rfl rfl ?_
          refine Sp.step rfl rfl rfl (mp_I (f := 90) rfl rfl rfl rfl) ?_
          refine Sp.step rfl rfl rfl rfl ?_
          refine Sp.step rfl rfl rfl (mg_I (f := 90) rfl rfl rfl) ?_
          refine Sp.if1 rfl rfl rfl rfl (fun e73 => ?_) (fun e73 => ?_)
          · refine Sp.step rfl rfl rfl rfl ?_
            exact Sp.vret rfl rfl rfl (fun _ _ h => h)
          · refine Sp.step rfl rfl rfl rfl ?_
            refine Sp.step rfl rfl rfl rfl ?_
            refine Sp.step rfl rfl rfl (mg_F (f := 80) rfl rfl rfl rfl) ?_
            refine Sp.step rfl rfl rfl rfl ?_
            refine Sp.guard (fun e74 => ?_)
            refine Sp.step rfl rfl rfl (mld rfl rfl (by decide) e74) ?_
            refine Sp.call rfl rfl rfl (mrecv (by decide) (by decide +kernel)) s_M_putInt (fun x75 => ⟨_, _, ⟨rfl, rfl⟩, ?_⟩)
            refine Sp.id (pc := 138) (l := [some (.ref 60), some (.int x), some (.int x62.1), none, none, none]) (st := []) (h := hS X x75) ?_
            refine Sp.step rfl rfl rfl rfl ?_
            exact Sp.vret rfl rfl rfl (fun _ _ h => h)
    · refine Sp.step rfl rfl rfl rfl ?_
      refine Sp.call rfl rfl rfl (mrecv (by decide) (by decide +kernel)) s_M_takeValue (fun x76 => ⟨_, _, ⟨rfl, rfl⟩, ?_⟩)
      refine Sp.id (pc := 16) (l := [some (.ref 60), some (.int x), none, none, none, none]) (st := [.int x76.1]) (h := hS X x76.2) ?_
      refine Sp.step rfl rfl rfl rfl ?_
      refine Sp.step rfl rfl rfl rfl ?_
      refine Sp.step rfl rfl rfl rfl ?_
      refine Sp.piece (pe := 34) (mf := (fun (x79 : Int32) => [some (.ref 60), some (.int x), some (.int x76.1), none, none, none])) (sf := (fun (x79 : Int32) => [.int x79, .ref 60])) (hf := (fun (x79 : Int32) => hS X x76.2)) ?_ (fun x79 => ?_)
      · refine Sp.if1 rfl rfl rfl rfl (fun e77 => ?_) (fun e77 => ?_)
        · refine Sp.step rfl rfl rfl rfl ?_
          refine Sp.step rfl rfl rfl rfl ?_
          exact Sp.jmp (l0 := [some (.ref 60), some (.int x), some (.int x76.1), none, none, none]) ⟨rfl, rfl, rfl, trivial⟩ (fun _ _ h => h)
        · refine Sp.step rfl rfl rfl rfl ?_
          refine Sp.step rfl rfl rfl rfl ?_
          refine Sp.if2 rfl rfl rfl rfl (fun e78 => ?_) (fun e78 => ?_)
          · refine Sp.step rfl rfl rfl rfl ?_
            exact Sp.jmp (l0 := [some (.ref 60), some (.int x), some (.int x76.1), none, none, none]) ⟨rfl, rfl, rfl, trivial⟩ (fun _ _ h => h)
          · refine Sp.step rfl rfl rfl rfl ?_
            refine Sp.step rfl rfl rfl rfl ?_
            exact Sp.jmp (l0 := [some (.ref 60), some (.int x), some (.int x76.1), none, none, none]) ⟨rfl, rfl, rfl, trivial⟩ (fun _ _ h => h)
      · refine Sp.step rfl rfl rfl (mp_I (f := 90) rfl rfl rfl rfl) ?_
        refine Sp.step rfl rfl rfl rfl ?_
        refine Sp.step rfl rfl rfl (mg_I (f := 90) rfl rfl rfl) ?_
        refine Sp.if1 rfl rfl rfl rfl (fun e81 => ?_) (fun e81 => ?_)
        · refine Sp.step rfl rfl rfl rfl ?_
          refine Sp.step rfl rfl rfl rfl ?_
          refine Sp.step rfl rfl rfl rfl ?_
          refine Sp.step rfl rfl rfl (mg_I (f := 90) rfl rfl rfl) ?_
          refine Sp.prune (c := ¬ (mw x76.2 60 90 x79).1 60 90 = 0) ?_
          refine Sp.if1 rfl rfl rfl rfl (fun e82 => ?_) (fun e82 => absurd e81 e82)
          refine Sp.step rfl rfl rfl rfl ?_
          exact Sp.vret rfl rfl rfl (fun _ _ h => h)
        · refine Sp.step rfl rfl rfl rfl ?_
          refine Sp.step rfl rfl rfl rfl ?_
          refine Sp.step rfl rfl rfl rfl ?_
          refine Sp.prune (c := ¬ x = 31) ?_
          refine Sp.if2 rfl rfl rfl rfl (fun e83 => ?_) (fun e83 => absurd e1 e83)
          refine Sp.step rfl rfl rfl rfl ?_
          refine Sp.step rfl rfl rfl rfl ?_
          refine Sp.call rfl rfl rfl (mrecv (by decide) (by decide +kernel)) s_M_make (fun x84 => ⟨_, _, ⟨rfl, rfl⟩, ?_⟩)
          refine Sp.id (pc := 62) (l := [some (.ref 60), some (.int x), some (.int x76.1), none, none, none]) (st := [.int x84.1]) (h := hS X x84.2) ?_
          refine Sp.step rfl rfl rfl rfl ?_
          refine Sp.step rfl rfl rfl rfl ?_
          refine Sp.step rfl rfl rfl rfl ?_
          refine Sp.step rfl rfl rfl (mg_I (f := 90) rfl rfl rfl) ?_
          refine Sp.if1 rfl rfl rfl rfl (fun e85 => ?_) (fun e85 => ?_)
          · refine Sp.step rfl rfl rfl rfl ?_
            exact Sp.vret rfl rfl rfl (fun _ _ h => h)
          · refine Sp.step rfl rfl rfl rfl ?_
            refine Sp.step rfl rfl rfl rfl ?_
            refine Sp.call rfl rfl rfl (mrecv (by decide) (by decide +kernel)) s_M_putRef (fun x86 => ⟨_, _, ⟨rfl, rfl⟩, ?_⟩)
            refine Sp.id (pc := 79) (l := [some (.ref 60), some (.int x), some (.int x76.1), some (.int x84.1), none, none]) (st := []) (h := hS X x86) ?_
            refine Sp.step rfl rfl rfl rfl ?_
            exact Sp.vret rfl rfl rfl (fun _ _ h => h)
def b84_M_call (y : Int32) (M : MS) (x5 : Int32) (x8 : (Int32 × MS)) (x15 : (Int32 × MS)) : Option ((Int32 × MS) ⊕ (Int32 × MS)) := (if (M.1 99 (24 + y).toNatClampNeg) + 1 ≤ x15.1 then some (.inr (x15.1, x15.2)) else (if ixo ((x5 - ((M.1 99 (24 + y).toNatClampNeg) + 1)) + x15.1) 2640 then (if ixo ((22 * x8.1) + x15.1) 2640 then (lt (mw x15.2 115 ((22 * x8.1) + x15.1).toNatClampNeg (x15.2.1 115 ((x5 - ((M.1 99 (24 + y).toNatClampNeg) + 1)) + x15.1).toNatClampNeg)) fun M19 => (lt (mw M19 116 ((22 * x8.1) + x15.1).toNatClampNeg (vp_nar .boolean (M19.1 116 ((x5 - ((M.1 99 (24 + y).toNatClampNeg) + 1)) + x15.1).toNatClampNeg))) fun M20 => some (.inl (x15.1 + 1, M20)))) else none) else none))
def b84_M_call' (y : Int32) (M : MS) (x22 : Int32) (x25 : (Int32 × MS)) (x32 : (Int32 × MS)) : Option ((Int32 × MS) ⊕ (Int32 × MS)) := (if (M.1 99 (24 + y).toNatClampNeg) + 0 ≤ x32.1 then some (.inr (x32.1, x32.2)) else (if ixo ((x22 - ((M.1 99 (24 + y).toNatClampNeg) + 0)) + x32.1) 2640 then (if ixo ((22 * x25.1) + x32.1) 2640 then (lt (mw x32.2 115 ((22 * x25.1) + x32.1).toNatClampNeg (x32.2.1 115 ((x22 - ((M.1 99 (24 + y).toNatClampNeg) + 0)) + x32.1).toNatClampNeg)) fun M36 => (lt (mw M36 116 ((22 * x25.1) + x32.1).toNatClampNeg (vp_nar .boolean (M36.1 116 ((x22 - ((M.1 99 (24 + y).toNatClampNeg) + 0)) + x32.1).toNatClampNeg))) fun M37 => some (.inl (x32.1 + 1, M37)))) else none) else none))
def f_M_call (x : Int32) (y : Int32) (M : MS) : Option MS := (if ixo x 6 then (if ¬ M.1 109 x.toNatClampNeg = 20 then (if ixo (24 + y) 48 then (if ¬ M.1 100 (24 + y).toNatClampNeg = (-2) then ((f_M_topAt M).bind fun x5 => (if ixo (M.1 60 89) 120 then (lt (mw M 114 (M.1 60 89).toNatClampNeg ((M.1 114 (M.1 60 89).toNatClampNeg) - ((M.1 99 (24 + y).toNatClampNeg) + 1))) fun M7 => ((f_M_beginFrame x y M7).bind fun x8 => ((lp (b84_M_call y M x5 x8) 10000 ((0 : Int32), x8.2)).bind fun x21 => some x21.2))) else none)) else ((f_M_topAt M).bind fun x22 => (if ixo (M.1 60 89) 120 then (lt (mw M 114 (M.1 60 89).toNatClampNeg ((M.1 114 (M.1 60 89).toNatClampNeg) - ((M.1 99 (24 + y).toNatClampNeg) + 0))) fun M24 => ((f_M_beginFrame x y M24).bind fun x25 => ((lp (b84_M_call' y M x22 x25) 10000 ((0 : Int32), x25.2)).bind fun x38 => some x38.2))) else none))) else none) else (lt (mw M 60 90 9) fun M39 => some M39)) else none)
set_option maxRecDepth 100000 in
set_option maxHeartbeats 4000000 in
theorem s_M_call {L : Nat} {xs : Nat → Int32} {X : XS} {M : MS} {x : Int32} {y : Int32} : Sp (mjOO L xs) 85 0 [some (.ref 60), some (.int x), some (.int y), none, none, none, none, none] [] (hS X M) (f_M_call x y M) (KVM X) := by
  unfold f_M_call
  refine Sp.step rfl rfl rfl rfl ?_
  refine Sp.step rfl rfl rfl (mg_F (f := 65) rfl rfl rfl rfl) ?_
  refine Sp.step rfl rfl rfl rfl ?_
  refine Sp.guard (fun e1 => ?_)
  refine Sp.step rfl rfl rfl (mld rfl rfl (by decide) e1) ?_
  refine Sp.step rfl rfl rfl rfl ?_
  refine Sp.if2 rfl rfl rfl rfl (fun e2 => ?_) (fun e2 => ?_)
  · refine Sp.step rfl rfl rfl rfl ?_
    refine Sp.step rfl rfl rfl (mg_F (f := 47) rfl rfl rfl rfl) ?_
    refine Sp.step rfl rfl rfl rfl ?_
    refine Sp.step rfl rfl rfl rfl ?_
    refine Sp.step rfl rfl rfl rfl ?_
    refine Sp.guard (fun e3 => ?_)
    refine Sp.step rfl rfl rfl (mld rfl rfl (by decide) e3) ?_
    refine Sp.step rfl rfl rfl rfl ?_
    refine Sp.step rfl rfl rfl (mg_F (f := 48) rfl rfl rfl rfl) ?_
    refine Sp.step rfl rfl rfl rfl ?_
    refine Sp.step rfl rfl rfl rfl ?_
    refine Sp.step rfl rfl rfl rfl ?_
    refine Sp.step rfl rfl rfl (mld rfl rfl (by decide) e3) ?_
    refine Sp.step rfl rfl rfl rfl ?_
    refine Sp.if2 rfl rfl rfl rfl (fun e4 => ?_) (fun e4 => ?_)
    · refine Sp.step rfl rfl rfl rfl ?_
      refine Sp.step rfl rfl rfl rfl ?_
      refine Sp.step rfl rfl rfl rfl ?_
      refine Sp.step rfl rfl rfl rfl ?_
      refine Sp.step rfl rfl rfl (mg_I (f := 89) rfl rfl rfl) ?_
      refine Sp.step rfl rfl rfl rfl ?_
      refine Sp.step rfl rfl rfl rfl ?_
      refine Sp.call rfl rfl rfl (mrecv (by decide) (by decide +kernel)) s_M_topAt (fun x5 => ⟨_, _, ⟨rfl, rfl⟩, ?_⟩)
      refine Sp.id (pc := 58) (l := [some (.ref 60), some (.int x), some (.int y), some (.int ((M.1 99 (24 + y).toNatClampNeg) + 1)), some (.int (M.1 60 89)), none, none, none]) (st := [.int x5]) (h := hS X M) ?_
      refine Sp.step rfl rfl rfl rfl ?_
      refine Sp.step rfl rfl rfl rfl ?_
      refine Sp.step rfl rfl rfl rfl ?_
      refine Sp.step rfl rfl rfl rfl ?_
      refine Sp.step rfl rfl rfl (mg_F (f := 70) rfl rfl rfl rfl) ?_
      refine Sp.step rfl rfl rfl rfl ?_
      refine Sp.step rfl rfl rfl rfl ?_
      refine Sp.guard (fun e6 => ?_)
      refine Sp.step rfl rfl rfl (mld rfl rfl (by decide) e6) ?_
      refine Sp.step rfl rfl rfl rfl ?_
      refine Sp.step rfl rfl rfl rfl ?_
      refine Sp.step rfl rfl rfl (mst rfl rfl (by decide) e6) ?_
      refine Sp.step rfl rfl rfl rfl ?_
      refine Sp.step rfl rfl rfl rfl ?_
      refine Sp.step rfl rfl rfl rfl ?_
      refine Sp.call rfl rfl rfl (mrecv (by decide) (by decide +kernel)) s_M_beginFrame (fun x8 => ⟨_, _, ⟨rfl, rfl⟩, ?_⟩)
      refine Sp.id (pc := 79) (l := [some (.ref 60), some (.int x), some (.int y), some (.int ((M.1 99 (24 + y).toNatClampNeg) + 1)), some (.int (M.1 60 89)), some (.int (x5 - ((M.1 99 (24 + y).toNatClampNeg) + 1))), none, none]) (st := [.int x8.1]) (h := hS X x8.2) ?_
      refine Sp.step rfl rfl rfl rfl ?_
      refine Sp.step rfl rfl rfl rfl ?_
      refine Sp.step rfl rfl rfl rfl ?_
      refine Sp.weak (l0 := [some (.ref 60), none, none, some (.int ((M.1 99 (24 + y).toNatClampNeg) + 1)), none, some (.int (x5 - ((M.1 99 (24 + y).toNatClampNeg) + 1))), some (.int x8.1), some (.int 0)]) ⟨rfl, rfl, rfl, rfl, rfl, trivial⟩ ?_
      refine Sp.loopX (pe := 142) (mf := (fun (x15 : (Int32 × MS)) => [some (.ref 60), none, none, some (.int ((M.1 99 (24 + y).toNatClampNeg) + 1)), none, some (.int (x5 - ((M.1 99 (24 + y).toNatClampNeg) + 1))), some (.int x8.1), some (.int x15.1)])) (hf := (fun (x15 : (Int32 × MS)) => hS X x15.2)) (fun x15 => ?_) (fun x21 => ?_) _ _
      · unfold b84_M_call
        refine Sp.step rfl rfl rfl rfl ?_
        refine Sp.step rfl rfl rfl rfl ?_
        refine Sp.if2 rfl rfl rfl rfl (fun e16 => ?_) (fun e16 => ?_)
        · exact Sp.jmp (l0 := [some (.ref 60), none, none, some (.int ((M.1 99 (24 + y).toNatClampNeg) + 1)), none, some (.int (x5 - ((M.1 99 (24 + y).toNatClampNeg) + 1))), some (.int x8.1), some (.int x15.1)]) ⟨rfl, rfl, rfl, rfl, rfl, trivial⟩ (fun _ _ h => h)
        · refine Sp.step rfl rfl rfl rfl ?_
          refine Sp.step rfl rfl rfl (mg_F (f := 71) rfl rfl rfl rfl) ?_
          refine Sp.step rfl rfl rfl rfl ?_
          refine Sp.step rfl rfl rfl rfl ?_
          refine Sp.step rfl rfl rfl rfl ?_
          refine Sp.step rfl rfl rfl rfl ?_
          refine Sp.step rfl rfl rfl rfl ?_
          refine Sp.step rfl rfl rfl rfl ?_
          refine Sp.step rfl rfl rfl (mg_F (f := 71) rfl rfl rfl rfl) ?_
          refine Sp.step rfl rfl rfl rfl ?_
          refine Sp.step rfl rfl rfl rfl ?_
          refine Sp.step rfl rfl rfl rfl ?_
          refine Sp.guard (fun e17 => ?_)
          refine Sp.step rfl rfl rfl (mld rfl rfl (by decide) e17) ?_
          refine Sp.guard (fun e18 => ?_)
          refine Sp.step rfl rfl rfl (mst rfl rfl (by decide) e18) ?_
          refine Sp.step rfl rfl rfl rfl ?_
          refine Sp.step rfl rfl rfl (mg_F (f := 72) rfl rfl rfl rfl) ?_
          refine Sp.step rfl rfl rfl rfl ?_
          refine Sp.step rfl rfl rfl rfl ?_
          refine Sp.step rfl rfl rfl rfl ?_
          refine Sp.step rfl rfl rfl rfl ?_
          refine Sp.step rfl rfl rfl rfl ?_
          refine Sp.step rfl rfl rfl rfl ?_
          refine Sp.step rfl rfl rfl (mg_F (f := 72) rfl rfl rfl rfl) ?_
          refine Sp.step rfl rfl rfl rfl ?_
          refine Sp.step rfl rfl rfl rfl ?_
          refine Sp.step rfl rfl rfl rfl ?_
          refine Sp.step rfl rfl rfl (mld rfl rfl (by decide) e17) ?_
          refine Sp.step rfl rfl rfl (mst rfl rfl (by decide) e18) ?_
          refine Sp.step rfl rfl rfl rfl ?_
          refine Sp.step rfl rfl rfl rfl ?_
          exact Sp.jmp (l0 := [some (.ref 60), none, none, some (.int ((M.1 99 (24 + y).toNatClampNeg) + 1)), none, some (.int (x5 - ((M.1 99 (24 + y).toNatClampNeg) + 1))), some (.int x8.1), some (.int (x15.1 + 1))]) ⟨rfl, rfl, rfl, rfl, rfl, trivial⟩ (fun _ _ h => h)
      · exact Sp.vret rfl rfl rfl (fun _ _ h => h)
    · refine Sp.step rfl rfl rfl rfl ?_
      refine Sp.step rfl rfl rfl rfl ?_
      refine Sp.step rfl rfl rfl rfl ?_
      refine Sp.step rfl rfl rfl rfl ?_
      refine Sp.step rfl rfl rfl rfl ?_
      refine Sp.step rfl rfl rfl (mg_I (f := 89) rfl rfl rfl) ?_
      refine Sp.step rfl rfl rfl rfl ?_
      refine Sp.step rfl rfl rfl rfl ?_
      refine Sp.call rfl rfl rfl (mrecv (by decide) (by decide +kernel)) s_M_topAt (fun x22 => ⟨_, _, ⟨rfl, rfl⟩, ?_⟩)
      refine Sp.id (pc := 58) (l := [some (.ref 60), some (.int x), some (.int y), some (.int ((M.1 99 (24 + y).toNatClampNeg) + 0)), some (.int (M.1 60 89)), none, none, none]) (st := [.int x22]) (h := hS X M) ?_
      refine Sp.step rfl rfl rfl rfl ?_
      refine Sp.step rfl rfl rfl rfl ?_
      refine Sp.step rfl rfl rfl rfl ?_
      refine Sp.step rfl rfl rfl rfl ?_
      refine Sp.step rfl rfl rfl (mg_F (f := 70) rfl rfl rfl rfl) ?_
      refine Sp.step rfl rfl rfl rfl ?_
      refine Sp.step rfl rfl rfl rfl ?_
      refine Sp.guard (fun e23 => ?_)
      refine Sp.step rfl rfl rfl (mld rfl rfl (by decide) e23) ?_
      refine Sp.step rfl rfl rfl rfl ?_
      refine Sp.step rfl rfl rfl rfl ?_
      refine Sp.step rfl rfl rfl (mst rfl rfl (by decide) e23) ?_
      refine Sp.step rfl rfl rfl rfl ?_
      refine Sp.step rfl rfl rfl rfl ?_
      refine Sp.step rfl rfl rfl rfl ?_
      refine Sp.call rfl rfl rfl (mrecv (by decide) (by decide +kernel)) s_M_beginFrame (fun x25 => ⟨_, _, ⟨rfl, rfl⟩, ?_⟩)
      refine Sp.id (pc := 79) (l := [some (.ref 60), some (.int x), some (.int y), some (.int ((M.1 99 (24 + y).toNatClampNeg) + 0)), some (.int (M.1 60 89)), some (.int (x22 - ((M.1 99 (24 + y).toNatClampNeg) + 0))), none, none]) (st := [.int x25.1]) (h := hS X x25.2) ?_
      refine Sp.step rfl rfl rfl rfl ?_
      refine Sp.step rfl rfl rfl rfl ?_
      refine Sp.step rfl rfl rfl rfl ?_
      refine Sp.weak (l0 := [some (.ref 60), none, none, some (.int ((M.1 99 (24 + y).toNatClampNeg) + 0)), none, some (.int (x22 - ((M.1 99 (24 + y).toNatClampNeg) + 0))), some (.int x25.1), some (.int 0)]) ⟨rfl, rfl, rfl, rfl, rfl, trivial⟩ ?_
      refine Sp.loopX (pe := 142) (mf := (fun (x32 : (Int32 × MS)) => [some (.ref 60), none, none, some (.int ((M.1 99 (24 + y).toNatClampNeg) + 0)), none, some (.int (x22 - ((M.1 99 (24 + y).toNatClampNeg) + 0))), some (.int x25.1), some (.int x32.1)])) (hf := (fun (x32 : (Int32 × MS)) => hS X x32.2)) (fun x32 => ?_) (fun x38 => ?_) _ _
      · unfold b84_M_call'
        refine Sp.step rfl rfl rfl rfl ?_
        refine Sp.step rfl rfl rfl rfl ?_
        refine Sp.if2 rfl rfl rfl rfl (fun e33 => ?_) (fun e33 => ?_)
        · exact Sp.jmp (l0 := [some (.ref 60), none, none, some (.int ((M.1 99 (24 + y).toNatClampNeg) + 0)), none, some (.int (x22 - ((M.1 99 (24 + y).toNatClampNeg) + 0))), some (.int x25.1), some (.int x32.1)]) ⟨rfl, rfl, rfl, rfl, rfl, trivial⟩ (fun _ _ h => h)
        · refine Sp.step rfl rfl rfl rfl ?_
          refine Sp.step rfl rfl rfl (mg_F (f := 71) rfl rfl rfl rfl) ?_
          refine Sp.step rfl rfl rfl rfl ?_
          refine Sp.step rfl rfl rfl rfl ?_
          refine Sp.step rfl rfl rfl rfl ?_
          refine Sp.step rfl rfl rfl rfl ?_
          refine Sp.step rfl rfl rfl rfl ?_
          refine Sp.step rfl rfl rfl rfl ?_
          refine Sp.step rfl rfl rfl (mg_F (f := 71) rfl rfl rfl rfl) ?_
          refine Sp.step rfl rfl rfl rfl ?_
          refine Sp.step rfl rfl rfl rfl ?_
          refine Sp.step rfl rfl rfl rfl ?_
          refine Sp.guard (fun e34 => ?_)
          refine Sp.step rfl rfl rfl (mld rfl rfl (by decide) e34) ?_
          refine Sp.guard (fun e35 => ?_)
          refine Sp.step rfl rfl rfl (mst rfl rfl (by decide) e35) ?_
          refine Sp.step rfl rfl rfl rfl ?_
          refine Sp.step rfl rfl rfl (mg_F (f := 72) rfl rfl rfl rfl) ?_
          refine Sp.step rfl rfl rfl rfl ?_
          refine Sp.step rfl rfl rfl rfl ?_
          refine Sp.step rfl rfl rfl rfl ?_
          refine Sp.step rfl rfl rfl rfl ?_
          refine Sp.step rfl rfl rfl rfl ?_
          refine Sp.step rfl rfl rfl rfl ?_
          refine Sp.step rfl rfl rfl (mg_F (f := 72) rfl rfl rfl rfl) ?_
          refine Sp.step rfl rfl rfl rfl ?_
          refine Sp.step rfl rfl rfl rfl ?_
          refine Sp.step rfl rfl rfl rfl ?_
          refine Sp.step rfl rfl rfl (mld rfl rfl (by decide) e34) ?_
          refine Sp.step rfl rfl rfl (mst rfl rfl (by decide) e35) ?_
          refine Sp.step rfl rfl rfl rfl ?_
          refine Sp.step rfl rfl rfl rfl ?_
          exact Sp.jmp (l0 := [some (.ref 60), none, none, some (.int ((M.1 99 (24 + y).toNatClampNeg) + 0)), none, some (.int (x22 - ((M.1 99 (24 + y).toNatClampNeg) + 0))), some (.int x25.1), some (.int (x32.1 + 1))]) ⟨rfl, rfl, rfl, rfl, rfl, trivial⟩ (fun _ _ h => h)
      · exact Sp.vret rfl rfl rfl (fun _ _ h => h)
  · refine Sp.step rfl rfl rfl rfl ?_
    refine Sp.step rfl rfl rfl rfl ?_
    refine Sp.step rfl rfl rfl (mp_I (f := 90) rfl rfl rfl rfl) ?_
    exact Sp.vret rfl rfl rfl (fun _ _ h => h)
def f_M_giveBack (x : Int32) (y : Int32) (M : MS) : Option MS := (((if ¬ y = 40 then ((f_M_takeValue M).bind fun x2 => some (x2.1, x2.2)) else some (0, M)) : Option (Int32 × MS)).bind fun x3 => (if ixo x 6 then (lt (mw x3.2 109 x.toNatClampNeg ((x3.2.1 109 x.toNatClampNeg) - 1)) fun M5 => (if ¬ M5.1 109 x.toNatClampNeg = 0 then (lt (mw M5 60 89 ((M5.1 60 89) - 1)) fun M7 => (if ¬ y = 41 then (if ¬ y = 42 then (if ixo (M7.1 60 89) 120 then (lt (mw M7 113 (M7.1 60 89).toNatClampNeg ((M7.1 113 (M7.1 60 89).toNatClampNeg) + 1)) fun M11 => some M11) else none) else ((f_M_putRef x3.1 M7).bind fun x12 => (if ixo (x12.1 60 89) 120 then (lt (mw x12 113 (x12.1 60 89).toNatClampNeg ((x12.1 113 (x12.1 60 89).toNatClampNeg) + 1)) fun M14 => some M14) else none))) else ((f_M_putInt x3.1 M7).bind fun x15 => (if ixo (x15.1 60 89) 120 then (lt (mw x15 113 (x15.1 60 89).toNatClampNeg ((x15.1 113 (x15.1 60 89).toNatClampNeg) + 1)) fun M17 => some M17) else none)))) else (lt (mw M5 110 x.toNatClampNeg 2) fun M18 => some M18))) else none))
set_option maxRecDepth 100000 in
set_option maxHeartbeats 4000000 in
theorem s_M_giveBack {L : Nat} {xs : Nat → Int32} {X : XS} {M : MS} {x : Int32} {y : Int32} : Sp (mjOO L xs) 90 0 [some (.ref 60), some (.int x), some (.int y), none] [] (hS X M) (f_M_giveBack x y M) (KVM X) := by
  unfold f_M_giveBack
  refine Sp.step rfl rfl rfl rfl ?_
  refine Sp.step rfl rfl rfl rfl ?_
  refine Sp.piece (pe := 14) (mf := (fun (x3 : Int32 × MS) => [some (.ref 60), some (.int x), some (.int y), none])) (sf := (fun (x3 : Int32 × MS) => [.int x3.1])) (hf := (fun (x3 : Int32 × MS) => hS X x3.2)) ?_ (fun x3 => ?_)
  · refine Sp.if2 rfl rfl rfl rfl (fun e1 => ?_) (fun e1 => ?_)
    · refine Sp.step rfl rfl rfl rfl ?_
      refine Sp.call rfl rfl rfl (mrecv (by decide) (by decide +kernel)) s_M_takeValue (fun x2 => ⟨_, _, ⟨rfl, rfl⟩, ?_⟩)
      refine Sp.id (pc := 14) (l := [some (.ref 60), some (.int x), some (.int y), none]) (st := [.int x2.1]) (h := hS X x2.2) ?_
      exact Sp.jmp (l0 := [some (.ref 60), some (.int x), some (.int y), none]) ⟨rfl, rfl, rfl, trivial⟩ (fun _ _ h => h)
    · refine Sp.step rfl rfl rfl rfl ?_
      refine Sp.step rfl rfl rfl rfl ?_
      exact Sp.jmp (l0 := [some (.ref 60), some (.int x), some (.int y), none]) ⟨rfl, rfl, rfl, trivial⟩ (fun _ _ h => h)
  · refine Sp.step rfl rfl rfl rfl ?_
    refine Sp.step rfl rfl rfl rfl ?_
    refine Sp.step rfl rfl rfl (mg_F (f := 65) rfl rfl rfl rfl) ?_
    refine Sp.step rfl rfl rfl rfl ?_
    refine Sp.step rfl rfl rfl rfl ?_
    refine Sp.guard (fun e4 => ?_)
    refine Sp.step rfl rfl rfl (mld rfl rfl (by decide) e4) ?_
    refine Sp.step rfl rfl rfl rfl ?_
    refine Sp.step rfl rfl rfl rfl ?_
    refine Sp.step rfl rfl rfl (mst rfl rfl (by decide) e4) ?_
    refine Sp.step rfl rfl rfl rfl ?_
    refine Sp.step rfl rfl rfl (mg_F (f := 65) rfl rfl rfl rfl) ?_
    refine Sp.step rfl rfl rfl rfl ?_
    refine Sp.step rfl rfl rfl (mld rfl rfl (by decide) e4) ?_
    refine Sp.if1 rfl rfl rfl rfl (fun e6 => ?_) (fun e6 => ?_)
    · refine Sp.step rfl rfl rfl rfl ?_
      refine Sp.step rfl rfl rfl rfl ?_
      refine Sp.step rfl rfl rfl (mg_I (f := 89) rfl rfl rfl) ?_
      refine Sp.step rfl rfl rfl rfl ?_
      refine Sp.step rfl rfl rfl rfl ?_
      refine Sp.step rfl rfl rfl (mp_I (f := 89) rfl rfl rfl rfl) ?_
      refine Sp.step rfl rfl rfl rfl ?_
      refine Sp.step rfl rfl rfl rfl ?_
      refine Sp.if2 rfl rfl rfl rfl (fun e8 => ?_) (fun e8 => ?_)
      · refine Sp.step rfl rfl rfl rfl ?_
        refine Sp.step rfl rfl rfl rfl ?_
        refine Sp.if2 rfl rfl rfl rfl (fun e9 => ?_) (fun e9 => ?_)
        · refine Sp.step rfl rfl rfl rfl ?_
          refine Sp.step rfl rfl rfl (mg_F (f := 69) rfl rfl rfl rfl) ?_
          refine Sp.step rfl rfl rfl rfl ?_
          refine Sp.step rfl rfl rfl (mg_I (f := 89) rfl rfl rfl) ?_
          refine Sp.step rfl rfl rfl rfl ?_
          refine Sp.guard (fun e10 => ?_)
          refine Sp.step rfl rfl rfl (mld rfl rfl (by decide) e10) ?_
          refine Sp.step rfl rfl rfl rfl ?_
          refine Sp.step rfl rfl rfl rfl ?_
          refine Sp.step rfl rfl rfl (mst rfl rfl (by decide) e10) ?_
          exact Sp.vret rfl rfl rfl (fun _ _ h => h)
        · refine Sp.step rfl rfl rfl rfl ?_
          refine Sp.step rfl rfl rfl rfl ?_
          refine Sp.call rfl rfl rfl (mrecv (by decide) (by decide +kernel)) s_M_putRef (fun x12 => ⟨_, _, ⟨rfl, rfl⟩, ?_⟩)
          refine Sp.id (pc := 77) (l := [some (.ref 60), some (.int x), some (.int y), some (.int x3.1)]) (st := []) (h := hS X x12) ?_
          refine Sp.step rfl rfl rfl rfl ?_
          refine Sp.step rfl rfl rfl (mg_F (f := 69) rfl rfl rfl rfl) ?_
          refine Sp.step rfl rfl rfl rfl ?_
          refine Sp.step rfl rfl rfl (mg_I (f := 89) rfl rfl rfl) ?_
          refine Sp.step rfl rfl rfl rfl ?_
          refine Sp.guard (fun e13 => ?_)
          refine Sp.step rfl rfl rfl (mld rfl rfl (by decide) e13) ?_
          refine Sp.step rfl rfl rfl rfl ?_
          refine Sp.step rfl rfl rfl rfl ?_
          refine Sp.step rfl rfl rfl (mst rfl rfl (by decide) e13) ?_
          exact Sp.vret rfl rfl rfl (fun _ _ h => h)
      · refine Sp.step rfl rfl rfl rfl ?_
        refine Sp.step rfl rfl rfl rfl ?_
        refine Sp.call rfl rfl rfl (mrecv (by decide) (by decide +kernel)) s_M_putInt (fun x15 => ⟨_, _, ⟨rfl, rfl⟩, ?_⟩)
        refine Sp.id (pc := 63) (l := [some (.ref 60), some (.int x), some (.int y), some (.int x3.1)]) (st := []) (h := hS X x15) ?_
        refine Sp.step rfl rfl rfl rfl ?_
        refine Sp.step rfl rfl rfl rfl ?_
        refine Sp.step rfl rfl rfl (mg_F (f := 69) rfl rfl rfl rfl) ?_
        refine Sp.step rfl rfl rfl rfl ?_
        refine Sp.step rfl rfl rfl (mg_I (f := 89) rfl rfl rfl) ?_
        refine Sp.step rfl rfl rfl rfl ?_
        refine Sp.guard (fun e16 => ?_)
        refine Sp.step rfl rfl rfl (mld rfl rfl (by decide) e16) ?_
        refine Sp.step rfl rfl rfl rfl ?_
        refine Sp.step rfl rfl rfl rfl ?_
        refine Sp.step rfl rfl rfl (mst rfl rfl (by decide) e16) ?_
        exact Sp.vret rfl rfl rfl (fun _ _ h => h)
    · refine Sp.step rfl rfl rfl rfl ?_
      refine Sp.step rfl rfl rfl (mg_F (f := 66) rfl rfl rfl rfl) ?_
      refine Sp.step rfl rfl rfl rfl ?_
      refine Sp.step rfl rfl rfl rfl ?_
      refine Sp.step rfl rfl rfl (mst rfl rfl (by decide) e4) ?_
      exact Sp.vret rfl rfl rfl (fun _ _ h => h)
def f_M_monitor (x : Int32) (y : Int32) (M : MS) : Option MS := ((f_M_takeValue M).bind fun x1 => (if ¬ x1.1 = 0 then (if ¬ y = 49 then (if ixo x1.1 1002 then (((if x1.2.1 125 x1.1.toNatClampNeg = 0 then some 8 else (if x1.2.1 124 x1.1.toNatClampNeg = x then some 0 else some 8)) : Option (Int32)).bind fun x7 => (lt (mw x1.2 60 90 x7) fun M8 => (if ¬ M8.1 60 90 = 0 then (lt (mw M8 125 x1.1.toNatClampNeg ((M8.1 125 x1.1.toNatClampNeg) - 0)) fun M10 => some M10) else (lt (mw M8 125 x1.1.toNatClampNeg ((M8.1 125 x1.1.toNatClampNeg) - 1)) fun M11 => some M11)))) else none) else (if ixo x1.1 1002 then (((if ¬ x1.2.1 125 x1.1.toNatClampNeg = 60000 then some 0 else some 8) : Option (Int32)).bind fun x14 => (lt (mw x1.2 60 90 x14) fun M15 => (lt (mw M15 124 x1.1.toNatClampNeg x) fun M16 => (if ¬ M16.1 60 90 = 0 then (lt (mw M16 125 x1.1.toNatClampNeg ((M16.1 125 x1.1.toNatClampNeg) + 0)) fun M18 => some M18) else (lt (mw M16 125 x1.1.toNatClampNeg ((M16.1 125 x1.1.toNatClampNeg) + 1)) fun M19 => some M19))))) else none)) else (lt (mw x1.2 60 90 1) fun M20 => some M20)))
set_option maxRecDepth 100000 in
set_option maxHeartbeats 4000000 in
theorem s_M_monitor {L : Nat} {xs : Nat → Int32} {X : XS} {M : MS} {x : Int32} {y : Int32} : Sp (mjOO L xs) 88 0 [some (.ref 60), some (.int x), some (.int y), none] [] (hS X M) (f_M_monitor x y M) (KVM X) := by
  unfold f_M_monitor
  refine Sp.step rfl rfl rfl rfl ?_
  refine Sp.call rfl rfl rfl (mrecv (by decide) (by decide +kernel)) s_M_takeValue (fun x1 => ⟨_, _, ⟨rfl, rfl⟩, ?_⟩)
  refine Sp.id (pc := 4) (l := [some (.ref 60), some (.int x), some (.int y), none]) (st := [.int x1.1]) (h := hS X x1.2) ?_
  refine Sp.step rfl rfl rfl rfl ?_
  refine Sp.step rfl rfl rfl rfl ?_
  refine Sp.if1 rfl rfl rfl rfl (fun e2 => ?_) (fun e2 => ?_)
  · refine Sp.step rfl rfl rfl rfl ?_
    refine Sp.step rfl rfl rfl rfl ?_
    refine Sp.if2 rfl rfl rfl rfl (fun e3 => ?_) (fun e3 => ?_)
    · refine Sp.step rfl rfl rfl rfl ?_
      refine Sp.step rfl rfl rfl rfl ?_
      refine Sp.step rfl rfl rfl (mg_F (f := 83) rfl rfl rfl rfl) ?_
      refine Sp.step rfl rfl rfl rfl ?_
      refine Sp.guard (fun e4 => ?_)
      refine Sp.step rfl rfl rfl (mld rfl rfl (by decide) e4) ?_
      refine Sp.piece (pe := 102) (mf := (fun (x7 : Int32) => [some (.ref 60), none, none, some (.int x1.1)])) (sf := (fun (x7 : Int32) => [.int x7, .ref 60])) (hf := (fun (x7 : Int32) => hS X x1.2)) ?_ (fun x7 => ?_)
      · refine Sp.if1 rfl rfl rfl rfl (fun e5 => ?_) (fun e5 => ?_)
        · refine Sp.step rfl rfl rfl rfl ?_
          refine Sp.step rfl rfl rfl rfl ?_
          exact Sp.jmp (l0 := [some (.ref 60), none, none, some (.int x1.1)]) ⟨rfl, rfl, trivial⟩ (fun _ _ h => h)
        · refine Sp.step rfl rfl rfl rfl ?_
          refine Sp.step rfl rfl rfl (mg_F (f := 82) rfl rfl rfl rfl) ?_
          refine Sp.step rfl rfl rfl rfl ?_
          refine Sp.step rfl rfl rfl (mld rfl rfl (by decide) e4) ?_
          refine Sp.step rfl rfl rfl rfl ?_
          refine Sp.if2 rfl rfl rfl rfl (fun e6 => ?_) (fun e6 => ?_)
          · refine Sp.step rfl rfl rfl rfl ?_
            exact Sp.jmp (l0 := [some (.ref 60), none, none, some (.int x1.1)]) ⟨rfl, rfl, trivial⟩ (fun _ _ h => h)
          · refine Sp.step rfl rfl rfl rfl ?_
            refine Sp.step rfl rfl rfl rfl ?_
            exact Sp.jmp (l0 := [some (.ref 60), none, none, some (.int x1.1)]) ⟨rfl, rfl, trivial⟩ (fun _ _ h => h)
      · refine Sp.step rfl rfl rfl (mp_I (f := 90) rfl rfl rfl rfl) ?_
        refine Sp.step rfl rfl rfl rfl ?_
        refine Sp.step rfl rfl rfl (mg_F (f := 83) rfl rfl rfl rfl) ?_
        refine Sp.step rfl rfl rfl rfl ?_
        refine Sp.step rfl rfl rfl rfl ?_
        refine Sp.step rfl rfl rfl (mld rfl rfl (by decide) e4) ?_
        refine Sp.step rfl rfl rfl rfl ?_
        refine Sp.step rfl rfl rfl (mg_I (f := 90) rfl rfl rfl) ?_
        refine Sp.if1 rfl rfl rfl rfl (fun e9 => ?_) (fun e9 => ?_)
        · refine Sp.step rfl rfl rfl rfl ?_
          refine Sp.step rfl rfl rfl rfl ?_
          refine Sp.step rfl rfl rfl (mst rfl rfl (by decide) e4) ?_
          exact Sp.vret rfl rfl rfl (fun _ _ h => h)
        · refine Sp.step rfl rfl rfl rfl ?_
          refine Sp.step rfl rfl rfl rfl ?_
          refine Sp.step rfl rfl rfl rfl ?_
          refine Sp.step rfl rfl rfl (mst rfl rfl (by decide) e4) ?_
          exact Sp.vret rfl rfl rfl (fun _ _ h => h)
    · refine Sp.step rfl rfl rfl rfl ?_
      refine Sp.step rfl rfl rfl rfl ?_
      refine Sp.step rfl rfl rfl (mg_F (f := 83) rfl rfl rfl rfl) ?_
      refine Sp.step rfl rfl rfl rfl ?_
      refine Sp.guard (fun e12 => ?_)
      refine Sp.step rfl rfl rfl (mld rfl rfl (by decide) e12) ?_
      refine Sp.step rfl rfl rfl rfl ?_
      refine Sp.piece (pe := 42) (mf := (fun (x14 : Int32) => [some (.ref 60), some (.int x), none, some (.int x1.1)])) (sf := (fun (x14 : Int32) => [.int x14, .ref 60])) (hf := (fun (x14 : Int32) => hS X x1.2)) ?_ (fun x14 => ?_)
      · refine Sp.if2 rfl rfl rfl rfl (fun e13 => ?_) (fun e13 => ?_)
        · refine Sp.step rfl rfl rfl rfl ?_
          exact Sp.jmp (l0 := [some (.ref 60), some (.int x), none, some (.int x1.1)]) ⟨rfl, rfl, rfl, trivial⟩ (fun _ _ h => h)
        · refine Sp.step rfl rfl rfl rfl ?_
          refine Sp.step rfl rfl rfl rfl ?_
          exact Sp.jmp (l0 := [some (.ref 60), some (.int x), none, some (.int x1.1)]) ⟨rfl, rfl, rfl, trivial⟩ (fun _ _ h => h)
      · refine Sp.step rfl rfl rfl (mp_I (f := 90) rfl rfl rfl rfl) ?_
        refine Sp.step rfl rfl rfl rfl ?_
        refine Sp.step rfl rfl rfl (mg_F (f := 82) rfl rfl rfl rfl) ?_
        refine Sp.step rfl rfl rfl rfl ?_
        refine Sp.step rfl rfl rfl rfl ?_
        refine Sp.step rfl rfl rfl (mst rfl rfl (by decide) e12) ?_
        refine Sp.step rfl rfl rfl rfl ?_
        refine Sp.step rfl rfl rfl (mg_F (f := 83) rfl rfl rfl rfl) ?_
        refine Sp.step rfl rfl rfl rfl ?_
        refine Sp.step rfl rfl rfl rfl ?_
        refine Sp.step rfl rfl rfl (mld rfl rfl (by decide) e12) ?_
        refine Sp.step rfl rfl rfl rfl ?_
        refine Sp.step rfl rfl rfl (mg_I (f := 90) rfl rfl rfl) ?_
        refine Sp.if1 rfl rfl rfl rfl (fun e17 => ?_) (fun e17 => ?_)
        · refine Sp.step rfl rfl rfl rfl ?_
          refine Sp.step rfl rfl rfl rfl ?_
          refine Sp.step rfl rfl rfl (mst rfl rfl (by decide) e12) ?_
          refine Sp.step rfl rfl rfl rfl ?_
          exact Sp.vret rfl rfl rfl (fun _ _ h => h)
        · refine Sp.step rfl rfl rfl rfl ?_
          refine Sp.step rfl rfl rfl rfl ?_
          refine Sp.step rfl rfl rfl rfl ?_
          refine Sp.step rfl rfl rfl (mst rfl rfl (by decide) e12) ?_
          refine Sp.step rfl rfl rfl rfl ?_
          exact Sp.vret rfl rfl rfl (fun _ _ h => h)
  · refine Sp.step rfl rfl rfl rfl ?_
    refine Sp.step rfl rfl rfl rfl ?_
    refine Sp.step rfl rfl rfl (mp_I (f := 90) rfl rfl rfl rfl) ?_
    refine Sp.step rfl rfl rfl rfl ?_
    exact Sp.vret rfl rfl rfl (fun _ _ h => h)
def f_M_statics (x : Int32) (y : Int32) (M : MS) : Option MS := (if ¬ x = 52 then (if ¬ x = 53 then (if ¬ x = 54 then ((f_M_takeValue M).bind fun x4 => (if ixo y 8 then (lt (mw x4.2 118 y.toNatClampNeg x4.1) fun M6 => some M6) else none)) else (if ixo y 8 then ((f_M_putRef (M.1 118 y.toNatClampNeg) M).bind fun x8 => some x8) else none)) else ((f_M_takeValue M).bind fun x9 => (if ixo y 8 then (lt (mw x9.2 117 y.toNatClampNeg x9.1) fun M11 => some M11) else none))) else (if ixo y 8 then ((f_M_putInt (M.1 117 y.toNatClampNeg) M).bind fun x13 => some x13) else none))
set_option maxRecDepth 100000 in
set_option maxHeartbeats 4000000 in
theorem s_M_statics {L : Nat} {xs : Nat → Int32} {X : XS} {M : MS} {x : Int32} {y : Int32} : Sp (mjOO L xs) 91 0 [some (.ref 60), some (.int x), some (.int y)] [] (hS X M) (f_M_statics x y M) (KVM X) := by
  unfold f_M_statics
  refine Sp.step rfl rfl rfl rfl ?_
  refine Sp.step rfl rfl rfl rfl ?_
  refine Sp.if2 rfl rfl rfl rfl (fun e1 => ?_) (fun e1 => ?_)
  · refine Sp.step rfl rfl rfl rfl ?_
    refine Sp.step rfl rfl rfl rfl ?_
    refine Sp.if2 rfl rfl rfl rfl (fun e2 => ?_) (fun e2 => ?_)
    · refine Sp.step rfl rfl rfl rfl ?_
      refine Sp.step rfl rfl rfl rfl ?_
      refine Sp.if2 rfl rfl rfl rfl (fun e3 => ?_) (fun e3 => ?_)
      · refine Sp.step rfl rfl rfl rfl ?_
        refine Sp.step rfl rfl rfl (mg_F (f := 74) rfl rfl rfl rfl) ?_
        refine Sp.step rfl rfl rfl rfl ?_
        refine Sp.step rfl rfl rfl rfl ?_
        refine Sp.call rfl rfl rfl (mrecv (by decide) (by decide +kernel)) s_M_takeValue (fun x4 => ⟨_, _, ⟨rfl, rfl⟩, ?_⟩)
        refine Sp.id (pc := 66) (l := [some (.ref 60), some (.int x), some (.int y)]) (st := [.int x4.1, .int y, .ref 118]) (h := hS X x4.2) ?_
        refine Sp.guard (fun e5 => ?_)
        refine Sp.step rfl rfl rfl (mst rfl rfl (by decide) e5) ?_
        exact Sp.vret rfl rfl rfl (fun _ _ h => h)
      · refine Sp.step rfl rfl rfl rfl ?_
        refine Sp.step rfl rfl rfl rfl ?_
        refine Sp.step rfl rfl rfl (mg_F (f := 74) rfl rfl rfl rfl) ?_
        refine Sp.step rfl rfl rfl rfl ?_
        refine Sp.guard (fun e7 => ?_)
        refine Sp.step rfl rfl rfl (mld rfl rfl (by decide) e7) ?_
        refine Sp.call rfl rfl rfl (mrecv (by decide) (by decide +kernel)) s_M_putRef (fun x8 => ⟨_, _, ⟨rfl, rfl⟩, ?_⟩)
        refine Sp.id (pc := 54) (l := [some (.ref 60), some (.int x), some (.int y)]) (st := []) (h := hS X x8) ?_
        refine Sp.step rfl rfl rfl rfl ?_
        exact Sp.vret rfl rfl rfl (fun _ _ h => h)
    · refine Sp.step rfl rfl rfl rfl ?_
      refine Sp.step rfl rfl rfl (mg_F (f := 73) rfl rfl rfl rfl) ?_
      refine Sp.step rfl rfl rfl rfl ?_
      refine Sp.step rfl rfl rfl rfl ?_
      refine Sp.call rfl rfl rfl (mrecv (by decide) (by decide +kernel)) s_M_takeValue (fun x9 => ⟨_, _, ⟨rfl, rfl⟩, ?_⟩)
      refine Sp.id (pc := 34) (l := [some (.ref 60), some (.int x), some (.int y)]) (st := [.int x9.1, .int y, .ref 117]) (h := hS X x9.2) ?_
      refine Sp.guard (fun e10 => ?_)
      refine Sp.step rfl rfl rfl (mst rfl rfl (by decide) e10) ?_
      refine Sp.step rfl rfl rfl rfl ?_
      exact Sp.vret rfl rfl rfl (fun _ _ h => h)
  · refine Sp.step rfl rfl rfl rfl ?_
    refine Sp.step rfl rfl rfl rfl ?_
    refine Sp.step rfl rfl rfl (mg_F (f := 73) rfl rfl rfl rfl) ?_
    refine Sp.step rfl rfl rfl rfl ?_
    refine Sp.guard (fun e12 => ?_)
    refine Sp.step rfl rfl rfl (mld rfl rfl (by decide) e12) ?_
    refine Sp.call rfl rfl rfl (mrecv (by decide) (by decide +kernel)) s_M_putInt (fun x13 => ⟨_, _, ⟨rfl, rfl⟩, ?_⟩)
    refine Sp.id (pc := 16) (l := [some (.ref 60), some (.int x), some (.int y)]) (st := []) (h := hS X x13) ?_
    refine Sp.step rfl rfl rfl rfl ?_
    exact Sp.vret rfl rfl rfl (fun _ _ h => h)
def b624_M_others (x85 : (Int32 × MS)) : Option ((Int32 × MS) ⊕ (Int32 × MS)) := (if x85.2.1 60 76 ≤ x85.1 then some (.inr (x85.1, x85.2)) else (if ixo x85.1 100 then (if ixo (x85.1 - 1) 100 then (lt (mw x85.2 119 (x85.1 - 1).toNatClampNeg (x85.2.1 119 x85.1.toNatClampNeg)) fun M89 => some (.inl (x85.1 + 1, M89))) else none) else none))
def f_M_others (x : Int32) (y : Int32) (M : MS) : Option MS := (if x = 1 then ((f_M_putInt y M).bind fun x2 => some x2) else (if x = 2 then ((f_M_topAt M).bind fun x4 => (if ixo ((22 * (M.1 60 89)) + y) 2640 then (if ixo x4 2640 then (lt (mw M 115 x4.toNatClampNeg (M.1 115 ((22 * (M.1 60 89)) + y).toNatClampNeg)) fun M7 => ((f_M_topAt M7).bind fun x8 => (if ixo x8 2640 then (lt (mw M7 116 x8.toNatClampNeg (vp_nar .boolean (M7.1 116 ((22 * (M.1 60 89)) + y).toNatClampNeg))) fun M10 => (if ixo (M10.1 60 89) 120 then (lt (mw M10 114 (M10.1 60 89).toNatClampNeg ((M10.1 114 (M10.1 60 89).toNatClampNeg) + 1)) fun M12 => some M12) else none)) else none))) else none) else none)) else (if x = 3 then ((f_M_topAt M).bind fun x14 => (if ixo (x14 - 1) 2640 then (if ixo ((22 * (M.1 60 89)) + y) 2640 then (lt (mw M 116 ((22 * (M.1 60 89)) + y).toNatClampNeg (vp_nar .boolean (M.1 116 (x14 - 1).toNatClampNeg))) fun M17 => ((f_M_takeValue M17).bind fun x18 => (if ixo ((22 * (M.1 60 89)) + y) 2640 then (lt (mw x18.2 115 ((22 * (M.1 60 89)) + y).toNatClampNeg x18.1) fun M20 => some M20) else none))) else none) else none)) else (if x = 16 then ((f_M_topAt M).bind fun x22 => ((f_M_topAt M).bind fun x23 => (if ixo (x23 - 1) 2640 then (if ixo x22 2640 then (lt (mw M 115 x22.toNatClampNeg (M.1 115 (x23 - 1).toNatClampNeg)) fun M26 => ((f_M_topAt M26).bind fun x27 => ((f_M_topAt M26).bind fun x28 => (if ixo (x28 - 1) 2640 then (if ixo x27 2640 then (lt (mw M26 116 x27.toNatClampNeg (vp_nar .boolean (M26.1 116 (x28 - 1).toNatClampNeg))) fun M31 => (if ixo (M31.1 60 89) 120 then (lt (mw M31 114 (M31.1 60 89).toNatClampNeg ((M31.1 114 (M31.1 60 89).toNatClampNeg) + 1)) fun M33 => some M33) else none)) else none) else none)))) else none) else none))) else (if x = 17 then ((f_M_takeValue M).bind fun x35 => some x35.2) else (if x = 18 then ((f_M_topAt M).bind fun x37 => (if ixo (x37 - 1) 2640 then (if ixo (x37 - 2) 2640 then (lt (mw M 115 (x37 - 1).toNatClampNeg (M.1 115 (x37 - 2).toNatClampNeg)) fun M40 => (lt (mw M40 116 (x37 - 1).toNatClampNeg (vp_nar .boolean (M40.1 116 (x37 - 2).toNatClampNeg))) fun M41 => (lt (mw M41 115 (x37 - 2).toNatClampNeg (M.1 115 (x37 - 1).toNatClampNeg)) fun M42 => (lt (mw M42 116 (x37 - 2).toNatClampNeg (vp_nar .boolean (M.1 116 (x37 - 1).toNatClampNeg))) fun M43 => some M43)))) else none) else none)) else (if x = 26 then ((f_M_make y 0 M).bind fun x45 => (if ¬ x45.2.1 60 90 = 0 then some x45.2 else ((f_M_putRef x45.1 x45.2).bind fun x47 => some x47))) else (if x = 43 then ((f_M_takeValue M).bind fun x49 => (lt (mw x49.2 60 91 x49.1) fun M50 => (if ¬ M50.1 60 91 = 0 then (lt (mw M50 60 90 10) fun M52 => some M52) else (lt (mw M50 60 90 1) fun M53 => some M53)))) else (if x = 44 then ((f_M_takeValue M).bind fun x55 => (if x55.1 ≤ 0 then ((f_M_putInt 0 x55.2).bind fun x57 => some x57) else (if ixo x55.1 1002 then (if 10 ≤ x55.2.1 121 x55.1.toNatClampNeg then ((f_M_putInt 0 x55.2).bind fun x60 => some x60) else ((f_M_isBelow (x55.2.1 121 x55.1.toNatClampNeg) y x55.2).bind fun x61 => (if x61 = true then ((f_M_putInt 1 x55.2).bind fun x64 => some x64) else ((f_M_putInt 0 x55.2).bind fun x66 => some x66)))) else none))) else (if x = 45 then ((f_M_putRef 0 M).bind fun x68 => some x68) else (if x = 46 then ((f_M_takeValue M).bind fun x70 => (if 300 ≤ x70.2.1 60 78 then (lt (mw x70.2 60 78 ((x70.2.1 60 78) + 1)) fun M72 => some M72) else (if ixo (x70.2.1 60 78) 300 then (lt (mw x70.2 120 (x70.2.1 60 78).toNatClampNeg x70.1) fun M74 => (lt (mw M74 60 78 ((M74.1 60 78) + 1)) fun M75 => some M75)) else none))) else (if x = 47 then (((if M.1 60 76 ≤ 0 then some 0 else some (M.1 119 0)) : Option (Int32)).bind fun x78 => ((f_M_putInt x78 M).bind fun x79 => ((lp (b624_M_others) 10000 ((1 : Int32), x79)).bind fun x90 => (if x90.2.1 60 76 ≤ 0 then (lt (mw x90.2 60 76 0) fun M92 => some M92) else (lt (mw x90.2 60 76 ((x90.2.1 60 76) - 1)) fun M93 => some M93))))) else some M))))))))))))
set_option maxRecDepth 100000 in
set_option maxHeartbeats 4000000 in
theorem s_M_others {L : Nat} {xs : Nat → Int32} {X : XS} {M : MS} {x : Int32} {y : Int32} : Sp (mjOO L xs) 92 0 [some (.ref 60), some (.int x), some (.int y), none, none, none, none, none, none, none, none, none] [] (hS X M) (f_M_others x y M) (KVM X) := by
  unfold f_M_others
  refine Sp.step rfl rfl rfl rfl ?_
  refine Sp.step rfl rfl rfl rfl ?_
  refine Sp.step rfl rfl rfl (mg_I (f := 89) rfl rfl rfl) ?_
  refine Sp.step rfl rfl rfl rfl ?_
  refine Sp.step rfl rfl rfl rfl ?_
  refine Sp.step rfl rfl rfl rfl ?_
  refine Sp.step rfl rfl rfl rfl ?_
  refine Sp.step rfl rfl rfl rfl ?_
  refine Sp.ite (fun e1 => ?_) (fun e1 => ?_)
  · refine Sp.step rfl rfl rfl (go_sw (t := 212) (sw_of e1 rfl)) ?_
    refine Sp.step rfl rfl rfl rfl ?_
    refine Sp.step rfl rfl rfl rfl ?_
    refine Sp.call rfl rfl rfl (mrecv (by decide) (by decide +kernel)) s_M_putInt (fun x2 => ⟨_, _, ⟨rfl, rfl⟩, ?_⟩)
    refine Sp.id (pc := 217) (l := [some (.ref 60), some (.int x), some (.int y), some (.int ((22 * (M.1 60 89)) + y)), none, none, none, none, none, none, none, none]) (st := []) (h := hS X x2) ?_
    refine Sp.step rfl rfl rfl rfl ?_
    exact Sp.vret rfl rfl rfl (fun _ _ h => h)
  · refine Sp.ite (fun e3 => ?_) (fun e3 => ?_)
    · refine Sp.step rfl rfl rfl (go_sw (t := 220) (sw_of e3 rfl)) ?_
      refine Sp.step rfl rfl rfl rfl ?_
      refine Sp.step rfl rfl rfl (mg_F (f := 71) rfl rfl rfl rfl) ?_
      refine Sp.step rfl rfl rfl rfl ?_
      refine Sp.call rfl rfl rfl (mrecv (by decide) (by decide +kernel)) s_M_topAt (fun x4 => ⟨_, _, ⟨rfl, rfl⟩, ?_⟩)
      refine Sp.id (pc := 228) (l := [some (.ref 60), some (.int x), some (.int y), some (.int ((22 * (M.1 60 89)) + y)), none, none, none, none, none, none, none, none]) (st := [.int x4, .ref 115]) (h := hS X M) ?_
      refine Sp.step rfl rfl rfl rfl ?_
      refine Sp.step rfl rfl rfl (mg_F (f := 71) rfl rfl rfl rfl) ?_
      refine Sp.step rfl rfl rfl rfl ?_
      refine Sp.guard (fun e5 => ?_)
      refine Sp.step rfl rfl rfl (mld rfl rfl (by decide) e5) ?_
      refine Sp.guard (fun e6 => ?_)
      refine Sp.step rfl rfl rfl (mst rfl rfl (by decide) e6) ?_
      refine Sp.step rfl rfl rfl rfl ?_
      refine Sp.step rfl rfl rfl (mg_F (f := 72) rfl rfl rfl rfl) ?_
      refine Sp.step rfl rfl rfl rfl ?_
      refine Sp.call rfl rfl rfl (mrecv (by decide) (by decide +kernel)) s_M_topAt (fun x8 => ⟨_, _, ⟨rfl, rfl⟩, ?_⟩)
      refine Sp.id (pc := 243) (l := [some (.ref 60), some (.int x), some (.int y), some (.int ((22 * (M.1 60 89)) + y)), none, none, none, none, none, none, none, none]) (st := [.int x8, .ref 116]) (h := hS X (mw M 115 x4.toNatClampNeg (M.1 115 ((22 * (M.1 60 89)) + y).toNatClampNeg))) ?_
      refine Sp.step rfl rfl rfl rfl ?_
      refine Sp.step rfl rfl rfl (mg_F (f := 72) rfl rfl rfl rfl) ?_
      refine Sp.step rfl rfl rfl rfl ?_
      refine Sp.step rfl rfl rfl (mld rfl rfl (by decide) e5) ?_
      refine Sp.guard (fun e9 => ?_)
      refine Sp.step rfl rfl rfl (mst rfl rfl (by decide) e9) ?_
      refine Sp.step rfl rfl rfl rfl ?_
      refine Sp.step rfl rfl rfl (mg_F (f := 70) rfl rfl rfl rfl) ?_
      refine Sp.step rfl rfl rfl rfl ?_
      refine Sp.step rfl rfl rfl (mg_I (f := 89) rfl rfl rfl) ?_
      refine Sp.step rfl rfl rfl rfl ?_
      refine Sp.guard (fun e11 => ?_)
      refine Sp.step rfl rfl rfl (mld rfl rfl (by decide) e11) ?_
      refine Sp.step rfl rfl rfl rfl ?_
      refine Sp.step rfl rfl rfl rfl ?_
      refine Sp.step rfl rfl rfl (mst rfl rfl (by decide) e11) ?_
      refine Sp.step rfl rfl rfl rfl ?_
      exact Sp.vret rfl rfl rfl (fun _ _ h => h)
    · refine Sp.ite (fun e13 => ?_) (fun e13 => ?_)
      · refine Sp.step rfl rfl rfl (go_sw (t := 266) (sw_of e13 rfl)) ?_
        refine Sp.step rfl rfl rfl rfl ?_
        refine Sp.step rfl rfl rfl (mg_F (f := 72) rfl rfl rfl rfl) ?_
        refine Sp.step rfl rfl rfl rfl ?_
        refine Sp.step rfl rfl rfl rfl ?_
        refine Sp.step rfl rfl rfl (mg_F (f := 72) rfl rfl rfl rfl) ?_
        refine Sp.step rfl rfl rfl rfl ?_
        refine Sp.call rfl rfl rfl (mrecv (by decide) (by decide +kernel)) s_M_topAt (fun x14 => ⟨_, _, ⟨rfl, rfl⟩, ?_⟩)
        refine Sp.id (pc := 279) (l := [some (.ref 60), some (.int x), some (.int y), some (.int ((22 * (M.1 60 89)) + y)), none, none, none, none, none, none, none, none]) (st := [.int x14, .ref 116, .int ((22 * (M.1 60 89)) + y), .ref 116]) (h := hS X M) ?_
        refine Sp.step rfl rfl rfl rfl ?_
        refine Sp.step rfl rfl rfl rfl ?_
        refine Sp.guard (fun e15 => ?_)
        refine Sp.step rfl rfl rfl (mld rfl rfl (by decide) e15) ?_
        refine Sp.guard (fun e16 => ?_)
        refine Sp.step rfl rfl rfl (mst rfl rfl (by decide) e16) ?_
        refine Sp.step rfl rfl rfl rfl ?_
        refine Sp.step rfl rfl rfl (mg_F (f := 71) rfl rfl rfl rfl) ?_
        refine Sp.step rfl rfl rfl rfl ?_
        refine Sp.step rfl rfl rfl rfl ?_
        refine Sp.call rfl rfl rfl (mrecv (by decide) (by decide +kernel)) s_M_takeValue (fun x18 => ⟨_, _, ⟨rfl, rfl⟩, ?_⟩)
        refine Sp.id (pc := 292) (l := [some (.ref 60), some (.int x), some (.int y), some (.int ((22 * (M.1 60 89)) + y)), none, none, none, none, none, none, none, none]) (st := [.int x18.1, .int ((22 * (M.1 60 89)) + y), .ref 115]) (h := hS X x18.2) ?_
        refine Sp.guard (fun e19 => ?_)
        refine Sp.step rfl rfl rfl (mst rfl rfl (by decide) e19) ?_
        refine Sp.step rfl rfl rfl rfl ?_
        exact Sp.vret rfl rfl rfl (fun _ _ h => h)
      · refine Sp.ite (fun e21 => ?_) (fun e21 => ?_)
        · refine Sp.step rfl rfl rfl (go_sw (t := 296) (sw_of e21 rfl)) ?_
          refine Sp.step rfl rfl rfl rfl ?_
          refine Sp.step rfl rfl rfl (mg_F (f := 71) rfl rfl rfl rfl) ?_
          refine Sp.step rfl rfl rfl rfl ?_
          refine Sp.call rfl rfl rfl (mrecv (by decide) (by decide +kernel)) s_M_topAt (fun x22 => ⟨_, _, ⟨rfl, rfl⟩, ?_⟩)
          refine Sp.id (pc := 304) (l := [some (.ref 60), some (.int x), some (.int y), some (.int ((22 * (M.1 60 89)) + y)), none, none, none, none, none, none, none, none]) (st := [.int x22, .ref 115]) (h := hS X M) ?_
          refine Sp.step rfl rfl rfl rfl ?_
          refine Sp.step rfl rfl rfl (mg_F (f := 71) rfl rfl rfl rfl) ?_
          refine Sp.step rfl rfl rfl rfl ?_
          refine Sp.call rfl rfl rfl (mrecv (by decide) (by decide +kernel)) s_M_topAt (fun x23 => ⟨_, _, ⟨rfl, rfl⟩, ?_⟩)
          refine Sp.id (pc := 312) (l := [some (.ref 60), some (.int x), some (.int y), some (.int ((22 * (M.1 60 89)) + y)), none, none, none, none, none, none, none, none]) (st := [.int x23, .ref 115, .int x22, .ref 115]) (h := hS X M) ?_
          refine Sp.step rfl rfl rfl rfl ?_
          refine Sp.step rfl rfl rfl rfl ?_
          refine Sp.guard (fun e24 => ?_)
          refine Sp.step rfl rfl rfl (mld rfl rfl (by decide) e24) ?_
          refine Sp.guard (fun e25 => ?_)
          refine Sp.step rfl rfl rfl (mst rfl rfl (by decide) e25) ?_
          refine Sp.step rfl rfl rfl rfl ?_
          refine Sp.step rfl rfl rfl (mg_F (f := 72) rfl rfl rfl rfl) ?_
          refine Sp.step rfl rfl rfl rfl ?_
          refine Sp.call rfl rfl rfl (mrecv (by decide) (by decide +kernel)) s_M_topAt (fun x27 => ⟨_, _, ⟨rfl, rfl⟩, ?_⟩)
          refine Sp.id (pc := 324) (l := [some (.ref 60), some (.int x), some (.int y), some (.int ((22 * (M.1 60 89)) + y)), none, none, none, none, none, none, none, none]) (st := [.int x27, .ref 116]) (h := hS X (mw M 115 x22.toNatClampNeg (M.1 115 (x23 - 1).toNatClampNeg))) ?_
          refine Sp.step rfl rfl rfl rfl ?_
          refine Sp.step rfl rfl rfl (mg_F (f := 72) rfl rfl rfl rfl) ?_
          refine Sp.step rfl rfl rfl rfl ?_
          refine Sp.call rfl rfl rfl (mrecv (by decide) (by decide +kernel)) s_M_topAt (fun x28 => ⟨_, _, ⟨rfl, rfl⟩, ?_⟩)
          refine Sp.id (pc := 332) (l := [some (.ref 60), some (.int x), some (.int y), some (.int ((22 * (M.1 60 89)) + y)), none, none, none, none, none, none, none, none]) (st := [.int x28, .ref 116, .int x27, .ref 116]) (h := hS X (mw M 115 x22.toNatClampNeg (M.1 115 (x23 - 1).toNatClampNeg))) ?_
          refine Sp.step rfl rfl rfl rfl ?_
          refine Sp.step rfl rfl rfl rfl ?_
          refine Sp.guard (fun e29 => ?_)
          refine Sp.step rfl rfl rfl (mld rfl rfl (by decide) e29) ?_
          refine Sp.guard (fun e30 => ?_)
          refine Sp.step rfl rfl rfl (mst rfl rfl (by decide) e30) ?_
          refine Sp.step rfl rfl rfl rfl ?_
          refine Sp.step rfl rfl rfl (mg_F (f := 70) rfl rfl rfl rfl) ?_
          refine Sp.step rfl rfl rfl rfl ?_
          refine Sp.step rfl rfl rfl (mg_I (f := 89) rfl rfl rfl) ?_
          refine Sp.step rfl rfl rfl rfl ?_
          refine Sp.guard (fun e32 => ?_)
          refine Sp.step rfl rfl rfl (mld rfl rfl (by decide) e32) ?_
          refine Sp.step rfl rfl rfl rfl ?_
          refine Sp.step rfl rfl rfl rfl ?_
          refine Sp.step rfl rfl rfl (mst rfl rfl (by decide) e32) ?_
          refine Sp.step rfl rfl rfl rfl ?_
          exact Sp.vret rfl rfl rfl (fun _ _ h => h)
        · refine Sp.ite (fun e34 => ?_) (fun e34 => ?_)
          · refine Sp.step rfl rfl rfl (go_sw (t := 352) (sw_of e34 rfl)) ?_
            refine Sp.step rfl rfl rfl rfl ?_
            refine Sp.call rfl rfl rfl (mrecv (by decide) (by decide +kernel)) s_M_takeValue (fun x35 => ⟨_, _, ⟨rfl, rfl⟩, ?_⟩)
            refine Sp.id (pc := 356) (l := [some (.ref 60), some (.int x), some (.int y), some (.int ((22 * (M.1 60 89)) + y)), none, none, none, none, none, none, none, none]) (st := [.int x35.1]) (h := hS X x35.2) ?_
            refine Sp.step rfl rfl rfl rfl ?_
            refine Sp.step rfl rfl rfl rfl ?_
            exact Sp.vret rfl rfl rfl (fun _ _ h => h)
          · refine Sp.ite (fun e36 => ?_) (fun e36 => ?_)
            · refine Sp.step rfl rfl rfl (go_sw (t := 361) (sw_of e36 rfl)) ?_
              refine Sp.step rfl rfl rfl rfl ?_
              refine Sp.call rfl rfl rfl (mrecv (by decide) (by decide +kernel)) s_M_topAt (fun x37 => ⟨_, _, ⟨rfl, rfl⟩, ?_⟩)
              refine Sp.id (pc := 365) (l := [some (.ref 60), some (.int x), some (.int y), some (.int ((22 * (M.1 60 89)) + y)), none, none, none, none, none, none, none, none]) (st := [.int x37]) (h := hS X M) ?_
              refine Sp.step rfl rfl rfl rfl ?_
              refine Sp.step rfl rfl rfl rfl ?_
              refine Sp.step rfl rfl rfl (mg_F (f := 71) rfl rfl rfl rfl) ?_
              refine Sp.step rfl rfl rfl rfl ?_
              refine Sp.step rfl rfl rfl rfl ?_
              refine Sp.step rfl rfl rfl rfl ?_
              refine Sp.guard (fun e38 => ?_)
              refine Sp.step rfl rfl rfl (mld rfl rfl (by decide) e38) ?_
              refine Sp.step rfl rfl rfl rfl ?_
              refine Sp.step rfl rfl rfl rfl ?_
              refine Sp.step rfl rfl rfl (mg_F (f := 72) rfl rfl rfl rfl) ?_
              refine Sp.step rfl rfl rfl rfl ?_
              refine Sp.step rfl rfl rfl rfl ?_
              refine Sp.step rfl rfl rfl rfl ?_
              refine Sp.step rfl rfl rfl (mld rfl rfl (by decide) e38) ?_
              refine Sp.step rfl rfl rfl rfl ?_
              refine Sp.step rfl rfl rfl rfl ?_
              refine Sp.step rfl rfl rfl (mg_F (f := 71) rfl rfl rfl rfl) ?_
              refine Sp.step rfl rfl rfl rfl ?_
              refine Sp.step rfl rfl rfl rfl ?_
              refine Sp.step rfl rfl rfl rfl ?_
              refine Sp.step rfl rfl rfl rfl ?_
              refine Sp.step rfl rfl rfl (mg_F (f := 71) rfl rfl rfl rfl) ?_
              refine Sp.step rfl rfl rfl rfl ?_
              refine Sp.step rfl rfl rfl rfl ?_
              refine Sp.step rfl rfl rfl rfl ?_
              refine Sp.guard (fun e39 => ?_)
              refine Sp.step rfl rfl rfl (mld rfl rfl (by decide) e39) ?_
              refine Sp.step rfl rfl rfl (mst rfl rfl (by decide) e38) ?_
              refine Sp.step rfl rfl rfl rfl ?_
              refine Sp.step rfl rfl rfl (mg_F (f := 72) rfl rfl rfl rfl) ?_
              refine Sp.step rfl rfl rfl rfl ?_
              refine Sp.step rfl rfl rfl rfl ?_
              refine Sp.step rfl rfl rfl rfl ?_
              refine Sp.step rfl rfl rfl rfl ?_
              refine Sp.step rfl rfl rfl (mg_F (f := 72) rfl rfl rfl rfl) ?_
              refine Sp.step rfl rfl rfl rfl ?_
              refine Sp.step rfl rfl rfl rfl ?_
              refine Sp.step rfl rfl rfl rfl ?_
              refine Sp.step rfl rfl rfl (mld rfl rfl (by decide) e39) ?_
              refine Sp.step rfl rfl rfl (mst rfl rfl (by decide) e38) ?_
              refine Sp.step rfl rfl rfl rfl ?_
              refine Sp.step rfl rfl rfl (mg_F (f := 71) rfl rfl rfl rfl) ?_
              refine Sp.step rfl rfl rfl rfl ?_
              refine Sp.step rfl rfl rfl rfl ?_
              refine Sp.step rfl rfl rfl rfl ?_
              refine Sp.step rfl rfl rfl rfl ?_
              refine Sp.step rfl rfl rfl (mst rfl rfl (by decide) e39) ?_
              refine Sp.step rfl rfl rfl rfl ?_
              refine Sp.step rfl rfl rfl (mg_F (f := 72) rfl rfl rfl rfl) ?_
              refine Sp.step rfl rfl rfl rfl ?_
              refine Sp.step rfl rfl rfl rfl ?_
              refine Sp.step rfl rfl rfl rfl ?_
              refine Sp.step rfl rfl rfl rfl ?_
              refine Sp.step rfl rfl rfl (mst rfl rfl (by decide) e39) ?_
              refine Sp.step rfl rfl rfl rfl ?_
              exact Sp.vret rfl rfl rfl (fun _ _ h => h)
            · refine Sp.ite (fun e44 => ?_) (fun e44 => ?_)
              · refine Sp.step rfl rfl rfl (go_sw (t := 450) (sw_of e44 rfl)) ?_
                refine Sp.step rfl rfl rfl rfl ?_
                refine Sp.step rfl rfl rfl rfl ?_
                refine Sp.step rfl rfl rfl rfl ?_
                refine Sp.call rfl rfl rfl (mrecv (by decide) (by decide +kernel)) s_M_make (fun x45 => ⟨_, _, ⟨rfl, rfl⟩, ?_⟩)
                refine Sp.id (pc := 456) (l := [some (.ref 60), some (.int x), some (.int y), some (.int ((22 * (M.1 60 89)) + y)), none, none, none, none, none, none, none, none]) (st := [.int x45.1]) (h := hS X x45.2) ?_
                refine Sp.step rfl rfl rfl rfl ?_
                refine Sp.step rfl rfl rfl rfl ?_
                refine Sp.step rfl rfl rfl (mg_I (f := 90) rfl rfl rfl) ?_
                refine Sp.if1 rfl rfl rfl rfl (fun e46 => ?_) (fun e46 => ?_)
                · exact Sp.vret rfl rfl rfl (fun _ _ h => h)
                · refine Sp.step rfl rfl rfl rfl ?_
                  refine Sp.step rfl rfl rfl rfl ?_
                  refine Sp.call rfl rfl rfl (mrecv (by decide) (by decide +kernel)) s_M_putRef (fun x47 => ⟨_, _, ⟨rfl, rfl⟩, ?_⟩)
                  refine Sp.id (pc := 471) (l := [some (.ref 60), some (.int x), some (.int y), some (.int ((22 * (M.1 60 89)) + y)), none, none, none, none, some (.int x45.1), none, none, none]) (st := []) (h := hS X x47) ?_
                  refine Sp.step rfl rfl rfl rfl ?_
                  exact Sp.vret rfl rfl rfl (fun _ _ h => h)
              · refine Sp.ite (fun e48 => ?_) (fun e48 => ?_)
                · refine Sp.step rfl rfl rfl (go_sw (t := 474) (sw_of e48 rfl)) ?_
                  refine Sp.step rfl rfl rfl rfl ?_
                  refine Sp.step rfl rfl rfl rfl ?_
                  refine Sp.call rfl rfl rfl (mrecv (by decide) (by decide +kernel)) s_M_takeValue (fun x49 => ⟨_, _, ⟨rfl, rfl⟩, ?_⟩)
                  refine Sp.id (pc := 479) (l := [some (.ref 60), some (.int x), some (.int y), some (.int ((22 * (M.1 60 89)) + y)), none, none, none, none, none, none, none, none]) (st := [.int x49.1, .ref 60]) (h := hS X x49.2) ?_
                  refine Sp.step rfl rfl rfl (mp_I (f := 91) rfl rfl rfl rfl) ?_
                  refine Sp.step rfl rfl rfl rfl ?_
                  refine Sp.step rfl rfl rfl rfl ?_
                  refine Sp.step rfl rfl rfl (mg_I (f := 91) rfl rfl rfl) ?_
                  refine Sp.if1 rfl rfl rfl rfl (fun e51 => ?_) (fun e51 => ?_)
                  · refine Sp.step rfl rfl rfl rfl ?_
                    refine Sp.step rfl rfl rfl (mp_I (f := 90) rfl rfl rfl rfl) ?_
                    refine Sp.step rfl rfl rfl rfl ?_
                    exact Sp.vret rfl rfl rfl (fun _ _ h => h)
                  · refine Sp.step rfl rfl rfl rfl ?_
                    refine Sp.step rfl rfl rfl rfl ?_
                    refine Sp.step rfl rfl rfl (mp_I (f := 90) rfl rfl rfl rfl) ?_
                    refine Sp.step rfl rfl rfl rfl ?_
                    exact Sp.vret rfl rfl rfl (fun _ _ h => h)
                · refine Sp.ite (fun e54 => ?_) (fun e54 => ?_)
                  · refine Sp.step rfl rfl rfl (go_sw (t := 502) (sw_of e54 rfl)) ?_
                    refine Sp.step rfl rfl rfl rfl ?_
                    refine Sp.call rfl rfl rfl (mrecv (by decide) (by decide +kernel)) s_M_takeValue (fun x55 => ⟨_, _, ⟨rfl, rfl⟩, ?_⟩)
                    refine Sp.id (pc := 506) (l := [some (.ref 60), some (.int x), some (.int y), some (.int ((22 * (M.1 60 89)) + y)), none, none, none, none, none, none, none, none]) (st := [.int x55.1]) (h := hS X x55.2) ?_
                    refine Sp.step rfl rfl rfl rfl ?_
                    refine Sp.step rfl rfl rfl rfl ?_
                    refine Sp.step rfl rfl rfl rfl ?_
                    refine Sp.if1 rfl rfl rfl rfl (fun e56 => ?_) (fun e56 => ?_)
                    · refine Sp.step rfl rfl rfl rfl ?_
                      refine Sp.call rfl rfl rfl (mrecv (by decide) (by decide +kernel)) s_M_putInt (fun x57 => ⟨_, _, ⟨rfl, rfl⟩, ?_⟩)
                      refine Sp.id (pc := 549) (l := [some (.ref 60), some (.int x), some (.int y), some (.int ((22 * (M.1 60 89)) + y)), none, none, none, none, none, some (.int x55.1), none, none]) (st := []) (h := hS X x57) ?_
                      refine Sp.step rfl rfl rfl rfl ?_
                      exact Sp.vret rfl rfl rfl (fun _ _ h => h)
                    · refine Sp.step rfl rfl rfl rfl ?_
                      refine Sp.step rfl rfl rfl (mg_F (f := 79) rfl rfl rfl rfl) ?_
                      refine Sp.step rfl rfl rfl rfl ?_
                      refine Sp.guard (fun e58 => ?_)
                      refine Sp.step rfl rfl rfl (mld rfl rfl (by decide) e58) ?_
                      refine Sp.step rfl rfl rfl rfl ?_
                      refine Sp.if2 rfl rfl rfl rfl (fun e59 => ?_) (fun e59 => ?_)
                      · refine Sp.step rfl rfl rfl rfl ?_
                        refine Sp.call rfl rfl rfl (mrecv (by decide) (by decide +kernel)) s_M_putInt (fun x60 => ⟨_, _, ⟨rfl, rfl⟩, ?_⟩)
                        refine Sp.id (pc := 549) (l := [some (.ref 60), some (.int x), some (.int y), some (.int ((22 * (M.1 60 89)) + y)), none, none, none, none, none, some (.int x55.1), none, none]) (st := []) (h := hS X x60) ?_
                        refine Sp.step rfl rfl rfl rfl ?_
                        exact Sp.vret rfl rfl rfl (fun _ _ h => h)
                      · refine Sp.step rfl rfl rfl rfl ?_
                        refine Sp.step rfl rfl rfl rfl ?_
                        refine Sp.step rfl rfl rfl (mg_F (f := 79) rfl rfl rfl rfl) ?_
                        refine Sp.step rfl rfl rfl rfl ?_
                        refine Sp.step rfl rfl rfl (mld rfl rfl (by decide) e58) ?_
                        refine Sp.step rfl rfl rfl rfl ?_
                        refine Sp.call rfl rfl rfl (mrecv (by decide) (by decide +kernel)) s_M_isBelow (fun x61 => ⟨_, _, ⟨rfl, rfl⟩, ?_⟩)
                        refine Sp.bool (fun e62 => ?_) (fun e62 => ?_)
                        · refine Sp.id (pc := 538) (l := [some (.ref 60), some (.int x), some (.int y), some (.int ((22 * (M.1 60 89)) + y)), none, none, none, none, none, some (.int x55.1), none, none]) (st := [.int 1, .ref 60]) (h := hS X x55.2) ?_
                          refine Sp.step rfl rfl rfl rfl ?_
                          refine Sp.step rfl rfl rfl rfl ?_
                          refine Sp.step rfl rfl rfl rfl ?_
                          refine Sp.call rfl rfl rfl (mrecv (by decide) (by decide +kernel)) s_M_putInt (fun x64 => ⟨_, _, ⟨rfl, rfl⟩, ?_⟩)
                          refine Sp.id (pc := 549) (l := [some (.ref 60), some (.int x), some (.int y), some (.int ((22 * (M.1 60 89)) + y)), none, none, none, none, none, some (.int x55.1), none, none]) (st := []) (h := hS X x64) ?_
                          refine Sp.step rfl rfl rfl rfl ?_
                          exact Sp.vret rfl rfl rfl (fun _ _ h => h)
                        · refine Sp.id (pc := 538) (l := [some (.ref 60), some (.int x), some (.int y), some (.int ((22 * (M.1 60 89)) + y)), none, none, none, none, none, some (.int x55.1), none, none]) (st := [.int 0, .ref 60]) (h := hS X x55.2) ?_
                          refine Sp.step rfl rfl rfl rfl ?_
                          refine Sp.step rfl rfl rfl rfl ?_
                          refine Sp.call rfl rfl rfl (mrecv (by decide) (by decide +kernel)) s_M_putInt (fun x66 => ⟨_, _, ⟨rfl, rfl⟩, ?_⟩)
                          refine Sp.id (pc := 549) (l := [some (.ref 60), some (.int x), some (.int y), some (.int ((22 * (M.1 60 89)) + y)), none, none, none, none, none, some (.int x55.1), none, none]) (st := []) (h := hS X x66) ?_
                          refine Sp.step rfl rfl rfl rfl ?_
                          exact Sp.vret rfl rfl rfl (fun _ _ h => h)
                  · refine Sp.ite (fun e67 => ?_) (fun e67 => ?_)
                    · refine Sp.step rfl rfl rfl (go_sw (t := 552) (sw_of e67 rfl)) ?_
                      refine Sp.step rfl rfl rfl rfl ?_
                      refine Sp.step rfl rfl rfl rfl ?_
                      refine Sp.call rfl rfl rfl (mrecv (by decide) (by decide +kernel)) s_M_putRef (fun x68 => ⟨_, _, ⟨rfl, rfl⟩, ?_⟩)
                      refine Sp.id (pc := 557) (l := [some (.ref 60), some (.int x), some (.int y), some (.int ((22 * (M.1 60 89)) + y)), none, none, none, none, none, none, none, none]) (st := []) (h := hS X x68) ?_
                      refine Sp.step rfl rfl rfl rfl ?_
                      exact Sp.vret rfl rfl rfl (fun _ _ h => h)
                    · refine Sp.ite (fun e69 => ?_) (fun e69 => ?_)
                      · refine Sp.step rfl rfl rfl (go_sw (t := 560) (sw_of e69 rfl)) ?_
                        refine Sp.step rfl rfl rfl rfl ?_
                        refine Sp.call rfl rfl rfl (mrecv (by decide) (by decide +kernel)) s_M_takeValue (fun x70 => ⟨_, _, ⟨rfl, rfl⟩, ?_⟩)
                        refine Sp.id (pc := 564) (l := [some (.ref 60), some (.int x), some (.int y), some (.int ((22 * (M.1 60 89)) + y)), none, none, none, none, none, none, none, none]) (st := [.int x70.1]) (h := hS X x70.2) ?_
                        refine Sp.step rfl rfl rfl rfl ?_
                        refine Sp.step rfl rfl rfl rfl ?_
                        refine Sp.step rfl rfl rfl (mg_I (f := 78) rfl rfl rfl) ?_
                        refine Sp.step rfl rfl rfl rfl ?_
                        refine Sp.if2 rfl rfl rfl rfl (fun e71 => ?_) (fun e71 => ?_)
                        · refine Sp.step rfl rfl rfl rfl ?_
                          refine Sp.step rfl rfl rfl rfl ?_
                          refine Sp.step rfl rfl rfl (mg_I (f := 78) rfl rfl rfl) ?_
                          refine Sp.step rfl rfl rfl rfl ?_
                          refine Sp.step rfl rfl rfl rfl ?_
                          refine Sp.step rfl rfl rfl (mp_I (f := 78) rfl rfl rfl rfl) ?_
                          refine Sp.step rfl rfl rfl rfl ?_
                          exact Sp.vret rfl rfl rfl (fun _ _ h => h)
                        · refine Sp.step rfl rfl rfl rfl ?_
                          refine Sp.step rfl rfl rfl (mg_F (f := 77) rfl rfl rfl rfl) ?_
                          refine Sp.step rfl rfl rfl rfl ?_
                          refine Sp.step rfl rfl rfl (mg_I (f := 78) rfl rfl rfl) ?_
                          refine Sp.step rfl rfl rfl rfl ?_
                          refine Sp.guard (fun e73 => ?_)
                          refine Sp.step rfl rfl rfl (mst rfl rfl (by decide) e73) ?_
                          refine Sp.step rfl rfl rfl rfl ?_
                          refine Sp.step rfl rfl rfl rfl ?_
                          refine Sp.step rfl rfl rfl (mg_I (f := 78) rfl rfl rfl) ?_
                          refine Sp.step rfl rfl rfl rfl ?_
                          refine Sp.step rfl rfl rfl rfl ?_
                          refine Sp.step rfl rfl rfl (mp_I (f := 78) rfl rfl rfl rfl) ?_
                          refine Sp.step rfl rfl rfl rfl ?_
                          exact Sp.vret rfl rfl rfl (fun _ _ h => h)
                      · refine Sp.ite (fun e76 => ?_) (fun e76 => ?_)
                        · refine Sp.step rfl rfl rfl (go_sw (t := 600) (sw_of e76 rfl)) ?_
                          refine Sp.step rfl rfl rfl rfl ?_
                          refine Sp.step rfl rfl rfl rfl ?_
                          refine Sp.step rfl rfl rfl (mg_I (f := 76) rfl rfl rfl) ?_
                          refine Sp.piece (pe := 618) (mf := (fun (x78 : Int32) => [some (.ref 60), none, none, none, none, none, none, none, none, none, none, none])) (sf := (fun (x78 : Int32) => [.int x78, .ref 60])) (hf := (fun (x78 : Int32) => hS X M)) ?_ (fun x78 => ?_)
                          · refine Sp.if1 rfl rfl rfl rfl (fun e77 => ?_) (fun e77 => ?_)
                            · refine Sp.step rfl rfl rfl rfl ?_
                              exact Sp.jmp (l0 := [some (.ref 60), none, none, none, none, none, none, none, none, none, none, none]) ⟨rfl, trivial⟩ (fun _ _ h => h)
                            · refine Sp.step rfl rfl rfl rfl ?_
                              refine Sp.step rfl rfl rfl (mg_F (f := 75) rfl rfl rfl rfl) ?_
                              refine Sp.step rfl rfl rfl rfl ?_
                              refine Sp.step rfl rfl rfl (mld rfl rfl (by decide) (by decide)) ?_
                              refine Sp.step rfl rfl rfl rfl ?_
                              exact Sp.jmp (l0 := [some (.ref 60), none, none, none, none, none, none, none, none, none, none, none]) ⟨rfl, trivial⟩ (fun _ _ h => h)
                          · refine Sp.call rfl rfl rfl (mrecv (by decide) (by decide +kernel)) s_M_putInt (fun x79 => ⟨_, _, ⟨rfl, rfl⟩, ?_⟩)
                            refine Sp.id (pc := 621) (l := [some (.ref 60), none, none, none, none, none, none, none, none, none, none, none]) (st := []) (h := hS X x79) ?_
                            refine Sp.step rfl rfl rfl rfl ?_
                            refine Sp.step rfl rfl rfl rfl ?_
                            refine Sp.weak (l0 := [some (.ref 60), none, none, none, none, none, none, none, none, none, none, some (.int 1)]) ⟨rfl, rfl, trivial⟩ ?_
                            refine Sp.loopX (pe := 655) (mf := (fun (x85 : (Int32 × MS)) => [some (.ref 60), none, none, none, none, none, none, none, none, none, none, some (.int x85.1)])) (hf := (fun (x85 : (Int32 × MS)) => hS X x85.2)) (fun x85 => ?_) (fun x90 => ?_) _ _
                            · unfold b624_M_others
                              refine Sp.step rfl rfl rfl rfl ?_
                              refine Sp.step rfl rfl rfl rfl ?_
                              refine Sp.step rfl rfl rfl (mg_I (f := 76) rfl rfl rfl) ?_
                              refine Sp.if2 rfl rfl rfl rfl (fun e86 => ?_) (fun e86 => ?_)
                              · exact Sp.jmp (l0 := [some (.ref 60), none, none, none, none, none, none, none, none, none, none, some (.int x85.1)]) ⟨rfl, rfl, trivial⟩ (fun _ _ h => h)
                              · refine Sp.step rfl rfl rfl rfl ?_
                                refine Sp.step rfl rfl rfl (mg_F (f := 75) rfl rfl rfl rfl) ?_
                                refine Sp.step rfl rfl rfl rfl ?_
                                refine Sp.step rfl rfl rfl rfl ?_
                                refine Sp.step rfl rfl rfl rfl ?_
                                refine Sp.step rfl rfl rfl rfl ?_
                                refine Sp.step rfl rfl rfl (mg_F (f := 75) rfl rfl rfl rfl) ?_
                                refine Sp.step rfl rfl rfl rfl ?_
                                refine Sp.guard (fun e87 => ?_)
                                refine Sp.step rfl rfl rfl (mld rfl rfl (by decide) e87) ?_
                                refine Sp.guard (fun e88 => ?_)
                                refine Sp.step rfl rfl rfl (mst rfl rfl (by decide) e88) ?_
                                refine Sp.step rfl rfl rfl rfl ?_
                                refine Sp.step rfl rfl rfl rfl ?_
                                exact Sp.jmp (l0 := [some (.ref 60), none, none, none, none, none, none, none, none, none, none, some (.int (x85.1 + 1))]) ⟨rfl, rfl, trivial⟩ (fun _ _ h => h)
                            · refine Sp.step rfl rfl rfl rfl ?_
                              refine Sp.step rfl rfl rfl rfl ?_
                              refine Sp.step rfl rfl rfl (mg_I (f := 76) rfl rfl rfl) ?_
                              refine Sp.if1 rfl rfl rfl rfl (fun e91 => ?_) (fun e91 => ?_)
                              · refine Sp.step rfl rfl rfl rfl ?_
                                refine Sp.step rfl rfl rfl (mp_I (f := 76) rfl rfl rfl rfl) ?_
                                refine Sp.step rfl rfl rfl rfl ?_
                                exact Sp.vret rfl rfl rfl (fun _ _ h => h)
                              · refine Sp.step rfl rfl rfl rfl ?_
                                refine Sp.step rfl rfl rfl (mg_I (f := 76) rfl rfl rfl) ?_
                                refine Sp.step rfl rfl rfl rfl ?_
                                refine Sp.step rfl rfl rfl rfl ?_
                                refine Sp.step rfl rfl rfl rfl ?_
                                refine Sp.step rfl rfl rfl (mp_I (f := 76) rfl rfl rfl rfl) ?_
                                refine Sp.step rfl rfl rfl rfl ?_
                                exact Sp.vret rfl rfl rfl (fun _ _ h => h)
                        · refine Sp.step rfl rfl rfl (go_sw (t := 679) (mjSw_dflt _ (by
                            intro q hq
                            simp only [List.mem_cons, List.not_mem_nil, or_false] at hq
                            rcases hq with rfl | rfl | rfl | rfl | rfl | rfl | rfl | rfl | rfl | rfl | rfl | rfl | rfl | rfl | rfl | rfl | rfl | rfl | rfl | rfl | rfl | rfl | rfl | rfl | rfl | rfl | rfl | rfl | rfl | rfl | rfl | rfl | rfl | rfl | rfl | rfl | rfl | rfl | rfl | rfl | rfl | rfl | rfl | rfl | rfl | rfl | rfl
                            · exact fun h => absurd h (fun h => e1 h)
                            · exact fun h => absurd h (fun h => e3 h)
                            · exact fun h => absurd h (fun h => e13 h)
                            · exact fun h => rfl
                            · exact fun h => rfl
                            · exact fun h => rfl
                            · exact fun h => rfl
                            · exact fun h => rfl
                            · exact fun h => rfl
                            · exact fun h => rfl
                            · exact fun h => rfl
                            · exact fun h => rfl
                            · exact fun h => rfl
                            · exact fun h => rfl
                            · exact fun h => rfl
                            · exact fun h => absurd h (fun h => e21 h)
                            · exact fun h => absurd h (fun h => e34 h)
                            · exact fun h => absurd h (fun h => e36 h)
                            · exact fun h => rfl
                            · exact fun h => rfl
                            · exact fun h => rfl
                            · exact fun h => rfl
                            · exact fun h => rfl
                            · exact fun h => rfl
                            · exact fun h => rfl
                            · exact fun h => absurd h (fun h => e44 h)
                            · exact fun h => rfl
                            · exact fun h => rfl
                            · exact fun h => rfl
                            · exact fun h => rfl
                            · exact fun h => rfl
                            · exact fun h => rfl
                            · exact fun h => rfl
                            · exact fun h => rfl
                            · exact fun h => rfl
                            · exact fun h => rfl
                            · exact fun h => rfl
                            · exact fun h => rfl
                            · exact fun h => rfl
                            · exact fun h => rfl
                            · exact fun h => rfl
                            · exact fun h => rfl
                            · exact fun h => absurd h (fun h => e48 h)
                            · exact fun h => absurd h (fun h => e54 h)
                            · exact fun h => absurd h (fun h => e67 h)
                            · exact fun h => absurd h (fun h => e69 h)
                            · exact fun h => absurd h (fun h => e76 h)))) ?_
                          exact Sp.vret rfl rfl rfl (fun _ _ h => h)
def f_M_methodOf (x : Int32) (y : Int32) (M : MS) : Option (Int32 × MS) := (if x ≤ 0 then (if ¬ x = 0 then (lt (mw M 60 90 6) fun M4 => some ((-2), M4)) else (lt (mw M 60 90 1) fun M5 => some ((-2), M5))) else (if ixo x 1002 then (if 10 ≤ M.1 121 x.toNatClampNeg then (if ¬ x = 0 then (lt (mw M 60 90 6) fun M10 => some ((-2), M10)) else (lt (mw M 60 90 1) fun M11 => some ((-2), M11))) else (if ixo ((80 + (8 * (M.1 121 x.toNatClampNeg))) + y) 160 then (if ¬ x = 0 then (if 0 ≤ M.1 98 ((80 + (8 * (M.1 121 x.toNatClampNeg))) + y).toNatClampNeg then (lt (mw M 60 90 0) fun M15 => some (M.1 98 ((80 + (8 * (M.1 121 x.toNatClampNeg))) + y).toNatClampNeg, M15)) else (lt (mw M 60 90 6) fun M16 => some (M.1 98 ((80 + (8 * (M.1 121 x.toNatClampNeg))) + y).toNatClampNeg, M16))) else (lt (mw M 60 90 1) fun M17 => some (M.1 98 ((80 + (8 * (M.1 121 x.toNatClampNeg))) + y).toNatClampNeg, M17))) else none)) else none))
set_option maxRecDepth 100000 in
set_option maxHeartbeats 4000000 in
theorem s_M_methodOf {L : Nat} {xs : Nat → Int32} {X : XS} {M : MS} {x : Int32} {y : Int32} : Sp (mjOO L xs) 87 0 [some (.ref 60), some (.int x), some (.int y), none] [] (hS X M) (f_M_methodOf x y M) (KEM X) := by
  unfold f_M_methodOf
  refine Sp.step rfl rfl rfl rfl ?_
  refine Sp.if1 rfl rfl rfl rfl (fun e1 => ?_) (fun e1 => ?_)
  · refine Sp.step rfl rfl rfl rfl ?_
    refine Sp.step rfl rfl rfl rfl ?_
    refine Sp.step rfl rfl rfl rfl ?_
    refine Sp.step rfl rfl rfl rfl ?_
    refine Sp.if1 rfl rfl rfl rfl (fun e2 => ?_) (fun e2 => ?_)
    · refine Sp.step rfl rfl rfl rfl ?_
      refine Sp.step rfl rfl rfl rfl ?_
      refine Sp.step rfl rfl rfl rfl ?_
      refine Sp.step rfl rfl rfl rfl ?_
      refine Sp.step rfl rfl rfl (mp_I (f := 90) rfl rfl rfl rfl) ?_
      refine Sp.step rfl rfl rfl rfl ?_
      exact Sp.iret rfl rfl rfl rfl (fun _ _ h => h)
    · refine Sp.step rfl rfl rfl rfl ?_
      refine Sp.step rfl rfl rfl rfl ?_
      refine Sp.step rfl rfl rfl (mp_I (f := 90) rfl rfl rfl rfl) ?_
      refine Sp.step rfl rfl rfl rfl ?_
      exact Sp.iret rfl rfl rfl rfl (fun _ _ h => h)
  · refine Sp.step rfl rfl rfl rfl ?_
    refine Sp.step rfl rfl rfl (mg_F (f := 79) rfl rfl rfl rfl) ?_
    refine Sp.step rfl rfl rfl rfl ?_
    refine Sp.guard (fun e6 => ?_)
    refine Sp.step rfl rfl rfl (mld rfl rfl (by decide) e6) ?_
    refine Sp.step rfl rfl rfl rfl ?_
    refine Sp.if2 rfl rfl rfl rfl (fun e7 => ?_) (fun e7 => ?_)
    · refine Sp.step rfl rfl rfl rfl ?_
      refine Sp.step rfl rfl rfl rfl ?_
      refine Sp.step rfl rfl rfl rfl ?_
      refine Sp.step rfl rfl rfl rfl ?_
      refine Sp.if1 rfl rfl rfl rfl (fun e8 => ?_) (fun e8 => ?_)
      · refine Sp.step rfl rfl rfl rfl ?_
        refine Sp.step rfl rfl rfl rfl ?_
        refine Sp.step rfl rfl rfl rfl ?_
        refine Sp.step rfl rfl rfl rfl ?_
        refine Sp.step rfl rfl rfl (mp_I (f := 90) rfl rfl rfl rfl) ?_
        refine Sp.step rfl rfl rfl rfl ?_
        exact Sp.iret rfl rfl rfl rfl (fun _ _ h => h)
      · refine Sp.step rfl rfl rfl rfl ?_
        refine Sp.step rfl rfl rfl rfl ?_
        refine Sp.step rfl rfl rfl (mp_I (f := 90) rfl rfl rfl rfl) ?_
        refine Sp.step rfl rfl rfl rfl ?_
        exact Sp.iret rfl rfl rfl rfl (fun _ _ h => h)
    · refine Sp.step rfl rfl rfl rfl ?_
      refine Sp.step rfl rfl rfl (mg_F (f := 46) rfl rfl rfl rfl) ?_
      refine Sp.step rfl rfl rfl rfl ?_
      refine Sp.step rfl rfl rfl rfl ?_
      refine Sp.step rfl rfl rfl rfl ?_
      refine Sp.step rfl rfl rfl (mg_F (f := 79) rfl rfl rfl rfl) ?_
      refine Sp.step rfl rfl rfl rfl ?_
      refine Sp.step rfl rfl rfl (mld rfl rfl (by decide) e6) ?_
      refine Sp.step rfl rfl rfl rfl ?_
      refine Sp.step rfl rfl rfl rfl ?_
      refine Sp.step rfl rfl rfl rfl ?_
      refine Sp.step rfl rfl rfl rfl ?_
      refine Sp.guard (fun e12 => ?_)
      refine Sp.step rfl rfl rfl (mld rfl rfl (by decide) e12) ?_
      refine Sp.step rfl rfl rfl rfl ?_
      refine Sp.step rfl rfl rfl rfl ?_
      refine Sp.step rfl rfl rfl rfl ?_
      refine Sp.step rfl rfl rfl rfl ?_
      refine Sp.if1 rfl rfl rfl rfl (fun e13 => ?_) (fun e13 => ?_)
      · refine Sp.step rfl rfl rfl rfl ?_
        refine Sp.if1 rfl rfl rfl rfl (fun e14 => ?_) (fun e14 => ?_)
        · refine Sp.step rfl rfl rfl rfl ?_
          refine Sp.step rfl rfl rfl (mp_I (f := 90) rfl rfl rfl rfl) ?_
          refine Sp.step rfl rfl rfl rfl ?_
          exact Sp.iret rfl rfl rfl rfl (fun _ _ h => h)
        · refine Sp.step rfl rfl rfl rfl ?_
          refine Sp.step rfl rfl rfl rfl ?_
          refine Sp.step rfl rfl rfl (mp_I (f := 90) rfl rfl rfl rfl) ?_
          refine Sp.step rfl rfl rfl rfl ?_
          exact Sp.iret rfl rfl rfl rfl (fun _ _ h => h)
      · refine Sp.step rfl rfl rfl rfl ?_
        refine Sp.step rfl rfl rfl rfl ?_
        refine Sp.step rfl rfl rfl (mp_I (f := 90) rfl rfl rfl rfl) ?_
        refine Sp.step rfl rfl rfl rfl ?_
        exact Sp.iret rfl rfl rfl rfl (fun _ _ h => h)
def f_M_beginOther (M : MS) : Option MS := ((f_M_takeValue M).bind fun x1 => ((f_M_methodOf x1.1 0 x1.2).bind fun x2 => (if ¬ x2.2.1 60 90 = 0 then some x2.2 else (if ¬ x2.2.1 60 61 = 6 then ((f_M_beginThread x2.1 x1.1 x2.2).bind fun x7 => some x7) else (lt (mw x2.2 60 90 7) fun M8 => (if ¬ M8.1 60 90 = 0 then some M8 else ((f_M_beginThread x2.1 x1.1 M8).bind fun x10 => some x10)))))))
set_option maxRecDepth 100000 in
set_option maxHeartbeats 4000000 in
theorem s_M_beginOther {L : Nat} {xs : Nat → Int32} {X : XS} {M : MS} : Sp (mjOO L xs) 89 0 [some (.ref 60), none, none] [] (hS X M) (f_M_beginOther M) (KVM X) := by
  unfold f_M_beginOther
  refine Sp.step rfl rfl rfl rfl ?_
  refine Sp.call rfl rfl rfl (mrecv (by decide) (by decide +kernel)) s_M_takeValue (fun x1 => ⟨_, _, ⟨rfl, rfl⟩, ?_⟩)
  refine Sp.id (pc := 4) (l := [some (.ref 60), none, none]) (st := [.int x1.1]) (h := hS X x1.2) ?_
  refine Sp.step rfl rfl rfl rfl ?_
  refine Sp.step rfl rfl rfl rfl ?_
  refine Sp.step rfl rfl rfl rfl ?_
  refine Sp.step rfl rfl rfl rfl ?_
  refine Sp.call rfl rfl rfl (mrecv (by decide) (by decide +kernel)) s_M_methodOf (fun x2 => ⟨_, _, ⟨rfl, rfl⟩, ?_⟩)
  refine Sp.id (pc := 11) (l := [some (.ref 60), some (.int x1.1), none]) (st := [.int x2.1]) (h := hS X x2.2) ?_
  refine Sp.step rfl rfl rfl rfl ?_
  refine Sp.step rfl rfl rfl rfl ?_
  refine Sp.step rfl rfl rfl (mg_I (f := 90) rfl rfl rfl) ?_
  refine Sp.if1 rfl rfl rfl rfl (fun e3 => ?_) (fun e3 => ?_)
  · refine Sp.step rfl rfl rfl rfl ?_
    refine Sp.step rfl rfl rfl (mg_I (f := 90) rfl rfl rfl) ?_
    refine Sp.prune (c := ¬ x2.2.1 60 90 = 0) ?_
    refine Sp.if1 rfl rfl rfl rfl (fun e4 => ?_) (fun e4 => absurd e3 e4)
    exact Sp.vret rfl rfl rfl (fun _ _ h => h)
  · refine Sp.step rfl rfl rfl rfl ?_
    refine Sp.step rfl rfl rfl (mg_I (f := 61) rfl rfl rfl) ?_
    refine Sp.step rfl rfl rfl rfl ?_
    refine Sp.if2 rfl rfl rfl rfl (fun e5 => ?_) (fun e5 => ?_)
    · refine Sp.step rfl rfl rfl rfl ?_
      refine Sp.step rfl rfl rfl (mg_I (f := 90) rfl rfl rfl) ?_
      refine Sp.prune (c := ¬ x2.2.1 60 90 = 0) ?_
      refine Sp.if1 rfl rfl rfl rfl (fun e6 => absurd e6 e3) (fun e6 => ?_)
      refine Sp.step rfl rfl rfl rfl ?_
      refine Sp.step rfl rfl rfl rfl ?_
      refine Sp.step rfl rfl rfl rfl ?_
      refine Sp.call rfl rfl rfl (mrecv (by decide) (by decide +kernel)) s_M_beginThread (fun x7 => ⟨_, _, ⟨rfl, rfl⟩, ?_⟩)
      refine Sp.id (pc := 47) (l := [some (.ref 60), some (.int x1.1), some (.int x2.1)]) (st := []) (h := hS X x7) ?_
      exact Sp.vret rfl rfl rfl (fun _ _ h => h)
    · refine Sp.step rfl rfl rfl rfl ?_
      refine Sp.step rfl rfl rfl rfl ?_
      refine Sp.step rfl rfl rfl (mp_I (f := 90) rfl rfl rfl rfl) ?_
      refine Sp.step rfl rfl rfl rfl ?_
      refine Sp.step rfl rfl rfl (mg_I (f := 90) rfl rfl rfl) ?_
      refine Sp.if1 rfl rfl rfl rfl (fun e9 => ?_) (fun e9 => ?_)
      · exact Sp.vret rfl rfl rfl (fun _ _ h => h)
      · refine Sp.step rfl rfl rfl rfl ?_
        refine Sp.step rfl rfl rfl rfl ?_
        refine Sp.step rfl rfl rfl rfl ?_
        refine Sp.call rfl rfl rfl (mrecv (by decide) (by decide +kernel)) s_M_beginThread (fun x10 => ⟨_, _, ⟨rfl, rfl⟩, ?_⟩)
        refine Sp.id (pc := 47) (l := [some (.ref 60), some (.int x1.1), some (.int x2.1)]) (st := []) (h := hS X x10) ?_
        exact Sp.vret rfl rfl rfl (fun _ _ h => h)
def b2_M_argumentsOf (x : Int32) (M : MS) (x1 : Int32) : Option (Int32 ⊕ Int32) := (if 24 ≤ x1 then some (.inr 0) else (if ixo (24 + x1) 48 then (if ¬ M.1 100 (24 + x1).toNatClampNeg = x then some (.inl (x1 + 1)) else some (.inr (M.1 99 (24 + x1).toNatClampNeg))) else none))
def f_M_argumentsOf (x : Int32) (M : MS) : Option Int32 := (lp (b2_M_argumentsOf x M) 10000 (0 : Int32))
set_option maxRecDepth 100000 in
set_option maxHeartbeats 4000000 in
theorem s_M_argumentsOf {L : Nat} {xs : Nat → Int32} {X : XS} {M : MS} {x : Int32} : Sp (mjOO L xs) 86 0 [some (.ref 60), some (.int x), none] [] (hS X M) (f_M_argumentsOf x M) (KQ (hS X M)) := by
  unfold f_M_argumentsOf
  refine Sp.step rfl rfl rfl rfl ?_
  refine Sp.step rfl rfl rfl rfl ?_
  refine Sp.weak (l0 := [some (.ref 60), some (.int x), some (.int 0)]) ⟨rfl, rfl, rfl, trivial⟩ ?_
  refine Sp.loopL (mf := (fun (x1 : Int32) => [some (.ref 60), some (.int x), some (.int x1)])) (hf := (fun (x1 : Int32) => hS X M)) (fun x1 => ?_) _ _
  unfold b2_M_argumentsOf
  refine Sp.step rfl rfl rfl rfl ?_
  refine Sp.step rfl rfl rfl rfl ?_
  refine Sp.if2 rfl rfl rfl rfl (fun e2 => ?_) (fun e2 => ?_)
  · refine Sp.step rfl rfl rfl rfl ?_
    exact Sp.iret rfl rfl rfl rfl (fun _ _ h => h)
  · refine Sp.step rfl rfl rfl rfl ?_
    refine Sp.step rfl rfl rfl (mg_F (f := 48) rfl rfl rfl rfl) ?_
    refine Sp.step rfl rfl rfl rfl ?_
    refine Sp.step rfl rfl rfl rfl ?_
    refine Sp.step rfl rfl rfl rfl ?_
    refine Sp.guard (fun e3 => ?_)
    refine Sp.step rfl rfl rfl (mld rfl rfl (by decide) e3) ?_
    refine Sp.step rfl rfl rfl rfl ?_
    refine Sp.if2 rfl rfl rfl rfl (fun e4 => ?_) (fun e4 => ?_)
    · refine Sp.step rfl rfl rfl rfl ?_
      refine Sp.step rfl rfl rfl rfl ?_
      exact Sp.jmp (l0 := [some (.ref 60), some (.int x), some (.int (x1 + 1))]) ⟨rfl, rfl, rfl, trivial⟩ (fun _ _ h => h)
    · refine Sp.step rfl rfl rfl rfl ?_
      refine Sp.step rfl rfl rfl (mg_F (f := 47) rfl rfl rfl rfl) ?_
      refine Sp.step rfl rfl rfl rfl ?_
      refine Sp.step rfl rfl rfl rfl ?_
      refine Sp.step rfl rfl rfl rfl ?_
      refine Sp.step rfl rfl rfl (mld rfl rfl (by decide) e3) ?_
      exact Sp.iret rfl rfl rfl rfl (fun _ _ h => h)
def f_M_step (x : Int32) (M : MS) : Option MS := (if ixo x 6 then (lt (mw M 60 89 (((20 * x) + (M.1 109 x.toNatClampNeg)) - 1)) fun M2 => ((f_M_op (M2.1 60 89) M2).bind fun x3 => ((f_M_operand (M2.1 60 89) M2).bind fun x4 => (lt (mw M2 60 90 0) fun M5 => (if 4 ≤ x3 ∧ x3 ≤ 15 then ((f_M_arithmetic x3 M5).bind fun x8 => (((if x8.1 60 90 ≤ 0 then (if ixo (x8.1 60 89) 120 then (lt (mw x8 113 (x8.1 60 89).toNatClampNeg ((x8.1 113 (x8.1 60 89).toNatClampNeg) + 1)) fun M12 => some M12) else none) else ((f_M_unwind x x8).bind fun x13 => some x13)) : Option (MS)).bind fun x14 => (lt (mlg x14 (x14.2 + (Int64.ofNat 1))) fun M15 => (if ¬ x3 = 51 then (lt (mw M15 60 63 ((M15.1 60 63) - 1)) fun M17 => some M17) else (lt (mw M15 60 63 0) fun M18 => some M18))))) else (if 19 ≤ x3 ∧ x3 ≤ 25 then ((f_M_jumps x3 M5).bind fun x22 => (if x22.1 = true then (if ixo (x22.2.1 60 89) 120 then (lt (mw x22.2 113 (x22.2.1 60 89).toNatClampNeg x4) fun M26 => (((if M26.1 60 90 ≤ 0 then some M26 else ((f_M_unwind x M26).bind fun x29 => some x29)) : Option (MS)).bind fun x30 => (lt (mlg x30 (x30.2 + (Int64.ofNat 1))) fun M31 => (if ¬ x3 = 51 then (lt (mw M31 60 63 ((M31.1 60 63) - 1)) fun M33 => some M33) else (lt (mw M31 60 63 0) fun M34 => some M34))))) else none) else (if ixo (x22.2.1 60 89) 120 then (lt (mw x22.2 113 (x22.2.1 60 89).toNatClampNeg ((x22.2.1 113 (x22.2.1 60 89).toNatClampNeg) + 1)) fun M37 => (((if M37.1 60 90 ≤ 0 then some M37 else ((f_M_unwind x M37).bind fun x40 => some x40)) : Option (MS)).bind fun x41 => (lt (mlg x41 (x41.2 + (Int64.ofNat 1))) fun M42 => (if ¬ x3 = 51 then (lt (mw M42 60 63 ((M42.1 60 63) - 1)) fun M44 => some M44) else (lt (mw M42 60 63 0) fun M45 => some M45))))) else none))) else (if 27 ≤ x3 ∧ x3 ≤ 30 then (if ixo (M5.1 60 89) 120 then (if ixo ((1440 + (60 * (M5.1 112 (M5.1 60 89).toNatClampNeg))) + (M5.1 113 (M5.1 60 89).toNatClampNeg)) 2880 then ((f_M_fields x3 (x4 / 8) (M5.1 108 ((1440 + (60 * (M5.1 112 (M5.1 60 89).toNatClampNeg))) + (M5.1 113 (M5.1 60 89).toNatClampNeg)).toNatClampNeg) M5).bind fun x51 => (((if x51.1 60 90 ≤ 0 then (if ixo (x51.1 60 89) 120 then (lt (mw x51 113 (x51.1 60 89).toNatClampNeg ((x51.1 113 (x51.1 60 89).toNatClampNeg) + 1)) fun M55 => some M55) else none) else ((f_M_unwind x x51).bind fun x56 => some x56)) : Option (MS)).bind fun x57 => (lt (mlg x57 (x57.2 + (Int64.ofNat 1))) fun M58 => (if ¬ x3 = 51 then (lt (mw M58 60 63 ((M58.1 60 63) - 1)) fun M60 => some M60) else (lt (mw M58 60 63 0) fun M61 => some M61))))) else none) else none) else (if 31 ≤ x3 ∧ x3 ≤ 37 then ((f_M_arrays x3 M5).bind fun x65 => (((if x65.1 60 90 ≤ 0 then (if ixo (x65.1 60 89) 120 then (lt (mw x65 113 (x65.1 60 89).toNatClampNeg ((x65.1 113 (x65.1 60 89).toNatClampNeg) + 1)) fun M69 => some M69) else none) else ((f_M_unwind x x65).bind fun x70 => some x70)) : Option (MS)).bind fun x71 => (lt (mlg x71 (x71.2 + (Int64.ofNat 1))) fun M72 => (if ¬ x3 = 51 then (lt (mw M72 60 63 ((M72.1 60 63) - 1)) fun M74 => some M74) else (lt (mw M72 60 63 0) fun M75 => some M75))))) else (((if x3 = 38 then (((if ¬ M5.1 60 90 = 0 then some M5 else ((f_M_call x x4 M5).bind fun x80 => some x80)) : Option (MS)).bind fun x81 => some (0, x81)) else (if ¬ x3 = 39 then (if 40 ≤ x3 ∧ x3 ≤ 42 then ((f_M_giveBack x x3 M5).bind fun x85 => some (0, x85)) else (if ¬ x3 = 48 then (if x3 = 49 then ((f_M_monitor x x3 M5).bind fun x89 => some (1, x89)) else (if ¬ x3 = 50 then (if 52 ≤ x3 ∧ x3 ≤ 55 then ((f_M_statics x3 x4 M5).bind fun x93 => some (1, x93)) else ((f_M_others x3 x4 M5).bind fun x95 => some (1, x95))) else ((f_M_monitor x x3 M5).bind fun x96 => some (1, x96)))) else ((f_M_beginOther M5).bind fun x97 => some (1, x97)))) else ((f_M_argumentsOf x4 M5).bind fun x99 => ((f_M_peek x99 M5).bind fun x100 => ((f_M_methodOf x100 x4 M5).bind fun x101 => (((if ¬ x101.2.1 60 90 = 0 then some x101.2 else ((f_M_call x x101.1 x101.2).bind fun x103 => some x103)) : Option (MS)).bind fun x104 => some (0, x104))))))) : Option (Int32 × MS)).bind fun x105 => (((if x105.2.1 60 90 ≤ 0 then (if x105.1 = 0 then some x105.2 else (if ixo (x105.2.1 60 89) 120 then (lt (mw x105.2 113 (x105.2.1 60 89).toNatClampNeg ((x105.2.1 113 (x105.2.1 60 89).toNatClampNeg) + 1)) fun M109 => some M109) else none)) else ((f_M_unwind x x105.2).bind fun x110 => some x110)) : Option (MS)).bind fun x111 => (lt (mlg x111 (x111.2 + (Int64.ofNat 1))) fun M112 => (if ¬ x3 = 51 then (lt (mw M112 60 63 ((M112.1 60 63) - 1)) fun M114 => some M114) else (lt (mw M112 60 63 0) fun M115 => some M115))))))))))))) else none)
set_option maxRecDepth 100000 in
set_option maxHeartbeats 4000000 in
theorem s_M_step {L : Nat} {xs : Nat → Int32} {X : XS} {M : MS} {x : Int32} : Sp (mjOO L xs) 93 0 [some (.ref 60), some (.int x), none, none, none, none] [] (hS X M) (f_M_step x M) (KVM X) := by
  unfold f_M_step
  refine Sp.step rfl rfl rfl rfl ?_
  refine Sp.step rfl rfl rfl rfl ?_
  refine Sp.step rfl rfl rfl rfl ?_
  refine Sp.step rfl rfl rfl rfl ?_
  refine Sp.step rfl rfl rfl rfl ?_
  refine Sp.step rfl rfl rfl (mg_F (f := 65) rfl rfl rfl rfl) ?_
  refine Sp.step rfl rfl rfl rfl ?_
  refine Sp.guard (fun e1 => ?_)
  refine Sp.step rfl rfl rfl (mld rfl rfl (by decide) e1) ?_
  refine Sp.step rfl rfl rfl rfl ?_
  refine Sp.step rfl rfl rfl rfl ?_
  refine Sp.step rfl rfl rfl rfl ?_
  refine Sp.step rfl rfl rfl (mp_I (f := 89) rfl rfl rfl rfl) ?_
  refine Sp.step rfl rfl rfl rfl ?_
  refine Sp.step rfl rfl rfl rfl ?_
  refine Sp.step rfl rfl rfl (mg_I (f := 89) rfl rfl rfl) ?_
  refine Sp.call rfl rfl rfl (mrecv (by decide) (by decide +kernel)) s_M_op (fun x3 => ⟨_, _, ⟨rfl, rfl⟩, ?_⟩)
  refine Sp.id (pc := 25) (l := [some (.ref 60), some (.int x), none, none, none, none]) (st := [.int x3]) (h := hS X (mw M 60 89 (((20 * x) + (M.1 109 x.toNatClampNeg)) - 1))) ?_
  refine Sp.step rfl rfl rfl rfl ?_
  refine Sp.step rfl rfl rfl rfl ?_
  refine Sp.step rfl rfl rfl rfl ?_
  refine Sp.step rfl rfl rfl (mg_I (f := 89) rfl rfl rfl) ?_
  refine Sp.call rfl rfl rfl (mrecv (by decide) (by decide +kernel)) s_M_operand (fun x4 => ⟨_, _, ⟨rfl, rfl⟩, ?_⟩)
  refine Sp.id (pc := 34) (l := [some (.ref 60), some (.int x), some (.int x3), none, none, none]) (st := [.int x4]) (h := hS X (mw M 60 89 (((20 * x) + (M.1 109 x.toNatClampNeg)) - 1))) ?_
  refine Sp.step rfl rfl rfl rfl ?_
  refine Sp.step rfl rfl rfl rfl ?_
  refine Sp.step rfl rfl rfl rfl ?_
  refine Sp.step rfl rfl rfl (mp_I (f := 90) rfl rfl rfl rfl) ?_
  refine Sp.step rfl rfl rfl rfl ?_
  refine Sp.step rfl rfl rfl rfl ?_
  refine Sp.step rfl rfl rfl rfl ?_
  refine Sp.step rfl rfl rfl rfl ?_
  refine Sp.step rfl rfl rfl rfl ?_
  refine Sp.callP rfl rfl rfl rfl s_isIn (fun e6 => ?_) (fun e6 => ?_)
  · refine Sp.id (pc := 50) (l := [some (.ref 60), some (.int x), some (.int x3), some (.int x4), some (.int 1), none]) (st := [.int 1]) (h := hS X (mw (mw M 60 89 (((20 * x) + (M.1 109 x.toNatClampNeg)) - 1)) 60 90 0)) ?_
    refine Sp.step rfl rfl rfl rfl ?_
    refine Sp.step rfl rfl rfl rfl ?_
    refine Sp.step rfl rfl rfl rfl ?_
    refine Sp.call rfl rfl rfl (mrecv (by decide) (by decide +kernel)) s_M_arithmetic (fun x8 => ⟨_, _, ⟨rfl, rfl⟩, ?_⟩)
    refine Sp.id (pc := 58) (l := [some (.ref 60), some (.int x), some (.int x3), some (.int x4), some (.int 1), none]) (st := []) (h := hS X x8) ?_
    refine Sp.step rfl rfl rfl rfl ?_
    refine Sp.step rfl rfl rfl rfl ?_
    refine Sp.step rfl rfl rfl (mg_I (f := 90) rfl rfl rfl) ?_
    refine Sp.piece (pe := 361) (mf := (fun (x14 : MS) => [some (.ref 60), none, some (.int x3), none, none, none])) (sf := (fun (x14 : MS) => [])) (hf := (fun (x14 : MS) => hS X x14)) ?_ (fun x14 => ?_)
    · refine Sp.if1 rfl rfl rfl rfl (fun e9 => ?_) (fun e9 => ?_)
      · refine Sp.step rfl rfl rfl rfl ?_
        refine Sp.step rfl rfl rfl rfl ?_
        refine Sp.step rfl rfl rfl rfl ?_
        refine Sp.step rfl rfl rfl (mg_F (f := 69) rfl rfl rfl rfl) ?_
        refine Sp.step rfl rfl rfl rfl ?_
        refine Sp.step rfl rfl rfl (mg_I (f := 89) rfl rfl rfl) ?_
        refine Sp.step rfl rfl rfl rfl ?_
        refine Sp.guard (fun e11 => ?_)
        refine Sp.step rfl rfl rfl (mld rfl rfl (by decide) e11) ?_
        refine Sp.step rfl rfl rfl rfl ?_
        refine Sp.step rfl rfl rfl rfl ?_
        refine Sp.step rfl rfl rfl (mst rfl rfl (by decide) e11) ?_
        exact Sp.jmp (l0 := [some (.ref 60), none, some (.int x3), none, none, none]) ⟨rfl, rfl, trivial⟩ (fun _ _ h => h)
      · refine Sp.step rfl rfl rfl rfl ?_
        refine Sp.step rfl rfl rfl rfl ?_
        refine Sp.call rfl rfl rfl (mrecv (by decide) (by decide +kernel)) s_M_unwind (fun x13 => ⟨_, _, ⟨rfl, rfl⟩, ?_⟩)
        refine Sp.id (pc := 340) (l := [some (.ref 60), some (.int x), some (.int x3), some (.int x4), some (.int 1), none]) (st := []) (h := hS X x13) ?_
        refine Sp.step rfl rfl rfl rfl ?_
        exact Sp.jmp (l0 := [some (.ref 60), none, some (.int x3), none, none, none]) ⟨rfl, rfl, trivial⟩ (fun _ _ h => h)
    · refine Sp.step rfl rfl rfl rfl ?_
      refine Sp.step rfl rfl rfl rfl ?_
      refine Sp.step rfl rfl rfl (mg_L (f := 60) rfl rfl rfl) ?_
      refine Sp.step rfl rfl rfl rfl ?_
      refine Sp.step rfl rfl rfl rfl ?_
      refine Sp.step rfl rfl rfl (mp_L rfl rfl) ?_
      refine Sp.step rfl rfl rfl rfl ?_
      refine Sp.step rfl rfl rfl rfl ?_
      refine Sp.step rfl rfl rfl rfl ?_
      refine Sp.if2 rfl rfl rfl rfl (fun e16 => ?_) (fun e16 => ?_)
      · refine Sp.step rfl rfl rfl rfl ?_
        refine Sp.step rfl rfl rfl (mg_I (f := 63) rfl rfl rfl) ?_
        refine Sp.step rfl rfl rfl rfl ?_
        refine Sp.step rfl rfl rfl rfl ?_
        refine Sp.step rfl rfl rfl (mp_I (f := 63) rfl rfl rfl rfl) ?_
        exact Sp.vret rfl rfl rfl (fun _ _ h => h)
      · refine Sp.step rfl rfl rfl rfl ?_
        refine Sp.step rfl rfl rfl rfl ?_
        refine Sp.step rfl rfl rfl (mp_I (f := 63) rfl rfl rfl rfl) ?_
        exact Sp.vret rfl rfl rfl (fun _ _ h => h)
  · refine Sp.id (pc := 50) (l := [some (.ref 60), some (.int x), some (.int x3), some (.int x4), some (.int 1), none]) (st := [.int 0]) (h := hS X (mw (mw M 60 89 (((20 * x) + (M.1 109 x.toNatClampNeg)) - 1)) 60 90 0)) ?_
    refine Sp.step rfl rfl rfl rfl ?_
    refine Sp.step rfl rfl rfl rfl ?_
    refine Sp.step rfl rfl rfl rfl ?_
    refine Sp.step rfl rfl rfl rfl ?_
    refine Sp.callP rfl rfl rfl rfl s_isIn (fun e20 => ?_) (fun e20 => ?_)
    · refine Sp.id (pc := 69) (l := [some (.ref 60), some (.int x), some (.int x3), some (.int x4), some (.int 1), none]) (st := [.int 1]) (h := hS X (mw (mw M 60 89 (((20 * x) + (M.1 109 x.toNatClampNeg)) - 1)) 60 90 0)) ?_
      refine Sp.step rfl rfl rfl rfl ?_
      refine Sp.step rfl rfl rfl rfl ?_
      refine Sp.step rfl rfl rfl rfl ?_
      refine Sp.call rfl rfl rfl (mrecv (by decide) (by decide +kernel)) s_M_jumps (fun x22 => ⟨_, _, ⟨rfl, rfl⟩, ?_⟩)
      refine Sp.bool (fun e23 => ?_) (fun e23 => ?_)
      · refine Sp.id (pc := 77) (l := [some (.ref 60), some (.int x), some (.int x3), some (.int x4), some (.int 1), none]) (st := [.int 1]) (h := hS X x22.2) ?_
        refine Sp.step rfl rfl rfl rfl ?_
        refine Sp.step rfl rfl rfl rfl ?_
        refine Sp.step rfl rfl rfl (mg_F (f := 69) rfl rfl rfl rfl) ?_
        refine Sp.step rfl rfl rfl rfl ?_
        refine Sp.step rfl rfl rfl (mg_I (f := 89) rfl rfl rfl) ?_
        refine Sp.step rfl rfl rfl rfl ?_
        refine Sp.step rfl rfl rfl rfl ?_
        refine Sp.step rfl rfl rfl rfl ?_
        refine Sp.step rfl rfl rfl rfl ?_
        refine Sp.guard (fun e25 => ?_)
        refine Sp.step rfl rfl rfl (mst rfl rfl (by decide) e25) ?_
        refine Sp.step rfl rfl rfl rfl ?_
        refine Sp.step rfl rfl rfl rfl ?_
        refine Sp.step rfl rfl rfl rfl ?_
        refine Sp.step rfl rfl rfl rfl ?_
        refine Sp.step rfl rfl rfl (mg_I (f := 90) rfl rfl rfl) ?_
        refine Sp.piece (pe := 361) (mf := (fun (x30 : MS) => [some (.ref 60), none, some (.int x3), none, none, none])) (sf := (fun (x30 : MS) => [])) (hf := (fun (x30 : MS) => hS X x30)) ?_ (fun x30 => ?_)
        · refine Sp.if1 rfl rfl rfl rfl (fun e27 => ?_) (fun e27 => ?_)
          · refine Sp.step rfl rfl rfl rfl ?_
            refine Sp.step rfl rfl rfl rfl ?_
            exact Sp.jmp (l0 := [some (.ref 60), none, some (.int x3), none, none, none]) ⟨rfl, rfl, trivial⟩ (fun _ _ h => h)
          · refine Sp.step rfl rfl rfl rfl ?_
            refine Sp.step rfl rfl rfl rfl ?_
            refine Sp.call rfl rfl rfl (mrecv (by decide) (by decide +kernel)) s_M_unwind (fun x29 => ⟨_, _, ⟨rfl, rfl⟩, ?_⟩)
            refine Sp.id (pc := 340) (l := [some (.ref 60), some (.int x), some (.int x3), some (.int x4), some (.int 0), some (.int 1)]) (st := []) (h := hS X x29) ?_
            refine Sp.step rfl rfl rfl rfl ?_
            exact Sp.jmp (l0 := [some (.ref 60), none, some (.int x3), none, none, none]) ⟨rfl, rfl, trivial⟩ (fun _ _ h => h)
        · refine Sp.step rfl rfl rfl rfl ?_
          refine Sp.step rfl rfl rfl rfl ?_
          refine Sp.step rfl rfl rfl (mg_L (f := 60) rfl rfl rfl) ?_
          refine Sp.step rfl rfl rfl rfl ?_
          refine Sp.step rfl rfl rfl rfl ?_
          refine Sp.step rfl rfl rfl (mp_L rfl rfl) ?_
          refine Sp.step rfl rfl rfl rfl ?_
          refine Sp.step rfl rfl rfl rfl ?_
          refine Sp.step rfl rfl rfl rfl ?_
          refine Sp.if2 rfl rfl rfl rfl (fun e32 => ?_) (fun e32 => ?_)
          · refine Sp.step rfl rfl rfl rfl ?_
            refine Sp.step rfl rfl rfl (mg_I (f := 63) rfl rfl rfl) ?_
            refine Sp.step rfl rfl rfl rfl ?_
            refine Sp.step rfl rfl rfl rfl ?_
            refine Sp.step rfl rfl rfl (mp_I (f := 63) rfl rfl rfl rfl) ?_
            exact Sp.vret rfl rfl rfl (fun _ _ h => h)
          · refine Sp.step rfl rfl rfl rfl ?_
            refine Sp.step rfl rfl rfl rfl ?_
            refine Sp.step rfl rfl rfl (mp_I (f := 63) rfl rfl rfl rfl) ?_
            exact Sp.vret rfl rfl rfl (fun _ _ h => h)
      · refine Sp.id (pc := 77) (l := [some (.ref 60), some (.int x), some (.int x3), some (.int x4), some (.int 1), none]) (st := [.int 0]) (h := hS X x22.2) ?_
        refine Sp.step rfl rfl rfl rfl ?_
        refine Sp.step rfl rfl rfl rfl ?_
        refine Sp.step rfl rfl rfl (mg_F (f := 69) rfl rfl rfl rfl) ?_
        refine Sp.step rfl rfl rfl rfl ?_
        refine Sp.step rfl rfl rfl (mg_I (f := 89) rfl rfl rfl) ?_
        refine Sp.step rfl rfl rfl rfl ?_
        refine Sp.step rfl rfl rfl rfl ?_
        refine Sp.step rfl rfl rfl rfl ?_
        refine Sp.step rfl rfl rfl (mg_F (f := 69) rfl rfl rfl rfl) ?_
        refine Sp.step rfl rfl rfl rfl ?_
        refine Sp.step rfl rfl rfl (mg_I (f := 89) rfl rfl rfl) ?_
        refine Sp.guard (fun e36 => ?_)
        refine Sp.step rfl rfl rfl (mld rfl rfl (by decide) e36) ?_
        refine Sp.step rfl rfl rfl rfl ?_
        refine Sp.step rfl rfl rfl rfl ?_
        refine Sp.step rfl rfl rfl (mst rfl rfl (by decide) e36) ?_
        refine Sp.step rfl rfl rfl rfl ?_
        refine Sp.step rfl rfl rfl rfl ?_
        refine Sp.step rfl rfl rfl rfl ?_
        refine Sp.step rfl rfl rfl rfl ?_
        refine Sp.step rfl rfl rfl (mg_I (f := 90) rfl rfl rfl) ?_
        refine Sp.piece (pe := 361) (mf := (fun (x41 : MS) => [some (.ref 60), none, some (.int x3), none, none, none])) (sf := (fun (x41 : MS) => [])) (hf := (fun (x41 : MS) => hS X x41)) ?_ (fun x41 => ?_)
        · refine Sp.if1 rfl rfl rfl rfl (fun e38 => ?_) (fun e38 => ?_)
          · refine Sp.step rfl rfl rfl rfl ?_
            refine Sp.step rfl rfl rfl rfl ?_
            exact Sp.jmp (l0 := [some (.ref 60), none, some (.int x3), none, none, none]) ⟨rfl, rfl, trivial⟩ (fun _ _ h => h)
          · refine Sp.step rfl rfl rfl rfl ?_
            refine Sp.step rfl rfl rfl rfl ?_
            refine Sp.call rfl rfl rfl (mrecv (by decide) (by decide +kernel)) s_M_unwind (fun x40 => ⟨_, _, ⟨rfl, rfl⟩, ?_⟩)
            refine Sp.id (pc := 340) (l := [some (.ref 60), some (.int x), some (.int x3), some (.int x4), some (.int 0), some (.int 0)]) (st := []) (h := hS X x40) ?_
            refine Sp.step rfl rfl rfl rfl ?_
            exact Sp.jmp (l0 := [some (.ref 60), none, some (.int x3), none, none, none]) ⟨rfl, rfl, trivial⟩ (fun _ _ h => h)
        · refine Sp.step rfl rfl rfl rfl ?_
          refine Sp.step rfl rfl rfl rfl ?_
          refine Sp.step rfl rfl rfl (mg_L (f := 60) rfl rfl rfl) ?_
          refine Sp.step rfl rfl rfl rfl ?_
          refine Sp.step rfl rfl rfl rfl ?_
          refine Sp.step rfl rfl rfl (mp_L rfl rfl) ?_
          refine Sp.step rfl rfl rfl rfl ?_
          refine Sp.step rfl rfl rfl rfl ?_
          refine Sp.step rfl rfl rfl rfl ?_
          refine Sp.if2 rfl rfl rfl rfl (fun e43 => ?_) (fun e43 => ?_)
          · refine Sp.step rfl rfl rfl rfl ?_
            refine Sp.step rfl rfl rfl (mg_I (f := 63) rfl rfl rfl) ?_
            refine Sp.step rfl rfl rfl rfl ?_
            refine Sp.step rfl rfl rfl rfl ?_
            refine Sp.step rfl rfl rfl (mp_I (f := 63) rfl rfl rfl rfl) ?_
            exact Sp.vret rfl rfl rfl (fun _ _ h => h)
          · refine Sp.step rfl rfl rfl rfl ?_
            refine Sp.step rfl rfl rfl rfl ?_
            refine Sp.step rfl rfl rfl (mp_I (f := 63) rfl rfl rfl rfl) ?_
            exact Sp.vret rfl rfl rfl (fun _ _ h => h)
    · refine Sp.id (pc := 69) (l := [some (.ref 60), some (.int x), some (.int x3), some (.int x4), some (.int 1), none]) (st := [.int 0]) (h := hS X (mw (mw M 60 89 (((20 * x) + (M.1 109 x.toNatClampNeg)) - 1)) 60 90 0)) ?_
      refine Sp.step rfl rfl rfl rfl ?_
      refine Sp.step rfl rfl rfl rfl ?_
      refine Sp.step rfl rfl rfl rfl ?_
      refine Sp.step rfl rfl rfl rfl ?_
      refine Sp.callP rfl rfl rfl rfl s_isIn (fun e47 => ?_) (fun e47 => ?_)
      · refine Sp.id (pc := 122) (l := [some (.ref 60), some (.int x), some (.int x3), some (.int x4), some (.int 1), none]) (st := [.int 1]) (h := hS X (mw (mw M 60 89 (((20 * x) + (M.1 109 x.toNatClampNeg)) - 1)) 60 90 0)) ?_
        refine Sp.step rfl rfl rfl rfl ?_
        refine Sp.step rfl rfl rfl rfl ?_
        refine Sp.step rfl rfl rfl rfl ?_
        refine Sp.step rfl rfl rfl rfl ?_
        refine Sp.step rfl rfl rfl rfl ?_
        refine Sp.step rfl rfl rfl (go_div (by decide)) ?_
        refine Sp.step rfl rfl rfl rfl ?_
        refine Sp.step rfl rfl rfl (mg_F (f := 56) rfl rfl rfl rfl) ?_
        refine Sp.step rfl rfl rfl rfl ?_
        refine Sp.step rfl rfl rfl rfl ?_
        refine Sp.step rfl rfl rfl rfl ?_
        refine Sp.step rfl rfl rfl (mg_F (f := 68) rfl rfl rfl rfl) ?_
        refine Sp.step rfl rfl rfl rfl ?_
        refine Sp.step rfl rfl rfl (mg_I (f := 89) rfl rfl rfl) ?_
        refine Sp.guard (fun e49 => ?_)
        refine Sp.step rfl rfl rfl (mld rfl rfl (by decide) e49) ?_
        refine Sp.step rfl rfl rfl rfl ?_
        refine Sp.step rfl rfl rfl rfl ?_
        refine Sp.step rfl rfl rfl rfl ?_
        refine Sp.step rfl rfl rfl (mg_F (f := 69) rfl rfl rfl rfl) ?_
        refine Sp.step rfl rfl rfl rfl ?_
        refine Sp.step rfl rfl rfl (mg_I (f := 89) rfl rfl rfl) ?_
        refine Sp.step rfl rfl rfl (mld rfl rfl (by decide) e49) ?_
        refine Sp.step rfl rfl rfl rfl ?_
        refine Sp.guard (fun e50 => ?_)
        refine Sp.step rfl rfl rfl (mld rfl rfl (by decide) e50) ?_
        refine Sp.call rfl rfl rfl (mrecv (by decide) (by decide +kernel)) s_M_fields (fun x51 => ⟨_, _, ⟨rfl, rfl⟩, ?_⟩)
        refine Sp.id (pc := 165) (l := [some (.ref 60), some (.int x), some (.int x3), some (.int x4), some (.int 1), none]) (st := []) (h := hS X x51) ?_
        refine Sp.step rfl rfl rfl rfl ?_
        refine Sp.step rfl rfl rfl rfl ?_
        refine Sp.step rfl rfl rfl (mg_I (f := 90) rfl rfl rfl) ?_
        refine Sp.piece (pe := 361) (mf := (fun (x57 : MS) => [some (.ref 60), none, some (.int x3), none, none, none])) (sf := (fun (x57 : MS) => [])) (hf := (fun (x57 : MS) => hS X x57)) ?_ (fun x57 => ?_)
        · refine Sp.if1 rfl rfl rfl rfl (fun e52 => ?_) (fun e52 => ?_)
          · refine Sp.step rfl rfl rfl rfl ?_
            refine Sp.step rfl rfl rfl rfl ?_
            refine Sp.step rfl rfl rfl rfl ?_
            refine Sp.step rfl rfl rfl (mg_F (f := 69) rfl rfl rfl rfl) ?_
            refine Sp.step rfl rfl rfl rfl ?_
            refine Sp.step rfl rfl rfl (mg_I (f := 89) rfl rfl rfl) ?_
            refine Sp.step rfl rfl rfl rfl ?_
            refine Sp.guard (fun e54 => ?_)
            refine Sp.step rfl rfl rfl (mld rfl rfl (by decide) e54) ?_
            refine Sp.step rfl rfl rfl rfl ?_
            refine Sp.step rfl rfl rfl rfl ?_
            refine Sp.step rfl rfl rfl (mst rfl rfl (by decide) e54) ?_
            exact Sp.jmp (l0 := [some (.ref 60), none, some (.int x3), none, none, none]) ⟨rfl, rfl, trivial⟩ (fun _ _ h => h)
          · refine Sp.step rfl rfl rfl rfl ?_
            refine Sp.step rfl rfl rfl rfl ?_
            refine Sp.call rfl rfl rfl (mrecv (by decide) (by decide +kernel)) s_M_unwind (fun x56 => ⟨_, _, ⟨rfl, rfl⟩, ?_⟩)
            refine Sp.id (pc := 340) (l := [some (.ref 60), some (.int x), some (.int x3), some (.int x4), some (.int 1), none]) (st := []) (h := hS X x56) ?_
            refine Sp.step rfl rfl rfl rfl ?_
            exact Sp.jmp (l0 := [some (.ref 60), none, some (.int x3), none, none, none]) ⟨rfl, rfl, trivial⟩ (fun _ _ h => h)
        · refine Sp.step rfl rfl rfl rfl ?_
          refine Sp.step rfl rfl rfl rfl ?_
          refine Sp.step rfl rfl rfl (mg_L (f := 60) rfl rfl rfl) ?_
          refine Sp.step rfl rfl rfl rfl ?_
          refine Sp.step rfl rfl rfl rfl ?_
          refine Sp.step rfl rfl rfl (mp_L rfl rfl) ?_
          refine Sp.step rfl rfl rfl rfl ?_
          refine Sp.step rfl rfl rfl rfl ?_
          refine Sp.step rfl rfl rfl rfl ?_
          refine Sp.if2 rfl rfl rfl rfl (fun e59 => ?_) (fun e59 => ?_)
          · refine Sp.step rfl rfl rfl rfl ?_
            refine Sp.step rfl rfl rfl (mg_I (f := 63) rfl rfl rfl) ?_
            refine Sp.step rfl rfl rfl rfl ?_
            refine Sp.step rfl rfl rfl rfl ?_
            refine Sp.step rfl rfl rfl (mp_I (f := 63) rfl rfl rfl rfl) ?_
            exact Sp.vret rfl rfl rfl (fun _ _ h => h)
          · refine Sp.step rfl rfl rfl rfl ?_
            refine Sp.step rfl rfl rfl rfl ?_
            refine Sp.step rfl rfl rfl (mp_I (f := 63) rfl rfl rfl rfl) ?_
            exact Sp.vret rfl rfl rfl (fun _ _ h => h)
      · refine Sp.id (pc := 122) (l := [some (.ref 60), some (.int x), some (.int x3), some (.int x4), some (.int 1), none]) (st := [.int 0]) (h := hS X (mw (mw M 60 89 (((20 * x) + (M.1 109 x.toNatClampNeg)) - 1)) 60 90 0)) ?_
        refine Sp.step rfl rfl rfl rfl ?_
        refine Sp.step rfl rfl rfl rfl ?_
        refine Sp.step rfl rfl rfl rfl ?_
        refine Sp.step rfl rfl rfl rfl ?_
        refine Sp.callP rfl rfl rfl rfl s_isIn (fun e63 => ?_) (fun e63 => ?_)
        · refine Sp.id (pc := 176) (l := [some (.ref 60), some (.int x), some (.int x3), some (.int x4), some (.int 1), none]) (st := [.int 1]) (h := hS X (mw (mw M 60 89 (((20 * x) + (M.1 109 x.toNatClampNeg)) - 1)) 60 90 0)) ?_
          refine Sp.step rfl rfl rfl rfl ?_
          refine Sp.step rfl rfl rfl rfl ?_
          refine Sp.step rfl rfl rfl rfl ?_
          refine Sp.call rfl rfl rfl (mrecv (by decide) (by decide +kernel)) s_M_arrays (fun x65 => ⟨_, _, ⟨rfl, rfl⟩, ?_⟩)
          refine Sp.id (pc := 184) (l := [some (.ref 60), some (.int x), some (.int x3), some (.int x4), some (.int 1), none]) (st := []) (h := hS X x65) ?_
          refine Sp.step rfl rfl rfl rfl ?_
          refine Sp.step rfl rfl rfl rfl ?_
          refine Sp.step rfl rfl rfl (mg_I (f := 90) rfl rfl rfl) ?_
          refine Sp.piece (pe := 361) (mf := (fun (x71 : MS) => [some (.ref 60), none, some (.int x3), none, none, none])) (sf := (fun (x71 : MS) => [])) (hf := (fun (x71 : MS) => hS X x71)) ?_ (fun x71 => ?_)
          · refine Sp.if1 rfl rfl rfl rfl (fun e66 => ?_) (fun e66 => ?_)
            · refine Sp.step rfl rfl rfl rfl ?_
              refine Sp.step rfl rfl rfl rfl ?_
              refine Sp.step rfl rfl rfl rfl ?_
              refine Sp.step rfl rfl rfl (mg_F (f := 69) rfl rfl rfl rfl) ?_
              refine Sp.step rfl rfl rfl rfl ?_
              refine Sp.step rfl rfl rfl (mg_I (f := 89) rfl rfl rfl) ?_
              refine Sp.step rfl rfl rfl rfl ?_
              refine Sp.guard (fun e68 => ?_)
              refine Sp.step rfl rfl rfl (mld rfl rfl (by decide) e68) ?_
              refine Sp.step rfl rfl rfl rfl ?_
              refine Sp.step rfl rfl rfl rfl ?_
              refine Sp.step rfl rfl rfl (mst rfl rfl (by decide) e68) ?_
              exact Sp.jmp (l0 := [some (.ref 60), none, some (.int x3), none, none, none]) ⟨rfl, rfl, trivial⟩ (fun _ _ h => h)
            · refine Sp.step rfl rfl rfl rfl ?_
              refine Sp.step rfl rfl rfl rfl ?_
              refine Sp.call rfl rfl rfl (mrecv (by decide) (by decide +kernel)) s_M_unwind (fun x70 => ⟨_, _, ⟨rfl, rfl⟩, ?_⟩)
              refine Sp.id (pc := 340) (l := [some (.ref 60), some (.int x), some (.int x3), some (.int x4), some (.int 1), none]) (st := []) (h := hS X x70) ?_
              refine Sp.step rfl rfl rfl rfl ?_
              exact Sp.jmp (l0 := [some (.ref 60), none, some (.int x3), none, none, none]) ⟨rfl, rfl, trivial⟩ (fun _ _ h => h)
          · refine Sp.step rfl rfl rfl rfl ?_
            refine Sp.step rfl rfl rfl rfl ?_
            refine Sp.step rfl rfl rfl (mg_L (f := 60) rfl rfl rfl) ?_
            refine Sp.step rfl rfl rfl rfl ?_
            refine Sp.step rfl rfl rfl rfl ?_
            refine Sp.step rfl rfl rfl (mp_L rfl rfl) ?_
            refine Sp.step rfl rfl rfl rfl ?_
            refine Sp.step rfl rfl rfl rfl ?_
            refine Sp.step rfl rfl rfl rfl ?_
            refine Sp.if2 rfl rfl rfl rfl (fun e73 => ?_) (fun e73 => ?_)
            · refine Sp.step rfl rfl rfl rfl ?_
              refine Sp.step rfl rfl rfl (mg_I (f := 63) rfl rfl rfl) ?_
              refine Sp.step rfl rfl rfl rfl ?_
              refine Sp.step rfl rfl rfl rfl ?_
              refine Sp.step rfl rfl rfl (mp_I (f := 63) rfl rfl rfl rfl) ?_
              exact Sp.vret rfl rfl rfl (fun _ _ h => h)
            · refine Sp.step rfl rfl rfl rfl ?_
              refine Sp.step rfl rfl rfl rfl ?_
              refine Sp.step rfl rfl rfl (mp_I (f := 63) rfl rfl rfl rfl) ?_
              exact Sp.vret rfl rfl rfl (fun _ _ h => h)
        · refine Sp.id (pc := 176) (l := [some (.ref 60), some (.int x), some (.int x3), some (.int x4), some (.int 1), none]) (st := [.int 0]) (h := hS X (mw (mw M 60 89 (((20 * x) + (M.1 109 x.toNatClampNeg)) - 1)) 60 90 0)) ?_
          refine Sp.step rfl rfl rfl rfl ?_
          refine Sp.step rfl rfl rfl rfl ?_
          refine Sp.step rfl rfl rfl rfl ?_
          refine Sp.piece (pe := 328) (mf := (fun (x105 : Int32 × MS) => [some (.ref 60), some (.int x), some (.int x3), none, some (.int x105.1), none])) (sf := (fun (x105 : Int32 × MS) => [])) (hf := (fun (x105 : Int32 × MS) => hS X x105.2)) ?_ (fun x105 => ?_)
          · refine Sp.if2 rfl rfl rfl rfl (fun e77 => ?_) (fun e77 => ?_)
            · refine Sp.step rfl rfl rfl rfl ?_
              refine Sp.step rfl rfl rfl rfl ?_
              refine Sp.prune (c := ¬ x3 = 38) ?_
              refine Sp.if2 rfl rfl rfl rfl (fun e78 => absurd e78 (fun h => h e77)) (fun e78 => ?_)
              refine Sp.step rfl rfl rfl rfl ?_
              refine Sp.step rfl rfl rfl rfl ?_
              refine Sp.step rfl rfl rfl rfl ?_
              refine Sp.step rfl rfl rfl rfl ?_
              refine Sp.step rfl rfl rfl (mg_I (f := 90) rfl rfl rfl) ?_
              refine Sp.piece (pe := 239) (mf := (fun (x81 : MS) => [some (.ref 60), some (.int x), some (.int x3), none, none, none])) (sf := (fun (x81 : MS) => [])) (hf := (fun (x81 : MS) => hS X x81)) ?_ (fun x81 => ?_)
              · refine Sp.if1 rfl rfl rfl rfl (fun e79 => ?_) (fun e79 => ?_)
                · exact Sp.jmp (l0 := [some (.ref 60), some (.int x), some (.int x3), none, none, none]) ⟨rfl, rfl, rfl, trivial⟩ (fun _ _ h => h)
                · refine Sp.step rfl rfl rfl rfl ?_
                  refine Sp.step rfl rfl rfl rfl ?_
                  refine Sp.step rfl rfl rfl rfl ?_
                  refine Sp.call rfl rfl rfl (mrecv (by decide) (by decide +kernel)) s_M_call (fun x80 => ⟨_, _, ⟨rfl, rfl⟩, ?_⟩)
                  refine Sp.id (pc := 239) (l := [some (.ref 60), some (.int x), some (.int x3), some (.int x4), some (.int 1), some (.int x4)]) (st := []) (h := hS X x80) ?_
                  exact Sp.jmp (l0 := [some (.ref 60), some (.int x), some (.int x3), none, none, none]) ⟨rfl, rfl, rfl, trivial⟩ (fun _ _ h => h)
              · refine Sp.step rfl rfl rfl rfl ?_
                refine Sp.step rfl rfl rfl rfl ?_
                refine Sp.step rfl rfl rfl rfl ?_
                exact Sp.jmp (l0 := [some (.ref 60), some (.int x), some (.int x3), none, some (.int 0), none]) ⟨rfl, rfl, rfl, rfl, trivial⟩ (fun _ _ h => h)
            · refine Sp.step rfl rfl rfl rfl ?_
              refine Sp.step rfl rfl rfl rfl ?_
              refine Sp.if2 rfl rfl rfl rfl (fun e82 => ?_) (fun e82 => ?_)
              · refine Sp.step rfl rfl rfl rfl ?_
                refine Sp.step rfl rfl rfl rfl ?_
                refine Sp.step rfl rfl rfl rfl ?_
                refine Sp.callP rfl rfl rfl rfl s_isIn (fun e83 => ?_) (fun e83 => ?_)
                · refine Sp.id (pc := 253) (l := [some (.ref 60), some (.int x), some (.int x3), some (.int x4), some (.int 1), none]) (st := [.int 1]) (h := hS X (mw (mw M 60 89 (((20 * x) + (M.1 109 x.toNatClampNeg)) - 1)) 60 90 0)) ?_
                  refine Sp.step rfl rfl rfl rfl ?_
                  refine Sp.step rfl rfl rfl rfl ?_
                  refine Sp.step rfl rfl rfl rfl ?_
                  refine Sp.step rfl rfl rfl rfl ?_
                  refine Sp.call rfl rfl rfl (mrecv (by decide) (by decide +kernel)) s_M_giveBack (fun x85 => ⟨_, _, ⟨rfl, rfl⟩, ?_⟩)
                  refine Sp.id (pc := 262) (l := [some (.ref 60), some (.int x), some (.int x3), some (.int x4), some (.int 1), none]) (st := []) (h := hS X x85) ?_
                  refine Sp.step rfl rfl rfl rfl ?_
                  refine Sp.step rfl rfl rfl rfl ?_
                  refine Sp.step rfl rfl rfl rfl ?_
                  exact Sp.jmp (l0 := [some (.ref 60), some (.int x), some (.int x3), none, some (.int 0), none]) ⟨rfl, rfl, rfl, rfl, trivial⟩ (fun _ _ h => h)
                · refine Sp.id (pc := 253) (l := [some (.ref 60), some (.int x), some (.int x3), some (.int x4), some (.int 1), none]) (st := [.int 0]) (h := hS X (mw (mw M 60 89 (((20 * x) + (M.1 109 x.toNatClampNeg)) - 1)) 60 90 0)) ?_
                  refine Sp.step rfl rfl rfl rfl ?_
                  refine Sp.step rfl rfl rfl rfl ?_
                  refine Sp.step rfl rfl rfl rfl ?_
                  refine Sp.if2 rfl rfl rfl rfl (fun e87 => ?_) (fun e87 => ?_)
                  · refine Sp.step rfl rfl rfl rfl ?_
                    refine Sp.step rfl rfl rfl rfl ?_
                    refine Sp.if2 rfl rfl rfl rfl (fun e88 => ?_) (fun e88 => ?_)
                    · refine Sp.step rfl rfl rfl rfl ?_
                      refine Sp.step rfl rfl rfl rfl ?_
                      refine Sp.step rfl rfl rfl rfl ?_
                      refine Sp.call rfl rfl rfl (mrecv (by decide) (by decide +kernel)) s_M_monitor (fun x89 => ⟨_, _, ⟨rfl, rfl⟩, ?_⟩)
                      refine Sp.id (pc := 299) (l := [some (.ref 60), some (.int x), some (.int x3), some (.int x4), some (.int 1), none]) (st := []) (h := hS X x89) ?_
                      refine Sp.step rfl rfl rfl rfl ?_
                      exact Sp.jmp (l0 := [some (.ref 60), some (.int x), some (.int x3), none, some (.int 1), none]) ⟨rfl, rfl, rfl, rfl, trivial⟩ (fun _ _ h => h)
                    · refine Sp.step rfl rfl rfl rfl ?_
                      refine Sp.step rfl rfl rfl rfl ?_
                      refine Sp.if2 rfl rfl rfl rfl (fun e90 => ?_) (fun e90 => ?_)
                      · refine Sp.step rfl rfl rfl rfl ?_
                        refine Sp.step rfl rfl rfl rfl ?_
                        refine Sp.step rfl rfl rfl rfl ?_
                        refine Sp.callP rfl rfl rfl rfl s_isIn (fun e91 => ?_) (fun e91 => ?_)
                        · refine Sp.id (pc := 310) (l := [some (.ref 60), some (.int x), some (.int x3), some (.int x4), some (.int 1), none]) (st := [.int 1]) (h := hS X (mw (mw M 60 89 (((20 * x) + (M.1 109 x.toNatClampNeg)) - 1)) 60 90 0)) ?_
                          refine Sp.step rfl rfl rfl rfl ?_
                          refine Sp.step rfl rfl rfl rfl ?_
                          refine Sp.step rfl rfl rfl rfl ?_
                          refine Sp.step rfl rfl rfl rfl ?_
                          refine Sp.call rfl rfl rfl (mrecv (by decide) (by decide +kernel)) s_M_statics (fun x93 => ⟨_, _, ⟨rfl, rfl⟩, ?_⟩)
                          refine Sp.id (pc := 319) (l := [some (.ref 60), some (.int x), some (.int x3), some (.int x4), some (.int 1), none]) (st := []) (h := hS X x93) ?_
                          refine Sp.step rfl rfl rfl rfl ?_
                          exact Sp.jmp (l0 := [some (.ref 60), some (.int x), some (.int x3), none, some (.int 1), none]) ⟨rfl, rfl, rfl, rfl, trivial⟩ (fun _ _ h => h)
                        · refine Sp.id (pc := 310) (l := [some (.ref 60), some (.int x), some (.int x3), some (.int x4), some (.int 1), none]) (st := [.int 0]) (h := hS X (mw (mw M 60 89 (((20 * x) + (M.1 109 x.toNatClampNeg)) - 1)) 60 90 0)) ?_
                          refine Sp.step rfl rfl rfl rfl ?_
                          refine Sp.step rfl rfl rfl rfl ?_
                          refine Sp.step rfl rfl rfl rfl ?_
                          refine Sp.step rfl rfl rfl rfl ?_
                          refine Sp.call rfl rfl rfl (mrecv (by decide) (by decide +kernel)) s_M_others (fun x95 => ⟨_, _, ⟨rfl, rfl⟩, ?_⟩)
                          refine Sp.id (pc := 328) (l := [some (.ref 60), some (.int x), some (.int x3), some (.int x4), some (.int 1), none]) (st := []) (h := hS X x95) ?_
                          exact Sp.jmp (l0 := [some (.ref 60), some (.int x), some (.int x3), none, some (.int 1), none]) ⟨rfl, rfl, rfl, rfl, trivial⟩ (fun _ _ h => h)
                      · refine Sp.step rfl rfl rfl rfl ?_
                        refine Sp.step rfl rfl rfl rfl ?_
                        refine Sp.step rfl rfl rfl rfl ?_
                        refine Sp.call rfl rfl rfl (mrecv (by decide) (by decide +kernel)) s_M_monitor (fun x96 => ⟨_, _, ⟨rfl, rfl⟩, ?_⟩)
                        refine Sp.id (pc := 299) (l := [some (.ref 60), some (.int x), some (.int x3), some (.int x4), some (.int 1), none]) (st := []) (h := hS X x96) ?_
                        refine Sp.step rfl rfl rfl rfl ?_
                        exact Sp.jmp (l0 := [some (.ref 60), some (.int x), some (.int x3), none, some (.int 1), none]) ⟨rfl, rfl, rfl, rfl, trivial⟩ (fun _ _ h => h)
                  · refine Sp.step rfl rfl rfl rfl ?_
                    refine Sp.call rfl rfl rfl (mrecv (by decide) (by decide +kernel)) s_M_beginOther (fun x97 => ⟨_, _, ⟨rfl, rfl⟩, ?_⟩)
                    refine Sp.id (pc := 278) (l := [some (.ref 60), some (.int x), some (.int x3), some (.int x4), some (.int 1), none]) (st := []) (h := hS X x97) ?_
                    refine Sp.step rfl rfl rfl rfl ?_
                    exact Sp.jmp (l0 := [some (.ref 60), some (.int x), some (.int x3), none, some (.int 1), none]) ⟨rfl, rfl, rfl, rfl, trivial⟩ (fun _ _ h => h)
              · refine Sp.step rfl rfl rfl rfl ?_
                refine Sp.step rfl rfl rfl rfl ?_
                refine Sp.prune (c := ¬ x3 = 38) ?_
                refine Sp.if2 rfl rfl rfl rfl (fun e98 => ?_) (fun e98 => absurd e77 e98)
                refine Sp.step rfl rfl rfl rfl ?_
                refine Sp.step rfl rfl rfl rfl ?_
                refine Sp.step rfl rfl rfl rfl ?_
                refine Sp.step rfl rfl rfl rfl ?_
                refine Sp.call rfl rfl rfl (mrecv (by decide) (by decide +kernel)) s_M_argumentsOf (fun x99 => ⟨_, _, ⟨rfl, rfl⟩, ?_⟩)
                refine Sp.id (pc := 216) (l := [some (.ref 60), some (.int x), some (.int x3), some (.int x4), some (.int 1), none]) (st := [.int x99, .ref 60, .ref 60]) (h := hS X (mw (mw M 60 89 (((20 * x) + (M.1 109 x.toNatClampNeg)) - 1)) 60 90 0)) ?_
                refine Sp.call rfl rfl rfl (mrecv (by decide) (by decide +kernel)) s_M_peek (fun x100 => ⟨_, _, ⟨rfl, rfl⟩, ?_⟩)
                refine Sp.id (pc := 219) (l := [some (.ref 60), some (.int x), some (.int x3), some (.int x4), some (.int 1), none]) (st := [.int x100, .ref 60]) (h := hS X (mw (mw M 60 89 (((20 * x) + (M.1 109 x.toNatClampNeg)) - 1)) 60 90 0)) ?_
                refine Sp.step rfl rfl rfl rfl ?_
                refine Sp.call rfl rfl rfl (mrecv (by decide) (by decide +kernel)) s_M_methodOf (fun x101 => ⟨_, _, ⟨rfl, rfl⟩, ?_⟩)
                refine Sp.id (pc := 223) (l := [some (.ref 60), some (.int x), some (.int x3), some (.int x4), some (.int 1), none]) (st := [.int x101.1]) (h := hS X x101.2) ?_
                refine Sp.step rfl rfl rfl rfl ?_
                refine Sp.step rfl rfl rfl rfl ?_
                refine Sp.step rfl rfl rfl (mg_I (f := 90) rfl rfl rfl) ?_
                refine Sp.piece (pe := 239) (mf := (fun (x104 : MS) => [some (.ref 60), some (.int x), some (.int x3), none, none, none])) (sf := (fun (x104 : MS) => [])) (hf := (fun (x104 : MS) => hS X x104)) ?_ (fun x104 => ?_)
                · refine Sp.if1 rfl rfl rfl rfl (fun e102 => ?_) (fun e102 => ?_)
                  · exact Sp.jmp (l0 := [some (.ref 60), some (.int x), some (.int x3), none, none, none]) ⟨rfl, rfl, rfl, trivial⟩ (fun _ _ h => h)
                  · refine Sp.step rfl rfl rfl rfl ?_
                    refine Sp.step rfl rfl rfl rfl ?_
                    refine Sp.step rfl rfl rfl rfl ?_
                    refine Sp.call rfl rfl rfl (mrecv (by decide) (by decide +kernel)) s_M_call (fun x103 => ⟨_, _, ⟨rfl, rfl⟩, ?_⟩)
                    refine Sp.id (pc := 239) (l := [some (.ref 60), some (.int x), some (.int x3), some (.int x4), some (.int 1), some (.int x101.1)]) (st := []) (h := hS X x103) ?_
                    exact Sp.jmp (l0 := [some (.ref 60), some (.int x), some (.int x3), none, none, none]) ⟨rfl, rfl, rfl, trivial⟩ (fun _ _ h => h)
                · refine Sp.step rfl rfl rfl rfl ?_
                  refine Sp.step rfl rfl rfl rfl ?_
                  refine Sp.step rfl rfl rfl rfl ?_
                  exact Sp.jmp (l0 := [some (.ref 60), some (.int x), some (.int x3), none, some (.int 0), none]) ⟨rfl, rfl, rfl, rfl, trivial⟩ (fun _ _ h => h)
          · refine Sp.step rfl rfl rfl rfl ?_
            refine Sp.step rfl rfl rfl (mg_I (f := 90) rfl rfl rfl) ?_
            refine Sp.piece (pe := 361) (mf := (fun (x111 : MS) => [some (.ref 60), none, some (.int x3), none, none, none])) (sf := (fun (x111 : MS) => [])) (hf := (fun (x111 : MS) => hS X x111)) ?_ (fun x111 => ?_)
            · refine Sp.if1 rfl rfl rfl rfl (fun e106 => ?_) (fun e106 => ?_)
              · refine Sp.step rfl rfl rfl rfl ?_
                refine Sp.if1 rfl rfl rfl rfl (fun e107 => ?_) (fun e107 => ?_)
                · exact Sp.jmp (l0 := [some (.ref 60), none, some (.int x3), none, none, none]) ⟨rfl, rfl, trivial⟩ (fun _ _ h => h)
                · refine Sp.step rfl rfl rfl rfl ?_
                  refine Sp.step rfl rfl rfl (mg_F (f := 69) rfl rfl rfl rfl) ?_
                  refine Sp.step rfl rfl rfl rfl ?_
                  refine Sp.step rfl rfl rfl (mg_I (f := 89) rfl rfl rfl) ?_
                  refine Sp.step rfl rfl rfl rfl ?_
                  refine Sp.guard (fun e108 => ?_)
                  refine Sp.step rfl rfl rfl (mld rfl rfl (by decide) e108) ?_
                  refine Sp.step rfl rfl rfl rfl ?_
                  refine Sp.step rfl rfl rfl rfl ?_
                  refine Sp.step rfl rfl rfl (mst rfl rfl (by decide) e108) ?_
                  exact Sp.jmp (l0 := [some (.ref 60), none, some (.int x3), none, none, none]) ⟨rfl, rfl, trivial⟩ (fun _ _ h => h)
              · refine Sp.step rfl rfl rfl rfl ?_
                refine Sp.step rfl rfl rfl rfl ?_
                refine Sp.call rfl rfl rfl (mrecv (by decide) (by decide +kernel)) s_M_unwind (fun x110 => ⟨_, _, ⟨rfl, rfl⟩, ?_⟩)
                refine Sp.id (pc := 340) (l := [some (.ref 60), some (.int x), some (.int x3), none, some (.int x105.1), none]) (st := []) (h := hS X x110) ?_
                refine Sp.step rfl rfl rfl rfl ?_
                exact Sp.jmp (l0 := [some (.ref 60), none, some (.int x3), none, none, none]) ⟨rfl, rfl, trivial⟩ (fun _ _ h => h)
            · refine Sp.step rfl rfl rfl rfl ?_
              refine Sp.step rfl rfl rfl rfl ?_
              refine Sp.step rfl rfl rfl (mg_L (f := 60) rfl rfl rfl) ?_
              refine Sp.step rfl rfl rfl rfl ?_
              refine Sp.step rfl rfl rfl rfl ?_
              refine Sp.step rfl rfl rfl (mp_L rfl rfl) ?_
              refine Sp.step rfl rfl rfl rfl ?_
              refine Sp.step rfl rfl rfl rfl ?_
              refine Sp.step rfl rfl rfl rfl ?_
              refine Sp.if2 rfl rfl rfl rfl (fun e113 => ?_) (fun e113 => ?_)
              · refine Sp.step rfl rfl rfl rfl ?_
                refine Sp.step rfl rfl rfl (mg_I (f := 63) rfl rfl rfl) ?_
                refine Sp.step rfl rfl rfl rfl ?_
                refine Sp.step rfl rfl rfl rfl ?_
                refine Sp.step rfl rfl rfl (mp_I (f := 63) rfl rfl rfl rfl) ?_
                exact Sp.vret rfl rfl rfl (fun _ _ h => h)
              · refine Sp.step rfl rfl rfl rfl ?_
                refine Sp.step rfl rfl rfl rfl ?_
                refine Sp.step rfl rfl rfl (mp_I (f := 63) rfl rfl rfl rfl) ?_
                exact Sp.vret rfl rfl rfl (fun _ _ h => h)
