/-! methods as functions, by program -/
def b48_M_make (M : MS) (x3 : Int32) : Option (Int32 ⊕ Int32) := (if ixo x3 1002 then (if M.1 121 x3.toNatClampNeg < 0 then some (.inr x3) else some (.inl (x3 + 1))) else none)
def b118_M_make (x13 : Int32) (x18 : (Int32 × MS)) : Option ((Int32 × MS) ⊕ (Int32 × MS)) := (if x13 ≤ x18.1 then some (.inr (x18.1, x18.2)) else (if ixo ((x18.2.1 60 86) + x18.1) 8200 then (lt (mw x18.2 127 ((x18.2.1 60 86) + x18.1).toNatClampNeg 0) fun M21 => some (.inl (x18.1 + 1, M21))) else none))
def b48_M_make' (x28 : MS) (x30 : Int32) : Option (Int32 ⊕ Int32) := (if ixo x30 1002 then (if x28.1 121 x30.toNatClampNeg < 0 then some (.inr x30) else some (.inl (x30 + 1))) else none)
def b118_M_make' (x40 : Int32) (x45 : (Int32 × MS)) : Option ((Int32 × MS) ⊕ (Int32 × MS)) := (if x40 ≤ x45.1 then some (.inr (x45.1, x45.2)) else (if ixo ((x45.2.1 60 86) + x45.1) 8200 then (lt (mw x45.2 127 ((x45.2.1 60 86) + x45.1).toNatClampNeg 0) fun M48 => some (.inl (x45.1 + 1, M48))) else none))
def f_M_make (x : Int32) (y : Int32) (M : MS) : Option (Int32 × MS) := ((f_M_sizeOf x y M).bind fun x1 => (if (M.1 60 87) + x1 ≤ M.1 60 59 then ((lp (b48_M_make M) 10000 (1 : Int32)).bind fun x6 => (if ixo x6 1002 then (lt (mw M 121 x6.toNatClampNeg x) fun M8 => (lt (mw M8 122 x6.toNatClampNeg y) fun M9 => (lt (mw M9 123 x6.toNatClampNeg (M9.1 60 86)) fun M10 => (lt (mw M10 124 x6.toNatClampNeg 0) fun M11 => (lt (mw M11 125 x6.toNatClampNeg 0) fun M12 => ((f_M_cellsOf x y M12).bind fun x13 => ((lp (b118_M_make x13) 10000 ((0 : Int32), M12)).bind fun x22 => (lt (mw x22.2 60 86 ((x22.2.1 60 86) + x13)) fun M23 => (lt (mw M23 60 87 ((M23.1 60 87) + x1)) fun M24 => (if ixo (M24.1 60 95) 1002 then (lt (mw M24 129 (M24.1 60 95).toNatClampNeg x6) fun M26 => (lt (mw M26 60 95 ((M26.1 60 95) + 1)) fun M27 => some (x6, M27))) else none)))))))))) else none)) else ((f_M_collect M).bind fun x28 => (if (x28.1 60 87) + x1 ≤ x28.1 60 59 then ((lp (b48_M_make' x28) 10000 (1 : Int32)).bind fun x33 => (if ixo x33 1002 then (lt (mw x28 121 x33.toNatClampNeg x) fun M35 => (lt (mw M35 122 x33.toNatClampNeg y) fun M36 => (lt (mw M36 123 x33.toNatClampNeg (M36.1 60 86)) fun M37 => (lt (mw M37 124 x33.toNatClampNeg 0) fun M38 => (lt (mw M38 125 x33.toNatClampNeg 0) fun M39 => ((f_M_cellsOf x y M39).bind fun x40 => ((lp (b118_M_make' x40) 10000 ((0 : Int32), M39)).bind fun x49 => (lt (mw x49.2 60 86 ((x49.2.1 60 86) + x40)) fun M50 => (lt (mw M50 60 87 ((M50.1 60 87) + x1)) fun M51 => (if ixo (M51.1 60 95) 1002 then (lt (mw M51 129 (M51.1 60 95).toNatClampNeg x33) fun M53 => (lt (mw M53 60 95 ((M53.1 60 95) + 1)) fun M54 => some (x33, M54))) else none)))))))))) else none)) else (lt (mw x28 60 90 9) fun M55 => some (0, M55))))))
set_option maxRecDepth 100000 in
set_option maxHeartbeats 4000000 in
theorem s_M_make {L : Nat} {xs : Nat → Int32} {X : XS} {M : MS} {x : Int32} {y : Int32} : Sp (mjOO L xs) 73 0 [some (.ref 60), some (.int x), some (.int y), none, none, none, none] [] (hS X M) (f_M_make x y M) (KEM X) := by
  unfold f_M_make
  refine Sp.step rfl rfl rfl rfl ?_
  refine Sp.step rfl rfl rfl rfl ?_
  refine Sp.step rfl rfl rfl rfl ?_
  refine Sp.call rfl rfl rfl (mrecv (by decide) (by decide +kernel)) s_M_sizeOf (fun x1 => ⟨_, _, ⟨rfl, rfl⟩, ?_⟩)
  refine Sp.id (pc := 6) (l := [some (.ref 60), some (.int x), some (.int y), none, none, none, none]) (st := [.int x1]) (h := hS X M) ?_
  refine Sp.step rfl rfl rfl rfl ?_
  refine Sp.step rfl rfl rfl rfl ?_
  refine Sp.step rfl rfl rfl (mg_I (f := 87) rfl rfl rfl) ?_
  refine Sp.step rfl rfl rfl rfl ?_
  refine Sp.step rfl rfl rfl rfl ?_
  refine Sp.step rfl rfl rfl rfl ?_
  refine Sp.step rfl rfl rfl (mg_I (f := 59) rfl rfl rfl) ?_
  refine Sp.if2 rfl rfl rfl rfl (fun e2 => ?_) (fun e2 => ?_)
  · refine Sp.step rfl rfl rfl rfl ?_
    refine Sp.step rfl rfl rfl rfl ?_
    refine Sp.weak (l0 := [some (.ref 60), some (.int x), some (.int y), some (.int x1), some (.int 1), none, none]) ⟨rfl, rfl, rfl, rfl, rfl, trivial⟩ ?_
    refine Sp.loopX (pe := 64) (mf := (fun (x3 : Int32) => [some (.ref 60), some (.int x), some (.int y), some (.int x1), some (.int x3), none, none])) (hf := (fun (x3 : Int32) => hS X M)) (fun x3 => ?_) (fun x6 => ?_) _ _
    · unfold b48_M_make
      refine Sp.step rfl rfl rfl rfl ?_
      refine Sp.step rfl rfl rfl (mg_F (f := 79) rfl rfl rfl rfl) ?_
      refine Sp.step rfl rfl rfl rfl ?_
      refine Sp.guard (fun e4 => ?_)
      refine Sp.step rfl rfl rfl (mld rfl rfl (by decide) e4) ?_
      refine Sp.if1 rfl rfl rfl rfl (fun e5 => ?_) (fun e5 => ?_)
      · exact Sp.jmp (l0 := [some (.ref 60), some (.int x), some (.int y), some (.int x1), some (.int x3), none, none]) ⟨rfl, rfl, rfl, rfl, rfl, trivial⟩ (fun _ _ h => h)
      · refine Sp.step rfl rfl rfl rfl ?_
        refine Sp.step rfl rfl rfl rfl ?_
        exact Sp.jmp (l0 := [some (.ref 60), some (.int x), some (.int y), some (.int x1), some (.int (x3 + 1)), none, none]) ⟨rfl, rfl, rfl, rfl, rfl, trivial⟩ (fun _ _ h => h)
    · refine Sp.step rfl rfl rfl rfl ?_
      refine Sp.step rfl rfl rfl (mg_F (f := 79) rfl rfl rfl rfl) ?_
      refine Sp.step rfl rfl rfl rfl ?_
      refine Sp.step rfl rfl rfl rfl ?_
      refine Sp.guard (fun e7 => ?_)
      refine Sp.step rfl rfl rfl (mst rfl rfl (by decide) e7) ?_
      refine Sp.step rfl rfl rfl rfl ?_
      refine Sp.step rfl rfl rfl (mg_F (f := 80) rfl rfl rfl rfl) ?_
      refine Sp.step rfl rfl rfl rfl ?_
      refine Sp.step rfl rfl rfl rfl ?_
      refine Sp.step rfl rfl rfl (mst rfl rfl (by decide) e7) ?_
      refine Sp.step rfl rfl rfl rfl ?_
      refine Sp.step rfl rfl rfl (mg_F (f := 81) rfl rfl rfl rfl) ?_
      refine Sp.step rfl rfl rfl rfl ?_
      refine Sp.step rfl rfl rfl rfl ?_
      refine Sp.step rfl rfl rfl (mg_I (f := 86) rfl rfl rfl) ?_
      refine Sp.step rfl rfl rfl (mst rfl rfl (by decide) e7) ?_
      refine Sp.step rfl rfl rfl rfl ?_
      refine Sp.step rfl rfl rfl (mg_F (f := 82) rfl rfl rfl rfl) ?_
      refine Sp.step rfl rfl rfl rfl ?_
      refine Sp.step rfl rfl rfl rfl ?_
      refine Sp.step rfl rfl rfl (mst rfl rfl (by decide) e7) ?_
      refine Sp.step rfl rfl rfl rfl ?_
      refine Sp.step rfl rfl rfl (mg_F (f := 83) rfl rfl rfl rfl) ?_
      refine Sp.step rfl rfl rfl rfl ?_
      refine Sp.step rfl rfl rfl rfl ?_
      refine Sp.step rfl rfl rfl (mst rfl rfl (by decide) e7) ?_
      refine Sp.step rfl rfl rfl rfl ?_
      refine Sp.step rfl rfl rfl rfl ?_
      refine Sp.step rfl rfl rfl rfl ?_
      refine Sp.call rfl rfl rfl (mrecv (by decide) (by decide +kernel)) s_M_cellsOf (fun x13 => ⟨_, _, ⟨rfl, rfl⟩, ?_⟩)
      refine Sp.id (pc := 113) (l := [some (.ref 60), some (.int x), some (.int y), some (.int x1), some (.int x6), none, none]) (st := [.int x13]) (h := hS X (mw (mw (mw (mw (mw M 121 x6.toNatClampNeg x) 122 x6.toNatClampNeg y) 123 x6.toNatClampNeg ((mw (mw M 121 x6.toNatClampNeg x) 122 x6.toNatClampNeg y).1 60 86)) 124 x6.toNatClampNeg 0) 125 x6.toNatClampNeg 0)) ?_
      refine Sp.step rfl rfl rfl rfl ?_
      refine Sp.step rfl rfl rfl rfl ?_
      refine Sp.step rfl rfl rfl rfl ?_
      refine Sp.weak (l0 := [some (.ref 60), none, none, some (.int x1), some (.int x6), some (.int x13), some (.int 0)]) ⟨rfl, rfl, rfl, rfl, rfl, trivial⟩ ?_
      refine Sp.loopX (pe := 144) (mf := (fun (x18 : (Int32 × MS)) => [some (.ref 60), none, none, some (.int x1), some (.int x6), some (.int x13), some (.int x18.1)])) (hf := (fun (x18 : (Int32 × MS)) => hS X x18.2)) (fun x18 => ?_) (fun x22 => ?_) _ _
      · unfold b118_M_make
        refine Sp.step rfl rfl rfl rfl ?_
        refine Sp.step rfl rfl rfl rfl ?_
        refine Sp.if2 rfl rfl rfl rfl (fun e19 => ?_) (fun e19 => ?_)
        · exact Sp.jmp (l0 := [some (.ref 60), none, none, some (.int x1), some (.int x6), some (.int x13), some (.int x18.1)]) ⟨rfl, rfl, rfl, rfl, rfl, trivial⟩ (fun _ _ h => h)
        · refine Sp.step rfl rfl rfl rfl ?_
          refine Sp.step rfl rfl rfl (mg_F (f := 85) rfl rfl rfl rfl) ?_
          refine Sp.step rfl rfl rfl rfl ?_
          refine Sp.step rfl rfl rfl (mg_I (f := 86) rfl rfl rfl) ?_
          refine Sp.step rfl rfl rfl rfl ?_
          refine Sp.step rfl rfl rfl rfl ?_
          refine Sp.step rfl rfl rfl rfl ?_
          refine Sp.guard (fun e20 => ?_)
          refine Sp.step rfl rfl rfl (mst rfl rfl (by decide) e20) ?_
          refine Sp.step rfl rfl rfl rfl ?_
          refine Sp.step rfl rfl rfl rfl ?_
          exact Sp.jmp (l0 := [some (.ref 60), none, none, some (.int x1), some (.int x6), some (.int x13), some (.int (x18.1 + 1))]) ⟨rfl, rfl, rfl, rfl, rfl, trivial⟩ (fun _ _ h => h)
      · refine Sp.step rfl rfl rfl rfl ?_
        refine Sp.step rfl rfl rfl rfl ?_
        refine Sp.step rfl rfl rfl (mg_I (f := 86) rfl rfl rfl) ?_
        refine Sp.step rfl rfl rfl rfl ?_
        refine Sp.step rfl rfl rfl rfl ?_
        refine Sp.step rfl rfl rfl (mp_I (f := 86) rfl rfl rfl rfl) ?_
        refine Sp.step rfl rfl rfl rfl ?_
        refine Sp.step rfl rfl rfl rfl ?_
        refine Sp.step rfl rfl rfl (mg_I (f := 87) rfl rfl rfl) ?_
        refine Sp.step rfl rfl rfl rfl ?_
        refine Sp.step rfl rfl rfl rfl ?_
        refine Sp.step rfl rfl rfl (mp_I (f := 87) rfl rfl rfl rfl) ?_
        refine Sp.step rfl rfl rfl rfl ?_
        refine Sp.step rfl rfl rfl (mg_F (f := 94) rfl rfl rfl rfl) ?_
        refine Sp.step rfl rfl rfl rfl ?_
        refine Sp.step rfl rfl rfl (mg_I (f := 95) rfl rfl rfl) ?_
        refine Sp.step rfl rfl rfl rfl ?_
        refine Sp.guard (fun e25 => ?_)
        refine Sp.step rfl rfl rfl (mst rfl rfl (by decide) e25) ?_
        refine Sp.step rfl rfl rfl rfl ?_
        refine Sp.step rfl rfl rfl rfl ?_
        refine Sp.step rfl rfl rfl (mg_I (f := 95) rfl rfl rfl) ?_
        refine Sp.step rfl rfl rfl rfl ?_
        refine Sp.step rfl rfl rfl rfl ?_
        refine Sp.step rfl rfl rfl (mp_I (f := 95) rfl rfl rfl rfl) ?_
        refine Sp.step rfl rfl rfl rfl ?_
        exact Sp.iret rfl rfl rfl rfl (fun _ _ h => h)
  · refine Sp.step rfl rfl rfl rfl ?_
    refine Sp.call rfl rfl rfl (mrecv (by decide) (by decide +kernel)) s_M_collect (fun x28 => ⟨_, _, ⟨rfl, rfl⟩, ?_⟩)
    refine Sp.id (pc := 24) (l := [some (.ref 60), some (.int x), some (.int y), some (.int x1), none, none, none]) (st := []) (h := hS X x28) ?_
    refine Sp.step rfl rfl rfl rfl ?_
    refine Sp.step rfl rfl rfl (mg_I (f := 87) rfl rfl rfl) ?_
    refine Sp.step rfl rfl rfl rfl ?_
    refine Sp.step rfl rfl rfl rfl ?_
    refine Sp.step rfl rfl rfl rfl ?_
    refine Sp.step rfl rfl rfl (mg_I (f := 59) rfl rfl rfl) ?_
    refine Sp.if2 rfl rfl rfl rfl (fun e29 => ?_) (fun e29 => ?_)
    · refine Sp.step rfl rfl rfl rfl ?_
      refine Sp.step rfl rfl rfl rfl ?_
      refine Sp.weak (l0 := [some (.ref 60), some (.int x), some (.int y), some (.int x1), some (.int 1), none, none]) ⟨rfl, rfl, rfl, rfl, rfl, trivial⟩ ?_
      refine Sp.loopX (pe := 64) (mf := (fun (x30 : Int32) => [some (.ref 60), some (.int x), some (.int y), some (.int x1), some (.int x30), none, none])) (hf := (fun (x30 : Int32) => hS X x28)) (fun x30 => ?_) (fun x33 => ?_) _ _
      · unfold b48_M_make'
        refine Sp.step rfl rfl rfl rfl ?_
        refine Sp.step rfl rfl rfl (mg_F (f := 79) rfl rfl rfl rfl) ?_
        refine Sp.step rfl rfl rfl rfl ?_
        refine Sp.guard (fun e31 => ?_)
        refine Sp.step rfl rfl rfl (mld rfl rfl (by decide) e31) ?_
        refine Sp.if1 rfl rfl rfl rfl (fun e32 => ?_) (fun e32 => ?_)
        · exact Sp.jmp (l0 := [some (.ref 60), some (.int x), some (.int y), some (.int x1), some (.int x30), none, none]) ⟨rfl, rfl, rfl, rfl, rfl, trivial⟩ (fun _ _ h => h)
        · refine Sp.step rfl rfl rfl rfl ?_
          refine Sp.step rfl rfl rfl rfl ?_
          exact Sp.jmp (l0 := [some (.ref 60), some (.int x), some (.int y), some (.int x1), some (.int (x30 + 1)), none, none]) ⟨rfl, rfl, rfl, rfl, rfl, trivial⟩ (fun _ _ h => h)
      · refine Sp.step rfl rfl rfl rfl ?_
        refine Sp.step rfl rfl rfl (mg_F (f := 79) rfl rfl rfl rfl) ?_
        refine Sp.step rfl rfl rfl rfl ?_
        refine Sp.step rfl rfl rfl rfl ?_
        refine Sp.guard (fun e34 => ?_)
        refine Sp.step rfl rfl rfl (mst rfl rfl (by decide) e34) ?_
        refine Sp.step rfl rfl rfl rfl ?_
        refine Sp.step rfl rfl rfl (mg_F (f := 80) rfl rfl rfl rfl) ?_
        refine Sp.step rfl rfl rfl rfl ?_
        refine Sp.step rfl rfl rfl rfl ?_
        refine Sp.step rfl rfl rfl (mst rfl rfl (by decide) e34) ?_
        refine Sp.step rfl rfl rfl rfl ?_
        refine Sp.step rfl rfl rfl (mg_F (f := 81) rfl rfl rfl rfl) ?_
        refine Sp.step rfl rfl rfl rfl ?_
        refine Sp.step rfl rfl rfl rfl ?_
        refine Sp.step rfl rfl rfl (mg_I (f := 86) rfl rfl rfl) ?_
        refine Sp.step rfl rfl rfl (mst rfl rfl (by decide) e34) ?_
        refine Sp.step rfl rfl rfl rfl ?_
        refine Sp.step rfl rfl rfl (mg_F (f := 82) rfl rfl rfl rfl) ?_
        refine Sp.step rfl rfl rfl rfl ?_
        refine Sp.step rfl rfl rfl rfl ?_
        refine Sp.step rfl rfl rfl (mst rfl rfl (by decide) e34) ?_
        refine Sp.step rfl rfl rfl rfl ?_
        refine Sp.step rfl rfl rfl (mg_F (f := 83) rfl rfl rfl rfl) ?_
        refine Sp.step rfl rfl rfl rfl ?_
        refine Sp.step rfl rfl rfl rfl ?_
        refine Sp.step rfl rfl rfl (mst rfl rfl (by decide) e34) ?_
        refine Sp.step rfl rfl rfl rfl ?_
        refine Sp.step rfl rfl rfl rfl ?_
        refine Sp.step rfl rfl rfl rfl ?_
        refine Sp.call rfl rfl rfl (mrecv (by decide) (by decide +kernel)) s_M_cellsOf (fun x40 => ⟨_, _, ⟨rfl, rfl⟩, ?_⟩)
        refine Sp.id (pc := 113) (l := [some (.ref 60), some (.int x), some (.int y), some (.int x1), some (.int x33), none, none]) (st := [.int x40]) (h := hS X (mw (mw (mw (mw (mw x28 121 x33.toNatClampNeg x) 122 x33.toNatClampNeg y) 123 x33.toNatClampNeg ((mw (mw x28 121 x33.toNatClampNeg x) 122 x33.toNatClampNeg y).1 60 86)) 124 x33.toNatClampNeg 0) 125 x33.toNatClampNeg 0)) ?_
        refine Sp.step rfl rfl rfl rfl ?_
        refine Sp.step rfl rfl rfl rfl ?_
        refine Sp.step rfl rfl rfl rfl ?_
        refine Sp.weak (l0 := [some (.ref 60), none, none, some (.int x1), some (.int x33), some (.int x40), some (.int 0)]) ⟨rfl, rfl, rfl, rfl, rfl, trivial⟩ ?_
        refine Sp.loopX (pe := 144) (mf := (fun (x45 : (Int32 × MS)) => [some (.ref 60), none, none, some (.int x1), some (.int x33), some (.int x40), some (.int x45.1)])) (hf := (fun (x45 : (Int32 × MS)) => hS X x45.2)) (fun x45 => ?_) (fun x49 => ?_) _ _
        · unfold b118_M_make'
          refine Sp.step rfl rfl rfl rfl ?_
          refine Sp.step rfl rfl rfl rfl ?_
          refine Sp.if2 rfl rfl rfl rfl (fun e46 => ?_) (fun e46 => ?_)
          · exact Sp.jmp (l0 := [some (.ref 60), none, none, some (.int x1), some (.int x33), some (.int x40), some (.int x45.1)]) ⟨rfl, rfl, rfl, rfl, rfl, trivial⟩ (fun _ _ h => h)
          · refine Sp.step rfl rfl rfl rfl ?_
            refine Sp.step rfl rfl rfl (mg_F (f := 85) rfl rfl rfl rfl) ?_
            refine Sp.step rfl rfl rfl rfl ?_
            refine Sp.step rfl rfl rfl (mg_I (f := 86) rfl rfl rfl) ?_
            refine Sp.step rfl rfl rfl rfl ?_
            refine Sp.step rfl rfl rfl rfl ?_
            refine Sp.step rfl rfl rfl rfl ?_
            refine Sp.guard (fun e47 => ?_)
            refine Sp.step rfl rfl rfl (mst rfl rfl (by decide) e47) ?_
            refine Sp.step rfl rfl rfl rfl ?_
            refine Sp.step rfl rfl rfl rfl ?_
            exact Sp.jmp (l0 := [some (.ref 60), none, none, some (.int x1), some (.int x33), some (.int x40), some (.int (x45.1 + 1))]) ⟨rfl, rfl, rfl, rfl, rfl, trivial⟩ (fun _ _ h => h)
        · refine Sp.step rfl rfl rfl rfl ?_
          refine Sp.step rfl rfl rfl rfl ?_
          refine Sp.step rfl rfl rfl (mg_I (f := 86) rfl rfl rfl) ?_
          refine Sp.step rfl rfl rfl rfl ?_
          refine Sp.step rfl rfl rfl rfl ?_
          refine Sp.step rfl rfl rfl (mp_I (f := 86) rfl rfl rfl rfl) ?_
          refine Sp.step rfl rfl rfl rfl ?_
          refine Sp.step rfl rfl rfl rfl ?_
          refine Sp.step rfl rfl rfl (mg_I (f := 87) rfl rfl rfl) ?_
          refine Sp.step rfl rfl rfl rfl ?_
          refine Sp.step rfl rfl rfl rfl ?_
          refine Sp.step rfl rfl rfl (mp_I (f := 87) rfl rfl rfl rfl) ?_
          refine Sp.step rfl rfl rfl rfl ?_
          refine Sp.step rfl rfl rfl (mg_F (f := 94) rfl rfl rfl rfl) ?_
          refine Sp.step rfl rfl rfl rfl ?_
          refine Sp.step rfl rfl rfl (mg_I (f := 95) rfl rfl rfl) ?_
          refine Sp.step rfl rfl rfl rfl ?_
          refine Sp.guard (fun e52 => ?_)
          refine Sp.step rfl rfl rfl (mst rfl rfl (by decide) e52) ?_
          refine Sp.step rfl rfl rfl rfl ?_
          refine Sp.step rfl rfl rfl rfl ?_
          refine Sp.step rfl rfl rfl (mg_I (f := 95) rfl rfl rfl) ?_
          refine Sp.step rfl rfl rfl rfl ?_
          refine Sp.step rfl rfl rfl rfl ?_
          refine Sp.step rfl rfl rfl (mp_I (f := 95) rfl rfl rfl rfl) ?_
          refine Sp.step rfl rfl rfl rfl ?_
          exact Sp.iret rfl rfl rfl rfl (fun _ _ h => h)
    · refine Sp.step rfl rfl rfl rfl ?_
      refine Sp.step rfl rfl rfl rfl ?_
      refine Sp.step rfl rfl rfl (mp_I (f := 90) rfl rfl rfl rfl) ?_
      refine Sp.step rfl rfl rfl rfl ?_
      exact Sp.iret rfl rfl rfl rfl (fun _ _ h => h)
def f_M_isArray (x : Int32) (y : Int32) (z : Int32) (M : MS) : Option (Bool × MS) := (if ¬ x = 0 then (if ixo x 1002 then (if M.1 121 x.toNatClampNeg = y then (if 0 ≤ z ∧ z ≤ (M.1 122 x.toNatClampNeg) - 1 then (lt (mw M 60 90 0) fun M6 => (if ¬ M6.1 60 90 = 0 then some (false, M6) else some (true, M6))) else (lt (mw M 60 90 5) fun M9 => (if ¬ M9.1 60 90 = 0 then some (false, M9) else some (true, M9)))) else (lt (mw M 60 90 3) fun M11 => (if ¬ M11.1 60 90 = 0 then some (false, M11) else some (true, M11)))) else none) else (lt (mw M 60 90 1) fun M13 => (if ¬ M13.1 60 90 = 0 then some (false, M13) else some (true, M13))))
set_option maxRecDepth 100000 in
set_option maxHeartbeats 4000000 in
theorem s_M_isArray {L : Nat} {xs : Nat → Int32} {X : XS} {M : MS} {x : Int32} {y : Int32} {z : Int32} : Sp (mjOO L xs) 79 0 [some (.ref 60), some (.int x), some (.int y), some (.int z)] [] (hS X M) (f_M_isArray x y z M) (KBM X) := by
  unfold f_M_isArray
  refine Sp.step rfl rfl rfl rfl ?_
  refine Sp.step rfl rfl rfl rfl ?_
  refine Sp.if1 rfl rfl rfl rfl (fun e1 => ?_) (fun e1 => ?_)
  · refine Sp.step rfl rfl rfl rfl ?_
    refine Sp.step rfl rfl rfl (mg_F (f := 79) rfl rfl rfl rfl) ?_
    refine Sp.step rfl rfl rfl rfl ?_
    refine Sp.guard (fun e2 => ?_)
    refine Sp.step rfl rfl rfl (mld rfl rfl (by decide) e2) ?_
    refine Sp.step rfl rfl rfl rfl ?_
    refine Sp.if2 rfl rfl rfl rfl (fun e3 => ?_) (fun e3 => ?_)
    · refine Sp.step rfl rfl rfl rfl ?_
      refine Sp.step rfl rfl rfl rfl ?_
      refine Sp.step rfl rfl rfl rfl ?_
      refine Sp.step rfl rfl rfl (mg_F (f := 80) rfl rfl rfl rfl) ?_
      refine Sp.step rfl rfl rfl rfl ?_
      refine Sp.step rfl rfl rfl (mld rfl rfl (by decide) e2) ?_
      refine Sp.step rfl rfl rfl rfl ?_
      refine Sp.step rfl rfl rfl rfl ?_
      refine Sp.callP rfl rfl rfl rfl s_isIn (fun e4 => ?_) (fun e4 => ?_)
      · refine Sp.id (pc := 36) (l := [some (.ref 60), some (.int x), some (.int y), some (.int z)]) (st := [.int 1, .ref 60]) (h := hS X M) ?_
        refine Sp.step rfl rfl rfl rfl ?_
        refine Sp.step rfl rfl rfl rfl ?_
        refine Sp.step rfl rfl rfl (mp_I (f := 90) rfl rfl rfl rfl) ?_
        refine Sp.step rfl rfl rfl rfl ?_
        refine Sp.step rfl rfl rfl (mg_I (f := 90) rfl rfl rfl) ?_
        refine Sp.if1 rfl rfl rfl rfl (fun e7 => ?_) (fun e7 => ?_)
        · refine Sp.step rfl rfl rfl rfl ?_
          exact Sp.iret rfl rfl rfl rfl (fun _ _ h => h)
        · refine Sp.step rfl rfl rfl rfl ?_
          refine Sp.step rfl rfl rfl rfl ?_
          exact Sp.iret rfl rfl rfl rfl (fun _ _ h => h)
      · refine Sp.id (pc := 36) (l := [some (.ref 60), some (.int x), some (.int y), some (.int z)]) (st := [.int 0, .ref 60]) (h := hS X M) ?_
        refine Sp.step rfl rfl rfl rfl ?_
        refine Sp.step rfl rfl rfl rfl ?_
        refine Sp.step rfl rfl rfl rfl ?_
        refine Sp.step rfl rfl rfl (mp_I (f := 90) rfl rfl rfl rfl) ?_
        refine Sp.step rfl rfl rfl rfl ?_
        refine Sp.step rfl rfl rfl (mg_I (f := 90) rfl rfl rfl) ?_
        refine Sp.if1 rfl rfl rfl rfl (fun e10 => ?_) (fun e10 => ?_)
        · refine Sp.step rfl rfl rfl rfl ?_
          exact Sp.iret rfl rfl rfl rfl (fun _ _ h => h)
        · refine Sp.step rfl rfl rfl rfl ?_
          refine Sp.step rfl rfl rfl rfl ?_
          exact Sp.iret rfl rfl rfl rfl (fun _ _ h => h)
    · refine Sp.step rfl rfl rfl rfl ?_
      refine Sp.step rfl rfl rfl rfl ?_
      refine Sp.step rfl rfl rfl (mp_I (f := 90) rfl rfl rfl rfl) ?_
      refine Sp.step rfl rfl rfl rfl ?_
      refine Sp.step rfl rfl rfl (mg_I (f := 90) rfl rfl rfl) ?_
      refine Sp.if1 rfl rfl rfl rfl (fun e12 => ?_) (fun e12 => ?_)
      · refine Sp.step rfl rfl rfl rfl ?_
        exact Sp.iret rfl rfl rfl rfl (fun _ _ h => h)
      · refine Sp.step rfl rfl rfl rfl ?_
        refine Sp.step rfl rfl rfl rfl ?_
        exact Sp.iret rfl rfl rfl rfl (fun _ _ h => h)
  · refine Sp.step rfl rfl rfl rfl ?_
    refine Sp.step rfl rfl rfl rfl ?_
    refine Sp.step rfl rfl rfl (mp_I (f := 90) rfl rfl rfl rfl) ?_
    refine Sp.step rfl rfl rfl rfl ?_
    refine Sp.step rfl rfl rfl (mg_I (f := 90) rfl rfl rfl) ?_
    refine Sp.if1 rfl rfl rfl rfl (fun e14 => ?_) (fun e14 => ?_)
    · refine Sp.step rfl rfl rfl rfl ?_
      exact Sp.iret rfl rfl rfl rfl (fun _ _ h => h)
    · refine Sp.step rfl rfl rfl rfl ?_
      refine Sp.step rfl rfl rfl rfl ?_
      exact Sp.iret rfl rfl rfl rfl (fun _ _ h => h)
def f_M_arrays (x : Int32) (M : MS) : Option MS := (if x = 31 then ((f_M_takeValue M).bind fun x2 => (((if x2.1 < 0 then some 4 else (if x2.1 ≤ 200 then some 0 else some 4)) : Option (Int32)).bind fun x5 => (lt (mw x2.2 60 90 x5) fun M6 => (if ¬ M6.1 60 90 = 0 then (if ¬ M6.1 60 90 = 0 then some M6 else ((f_M_putRef 0 M6).bind fun x9 => some x9)) else (if ¬ x = 31 then ((f_M_make 11 x2.1 M6).bind fun x11 => (if ¬ x11.2.1 60 90 = 0 then some x11.2 else ((f_M_putRef x11.1 x11.2).bind fun x13 => some x13))) else ((f_M_make 10 x2.1 M6).bind fun x14 => (if ¬ x14.2.1 60 90 = 0 then some x14.2 else ((f_M_putRef x14.1 x14.2).bind fun x16 => some x16)))))))) else (if ¬ x = 35 then (if ¬ x = 34 then (if x = 33 then ((f_M_takeValue M).bind fun x21 => ((f_M_takeValue x21.2).bind fun x22 => ((f_M_takeValue x22.2).bind fun x23 => (((if 34 ≤ x then some 11 else some 10) : Option (Int32)).bind fun x25 => ((f_M_isArray x23.1 x25 x22.1 x23.2).bind fun x26 => (if x26.1 = true then (if ixo x23.1 1002 then (if ixo ((x26.2.1 123 x23.1.toNatClampNeg) + x22.1) 8200 then (lt (mw x26.2 127 ((x26.2.1 123 x23.1.toNatClampNeg) + x22.1).toNatClampNeg x21.1) fun M32 => some M32) else none) else none) else some x26.2)))))) else (if ¬ x = 37 then ((f_M_takeValue M).bind fun x36 => ((f_M_takeValue x36.2).bind fun x37 => (((if 34 ≤ x then some 11 else some 10) : Option (Int32)).bind fun x39 => ((f_M_isArray x37.1 x39 x36.1 x37.2).bind fun x40 => (if x40.1 = true then (if ¬ x = 32 then (if ixo x37.1 1002 then (if ixo ((x40.2.1 123 x37.1.toNatClampNeg) + x36.1) 8200 then ((f_M_putRef (x40.2.1 127 ((x40.2.1 123 x37.1.toNatClampNeg) + x36.1).toNatClampNeg) x40.2).bind fun x47 => some x47) else none) else none) else (if ixo x37.1 1002 then (if ixo ((x40.2.1 123 x37.1.toNatClampNeg) + x36.1) 8200 then ((f_M_putInt (x40.2.1 127 ((x40.2.1 123 x37.1.toNatClampNeg) + x36.1).toNatClampNeg) x40.2).bind fun x50 => some x50) else none) else none)) else some x40.2))))) else ((f_M_takeValue M).bind fun x53 => ((f_M_takeValue x53.2).bind fun x54 => ((f_M_takeValue x54.2).bind fun x55 => (((if 34 ≤ x then some 11 else some 10) : Option (Int32)).bind fun x57 => ((f_M_isArray x55.1 x57 x54.1 x55.2).bind fun x58 => (if x58.1 = true then (if ixo x55.1 1002 then (if ixo ((x58.2.1 123 x55.1.toNatClampNeg) + x54.1) 8200 then (lt (mw x58.2 127 ((x58.2.1 123 x55.1.toNatClampNeg) + x54.1).toNatClampNeg x53.1) fun M64 => some M64) else none) else none) else some x58.2)))))))) else ((f_M_takeValue M).bind fun x66 => (if ¬ x66.1 = 0 then (if ixo x66.1 1002 then (if 10 ≤ x66.2.1 121 x66.1.toNatClampNeg then (lt (mw x66.2 60 90 0) fun M70 => (if ¬ M70.1 60 90 = 0 then some M70 else ((f_M_putInt (M70.1 122 x66.1.toNatClampNeg) M70).bind fun x72 => some x72))) else (lt (mw x66.2 60 90 3) fun M73 => (if ¬ M73.1 60 90 = 0 then some M73 else ((f_M_putInt (M73.1 122 x66.1.toNatClampNeg) M73).bind fun x75 => some x75)))) else none) else (lt (mw x66.2 60 90 1) fun M76 => (if ¬ M76.1 60 90 = 0 then some M76 else (if ixo x66.1 1002 then ((f_M_putInt (M76.1 122 x66.1.toNatClampNeg) M76).bind fun x79 => some x79) else none)))))) else ((f_M_takeValue M).bind fun x80 => (((if x80.1 < 0 then some 4 else (if x80.1 ≤ 200 then some 0 else some 4)) : Option (Int32)).bind fun x83 => (lt (mw x80.2 60 90 x83) fun M84 => (if ¬ M84.1 60 90 = 0 then (if ¬ M84.1 60 90 = 0 then some M84 else ((f_M_putRef 0 M84).bind fun x87 => some x87)) else (if ¬ x = 31 then ((f_M_make 11 x80.1 M84).bind fun x89 => (if ¬ x89.2.1 60 90 = 0 then some x89.2 else ((f_M_putRef x89.1 x89.2).bind fun x91 => some x91))) else ((f_M_make 10 x80.1 M84).bind fun x92 => (if ¬ x92.2.1 60 90 = 0 then some x92.2 else ((f_M_putRef x92.1 x92.2).bind fun x94 => some x94))))))))))
set_option maxRecDepth 100000 in
set_option maxHeartbeats 4000000 in
theorem s_M_arrays {L : Nat} {xs : Nat → Int32} {X : XS} {M : MS} {x : Int32} : Sp (mjOO L xs) 84 0 [some (.ref 60), some (.int x), none, none, none, none] [] (hS X M) (f_M_arrays x M) (KVM X) := by
  unfold f_M_arrays
  refine Sp.step rfl rfl rfl rfl ?_
  refine Sp.step rfl rfl rfl rfl ?_
  refine Sp.if2 rfl rfl rfl rfl (fun e1 => ?_) (fun e1 => ?_)
  · refine Sp.step rfl rfl rfl rfl ?_
    refine Sp.call rfl rfl rfl (mrecv (by decide) (by decide +kernel)) s_M_takeValue (fun x2 => ⟨_, _, ⟨rfl, rfl⟩, ?_⟩)
    refine Sp.id (pc := 16) (l := [some (.ref 60), some (.int x), none, none, none, none]) (st := [.int x2.1]) (h := hS X x2.2) ?_
    refine Sp.step rfl rfl rfl rfl ?_
    refine Sp.step rfl rfl rfl rfl ?_
    refine Sp.step rfl rfl rfl rfl ?_
    refine Sp.piece (pe := 34) (mf := (fun (x5 : Int32) => [some (.ref 60), some (.int x), some (.int x2.1), none, none, none])) (sf := (fun (x5 : Int32) => [.int x5, .ref 60])) (hf := (fun (x5 : Int32) => hS X x2.2)) ?_ (fun x5 => ?_)
    · refine Sp.if1 rfl rfl rfl rfl (fun e3 => ?_) (fun e3 => ?_)
      · refine Sp.step rfl rfl rfl rfl ?_
        refine Sp.step rfl rfl rfl rfl ?_
        exact Sp.jmp (l0 := [some (.ref 60), some (.int x), some (.int x2.1), none, none, none]) ⟨rfl, rfl, rfl, trivial⟩ (fun _ _ h => h)
      · refine Sp.step rfl rfl rfl rfl ?_
        refine Sp.step rfl rfl rfl rfl ?_
        refine Sp.if2 rfl rfl rfl rfl (fun e4 => ?_) (fun e4 => ?_)
        · refine Sp.step rfl rfl rfl rfl ?_
          exact Sp.jmp (l0 := [some (.ref 60), some (.int x), some (.int x2.1), none, none, none]) ⟨rfl, rfl, rfl, trivial⟩ (fun _ _ h => h)
        · refine Sp.step rfl rfl rfl rfl ?_
          refine Sp.step rfl rfl rfl rfl ?_
          exact Sp.jmp (l0 := [some (.ref 60), some (.int x), some (.int x2.1), none, none, none]) ⟨rfl, rfl, rfl, trivial⟩ (fun _ _ h => h)
    · refine Sp.step rfl rfl rfl (mp_I (f := 90) rfl rfl rfl rfl) ?_
      refine Sp.step rfl rfl rfl rfl ?_
      refine Sp.step rfl rfl rfl (mg_I (f := 90) rfl rfl rfl) ?_
      refine Sp.if1 rfl rfl rfl rfl (fun e7 => ?_) (fun e7 => ?_)
      · refine Sp.step rfl rfl rfl rfl ?_
        refine Sp.step rfl rfl rfl rfl ?_
        refine Sp.step rfl rfl rfl rfl ?_
        refine Sp.step rfl rfl rfl (mg_I (f := 90) rfl rfl rfl) ?_
        refine Sp.if1 rfl rfl rfl rfl (fun e8 => ?_) (fun e8 => ?_)
        · refine Sp.step rfl rfl rfl rfl ?_
          exact Sp.vret rfl rfl rfl (fun _ _ h => h)
        · refine Sp.step rfl rfl rfl rfl ?_
          refine Sp.step rfl rfl rfl rfl ?_
          refine Sp.call rfl rfl rfl (mrecv (by decide) (by decide +kernel)) s_M_putRef (fun x9 => ⟨_, _, ⟨rfl, rfl⟩, ?_⟩)
          refine Sp.id (pc := 79) (l := [some (.ref 60), some (.int x), some (.int x2.1), some (.int 0), none, none]) (st := []) (h := hS X x9) ?_
          refine Sp.step rfl rfl rfl rfl ?_
          exact Sp.vret rfl rfl rfl (fun _ _ h => h)
      · refine Sp.step rfl rfl rfl rfl ?_
        refine Sp.step rfl rfl rfl rfl ?_
        refine Sp.step rfl rfl rfl rfl ?_
        refine Sp.if2 rfl rfl rfl rfl (fun e10 => ?_) (fun e10 => ?_)
        · refine Sp.step rfl rfl rfl rfl ?_
          refine Sp.step rfl rfl rfl rfl ?_
          refine Sp.call rfl rfl rfl (mrecv (by decide) (by decide +kernel)) s_M_make (fun x11 => ⟨_, _, ⟨rfl, rfl⟩, ?_⟩)
          refine Sp.id (pc := 62) (l := [some (.ref 60), some (.int x), some (.int x2.1), none, none, none]) (st := [.int x11.1]) (h := hS X x11.2) ?_
          refine Sp.step rfl rfl rfl rfl ?_
          refine Sp.step rfl rfl rfl rfl ?_
          refine Sp.step rfl rfl rfl rfl ?_
          refine Sp.step rfl rfl rfl (mg_I (f := 90) rfl rfl rfl) ?_
          refine Sp.if1 rfl rfl rfl rfl (fun e12 => ?_) (fun e12 => ?_)
          · refine Sp.step rfl rfl rfl rfl ?_
            exact Sp.vret rfl rfl rfl (fun _ _ h => h)
          · refine Sp.step rfl rfl rfl rfl ?_
            refine Sp.step rfl rfl rfl rfl ?_
            refine Sp.call rfl rfl rfl (mrecv (by decide) (by decide +kernel)) s_M_putRef (fun x13 => ⟨_, _, ⟨rfl, rfl⟩, ?_⟩)
            refine Sp.id (pc := 79) (l := [some (.ref 60), some (.int x), some (.int x2.1), some (.int x11.1), none, none]) (st := []) (h := hS X x13) ?_
            refine Sp.step rfl rfl rfl rfl ?_
            exact Sp.vret rfl rfl rfl (fun _ _ h => h)
        · refine Sp.step rfl rfl rfl rfl ?_
          refine Sp.step rfl rfl rfl rfl ?_
          refine Sp.step rfl rfl rfl rfl ?_
          refine Sp.call rfl rfl rfl (mrecv (by decide) (by decide +kernel)) s_M_make (fun x14 => ⟨_, _, ⟨rfl, rfl⟩, ?_⟩)
          refine Sp.id (pc := 62) (l := [some (.ref 60), some (.int x), some (.int x2.1), none, none, none]) (st := [.int x14.1]) (h := hS X x14.2) ?_
          refine Sp.step rfl rfl rfl rfl ?_
          refine Sp.step rfl rfl rfl rfl ?_
          refine Sp.step rfl rfl rfl rfl ?_
          refine Sp.step rfl rfl rfl (mg_I (f := 90) rfl rfl rfl) ?_
          refine Sp.if1 rfl rfl rfl rfl (fun e15 => ?_) (fun e15 => ?_)
          · refine Sp.step rfl rfl rfl rfl ?_
            exact Sp.vret rfl rfl rfl (fun _ _ h => h)
          · refine Sp.step rfl rfl rfl rfl ?_
            refine Sp.step rfl rfl rfl rfl ?_
            refine Sp.call rfl rfl rfl (mrecv (by decide) (by decide +kernel)) s_M_putRef (fun x16 => ⟨_, _, ⟨rfl, rfl⟩, ?_⟩)
            refine Sp.id (pc := 79) (l := [some (.ref 60), some (.int x), some (.int x2.1), some (.int x14.1), none, none]) (st := []) (h := hS X x16) ?_
            refine Sp.step rfl rfl rfl rfl ?_
            exact Sp.vret rfl rfl rfl (fun _ _ h => h)
  · refine Sp.step rfl rfl rfl rfl ?_
    refine Sp.step rfl rfl rfl rfl ?_
    refine Sp.if2 rfl rfl rfl rfl (fun e17 => ?_) (fun e17 => ?_)
    · refine Sp.step rfl rfl rfl rfl ?_
      refine Sp.step rfl rfl rfl rfl ?_
      refine Sp.if2 rfl rfl rfl rfl (fun e18 => ?_) (fun e18 => ?_)
      · refine Sp.step rfl rfl rfl rfl ?_
        refine Sp.step rfl rfl rfl rfl ?_
        refine Sp.if2 rfl rfl rfl rfl (fun e19 => ?_) (fun e19 => ?_)
        · refine Sp.step rfl rfl rfl rfl ?_
          refine Sp.step rfl rfl rfl rfl ?_
          refine Sp.step rfl rfl rfl rfl ?_
          refine Sp.step rfl rfl rfl rfl ?_
          refine Sp.step rfl rfl rfl rfl ?_
          refine Sp.step rfl rfl rfl rfl ?_
          refine Sp.call rfl rfl rfl (mrecv (by decide) (by decide +kernel)) s_M_takeValue (fun x21 => ⟨_, _, ⟨rfl, rfl⟩, ?_⟩)
          refine Sp.id (pc := 167) (l := [some (.ref 60), some (.int x), some (.int 1), none, none, none]) (st := [.int x21.1]) (h := hS X x21.2) ?_
          refine Sp.step rfl rfl rfl rfl ?_
          refine Sp.step rfl rfl rfl rfl ?_
          refine Sp.step rfl rfl rfl rfl ?_
          refine Sp.call rfl rfl rfl (mrecv (by decide) (by decide +kernel)) s_M_takeValue (fun x22 => ⟨_, _, ⟨rfl, rfl⟩, ?_⟩)
          refine Sp.id (pc := 176) (l := [some (.ref 60), some (.int x), some (.int 1), some (.int x21.1), none, none]) (st := [.int x22.1]) (h := hS X x22.2) ?_
          refine Sp.step rfl rfl rfl rfl ?_
          refine Sp.step rfl rfl rfl rfl ?_
          refine Sp.call rfl rfl rfl (mrecv (by decide) (by decide +kernel)) s_M_takeValue (fun x23 => ⟨_, _, ⟨rfl, rfl⟩, ?_⟩)
          refine Sp.id (pc := 182) (l := [some (.ref 60), some (.int x), some (.int 1), some (.int x21.1), some (.int x22.1), none]) (st := [.int x23.1]) (h := hS X x23.2) ?_
          refine Sp.step rfl rfl rfl rfl ?_
          refine Sp.step rfl rfl rfl rfl ?_
          refine Sp.step rfl rfl rfl rfl ?_
          refine Sp.step rfl rfl rfl rfl ?_
          refine Sp.step rfl rfl rfl rfl ?_
          refine Sp.piece (pe := 200) (mf := (fun (x25 : Int32) => [some (.ref 60), some (.int x), some (.int 1), some (.int x21.1), some (.int x22.1), some (.int x23.1)])) (sf := (fun (x25 : Int32) => [.int x25, .int x23.1, .ref 60])) (hf := (fun (x25 : Int32) => hS X x23.2)) ?_ (fun x25 => ?_)
          · refine Sp.if2 rfl rfl rfl rfl (fun e24 => ?_) (fun e24 => ?_)
            · refine Sp.step rfl rfl rfl rfl ?_
              exact Sp.jmp (l0 := [some (.ref 60), some (.int x), some (.int 1), some (.int x21.1), some (.int x22.1), some (.int x23.1)]) ⟨rfl, rfl, rfl, rfl, rfl, rfl, trivial⟩ (fun _ _ h => h)
            · refine Sp.step rfl rfl rfl rfl ?_
              refine Sp.step rfl rfl rfl rfl ?_
              exact Sp.jmp (l0 := [some (.ref 60), some (.int x), some (.int 1), some (.int x21.1), some (.int x22.1), some (.int x23.1)]) ⟨rfl, rfl, rfl, rfl, rfl, rfl, trivial⟩ (fun _ _ h => h)
          · refine Sp.step rfl rfl rfl rfl ?_
            refine Sp.call rfl rfl rfl (mrecv (by decide) (by decide +kernel)) s_M_isArray (fun x26 => ⟨_, _, ⟨rfl, rfl⟩, ?_⟩)
            refine Sp.bool (fun e27 => ?_) (fun e27 => ?_)
            · refine Sp.id (pc := 205) (l := [some (.ref 60), some (.int x), some (.int 1), some (.int x21.1), some (.int x22.1), some (.int x23.1)]) (st := [.int 1]) (h := hS X x26.2) ?_
              refine Sp.step rfl rfl rfl rfl ?_
              refine Sp.step rfl rfl rfl rfl ?_
              refine Sp.step rfl rfl rfl rfl ?_
              refine Sp.step rfl rfl rfl rfl ?_
              refine Sp.step rfl rfl rfl (mg_F (f := 85) rfl rfl rfl rfl) ?_
              refine Sp.step rfl rfl rfl rfl ?_
              refine Sp.step rfl rfl rfl (mg_F (f := 81) rfl rfl rfl rfl) ?_
              refine Sp.step rfl rfl rfl rfl ?_
              refine Sp.guard (fun e30 => ?_)
              refine Sp.step rfl rfl rfl (mld rfl rfl (by decide) e30) ?_
              refine Sp.step rfl rfl rfl rfl ?_
              refine Sp.step rfl rfl rfl rfl ?_
              refine Sp.step rfl rfl rfl rfl ?_
              refine Sp.guard (fun e31 => ?_)
              refine Sp.step rfl rfl rfl (mst rfl rfl (by decide) e31) ?_
              refine Sp.step rfl rfl rfl rfl ?_
              exact Sp.vret rfl rfl rfl (fun _ _ h => h)
            · refine Sp.id (pc := 205) (l := [some (.ref 60), some (.int x), some (.int 1), some (.int x21.1), some (.int x22.1), some (.int x23.1)]) (st := [.int 0]) (h := hS X x26.2) ?_
              refine Sp.step rfl rfl rfl rfl ?_
              exact Sp.vret rfl rfl rfl (fun _ _ h => h)
        · refine Sp.step rfl rfl rfl rfl ?_
          refine Sp.step rfl rfl rfl rfl ?_
          refine Sp.if2 rfl rfl rfl rfl (fun e34 => ?_) (fun e34 => ?_)
          · refine Sp.step rfl rfl rfl rfl ?_
            refine Sp.step rfl rfl rfl rfl ?_
            refine Sp.step rfl rfl rfl rfl ?_
            refine Sp.step rfl rfl rfl rfl ?_
            refine Sp.step rfl rfl rfl rfl ?_
            refine Sp.step rfl rfl rfl rfl ?_
            refine Sp.step rfl rfl rfl rfl ?_
            refine Sp.call rfl rfl rfl (mrecv (by decide) (by decide +kernel)) s_M_takeValue (fun x36 => ⟨_, _, ⟨rfl, rfl⟩, ?_⟩)
            refine Sp.id (pc := 176) (l := [some (.ref 60), some (.int x), some (.int 0), some (.int 0), none, none]) (st := [.int x36.1]) (h := hS X x36.2) ?_
            refine Sp.step rfl rfl rfl rfl ?_
            refine Sp.step rfl rfl rfl rfl ?_
            refine Sp.call rfl rfl rfl (mrecv (by decide) (by decide +kernel)) s_M_takeValue (fun x37 => ⟨_, _, ⟨rfl, rfl⟩, ?_⟩)
            refine Sp.id (pc := 182) (l := [some (.ref 60), some (.int x), some (.int 0), some (.int 0), some (.int x36.1), none]) (st := [.int x37.1]) (h := hS X x37.2) ?_
            refine Sp.step rfl rfl rfl rfl ?_
            refine Sp.step rfl rfl rfl rfl ?_
            refine Sp.step rfl rfl rfl rfl ?_
            refine Sp.step rfl rfl rfl rfl ?_
            refine Sp.step rfl rfl rfl rfl ?_
            refine Sp.piece (pe := 200) (mf := (fun (x39 : Int32) => [some (.ref 60), some (.int x), some (.int 0), some (.int 0), some (.int x36.1), some (.int x37.1)])) (sf := (fun (x39 : Int32) => [.int x39, .int x37.1, .ref 60])) (hf := (fun (x39 : Int32) => hS X x37.2)) ?_ (fun x39 => ?_)
            · refine Sp.if2 rfl rfl rfl rfl (fun e38 => ?_) (fun e38 => ?_)
              · refine Sp.step rfl rfl rfl rfl ?_
                exact Sp.jmp (l0 := [some (.ref 60), some (.int x), some (.int 0), some (.int 0), some (.int x36.1), some (.int x37.1)]) ⟨rfl, rfl, rfl, rfl, rfl, rfl, trivial⟩ (fun _ _ h => h)
              · refine Sp.step rfl rfl rfl rfl ?_
                refine Sp.step rfl rfl rfl rfl ?_
                exact Sp.jmp (l0 := [some (.ref 60), some (.int x), some (.int 0), some (.int 0), some (.int x36.1), some (.int x37.1)]) ⟨rfl, rfl, rfl, rfl, rfl, rfl, trivial⟩ (fun _ _ h => h)
            · refine Sp.step rfl rfl rfl rfl ?_
              refine Sp.call rfl rfl rfl (mrecv (by decide) (by decide +kernel)) s_M_isArray (fun x40 => ⟨_, _, ⟨rfl, rfl⟩, ?_⟩)
              refine Sp.bool (fun e41 => ?_) (fun e41 => ?_)
              · refine Sp.id (pc := 205) (l := [some (.ref 60), some (.int x), some (.int 0), some (.int 0), some (.int x36.1), some (.int x37.1)]) (st := [.int 1]) (h := hS X x40.2) ?_
                refine Sp.step rfl rfl rfl rfl ?_
                refine Sp.step rfl rfl rfl rfl ?_
                refine Sp.step rfl rfl rfl rfl ?_
                refine Sp.step rfl rfl rfl rfl ?_
                refine Sp.step rfl rfl rfl rfl ?_
                refine Sp.if2 rfl rfl rfl rfl (fun e44 => ?_) (fun e44 => ?_)
                · refine Sp.step rfl rfl rfl rfl ?_
                  refine Sp.step rfl rfl rfl rfl ?_
                  refine Sp.step rfl rfl rfl (mg_F (f := 85) rfl rfl rfl rfl) ?_
                  refine Sp.step rfl rfl rfl rfl ?_
                  refine Sp.step rfl rfl rfl (mg_F (f := 81) rfl rfl rfl rfl) ?_
                  refine Sp.step rfl rfl rfl rfl ?_
                  refine Sp.guard (fun e45 => ?_)
                  refine Sp.step rfl rfl rfl (mld rfl rfl (by decide) e45) ?_
                  refine Sp.step rfl rfl rfl rfl ?_
                  refine Sp.step rfl rfl rfl rfl ?_
                  refine Sp.guard (fun e46 => ?_)
                  refine Sp.step rfl rfl rfl (mld rfl rfl (by decide) e46) ?_
                  refine Sp.call rfl rfl rfl (mrecv (by decide) (by decide +kernel)) s_M_putRef (fun x47 => ⟨_, _, ⟨rfl, rfl⟩, ?_⟩)
                  refine Sp.id (pc := 279) (l := [some (.ref 60), some (.int x), some (.int 0), some (.int 0), some (.int x36.1), some (.int x37.1)]) (st := []) (h := hS X x47) ?_
                  exact Sp.vret rfl rfl rfl (fun _ _ h => h)
                · refine Sp.step rfl rfl rfl rfl ?_
                  refine Sp.step rfl rfl rfl rfl ?_
                  refine Sp.step rfl rfl rfl (mg_F (f := 85) rfl rfl rfl rfl) ?_
                  refine Sp.step rfl rfl rfl rfl ?_
                  refine Sp.step rfl rfl rfl (mg_F (f := 81) rfl rfl rfl rfl) ?_
                  refine Sp.step rfl rfl rfl rfl ?_
                  refine Sp.guard (fun e48 => ?_)
                  refine Sp.step rfl rfl rfl (mld rfl rfl (by decide) e48) ?_
                  refine Sp.step rfl rfl rfl rfl ?_
                  refine Sp.step rfl rfl rfl rfl ?_
                  refine Sp.guard (fun e49 => ?_)
                  refine Sp.step rfl rfl rfl (mld rfl rfl (by decide) e49) ?_
                  refine Sp.call rfl rfl rfl (mrecv (by decide) (by decide +kernel)) s_M_putInt (fun x50 => ⟨_, _, ⟨rfl, rfl⟩, ?_⟩)
                  refine Sp.id (pc := 257) (l := [some (.ref 60), some (.int x), some (.int 0), some (.int 0), some (.int x36.1), some (.int x37.1)]) (st := []) (h := hS X x50) ?_
                  refine Sp.step rfl rfl rfl rfl ?_
                  exact Sp.vret rfl rfl rfl (fun _ _ h => h)
              · refine Sp.id (pc := 205) (l := [some (.ref 60), some (.int x), some (.int 0), some (.int 0), some (.int x36.1), some (.int x37.1)]) (st := [.int 0]) (h := hS X x40.2) ?_
                refine Sp.step rfl rfl rfl rfl ?_
                exact Sp.vret rfl rfl rfl (fun _ _ h => h)
          · refine Sp.step rfl rfl rfl rfl ?_
            refine Sp.step rfl rfl rfl rfl ?_
            refine Sp.step rfl rfl rfl rfl ?_
            refine Sp.step rfl rfl rfl rfl ?_
            refine Sp.step rfl rfl rfl rfl ?_
            refine Sp.step rfl rfl rfl rfl ?_
            refine Sp.call rfl rfl rfl (mrecv (by decide) (by decide +kernel)) s_M_takeValue (fun x53 => ⟨_, _, ⟨rfl, rfl⟩, ?_⟩)
            refine Sp.id (pc := 167) (l := [some (.ref 60), some (.int x), some (.int 1), none, none, none]) (st := [.int x53.1]) (h := hS X x53.2) ?_
            refine Sp.step rfl rfl rfl rfl ?_
            refine Sp.step rfl rfl rfl rfl ?_
            refine Sp.step rfl rfl rfl rfl ?_
            refine Sp.call rfl rfl rfl (mrecv (by decide) (by decide +kernel)) s_M_takeValue (fun x54 => ⟨_, _, ⟨rfl, rfl⟩, ?_⟩)
            refine Sp.id (pc := 176) (l := [some (.ref 60), some (.int x), some (.int 1), some (.int x53.1), none, none]) (st := [.int x54.1]) (h := hS X x54.2) ?_
            refine Sp.step rfl rfl rfl rfl ?_
            refine Sp.step rfl rfl rfl rfl ?_
            refine Sp.call rfl rfl rfl (mrecv (by decide) (by decide +kernel)) s_M_takeValue (fun x55 => ⟨_, _, ⟨rfl, rfl⟩, ?_⟩)
            refine Sp.id (pc := 182) (l := [some (.ref 60), some (.int x), some (.int 1), some (.int x53.1), some (.int x54.1), none]) (st := [.int x55.1]) (h := hS X x55.2) ?_
            refine Sp.step rfl rfl rfl rfl ?_
            refine Sp.step rfl rfl rfl rfl ?_
            refine Sp.step rfl rfl rfl rfl ?_
            refine Sp.step rfl rfl rfl rfl ?_
            refine Sp.step rfl rfl rfl rfl ?_
            refine Sp.piece (pe := 200) (mf := (fun (x57 : Int32) => [some (.ref 60), some (.int x), some (.int 1), some (.int x53.1), some (.int x54.1), some (.int x55.1)])) (sf := (fun (x57 : Int32) => [.int x57, .int x55.1, .ref 60])) (hf := (fun (x57 : Int32) => hS X x55.2)) ?_ (fun x57 => ?_)
            · refine Sp.if2 rfl rfl rfl rfl (fun e56 => ?_) (fun e56 => ?_)
              · refine Sp.step rfl rfl rfl rfl ?_
                exact Sp.jmp (l0 := [some (.ref 60), some (.int x), some (.int 1), some (.int x53.1), some (.int x54.1), some (.int x55.1)]) ⟨rfl, rfl, rfl, rfl, rfl, rfl, trivial⟩ (fun _ _ h => h)
              · refine Sp.step rfl rfl rfl rfl ?_
                refine Sp.step rfl rfl rfl rfl ?_
                exact Sp.jmp (l0 := [some (.ref 60), some (.int x), some (.int 1), some (.int x53.1), some (.int x54.1), some (.int x55.1)]) ⟨rfl, rfl, rfl, rfl, rfl, rfl, trivial⟩ (fun _ _ h => h)
            · refine Sp.step rfl rfl rfl rfl ?_
              refine Sp.call rfl rfl rfl (mrecv (by decide) (by decide +kernel)) s_M_isArray (fun x58 => ⟨_, _, ⟨rfl, rfl⟩, ?_⟩)
              refine Sp.bool (fun e59 => ?_) (fun e59 => ?_)
              · refine Sp.id (pc := 205) (l := [some (.ref 60), some (.int x), some (.int 1), some (.int x53.1), some (.int x54.1), some (.int x55.1)]) (st := [.int 1]) (h := hS X x58.2) ?_
                refine Sp.step rfl rfl rfl rfl ?_
                refine Sp.step rfl rfl rfl rfl ?_
                refine Sp.step rfl rfl rfl rfl ?_
                refine Sp.step rfl rfl rfl rfl ?_
                refine Sp.step rfl rfl rfl (mg_F (f := 85) rfl rfl rfl rfl) ?_
                refine Sp.step rfl rfl rfl rfl ?_
                refine Sp.step rfl rfl rfl (mg_F (f := 81) rfl rfl rfl rfl) ?_
                refine Sp.step rfl rfl rfl rfl ?_
                refine Sp.guard (fun e62 => ?_)
                refine Sp.step rfl rfl rfl (mld rfl rfl (by decide) e62) ?_
                refine Sp.step rfl rfl rfl rfl ?_
                refine Sp.step rfl rfl rfl rfl ?_
                refine Sp.step rfl rfl rfl rfl ?_
                refine Sp.guard (fun e63 => ?_)
                refine Sp.step rfl rfl rfl (mst rfl rfl (by decide) e63) ?_
                refine Sp.step rfl rfl rfl rfl ?_
                exact Sp.vret rfl rfl rfl (fun _ _ h => h)
              · refine Sp.id (pc := 205) (l := [some (.ref 60), some (.int x), some (.int 1), some (.int x53.1), some (.int x54.1), some (.int x55.1)]) (st := [.int 0]) (h := hS X x58.2) ?_
                refine Sp.step rfl rfl rfl rfl ?_
                exact Sp.vret rfl rfl rfl (fun _ _ h => h)
      · refine Sp.step rfl rfl rfl rfl ?_
        refine Sp.call rfl rfl rfl (mrecv (by decide) (by decide +kernel)) s_M_takeValue (fun x66 => ⟨_, _, ⟨rfl, rfl⟩, ?_⟩)
        refine Sp.id (pc := 92) (l := [some (.ref 60), some (.int x), none, none, none, none]) (st := [.int x66.1]) (h := hS X x66.2) ?_
        refine Sp.step rfl rfl rfl rfl ?_
        refine Sp.step rfl rfl rfl rfl ?_
        refine Sp.step rfl rfl rfl rfl ?_
        refine Sp.if1 rfl rfl rfl rfl (fun e67 => ?_) (fun e67 => ?_)
        · refine Sp.step rfl rfl rfl rfl ?_
          refine Sp.step rfl rfl rfl (mg_F (f := 79) rfl rfl rfl rfl) ?_
          refine Sp.step rfl rfl rfl rfl ?_
          refine Sp.guard (fun e68 => ?_)
          refine Sp.step rfl rfl rfl (mld rfl rfl (by decide) e68) ?_
          refine Sp.step rfl rfl rfl rfl ?_
          refine Sp.if2 rfl rfl rfl rfl (fun e69 => ?_) (fun e69 => ?_)
          · refine Sp.step rfl rfl rfl rfl ?_
            refine Sp.step rfl rfl rfl (mp_I (f := 90) rfl rfl rfl rfl) ?_
            refine Sp.step rfl rfl rfl rfl ?_
            refine Sp.step rfl rfl rfl (mg_I (f := 90) rfl rfl rfl) ?_
            refine Sp.if1 rfl rfl rfl rfl (fun e71 => ?_) (fun e71 => ?_)
            · refine Sp.step rfl rfl rfl rfl ?_
              exact Sp.vret rfl rfl rfl (fun _ _ h => h)
            · refine Sp.step rfl rfl rfl rfl ?_
              refine Sp.step rfl rfl rfl rfl ?_
              refine Sp.step rfl rfl rfl (mg_F (f := 80) rfl rfl rfl rfl) ?_
              refine Sp.step rfl rfl rfl rfl ?_
              refine Sp.step rfl rfl rfl (mld rfl rfl (by decide) e68) ?_
              refine Sp.call rfl rfl rfl (mrecv (by decide) (by decide +kernel)) s_M_putInt (fun x72 => ⟨_, _, ⟨rfl, rfl⟩, ?_⟩)
              refine Sp.id (pc := 138) (l := [some (.ref 60), some (.int x), some (.int x66.1), none, none, none]) (st := []) (h := hS X x72) ?_
              refine Sp.step rfl rfl rfl rfl ?_
              exact Sp.vret rfl rfl rfl (fun _ _ h => h)
          · refine Sp.step rfl rfl rfl rfl ?_
            refine Sp.step rfl rfl rfl rfl ?_
            refine Sp.step rfl rfl rfl (mp_I (f := 90) rfl rfl rfl rfl) ?_
            refine Sp.step rfl rfl rfl rfl ?_
            refine Sp.step rfl rfl rfl (mg_I (f := 90) rfl rfl rfl) ?_
            refine Sp.if1 rfl rfl rfl rfl (fun e74 => ?_) (fun e74 => ?_)
            · refine Sp.step rfl rfl rfl rfl ?_
              exact Sp.vret rfl rfl rfl (fun _ _ h => h)
            · refine Sp.step rfl rfl rfl rfl ?_
              refine Sp.step rfl rfl rfl rfl ?_
              refine Sp.step rfl rfl rfl (mg_F (f := 80) rfl rfl rfl rfl) ?_
              refine Sp.step rfl rfl rfl rfl ?_
              refine Sp.step rfl rfl rfl (mld rfl rfl (by decide) e68) ?_
              refine Sp.call rfl rfl rfl (mrecv (by decide) (by decide +kernel)) s_M_putInt (fun x75 => ⟨_, _, ⟨rfl, rfl⟩, ?_⟩)
              refine Sp.id (pc := 138) (l := [some (.ref 60), some (.int x), some (.int x66.1), none, none, none]) (st := []) (h := hS X x75) ?_
              refine Sp.step rfl rfl rfl rfl ?_
              exact Sp.vret rfl rfl rfl (fun _ _ h => h)
        · refine Sp.step rfl rfl rfl rfl ?_
          refine Sp.step rfl rfl rfl rfl ?_
          refine Sp.step rfl rfl rfl (mp_I (f := 90) rfl rfl rfl rfl) ?_
          refine Sp.step rfl rfl rfl rfl ?_
          refine Sp.step rfl rfl rfl (mg_I (f := 90) rfl rfl rfl) ?_
          refine Sp.if1 rfl rfl rfl rfl (fun e77 => ?_) (fun e77 => ?_)
          · refine Sp.step rfl rfl rfl rfl ?_
            exact Sp.vret rfl rfl rfl (fun _ _ h => h)
          · refine Sp.step rfl rfl rfl rfl ?_
            refine Sp.step rfl rfl rfl rfl ?_
            refine Sp.step rfl rfl rfl (mg_F (f := 80) rfl rfl rfl rfl) ?_
            refine Sp.step rfl rfl rfl rfl ?_
            refine Sp.guard (fun e78 => ?_)
            refine Sp.step rfl rfl rfl (mld rfl rfl (by decide) e78) ?_
            refine Sp.call rfl rfl rfl (mrecv (by decide) (by decide +kernel)) s_M_putInt (fun x79 => ⟨_, _, ⟨rfl, rfl⟩, ?_⟩)
            refine Sp.id (pc := 138) (l := [some (.ref 60), some (.int x), some (.int x66.1), none, none, none]) (st := []) (h := hS X x79) ?_
            refine Sp.step rfl rfl rfl rfl ?_
            exact Sp.vret rfl rfl rfl (fun _ _ h => h)
    · refine Sp.step rfl rfl rfl rfl ?_
      refine Sp.call rfl rfl rfl (mrecv (by decide) (by decide +kernel)) s_M_takeValue (fun x80 => ⟨_, _, ⟨rfl, rfl⟩, ?_⟩)
      refine Sp.id (pc := 16) (l := [some (.ref 60), some (.int x), none, none, none, none]) (st := [.int x80.1]) (h := hS X x80.2) ?_
      refine Sp.step rfl rfl rfl rfl ?_
      refine Sp.step rfl rfl rfl rfl ?_
      refine Sp.step rfl rfl rfl rfl ?_
      refine Sp.piece (pe := 34) (mf := (fun (x83 : Int32) => [some (.ref 60), some (.int x), some (.int x80.1), none, none, none])) (sf := (fun (x83 : Int32) => [.int x83, .ref 60])) (hf := (fun (x83 : Int32) => hS X x80.2)) ?_ (fun x83 => ?_)
      · refine Sp.if1 rfl rfl rfl rfl (fun e81 => ?_) (fun e81 => ?_)
        · refine Sp.step rfl rfl rfl rfl ?_
          refine Sp.step rfl rfl rfl rfl ?_
          exact Sp.jmp (l0 := [some (.ref 60), some (.int x), some (.int x80.1), none, none, none]) ⟨rfl, rfl, rfl, trivial⟩ (fun _ _ h => h)
        · refine Sp.step rfl rfl rfl rfl ?_
          refine Sp.step rfl rfl rfl rfl ?_
          refine Sp.if2 rfl rfl rfl rfl (fun e82 => ?_) (fun e82 => ?_)
          · refine Sp.step rfl rfl rfl rfl ?_
            exact Sp.jmp (l0 := [some (.ref 60), some (.int x), some (.int x80.1), none, none, none]) ⟨rfl, rfl, rfl, trivial⟩ (fun _ _ h => h)
          · refine Sp.step rfl rfl rfl rfl ?_
            refine Sp.step rfl rfl rfl rfl ?_
            exact Sp.jmp (l0 := [some (.ref 60), some (.int x), some (.int x80.1), none, none, none]) ⟨rfl, rfl, rfl, trivial⟩ (fun _ _ h => h)
      · refine Sp.step rfl rfl rfl (mp_I (f := 90) rfl rfl rfl rfl) ?_
        refine Sp.step rfl rfl rfl rfl ?_
        refine Sp.step rfl rfl rfl (mg_I (f := 90) rfl rfl rfl) ?_
        refine Sp.if1 rfl rfl rfl rfl (fun e85 => ?_) (fun e85 => ?_)
        · refine Sp.step rfl rfl rfl rfl ?_
          refine Sp.step rfl rfl rfl rfl ?_
          refine Sp.step rfl rfl rfl rfl ?_
          refine Sp.step rfl rfl rfl (mg_I (f := 90) rfl rfl rfl) ?_
          refine Sp.if1 rfl rfl rfl rfl (fun e86 => ?_) (fun e86 => ?_)
          · refine Sp.step rfl rfl rfl rfl ?_
            exact Sp.vret rfl rfl rfl (fun _ _ h => h)
          · refine Sp.step rfl rfl rfl rfl ?_
            refine Sp.step rfl rfl rfl rfl ?_
            refine Sp.call rfl rfl rfl (mrecv (by decide) (by decide +kernel)) s_M_putRef (fun x87 => ⟨_, _, ⟨rfl, rfl⟩, ?_⟩)
            refine Sp.id (pc := 79) (l := [some (.ref 60), some (.int x), some (.int x80.1), some (.int 0), none, none]) (st := []) (h := hS X x87) ?_
            refine Sp.step rfl rfl rfl rfl ?_
            exact Sp.vret rfl rfl rfl (fun _ _ h => h)
        · refine Sp.step rfl rfl rfl rfl ?_
          refine Sp.step rfl rfl rfl rfl ?_
          refine Sp.step rfl rfl rfl rfl ?_
          refine Sp.if2 rfl rfl rfl rfl (fun e88 => ?_) (fun e88 => ?_)
          · refine Sp.step rfl rfl rfl rfl ?_
            refine Sp.step rfl rfl rfl rfl ?_
            refine Sp.call rfl rfl rfl (mrecv (by decide) (by decide +kernel)) s_M_make (fun x89 => ⟨_, _, ⟨rfl, rfl⟩, ?_⟩)
            refine Sp.id (pc := 62) (l := [some (.ref 60), some (.int x), some (.int x80.1), none, none, none]) (st := [.int x89.1]) (h := hS X x89.2) ?_
            refine Sp.step rfl rfl rfl rfl ?_
            refine Sp.step rfl rfl rfl rfl ?_
            refine Sp.step rfl rfl rfl rfl ?_
            refine Sp.step rfl rfl rfl (mg_I (f := 90) rfl rfl rfl) ?_
            refine Sp.if1 rfl rfl rfl rfl (fun e90 => ?_) (fun e90 => ?_)
            · refine Sp.step rfl rfl rfl rfl ?_
              exact Sp.vret rfl rfl rfl (fun _ _ h => h)
            · refine Sp.step rfl rfl rfl rfl ?_
              refine Sp.step rfl rfl rfl rfl ?_
              refine Sp.call rfl rfl rfl (mrecv (by decide) (by decide +kernel)) s_M_putRef (fun x91 => ⟨_, _, ⟨rfl, rfl⟩, ?_⟩)
              refine Sp.id (pc := 79) (l := [some (.ref 60), some (.int x), some (.int x80.1), some (.int x89.1), none, none]) (st := []) (h := hS X x91) ?_
              refine Sp.step rfl rfl rfl rfl ?_
              exact Sp.vret rfl rfl rfl (fun _ _ h => h)
          · refine Sp.step rfl rfl rfl rfl ?_
            refine Sp.step rfl rfl rfl rfl ?_
            refine Sp.step rfl rfl rfl rfl ?_
            refine Sp.call rfl rfl rfl (mrecv (by decide) (by decide +kernel)) s_M_make (fun x92 => ⟨_, _, ⟨rfl, rfl⟩, ?_⟩)
            refine Sp.id (pc := 62) (l := [some (.ref 60), some (.int x), some (.int x80.1), none, none, none]) (st := [.int x92.1]) (h := hS X x92.2) ?_
            refine Sp.step rfl rfl rfl rfl ?_
            refine Sp.step rfl rfl rfl rfl ?_
            refine Sp.step rfl rfl rfl rfl ?_
            refine Sp.step rfl rfl rfl (mg_I (f := 90) rfl rfl rfl) ?_
            refine Sp.if1 rfl rfl rfl rfl (fun e93 => ?_) (fun e93 => ?_)
            · refine Sp.step rfl rfl rfl rfl ?_
              exact Sp.vret rfl rfl rfl (fun _ _ h => h)
            · refine Sp.step rfl rfl rfl rfl ?_
              refine Sp.step rfl rfl rfl rfl ?_
              refine Sp.call rfl rfl rfl (mrecv (by decide) (by decide +kernel)) s_M_putRef (fun x94 => ⟨_, _, ⟨rfl, rfl⟩, ?_⟩)
              refine Sp.id (pc := 79) (l := [some (.ref 60), some (.int x), some (.int x80.1), some (.int x92.1), none, none]) (st := []) (h := hS X x94) ?_
              refine Sp.step rfl rfl rfl rfl ?_
              exact Sp.vret rfl rfl rfl (fun _ _ h => h)
def b2_M_argumentsOf (x : Int32) (M : MS) (x1 : Int32) : Option (Int32 ⊕ Int32) := (if 24 ≤ x1 then some (.inr 0) else (if ixo (24 + x1) 48 then (if ¬ M.1 100 (24 + x1).toNatClampNeg = x then some (.inl (x1 + 1)) else some (.inr (M.1 99 (24 + x1).toNatClampNeg))) else none))
def f_M_argumentsOf (x : Int32) (M : MS) : Option Int32 := (lp (b2_M_argumentsOf x M) 10000 (0 : Int32))
set_option maxRecDepth 100000 in
set_option maxHeartbeats 4000000 in
theorem s_M_argumentsOf {L : Nat} {xs : Nat → Int32} {X : XS} {M : MS} {x : Int32} : Sp (mjOO L xs) 86 0 [some (.ref 60), some (.int x), none] [] (hS X M) (f_M_argumentsOf x M) (KQ (hS X M)) := by
  unfold f_M_argumentsOf
  refine Sp.step rfl rfl rfl rfl ?_
  refine Sp.step rfl rfl rfl rfl ?_
  refine Sp.weak (l0 := [some (.ref 60), some (.int x), some (.int 0)]) ⟨rfl, rfl, rfl, trivial⟩ ?_
  refine Sp.loopL (mf := (fun (x1 : Int32) => [some (.ref 60), some (.int x), some (.int x1)])) (hf := (fun (x1 : Int32) => hS X M)) (fun x1 => ?_) _ _
  unfold b2_M_argumentsOf
  refine Sp.step rfl rfl rfl rfl ?_
  refine Sp.step rfl rfl rfl rfl ?_
  refine Sp.if2 rfl rfl rfl rfl (fun e2 => ?_) (fun e2 => ?_)
  · refine Sp.step rfl rfl rfl rfl ?_
    exact Sp.iret rfl rfl rfl rfl (fun _ _ h => h)
  · refine Sp.step rfl rfl rfl rfl ?_
    refine Sp.step rfl rfl rfl (mg_F (f := 48) rfl rfl rfl rfl) ?_
    refine Sp.step rfl rfl rfl rfl ?_
    refine Sp.step rfl rfl rfl rfl ?_
    refine Sp.step rfl rfl rfl rfl ?_
    refine Sp.guard (fun e3 => ?_)
    refine Sp.step rfl rfl rfl (mld rfl rfl (by decide) e3) ?_
    refine Sp.step rfl rfl rfl rfl ?_
    refine Sp.if2 rfl rfl rfl rfl (fun e4 => ?_) (fun e4 => ?_)
    · refine Sp.step rfl rfl rfl rfl ?_
      refine Sp.step rfl rfl rfl rfl ?_
      exact Sp.jmp (l0 := [some (.ref 60), some (.int x), some (.int (x1 + 1))]) ⟨rfl, rfl, rfl, trivial⟩ (fun _ _ h => h)
    · refine Sp.step rfl rfl rfl rfl ?_
      refine Sp.step rfl rfl rfl (mg_F (f := 47) rfl rfl rfl rfl) ?_
      refine Sp.step rfl rfl rfl rfl ?_
      refine Sp.step rfl rfl rfl rfl ?_
      refine Sp.step rfl rfl rfl rfl ?_
      refine Sp.step rfl rfl rfl (mld rfl rfl (by decide) e3) ?_
      exact Sp.iret rfl rfl rfl rfl (fun _ _ h => h)
def f_M_methodOf (x : Int32) (y : Int32) (M : MS) : Option (Int32 × MS) := (if x ≤ 0 then (if ¬ x = 0 then (lt (mw M 60 90 6) fun M4 => some ((-2), M4)) else (lt (mw M 60 90 1) fun M5 => some ((-2), M5))) else (if ixo x 1002 then (if 10 ≤ M.1 121 x.toNatClampNeg then (if ¬ x = 0 then (lt (mw M 60 90 6) fun M10 => some ((-2), M10)) else (lt (mw M 60 90 1) fun M11 => some ((-2), M11))) else (if ixo ((80 + (8 * (M.1 121 x.toNatClampNeg))) + y) 160 then (if ¬ x = 0 then (if 0 ≤ M.1 98 ((80 + (8 * (M.1 121 x.toNatClampNeg))) + y).toNatClampNeg then (lt (mw M 60 90 0) fun M15 => some (M.1 98 ((80 + (8 * (M.1 121 x.toNatClampNeg))) + y).toNatClampNeg, M15)) else (lt (mw M 60 90 6) fun M16 => some (M.1 98 ((80 + (8 * (M.1 121 x.toNatClampNeg))) + y).toNatClampNeg, M16))) else (lt (mw M 60 90 1) fun M17 => some (M.1 98 ((80 + (8 * (M.1 121 x.toNatClampNeg))) + y).toNatClampNeg, M17))) else none)) else none))
set_option maxRecDepth 100000 in
set_option maxHeartbeats 4000000 in
theorem s_M_methodOf {L : Nat} {xs : Nat → Int32} {X : XS} {M : MS} {x : Int32} {y : Int32} : Sp (mjOO L xs) 87 0 [some (.ref 60), some (.int x), some (.int y), none] [] (hS X M) (f_M_methodOf x y M) (KEM X) := by
  unfold f_M_methodOf
  refine Sp.step rfl rfl rfl rfl ?_
  refine Sp.if1 rfl rfl rfl rfl (fun e1 => ?_) (fun e1 => ?_)
  · refine Sp.step rfl rfl rfl rfl ?_
    refine Sp.step rfl rfl rfl rfl ?_
    refine Sp.step rfl rfl rfl rfl ?_
    refine Sp.step rfl rfl rfl rfl ?_
    refine Sp.if1 rfl rfl rfl rfl (fun e2 => ?_) (fun e2 => ?_)
    · refine Sp.step rfl rfl rfl rfl ?_
      refine Sp.step rfl rfl rfl rfl ?_
      refine Sp.step rfl rfl rfl rfl ?_
      refine Sp.step rfl rfl rfl rfl ?_
      refine Sp.step rfl rfl rfl (mp_I (f := 90) rfl rfl rfl rfl) ?_
      refine Sp.step rfl rfl rfl rfl ?_
      exact Sp.iret rfl rfl rfl rfl (fun _ _ h => h)
    · refine Sp.step rfl rfl rfl rfl ?_
      refine Sp.step rfl rfl rfl rfl ?_
      refine Sp.step rfl rfl rfl (mp_I (f := 90) rfl rfl rfl rfl) ?_
      refine Sp.step rfl rfl rfl rfl ?_
      exact Sp.iret rfl rfl rfl rfl (fun _ _ h => h)
  · refine Sp.step rfl rfl rfl rfl ?_
    refine Sp.step rfl rfl rfl (mg_F (f := 79) rfl rfl rfl rfl) ?_
    refine Sp.step rfl rfl rfl rfl ?_
    refine Sp.guard (fun e6 => ?_)
    refine Sp.step rfl rfl rfl (mld rfl rfl (by decide) e6) ?_
    refine Sp.step rfl rfl rfl rfl ?_
    refine Sp.if2 rfl rfl rfl rfl (fun e7 => ?_) (fun e7 => ?_)
    · refine Sp.step rfl rfl rfl rfl ?_
      refine Sp.step rfl rfl rfl rfl ?_
      refine Sp.step rfl rfl rfl rfl ?_
      refine Sp.step rfl rfl rfl rfl ?_
      refine Sp.if1 rfl rfl rfl rfl (fun e8 => ?_) (fun e8 => ?_)
      · refine Sp.step rfl rfl rfl rfl ?_
        refine Sp.step rfl rfl rfl rfl ?_
        refine Sp.step rfl rfl rfl rfl ?_
        refine Sp.step rfl rfl rfl rfl ?_
        refine Sp.step rfl rfl rfl (mp_I (f := 90) rfl rfl rfl rfl) ?_
        refine Sp.step rfl rfl rfl rfl ?_
        exact Sp.iret rfl rfl rfl rfl (fun _ _ h => h)
      · refine Sp.step rfl rfl rfl rfl ?_
        refine Sp.step rfl rfl rfl rfl ?_
        refine Sp.step rfl rfl rfl (mp_I (f := 90) rfl rfl rfl rfl) ?_
        refine Sp.step rfl rfl rfl rfl ?_
        exact Sp.iret rfl rfl rfl rfl (fun _ _ h => h)
    · refine Sp.step rfl rfl rfl rfl ?_
      refine Sp.step rfl rfl rfl (mg_F (f := 46) rfl rfl rfl rfl) ?_
      refine Sp.step rfl rfl rfl rfl ?_
      refine Sp.step rfl rfl rfl rfl ?_
      refine Sp.step rfl rfl rfl rfl ?_
      refine Sp.step rfl rfl rfl (mg_F (f := 79) rfl rfl rfl rfl) ?_
      refine Sp.step rfl rfl rfl rfl ?_
      refine Sp.step rfl rfl rfl (mld rfl rfl (by decide) e6) ?_
      refine Sp.step rfl rfl rfl rfl ?_
      refine Sp.step rfl rfl rfl rfl ?_
      refine Sp.step rfl rfl rfl rfl ?_
      refine Sp.step rfl rfl rfl rfl ?_
      refine Sp.guard (fun e12 => ?_)
      refine Sp.step rfl rfl rfl (mld rfl rfl (by decide) e12) ?_
      refine Sp.step rfl rfl rfl rfl ?_
      refine Sp.step rfl rfl rfl rfl ?_
      refine Sp.step rfl rfl rfl rfl ?_
      refine Sp.step rfl rfl rfl rfl ?_
      refine Sp.if1 rfl rfl rfl rfl (fun e13 => ?_) (fun e13 => ?_)
      · refine Sp.step rfl rfl rfl rfl ?_
        refine Sp.if1 rfl rfl rfl rfl (fun e14 => ?_) (fun e14 => ?_)
        · refine Sp.step rfl rfl rfl rfl ?_
          refine Sp.step rfl rfl rfl (mp_I (f := 90) rfl rfl rfl rfl) ?_
          refine Sp.step rfl rfl rfl rfl ?_
          exact Sp.iret rfl rfl rfl rfl (fun _ _ h => h)
        · refine Sp.step rfl rfl rfl rfl ?_
          refine Sp.step rfl rfl rfl rfl ?_
          refine Sp.step rfl rfl rfl (mp_I (f := 90) rfl rfl rfl rfl) ?_
          refine Sp.step rfl rfl rfl rfl ?_
          exact Sp.iret rfl rfl rfl rfl (fun _ _ h => h)
      · refine Sp.step rfl rfl rfl rfl ?_
        refine Sp.step rfl rfl rfl rfl ?_
        refine Sp.step rfl rfl rfl (mp_I (f := 90) rfl rfl rfl rfl) ?_
        refine Sp.step rfl rfl rfl rfl ?_
        exact Sp.iret rfl rfl rfl rfl (fun _ _ h => h)
def b84_M_call (y : Int32) (M : MS) (x5 : Int32) (x8 : (Int32 × MS)) (x15 : (Int32 × MS)) : Option ((Int32 × MS) ⊕ (Int32 × MS)) := (if (M.1 99 (24 + y).toNatClampNeg) + 1 ≤ x15.1 then some (.inr (x15.1, x15.2)) else (if ixo ((x5 - ((M.1 99 (24 + y).toNatClampNeg) + 1)) + x15.1) 2640 then (if ixo ((22 * x8.1) + x15.1) 2640 then (lt (mw x15.2 115 ((22 * x8.1) + x15.1).toNatClampNeg (x15.2.1 115 ((x5 - ((M.1 99 (24 + y).toNatClampNeg) + 1)) + x15.1).toNatClampNeg)) fun M19 => (lt (mw M19 116 ((22 * x8.1) + x15.1).toNatClampNeg (vp_nar .boolean (M19.1 116 ((x5 - ((M.1 99 (24 + y).toNatClampNeg) + 1)) + x15.1).toNatClampNeg))) fun M20 => some (.inl (x15.1 + 1, M20)))) else none) else none))
def b84_M_call' (y : Int32) (M : MS) (x22 : Int32) (x25 : (Int32 × MS)) (x32 : (Int32 × MS)) : Option ((Int32 × MS) ⊕ (Int32 × MS)) := (if (M.1 99 (24 + y).toNatClampNeg) + 0 ≤ x32.1 then some (.inr (x32.1, x32.2)) else (if ixo ((x22 - ((M.1 99 (24 + y).toNatClampNeg) + 0)) + x32.1) 2640 then (if ixo ((22 * x25.1) + x32.1) 2640 then (lt (mw x32.2 115 ((22 * x25.1) + x32.1).toNatClampNeg (x32.2.1 115 ((x22 - ((M.1 99 (24 + y).toNatClampNeg) + 0)) + x32.1).toNatClampNeg)) fun M36 => (lt (mw M36 116 ((22 * x25.1) + x32.1).toNatClampNeg (vp_nar .boolean (M36.1 116 ((x22 - ((M.1 99 (24 + y).toNatClampNeg) + 0)) + x32.1).toNatClampNeg))) fun M37 => some (.inl (x32.1 + 1, M37)))) else none) else none))
def f_M_call (x : Int32) (y : Int32) (M : MS) : Option MS := (if ixo x 6 then (if ¬ M.1 109 x.toNatClampNeg = 20 then (if ixo (24 + y) 48 then (if ¬ M.1 100 (24 + y).toNatClampNeg = (-2) then ((f_M_topAt M).bind fun x5 => (if ixo (M.1 60 89) 120 then (lt (mw M 114 (M.1 60 89).toNatClampNeg ((M.1 114 (M.1 60 89).toNatClampNeg) - ((M.1 99 (24 + y).toNatClampNeg) + 1))) fun M7 => ((f_M_beginFrame x y M7).bind fun x8 => ((lp (b84_M_call y M x5 x8) 10000 ((0 : Int32), x8.2)).bind fun x21 => some x21.2))) else none)) else ((f_M_topAt M).bind fun x22 => (if ixo (M.1 60 89) 120 then (lt (mw M 114 (M.1 60 89).toNatClampNeg ((M.1 114 (M.1 60 89).toNatClampNeg) - ((M.1 99 (24 + y).toNatClampNeg) + 0))) fun M24 => ((f_M_beginFrame x y M24).bind fun x25 => ((lp (b84_M_call' y M x22 x25) 10000 ((0 : Int32), x25.2)).bind fun x38 => some x38.2))) else none))) else none) else (lt (mw M 60 90 9) fun M39 => some M39)) else none)
set_option maxRecDepth 100000 in
set_option maxHeartbeats 4000000 in
theorem s_M_call {L : Nat} {xs : Nat → Int32} {X : XS} {M : MS} {x : Int32} {y : Int32} : Sp (mjOO L xs) 85 0 [some (.ref 60), some (.int x), some (.int y), none, none, none, none, none] [] (hS X M) (f_M_call x y M) (KVM X) := by
  unfold f_M_call
  refine Sp.step rfl rfl rfl rfl ?_
  refine Sp.step rfl rfl rfl (mg_F (f := 65) rfl rfl rfl rfl) ?_
  refine Sp.step rfl rfl rfl rfl ?_
  refine Sp.guard (fun e1 => ?_)
  refine Sp.step rfl rfl rfl (mld rfl rfl (by decide) e1) ?_
  refine Sp.step rfl rfl rfl rfl ?_
  refine Sp.if2 rfl rfl rfl rfl (fun e2 => ?_) (fun e2 => ?_)
  · refine Sp.step rfl rfl rfl rfl ?_
    refine Sp.step rfl rfl rfl (mg_F (f := 47) rfl rfl rfl rfl) ?_
    refine Sp.step rfl rfl rfl rfl ?_
    refine Sp.step rfl rfl rfl rfl ?_
    refine Sp.step rfl rfl rfl rfl ?_
    refine Sp.guard (fun e3 => ?_)
    refine Sp.step rfl rfl rfl (mld rfl rfl (by decide) e3) ?_
    refine Sp.step rfl rfl rfl rfl ?_
    refine Sp.step rfl rfl rfl (mg_F (f := 48) rfl rfl rfl rfl) ?_
    refine Sp.step rfl rfl rfl rfl ?_
    refine Sp.step rfl rfl rfl rfl ?_
    refine Sp.step rfl rfl rfl rfl ?_
    refine Sp.step rfl rfl rfl (mld rfl rfl (by decide) e3) ?_
    refine Sp.step rfl rfl rfl rfl ?_
    refine Sp.if2 rfl rfl rfl rfl (fun e4 => ?_) (fun e4 => ?_)
    · refine Sp.step rfl rfl rfl rfl ?_
      refine Sp.step rfl rfl rfl rfl ?_
      refine Sp.step rfl rfl rfl rfl ?_
      refine Sp.step rfl rfl rfl rfl ?_
      refine Sp.step rfl rfl rfl (mg_I (f := 89) rfl rfl rfl) ?_
      refine Sp.step rfl rfl rfl rfl ?_
      refine Sp.step rfl rfl rfl rfl ?_
      refine Sp.call rfl rfl rfl (mrecv (by decide) (by decide +kernel)) s_M_topAt (fun x5 => ⟨_, _, ⟨rfl, rfl⟩, ?_⟩)
      refine Sp.id (pc := 58) (l := [some (.ref 60), some (.int x), some (.int y), some (.int ((M.1 99 (24 + y).toNatClampNeg) + 1)), some (.int (M.1 60 89)), none, none, none]) (st := [.int x5]) (h := hS X M) ?_
      refine Sp.step rfl rfl rfl rfl ?_
      refine Sp.step rfl rfl rfl rfl ?_
      refine Sp.step rfl rfl rfl rfl ?_
      refine Sp.step rfl rfl rfl rfl ?_
      refine Sp.step rfl rfl rfl (mg_F (f := 70) rfl rfl rfl rfl) ?_
      refine Sp.step rfl rfl rfl rfl ?_
      refine Sp.step rfl rfl rfl rfl ?_
      refine Sp.guard (fun e6 => ?_)
      refine Sp.step rfl rfl rfl (mld rfl rfl (by decide) e6) ?_
      refine Sp.step rfl rfl rfl rfl ?_
      refine Sp.step rfl rfl rfl rfl ?_
      refine Sp.step rfl rfl rfl (mst rfl rfl (by decide) e6) ?_
      refine Sp.step rfl rfl rfl rfl ?_
      refine Sp.step rfl rfl rfl rfl ?_
      refine Sp.step rfl rfl rfl rfl ?_
      refine Sp.call rfl rfl rfl (mrecv (by decide) (by decide +kernel)) s_M_beginFrame (fun x8 => ⟨_, _, ⟨rfl, rfl⟩, ?_⟩)
      refine Sp.id (pc := 79) (l := [some (.ref 60), some (.int x), some (.int y), some (.int ((M.1 99 (24 + y).toNatClampNeg) + 1)), some (.int (M.1 60 89)), some (.int (x5 - ((M.1 99 (24 + y).toNatClampNeg) + 1))), none, none]) (st := [.int x8.1]) (h := hS X x8.2) ?_
      refine Sp.step rfl rfl rfl rfl ?_
      refine Sp.step rfl rfl rfl rfl ?_
      refine Sp.step rfl rfl rfl rfl ?_
      refine Sp.weak (l0 := [some (.ref 60), none, none, some (.int ((M.1 99 (24 + y).toNatClampNeg) + 1)), none, some (.int (x5 - ((M.1 99 (24 + y).toNatClampNeg) + 1))), some (.int x8.1), some (.int 0)]) ⟨rfl, rfl, rfl, rfl, rfl, trivial⟩ ?_
      refine Sp.loopX (pe := 142) (mf := (fun (x15 : (Int32 × MS)) => [some (.ref 60), none, none, some (.int ((M.1 99 (24 + y).toNatClampNeg) + 1)), none, some (.int (x5 - ((M.1 99 (24 + y).toNatClampNeg) + 1))), some (.int x8.1), some (.int x15.1)])) (hf := (fun (x15 : (Int32 × MS)) => hS X x15.2)) (fun x15 => ?_) (fun x21 => ?_) _ _
      · unfold b84_M_call
        refine Sp.step rfl rfl rfl rfl ?_
        refine Sp.step rfl rfl rfl rfl ?_
        refine Sp.if2 rfl rfl rfl rfl (fun e16 => ?_) (fun e16 => ?_)
        · exact Sp.jmp (l0 := [some (.ref 60), none, none, some (.int ((M.1 99 (24 + y).toNatClampNeg) + 1)), none, some (.int (x5 - ((M.1 99 (24 + y).toNatClampNeg) + 1))), some (.int x8.1), some (.int x15.1)]) ⟨rfl, rfl, rfl, rfl, rfl, trivial⟩ (fun _ _ h => h)
        · refine Sp.step rfl rfl rfl rfl ?_
          refine Sp.step rfl rfl rfl (mg_F (f := 71) rfl rfl rfl rfl) ?_
          refine Sp.step rfl rfl rfl rfl ?_
          refine Sp.step rfl rfl rfl rfl ?_
          refine Sp.step rfl rfl rfl rfl ?_
          refine Sp.step rfl rfl rfl rfl ?_
          refine Sp.step rfl rfl rfl rfl ?_
          refine Sp.step rfl rfl rfl rfl ?_
          refine Sp.step rfl rfl rfl (mg_F (f := 71) rfl rfl rfl rfl) ?_
          refine Sp.step rfl rfl rfl rfl ?_
          refine Sp.step rfl rfl rfl rfl ?_
          refine Sp.step rfl rfl rfl rfl ?_
          refine Sp.guard (fun e17 => ?_)
          refine Sp.step rfl rfl rfl (mld rfl rfl (by decide) e17) ?_
          refine Sp.guard (fun e18 => ?_)
          refine Sp.step rfl rfl rfl (mst rfl rfl (by decide) e18) ?_
          refine Sp.step rfl rfl rfl rfl ?_
          refine Sp.step rfl rfl rfl (mg_F (f := 72) rfl rfl rfl rfl) ?_
          refine Sp.step rfl rfl rfl rfl ?_
          refine Sp.step rfl rfl rfl rfl ?_
          refine Sp.step rfl rfl rfl rfl ?_
          refine Sp.step rfl rfl rfl rfl ?_
          refine Sp.step rfl rfl rfl rfl ?_
          refine Sp.step rfl rfl rfl rfl ?_
          refine Sp.step rfl rfl rfl (mg_F (f := 72) rfl rfl rfl rfl) ?_
          refine Sp.step rfl rfl rfl rfl ?_
          refine Sp.step rfl rfl rfl rfl ?_
          refine Sp.step rfl rfl rfl rfl ?_
          refine Sp.step rfl rfl rfl (mld rfl rfl (by decide) e17) ?_
          refine Sp.step rfl rfl rfl (mst rfl rfl (by decide) e18) ?_
          refine Sp.step rfl rfl rfl rfl ?_
          refine Sp.step rfl rfl rfl rfl ?_
          exact Sp.jmp (l0 := [some (.ref 60), none, none, some (.int ((M.1 99 (24 + y).toNatClampNeg) + 1)), none, some (.int (x5 - ((M.1 99 (24 + y).toNatClampNeg) + 1))), some (.int x8.1), some (.int (x15.1 + 1))]) ⟨rfl, rfl, rfl, rfl, rfl, trivial⟩ (fun _ _ h => h)
      · exact Sp.vret rfl rfl rfl (fun _ _ h => h)
    · refine Sp.step rfl rfl rfl rfl ?_
      refine Sp.step rfl rfl rfl rfl ?_
      refine Sp.step rfl rfl rfl rfl ?_
      refine Sp.step rfl rfl rfl rfl ?_
      refine Sp.step rfl rfl rfl rfl ?_
      refine Sp.step rfl rfl rfl (mg_I (f := 89) rfl rfl rfl) ?_
      refine Sp.step rfl rfl rfl rfl ?_
      refine Sp.step rfl rfl rfl rfl ?_
      refine Sp.call rfl rfl rfl (mrecv (by decide) (by decide +kernel)) s_M_topAt (fun x22 => ⟨_, _, ⟨rfl, rfl⟩, ?_⟩)
      refine Sp.id (pc := 58) (l := [some (.ref 60), some (.int x), some (.int y), some (.int ((M.1 99 (24 + y).toNatClampNeg) + 0)), some (.int (M.1 60 89)), none, none, none]) (st := [.int x22]) (h := hS X M) ?_
      refine Sp.step rfl rfl rfl rfl ?_
      refine Sp.step rfl rfl rfl rfl ?_
      refine Sp.step rfl rfl rfl rfl ?_
      refine Sp.step rfl rfl rfl rfl ?_
      refine Sp.step rfl rfl rfl (mg_F (f := 70) rfl rfl rfl rfl) ?_
      refine Sp.step rfl rfl rfl rfl ?_
      refine Sp.step rfl rfl rfl rfl ?_
      refine Sp.guard (fun e23 => ?_)
      refine Sp.step rfl rfl rfl (mld rfl rfl (by decide) e23) ?_
      refine Sp.step rfl rfl rfl rfl ?_
      refine Sp.step rfl rfl rfl rfl ?_
      refine Sp.step rfl rfl rfl (mst rfl rfl (by decide) e23) ?_
      refine Sp.step rfl rfl rfl rfl ?_
      refine Sp.step rfl rfl rfl rfl ?_
      refine Sp.step rfl rfl rfl rfl ?_
      refine Sp.call rfl rfl rfl (mrecv (by decide) (by decide +kernel)) s_M_beginFrame (fun x25 => ⟨_, _, ⟨rfl, rfl⟩, ?_⟩)
      refine Sp.id (pc := 79) (l := [some (.ref 60), some (.int x), some (.int y), some (.int ((M.1 99 (24 + y).toNatClampNeg) + 0)), some (.int (M.1 60 89)), some (.int (x22 - ((M.1 99 (24 + y).toNatClampNeg) + 0))), none, none]) (st := [.int x25.1]) (h := hS X x25.2) ?_
      refine Sp.step rfl rfl rfl rfl ?_
      refine Sp.step rfl rfl rfl rfl ?_
      refine Sp.step rfl rfl rfl rfl ?_
      refine Sp.weak (l0 := [some (.ref 60), none, none, some (.int ((M.1 99 (24 + y).toNatClampNeg) + 0)), none, some (.int (x22 - ((M.1 99 (24 + y).toNatClampNeg) + 0))), some (.int x25.1), some (.int 0)]) ⟨rfl, rfl, rfl, rfl, rfl, trivial⟩ ?_
      refine Sp.loopX (pe := 142) (mf := (fun (x32 : (Int32 × MS)) => [some (.ref 60), none, none, some (.int ((M.1 99 (24 + y).toNatClampNeg) + 0)), none, some (.int (x22 - ((M.1 99 (24 + y).toNatClampNeg) + 0))), some (.int x25.1), some (.int x32.1)])) (hf := (fun (x32 : (Int32 × MS)) => hS X x32.2)) (fun x32 => ?_) (fun x38 => ?_) _ _
      · unfold b84_M_call'
        refine Sp.step rfl rfl rfl rfl ?_
        refine Sp.step rfl rfl rfl rfl ?_
        refine Sp.if2 rfl rfl rfl rfl (fun e33 => ?_) (fun e33 => ?_)
        · exact Sp.jmp (l0 := [some (.ref 60), none, none, some (.int ((M.1 99 (24 + y).toNatClampNeg) + 0)), none, some (.int (x22 - ((M.1 99 (24 + y).toNatClampNeg) + 0))), some (.int x25.1), some (.int x32.1)]) ⟨rfl, rfl, rfl, rfl, rfl, trivial⟩ (fun _ _ h => h)
        · refine Sp.step rfl rfl rfl rfl ?_
          refine Sp.step rfl rfl rfl (mg_F (f := 71) rfl rfl rfl rfl) ?_
          refine Sp.step rfl rfl rfl rfl ?_
          refine Sp.step rfl rfl rfl rfl ?_
          refine Sp.step rfl rfl rfl rfl ?_
          refine Sp.step rfl rfl rfl rfl ?_
          refine Sp.step rfl rfl rfl rfl ?_
          refine Sp.step rfl rfl rfl rfl ?_
          refine Sp.step rfl rfl rfl (mg_F (f := 71) rfl rfl rfl rfl) ?_
          refine Sp.step rfl rfl rfl rfl ?_
          refine Sp.step rfl rfl rfl rfl ?_
          refine Sp.step rfl rfl rfl rfl ?_
          refine Sp.guard (fun e34 => ?_)
          refine Sp.step rfl rfl rfl (mld rfl rfl (by decide) e34) ?_
          refine Sp.guard (fun e35 => ?_)
          refine Sp.step rfl rfl rfl (mst rfl rfl (by decide) e35) ?_
          refine Sp.step rfl rfl rfl rfl ?_
          refine Sp.step rfl rfl rfl (mg_F (f := 72) rfl rfl rfl rfl) ?_
          refine Sp.step rfl rfl rfl rfl ?_
          refine Sp.step rfl rfl rfl rfl ?_
          refine Sp.step rfl rfl rfl rfl ?_
          refine Sp.step rfl rfl rfl rfl ?_
          refine Sp.step rfl rfl rfl rfl ?_
          refine Sp.step rfl rfl rfl rfl ?_
          refine Sp.step rfl rfl rfl (mg_F (f := 72) rfl rfl rfl rfl) ?_
          refine Sp.step rfl rfl rfl rfl ?_
          refine Sp.step rfl rfl rfl rfl ?_
          refine Sp.step rfl rfl rfl rfl ?_
          refine Sp.step rfl rfl rfl (mld rfl rfl (by decide) e34) ?_
          refine Sp.step rfl rfl rfl (mst rfl rfl (by decide) e35) ?_
          refine Sp.step rfl rfl rfl rfl ?_
          refine Sp.step rfl rfl rfl rfl ?_
          exact Sp.jmp (l0 := [some (.ref 60), none, none, some (.int ((M.1 99 (24 + y).toNatClampNeg) + 0)), none, some (.int (x22 - ((M.1 99 (24 + y).toNatClampNeg) + 0))), some (.int x25.1), some (.int (x32.1 + 1))]) ⟨rfl, rfl, rfl, rfl, rfl, trivial⟩ (fun _ _ h => h)
      · exact Sp.vret rfl rfl rfl (fun _ _ h => h)
  · refine Sp.step rfl rfl rfl rfl ?_
    refine Sp.step rfl rfl rfl rfl ?_
    refine Sp.step rfl rfl rfl (mp_I (f := 90) rfl rfl rfl rfl) ?_
    exact Sp.vret rfl rfl rfl (fun _ _ h => h)
def f_M_giveBack (x : Int32) (y : Int32) (M : MS) : Option MS := (((if ¬ y = 40 then ((f_M_takeValue M).bind fun x2 => some (x2.1, x2.2)) else some (0, M)) : Option (Int32 × MS)).bind fun x3 => (if ixo x 6 then (lt (mw x3.2 109 x.toNatClampNeg ((x3.2.1 109 x.toNatClampNeg) - 1)) fun M5 => (if ¬ M5.1 109 x.toNatClampNeg = 0 then (lt (mw M5 60 89 ((M5.1 60 89) - 1)) fun M7 => (if ¬ y = 41 then (if ¬ y = 42 then (if ixo (M7.1 60 89) 120 then (lt (mw M7 113 (M7.1 60 89).toNatClampNeg ((M7.1 113 (M7.1 60 89).toNatClampNeg) + 1)) fun M11 => some M11) else none) else ((f_M_putRef x3.1 M7).bind fun x12 => (if ixo (x12.1 60 89) 120 then (lt (mw x12 113 (x12.1 60 89).toNatClampNeg ((x12.1 113 (x12.1 60 89).toNatClampNeg) + 1)) fun M14 => some M14) else none))) else ((f_M_putInt x3.1 M7).bind fun x15 => (if ixo (x15.1 60 89) 120 then (lt (mw x15 113 (x15.1 60 89).toNatClampNeg ((x15.1 113 (x15.1 60 89).toNatClampNeg) + 1)) fun M17 => some M17) else none)))) else (lt (mw M5 110 x.toNatClampNeg 2) fun M18 => some M18))) else none))
set_option maxRecDepth 100000 in
set_option maxHeartbeats 4000000 in
theorem s_M_giveBack {L : Nat} {xs : Nat → Int32} {X : XS} {M : MS} {x : Int32} {y : Int32} : Sp (mjOO L xs) 90 0 [some (.ref 60), some (.int x), some (.int y), none] [] (hS X M) (f_M_giveBack x y M) (KVM X) := by
  unfold f_M_giveBack
  refine Sp.step rfl rfl rfl rfl ?_
  refine Sp.step rfl rfl rfl rfl ?_
  refine Sp.piece (pe := 14) (mf := (fun (x3 : Int32 × MS) => [some (.ref 60), some (.int x), some (.int y), none])) (sf := (fun (x3 : Int32 × MS) => [.int x3.1])) (hf := (fun (x3 : Int32 × MS) => hS X x3.2)) ?_ (fun x3 => ?_)
  · refine Sp.if2 rfl rfl rfl rfl (fun e1 => ?_) (fun e1 => ?_)
    · refine Sp.step rfl rfl rfl rfl ?_
      refine Sp.call rfl rfl rfl (mrecv (by decide) (by decide +kernel)) s_M_takeValue (fun x2 => ⟨_, _, ⟨rfl, rfl⟩, ?_⟩)
      refine Sp.id (pc := 14) (l := [some (.ref 60), some (.int x), some (.int y), none]) (st := [.int x2.1]) (h := hS X x2.2) ?_
      exact Sp.jmp (l0 := [some (.ref 60), some (.int x), some (.int y), none]) ⟨rfl, rfl, rfl, trivial⟩ (fun _ _ h => h)
    · refine Sp.step rfl rfl rfl rfl ?_
      refine Sp.step rfl rfl rfl rfl ?_
      exact Sp.jmp (l0 := [some (.ref 60), some (.int x), some (.int y), none]) ⟨rfl, rfl, rfl, trivial⟩ (fun _ _ h => h)
  · refine Sp.step rfl rfl rfl rfl ?_
    refine Sp.step rfl rfl rfl rfl ?_
    refine Sp.step rfl rfl rfl (mg_F (f := 65) rfl rfl rfl rfl) ?_
    refine Sp.step rfl rfl rfl rfl ?_
    refine Sp.step rfl rfl rfl rfl ?_
    refine Sp.guard (fun e4 => ?_)
    refine Sp.step rfl rfl rfl (mld rfl rfl (by decide) e4) ?_
    refine Sp.step rfl rfl rfl rfl ?_
    refine Sp.step rfl rfl rfl rfl ?_
    refine Sp.step rfl rfl rfl (mst rfl rfl (by decide) e4) ?_
    refine Sp.step rfl rfl rfl rfl ?_
    refine Sp.step rfl rfl rfl (mg_F (f := 65) rfl rfl rfl rfl) ?_
    refine Sp.step rfl rfl rfl rfl ?_
    refine Sp.step rfl rfl rfl (mld rfl rfl (by decide) e4) ?_
    refine Sp.if1 rfl rfl rfl rfl (fun e6 => ?_) (fun e6 => ?_)
    · refine Sp.step rfl rfl rfl rfl ?_
      refine Sp.step rfl rfl rfl rfl ?_
      refine Sp.step rfl rfl rfl (mg_I (f := 89) rfl rfl rfl) ?_
      refine Sp.step rfl rfl rfl rfl ?_
      refine Sp.step rfl rfl rfl rfl ?_
      refine Sp.step rfl rfl rfl (mp_I (f := 89) rfl rfl rfl rfl) ?_
      refine Sp.step rfl rfl rfl rfl ?_
      refine Sp.step rfl rfl rfl rfl ?_
      refine Sp.if2 rfl rfl rfl rfl (fun e8 => ?_) (fun e8 => ?_)
      · refine Sp.step rfl rfl rfl rfl ?_
        refine Sp.step rfl rfl rfl rfl ?_
        refine Sp.if2 rfl rfl rfl rfl (fun e9 => ?_) (fun e9 => ?_)
        · refine Sp.step rfl rfl rfl rfl ?_
          refine Sp.step rfl rfl rfl (mg_F (f := 69) rfl rfl rfl rfl) ?_
          refine Sp.step rfl rfl rfl rfl ?_
          refine Sp.step rfl rfl rfl (mg_I (f := 89) rfl rfl rfl) ?_
          refine Sp.step rfl rfl rfl rfl ?_
          refine Sp.guard (fun e10 => ?_)
          refine Sp.step rfl rfl rfl (mld rfl rfl (by decide) e10) ?_
          refine Sp.step rfl rfl rfl rfl ?_
          refine Sp.step rfl rfl rfl rfl ?_
          refine Sp.step rfl rfl rfl (mst rfl rfl (by decide) e10) ?_
          exact Sp.vret rfl rfl rfl (fun _ _ h => h)
        · refine Sp.step rfl rfl rfl rfl ?_
          refine Sp.step rfl rfl rfl rfl ?_
          refine Sp.call rfl rfl rfl (mrecv (by decide) (by decide +kernel)) s_M_putRef (fun x12 => ⟨_, _, ⟨rfl, rfl⟩, ?_⟩)
          refine Sp.id (pc := 77) (l := [some (.ref 60), some (.int x), some (.int y), some (.int x3.1)]) (st := []) (h := hS X x12) ?_
          refine Sp.step rfl rfl rfl rfl ?_
          refine Sp.step rfl rfl rfl (mg_F (f := 69) rfl rfl rfl rfl) ?_
          refine Sp.step rfl rfl rfl rfl ?_
          refine Sp.step rfl rfl rfl (mg_I (f := 89) rfl rfl rfl) ?_
          refine Sp.step rfl rfl rfl rfl ?_
          refine Sp.guard (fun e13 => ?_)
          refine Sp.step rfl rfl rfl (mld rfl rfl (by decide) e13) ?_
          refine Sp.step rfl rfl rfl rfl ?_
          refine Sp.step rfl rfl rfl rfl ?_
          refine Sp.step rfl rfl rfl (mst rfl rfl (by decide) e13) ?_
          exact Sp.vret rfl rfl rfl (fun _ _ h => h)
      · refine Sp.step rfl rfl rfl rfl ?_
        refine Sp.step rfl rfl rfl rfl ?_
        refine Sp.call rfl rfl rfl (mrecv (by decide) (by decide +kernel)) s_M_putInt (fun x15 => ⟨_, _, ⟨rfl, rfl⟩, ?_⟩)
        refine Sp.id (pc := 63) (l := [some (.ref 60), some (.int x), some (.int y), some (.int x3.1)]) (st := []) (h := hS X x15) ?_
        refine Sp.step rfl rfl rfl rfl ?_
        refine Sp.step rfl rfl rfl rfl ?_
        refine Sp.step rfl rfl rfl (mg_F (f := 69) rfl rfl rfl rfl) ?_
        refine Sp.step rfl rfl rfl rfl ?_
        refine Sp.step rfl rfl rfl (mg_I (f := 89) rfl rfl rfl) ?_
        refine Sp.step rfl rfl rfl rfl ?_
        refine Sp.guard (fun e16 => ?_)
        refine Sp.step rfl rfl rfl (mld rfl rfl (by decide) e16) ?_
        refine Sp.step rfl rfl rfl rfl ?_
        refine Sp.step rfl rfl rfl rfl ?_
        refine Sp.step rfl rfl rfl (mst rfl rfl (by decide) e16) ?_
        exact Sp.vret rfl rfl rfl (fun _ _ h => h)
    · refine Sp.step rfl rfl rfl rfl ?_
      refine Sp.step rfl rfl rfl (mg_F (f := 66) rfl rfl rfl rfl) ?_
      refine Sp.step rfl rfl rfl rfl ?_
      refine Sp.step rfl rfl rfl rfl ?_
      refine Sp.step rfl rfl rfl (mst rfl rfl (by decide) e4) ?_
      exact Sp.vret rfl rfl rfl (fun _ _ h => h)
def f_M_monitor (x : Int32) (y : Int32) (M : MS) : Option MS := ((f_M_takeValue M).bind fun x1 => (if ¬ x1.1 = 0 then (if ¬ y = 49 then (if ixo x1.1 1002 then (((if x1.2.1 125 x1.1.toNatClampNeg = 0 then some 8 else (if x1.2.1 124 x1.1.toNatClampNeg = x then some 0 else some 8)) : Option (Int32)).bind fun x7 => (lt (mw x1.2 60 90 x7) fun M8 => (if ¬ M8.1 60 90 = 0 then (lt (mw M8 125 x1.1.toNatClampNeg ((M8.1 125 x1.1.toNatClampNeg) - 0)) fun M10 => some M10) else (lt (mw M8 125 x1.1.toNatClampNeg ((M8.1 125 x1.1.toNatClampNeg) - 1)) fun M11 => some M11)))) else none) else (if ixo x1.1 1002 then (((if ¬ x1.2.1 125 x1.1.toNatClampNeg = 60000 then some 0 else some 8) : Option (Int32)).bind fun x14 => (lt (mw x1.2 60 90 x14) fun M15 => (lt (mw M15 124 x1.1.toNatClampNeg x) fun M16 => (if ¬ M16.1 60 90 = 0 then (lt (mw M16 125 x1.1.toNatClampNeg ((M16.1 125 x1.1.toNatClampNeg) + 0)) fun M18 => some M18) else (lt (mw M16 125 x1.1.toNatClampNeg ((M16.1 125 x1.1.toNatClampNeg) + 1)) fun M19 => some M19))))) else none)) else (lt (mw x1.2 60 90 1) fun M20 => some M20)))
set_option maxRecDepth 100000 in
set_option maxHeartbeats 4000000 in
theorem s_M_monitor {L : Nat} {xs : Nat → Int32} {X : XS} {M : MS} {x : Int32} {y : Int32} : Sp (mjOO L xs) 88 0 [some (.ref 60), some (.int x), some (.int y), none] [] (hS X M) (f_M_monitor x y M) (KVM X) := by
  unfold f_M_monitor
  refine Sp.step rfl rfl rfl rfl ?_
  refine Sp.call rfl rfl rfl (mrecv (by decide) (by decide +kernel)) s_M_takeValue (fun x1 => ⟨_, _, ⟨rfl, rfl⟩, ?_⟩)
  refine Sp.id (pc := 4) (l := [some (.ref 60), some (.int x), some (.int y), none]) (st := [.int x1.1]) (h := hS X x1.2) ?_
  refine Sp.step rfl rfl rfl rfl ?_
  refine Sp.step rfl rfl rfl rfl ?_
  refine Sp.if1 rfl rfl rfl rfl (fun e2 => ?_) (fun e2 => ?_)
  · refine Sp.step rfl rfl rfl rfl ?_
    refine Sp.step rfl rfl rfl rfl ?_
    refine Sp.if2 rfl rfl rfl rfl (fun e3 => ?_) (fun e3 => ?_)
    · refine Sp.step rfl rfl rfl rfl ?_
      refine Sp.step rfl rfl rfl rfl ?_
      refine Sp.step rfl rfl rfl (mg_F (f := 83) rfl rfl rfl rfl) ?_
      refine Sp.step rfl rfl rfl rfl ?_
      refine Sp.guard (fun e4 => ?_)
      refine Sp.step rfl rfl rfl (mld rfl rfl (by decide) e4) ?_
      refine Sp.piece (pe := 102) (mf := (fun (x7 : Int32) => [some (.ref 60), none, none, some (.int x1.1)])) (sf := (fun (x7 : Int32) => [.int x7, .ref 60])) (hf := (fun (x7 : Int32) => hS X x1.2)) ?_ (fun x7 => ?_)
      · refine Sp.if1 rfl rfl rfl rfl (fun e5 => ?_) (fun e5 => ?_)
        · refine Sp.step rfl rfl rfl rfl ?_
          refine Sp.step rfl rfl rfl rfl ?_
          exact Sp.jmp (l0 := [some (.ref 60), none, none, some (.int x1.1)]) ⟨rfl, rfl, trivial⟩ (fun _ _ h => h)
        · refine Sp.step rfl rfl rfl rfl ?_
          refine Sp.step rfl rfl rfl (mg_F (f := 82) rfl rfl rfl rfl) ?_
          refine Sp.step rfl rfl rfl rfl ?_
          refine Sp.step rfl rfl rfl (mld rfl rfl (by decide) e4) ?_
          refine Sp.step rfl rfl rfl rfl ?_
          refine Sp.if2 rfl rfl rfl rfl (fun e6 => ?_) (fun e6 => ?_)
          · refine Sp.step rfl rfl rfl rfl ?_
            exact Sp.jmp (l0 := [some (.ref 60), none, none, some (.int x1.1)]) ⟨rfl, rfl, trivial⟩ (fun _ _ h => h)
          · refine Sp.step rfl rfl rfl rfl ?_
            refine Sp.step rfl rfl rfl rfl ?_
            exact Sp.jmp (l0 := [some (.ref 60), none, none, some (.int x1.1)]) ⟨rfl, rfl, trivial⟩ (fun _ _ h => h)
      · refine Sp.step rfl rfl rfl (mp_I (f := 90) rfl rfl rfl rfl) ?_
        refine Sp.step rfl rfl rfl rfl ?_
        refine Sp.step rfl rfl rfl (mg_F (f := 83) rfl rfl rfl rfl) ?_
        refine Sp.step rfl rfl rfl rfl ?_
        refine Sp.step rfl rfl rfl rfl ?_
        refine Sp.step rfl rfl rfl (mld rfl rfl (by decide) e4) ?_
        refine Sp.step rfl rfl rfl rfl ?_
        refine Sp.step rfl rfl rfl (mg_I (f := 90) rfl rfl rfl) ?_
        refine Sp.if1 rfl rfl rfl rfl (fun e9 => ?_) (fun e9 => ?_)
        · refine Sp.step rfl rfl rfl rfl ?_
          refine Sp.step rfl rfl rfl rfl ?_
          refine Sp.step rfl rfl rfl (mst rfl rfl (by decide) e4) ?_
          exact Sp.vret rfl rfl rfl (fun _ _ h => h)
        · refine Sp.step rfl rfl rfl rfl ?_
          refine Sp.step rfl rfl rfl rfl ?_
          refine Sp.step rfl rfl rfl rfl ?_
          refine Sp.step rfl rfl rfl (mst rfl rfl (by decide) e4) ?_
          exact Sp.vret rfl rfl rfl (fun _ _ h => h)
    · refine Sp.step rfl rfl rfl rfl ?_
      refine Sp.step rfl rfl rfl rfl ?_
      refine Sp.step rfl rfl rfl (mg_F (f := 83) rfl rfl rfl rfl) ?_
      refine Sp.step rfl rfl rfl rfl ?_
      refine Sp.guard (fun e12 => ?_)
      refine Sp.step rfl rfl rfl (mld rfl rfl (by decide) e12) ?_
      refine Sp.step rfl rfl rfl rfl ?_
      refine Sp.piece (pe := 42) (mf := (fun (x14 : Int32) => [some (.ref 60), some (.int x), none, some (.int x1.1)])) (sf := (fun (x14 : Int32) => [.int x14, .ref 60])) (hf := (fun (x14 : Int32) => hS X x1.2)) ?_ (fun x14 => ?_)
      · refine Sp.if2 rfl rfl rfl rfl (fun e13 => ?_) (fun e13 => ?_)
        · refine Sp.step rfl rfl rfl rfl ?_
          exact Sp.jmp (l0 := [some (.ref 60), some (.int x), none, some (.int x1.1)]) ⟨rfl, rfl, rfl, trivial⟩ (fun _ _ h => h)
        · refine Sp.step rfl rfl rfl rfl ?_
          refine Sp.step rfl rfl rfl rfl ?_
          exact Sp.jmp (l0 := [some (.ref 60), some (.int x), none, some (.int x1.1)]) ⟨rfl, rfl, rfl, trivial⟩ (fun _ _ h => h)
      · refine Sp.step rfl rfl rfl (mp_I (f := 90) rfl rfl rfl rfl) ?_
        refine Sp.step rfl rfl rfl rfl ?_
        refine Sp.step rfl rfl rfl (mg_F (f := 82) rfl rfl rfl rfl) ?_
        refine Sp.step rfl rfl rfl rfl ?_
        refine Sp.step rfl rfl rfl rfl ?_
        refine Sp.step rfl rfl rfl (mst rfl rfl (by decide) e12) ?_
        refine Sp.step rfl rfl rfl rfl ?_
        refine Sp.step rfl rfl rfl (mg_F (f := 83) rfl rfl rfl rfl) ?_
        refine Sp.step rfl rfl rfl rfl ?_
        refine Sp.step rfl rfl rfl rfl ?_
        refine Sp.step rfl rfl rfl (mld rfl rfl (by decide) e12) ?_
        refine Sp.step rfl rfl rfl rfl ?_
        refine Sp.step rfl rfl rfl (mg_I (f := 90) rfl rfl rfl) ?_
        refine Sp.if1 rfl rfl rfl rfl (fun e17 => ?_) (fun e17 => ?_)
        · refine Sp.step rfl rfl rfl rfl ?_
          refine Sp.step rfl rfl rfl rfl ?_
          refine Sp.step rfl rfl rfl (mst rfl rfl (by decide) e12) ?_
          refine Sp.step rfl rfl rfl rfl ?_
          exact Sp.vret rfl rfl rfl (fun _ _ h => h)
        · refine Sp.step rfl rfl rfl rfl ?_
          refine Sp.step rfl rfl rfl rfl ?_
          refine Sp.step rfl rfl rfl rfl ?_
          refine Sp.step rfl rfl rfl (mst rfl rfl (by decide) e12) ?_
          refine Sp.step rfl rfl rfl rfl ?_
          exact Sp.vret rfl rfl rfl (fun _ _ h => h)
  · refine Sp.step rfl rfl rfl rfl ?_
    refine Sp.step rfl rfl rfl rfl ?_
    refine Sp.step rfl rfl rfl (mp_I (f := 90) rfl rfl rfl rfl) ?_
    refine Sp.step rfl rfl rfl rfl ?_
    exact Sp.vret rfl rfl rfl (fun _ _ h => h)
def f_M_statics (x : Int32) (y : Int32) (M : MS) : Option MS := (if ¬ x = 52 then (if ¬ x = 53 then (if ¬ x = 54 then ((f_M_takeValue M).bind fun x4 => (if ixo y 8 then (lt (mw x4.2 118 y.toNatClampNeg x4.1) fun M6 => some M6) else none)) else (if ixo y 8 then ((f_M_putRef (M.1 118 y.toNatClampNeg) M).bind fun x8 => some x8) else none)) else ((f_M_takeValue M).bind fun x9 => (if ixo y 8 then (lt (mw x9.2 117 y.toNatClampNeg x9.1) fun M11 => some M11) else none))) else (if ixo y 8 then ((f_M_putInt (M.1 117 y.toNatClampNeg) M).bind fun x13 => some x13) else none))
set_option maxRecDepth 100000 in
set_option maxHeartbeats 4000000 in
theorem s_M_statics {L : Nat} {xs : Nat → Int32} {X : XS} {M : MS} {x : Int32} {y : Int32} : Sp (mjOO L xs) 91 0 [some (.ref 60), some (.int x), some (.int y)] [] (hS X M) (f_M_statics x y M) (KVM X) := by
  unfold f_M_statics
  refine Sp.step rfl rfl rfl rfl ?_
  refine Sp.step rfl rfl rfl rfl ?_
  refine Sp.if2 rfl rfl rfl rfl (fun e1 => ?_) (fun e1 => ?_)
  · refine Sp.step rfl rfl rfl rfl ?_
    refine Sp.step rfl rfl rfl rfl ?_
    refine Sp.if2 rfl rfl rfl rfl (fun e2 => ?_) (fun e2 => ?_)
    · refine Sp.step rfl rfl rfl rfl ?_
      refine Sp.step rfl rfl rfl rfl ?_
      refine Sp.if2 rfl rfl rfl rfl (fun e3 => ?_) (fun e3 => ?_)
      · refine Sp.step rfl rfl rfl rfl ?_
        refine Sp.step rfl rfl rfl (mg_F (f := 74) rfl rfl rfl rfl) ?_
        refine Sp.step rfl rfl rfl rfl ?_
        refine Sp.step rfl rfl rfl rfl ?_
        refine Sp.call rfl rfl rfl (mrecv (by decide) (by decide +kernel)) s_M_takeValue (fun x4 => ⟨_, _, ⟨rfl, rfl⟩, ?_⟩)
        refine Sp.id (pc := 66) (l := [some (.ref 60), some (.int x), some (.int y)]) (st := [.int x4.1, .int y, .ref 118]) (h := hS X x4.2) ?_
        refine Sp.guard (fun e5 => ?_)
        refine Sp.step rfl rfl rfl (mst rfl rfl (by decide) e5) ?_
        exact Sp.vret rfl rfl rfl (fun _ _ h => h)
      · refine Sp.step rfl rfl rfl rfl ?_
        refine Sp.step rfl rfl rfl rfl ?_
        refine Sp.step rfl rfl rfl (mg_F (f := 74) rfl rfl rfl rfl) ?_
        refine Sp.step rfl rfl rfl rfl ?_
        refine Sp.guard (fun e7 => ?_)
        refine Sp.step rfl rfl rfl (mld rfl rfl (by decide) e7) ?_
        refine Sp.call rfl rfl rfl (mrecv (by decide) (by decide +kernel)) s_M_putRef (fun x8 => ⟨_, _, ⟨rfl, rfl⟩, ?_⟩)
        refine Sp.id (pc := 54) (l := [some (.ref 60), some (.int x), some (.int y)]) (st := []) (h := hS X x8) ?_
        refine Sp.step rfl rfl rfl rfl ?_
        exact Sp.vret rfl rfl rfl (fun _ _ h => h)
    · refine Sp.step rfl rfl rfl rfl ?_
      refine Sp.step rfl rfl rfl (mg_F (f := 73) rfl rfl rfl rfl) ?_
      refine Sp.step rfl rfl rfl rfl ?_
      refine Sp.step rfl rfl rfl rfl ?_
      refine Sp.call rfl rfl rfl (mrecv (by decide) (by decide +kernel)) s_M_takeValue (fun x9 => ⟨_, _, ⟨rfl, rfl⟩, ?_⟩)
      refine Sp.id (pc := 34) (l := [some (.ref 60), some (.int x), some (.int y)]) (st := [.int x9.1, .int y, .ref 117]) (h := hS X x9.2) ?_
      refine Sp.guard (fun e10 => ?_)
      refine Sp.step rfl rfl rfl (mst rfl rfl (by decide) e10) ?_
      refine Sp.step rfl rfl rfl rfl ?_
      exact Sp.vret rfl rfl rfl (fun _ _ h => h)
  · refine Sp.step rfl rfl rfl rfl ?_
    refine Sp.step rfl rfl rfl rfl ?_
    refine Sp.step rfl rfl rfl (mg_F (f := 73) rfl rfl rfl rfl) ?_
    refine Sp.step rfl rfl rfl rfl ?_
    refine Sp.guard (fun e12 => ?_)
    refine Sp.step rfl rfl rfl (mld rfl rfl (by decide) e12) ?_
    refine Sp.call rfl rfl rfl (mrecv (by decide) (by decide +kernel)) s_M_putInt (fun x13 => ⟨_, _, ⟨rfl, rfl⟩, ?_⟩)
    refine Sp.id (pc := 16) (l := [some (.ref 60), some (.int x), some (.int y)]) (st := []) (h := hS X x13) ?_
    refine Sp.step rfl rfl rfl rfl ?_
    exact Sp.vret rfl rfl rfl (fun _ _ h => h)
def b624_M_others (x120 : (Int32 × MS)) : Option ((Int32 × MS) ⊕ (Int32 × MS)) := (if x120.2.1 60 76 ≤ x120.1 then some (.inr (x120.1, x120.2)) else (if ixo x120.1 100 then (if ixo (x120.1 - 1) 100 then (lt (mw x120.2 119 (x120.1 - 1).toNatClampNeg (x120.2.1 119 x120.1.toNatClampNeg)) fun M124 => some (.inl (x120.1 + 1, M124))) else none) else none))
def f_M_others (x : Int32) (y : Int32) (M : MS) : Option MS := (if x = 1 then ((f_M_putInt y M).bind fun x2 => some x2) else (if x = 2 then ((f_M_topAt M).bind fun x4 => (if ixo ((22 * (M.1 60 89)) + y) 2640 then (if ixo x4 2640 then (lt (mw M 115 x4.toNatClampNeg (M.1 115 ((22 * (M.1 60 89)) + y).toNatClampNeg)) fun M7 => ((f_M_topAt M7).bind fun x8 => (if ixo x8 2640 then (lt (mw M7 116 x8.toNatClampNeg (vp_nar .boolean (M7.1 116 ((22 * (M.1 60 89)) + y).toNatClampNeg))) fun M10 => (if ixo (M10.1 60 89) 120 then (lt (mw M10 114 (M10.1 60 89).toNatClampNeg ((M10.1 114 (M10.1 60 89).toNatClampNeg) + 1)) fun M12 => some M12) else none)) else none))) else none) else none)) else (if x = 3 then ((f_M_topAt M).bind fun x14 => (if ixo (x14 - 1) 2640 then (if ixo ((22 * (M.1 60 89)) + y) 2640 then (lt (mw M 116 ((22 * (M.1 60 89)) + y).toNatClampNeg (vp_nar .boolean (M.1 116 (x14 - 1).toNatClampNeg))) fun M17 => ((f_M_takeValue M17).bind fun x18 => (if ixo ((22 * (M.1 60 89)) + y) 2640 then (lt (mw x18.2 115 ((22 * (M.1 60 89)) + y).toNatClampNeg x18.1) fun M20 => some M20) else none))) else none) else none)) else (if x = 4 then some M else (if x = 5 then some M else (if x = 6 then some M else (if x = 7 then some M else (if x = 8 then some M else (if x = 9 then some M else (if x = 10 then some M else (if x = 11 then some M else (if x = 12 then some M else (if x = 13 then some M else (if x = 14 then some M else (if x = 15 then some M else (if x = 16 then ((f_M_topAt M).bind fun x34 => ((f_M_topAt M).bind fun x35 => (if ixo (x35 - 1) 2640 then (if ixo x34 2640 then (lt (mw M 115 x34.toNatClampNeg (M.1 115 (x35 - 1).toNatClampNeg)) fun M38 => ((f_M_topAt M38).bind fun x39 => ((f_M_topAt M38).bind fun x40 => (if ixo (x40 - 1) 2640 then (if ixo x39 2640 then (lt (mw M38 116 x39.toNatClampNeg (vp_nar .boolean (M38.1 116 (x40 - 1).toNatClampNeg))) fun M43 => (if ixo (M43.1 60 89) 120 then (lt (mw M43 114 (M43.1 60 89).toNatClampNeg ((M43.1 114 (M43.1 60 89).toNatClampNeg) + 1)) fun M45 => some M45) else none)) else none) else none)))) else none) else none))) else (if x = 17 then ((f_M_takeValue M).bind fun x47 => some x47.2) else (if x = 18 then ((f_M_topAt M).bind fun x49 => (if ixo (x49 - 1) 2640 then (if ixo (x49 - 2) 2640 then (lt (mw M 115 (x49 - 1).toNatClampNeg (M.1 115 (x49 - 2).toNatClampNeg)) fun M52 => (lt (mw M52 116 (x49 - 1).toNatClampNeg (vp_nar .boolean (M52.1 116 (x49 - 2).toNatClampNeg))) fun M53 => (lt (mw M53 115 (x49 - 2).toNatClampNeg (M.1 115 (x49 - 1).toNatClampNeg)) fun M54 => (lt (mw M54 116 (x49 - 2).toNatClampNeg (vp_nar .boolean (M.1 116 (x49 - 1).toNatClampNeg))) fun M55 => some M55)))) else none) else none)) else (if x = 19 then some M else (if x = 20 then some M else (if x = 21 then some M else (if x = 22 then some M else (if x = 23 then some M else (if x = 24 then some M else (if x = 25 then some M else (if x = 26 then ((f_M_make y 0 M).bind fun x64 => (if ¬ x64.2.1 60 90 = 0 then some x64.2 else ((f_M_putRef x64.1 x64.2).bind fun x66 => some x66))) else (if x = 27 then some M else (if x = 28 then some M else (if x = 29 then some M else (if x = 30 then some M else (if x = 31 then some M else (if x = 32 then some M else (if x = 33 then some M else (if x = 34 then some M else (if x = 35 then some M else (if x = 36 then some M else (if x = 37 then some M else (if x = 38 then some M else (if x = 39 then some M else (if x = 40 then some M else (if x = 41 then some M else (if x = 42 then some M else (if x = 43 then ((f_M_takeValue M).bind fun x84 => (lt (mw x84.2 60 91 x84.1) fun M85 => (if ¬ M85.1 60 91 = 0 then (lt (mw M85 60 90 10) fun M87 => some M87) else (lt (mw M85 60 90 1) fun M88 => some M88)))) else (if x = 44 then ((f_M_takeValue M).bind fun x90 => (if x90.1 ≤ 0 then ((f_M_putInt 0 x90.2).bind fun x92 => some x92) else (if ixo x90.1 1002 then (if 10 ≤ x90.2.1 121 x90.1.toNatClampNeg then ((f_M_putInt 0 x90.2).bind fun x95 => some x95) else ((f_M_isBelow (x90.2.1 121 x90.1.toNatClampNeg) y x90.2).bind fun x96 => (if x96 = true then ((f_M_putInt 1 x90.2).bind fun x99 => some x99) else ((f_M_putInt 0 x90.2).bind fun x101 => some x101)))) else none))) else (if x = 45 then ((f_M_putRef 0 M).bind fun x103 => some x103) else (if x = 46 then ((f_M_takeValue M).bind fun x105 => (if 300 ≤ x105.2.1 60 78 then (lt (mw x105.2 60 78 ((x105.2.1 60 78) + 1)) fun M107 => some M107) else (if ixo (x105.2.1 60 78) 300 then (lt (mw x105.2 120 (x105.2.1 60 78).toNatClampNeg x105.1) fun M109 => (lt (mw M109 60 78 ((M109.1 60 78) + 1)) fun M110 => some M110)) else none))) else (if x = 47 then (((if M.1 60 76 ≤ 0 then some 0 else some (M.1 119 0)) : Option (Int32)).bind fun x113 => ((f_M_putInt x113 M).bind fun x114 => ((lp (b624_M_others) 10000 ((1 : Int32), x114)).bind fun x125 => (if x125.2.1 60 76 ≤ 0 then (lt (mw x125.2 60 76 0) fun M127 => some M127) else (lt (mw x125.2 60 76 ((x125.2.1 60 76) - 1)) fun M128 => some M128))))) else some M)))))))))))))))))))))))))))))))))))))))))))))))
set_option maxRecDepth 100000 in
set_option maxHeartbeats 4000000 in
theorem s_M_others {L : Nat} {xs : Nat → Int32} {X : XS} {M : MS} {x : Int32} {y : Int32} : Sp (mjOO L xs) 92 0 [some (.ref 60), some (.int x), some (.int y), none, none, none, none, none, none, none, none, none] [] (hS X M) (f_M_others x y M) (KVM X) := by
  unfold f_M_others
  refine Sp.step rfl rfl rfl rfl ?_
  refine Sp.step rfl rfl rfl rfl ?_
  refine Sp.step rfl rfl rfl (mg_I (f := 89) rfl rfl rfl) ?_
  refine Sp.step rfl rfl rfl rfl ?_
  refine Sp.step rfl rfl rfl rfl ?_
  refine Sp.step rfl rfl rfl rfl ?_
  refine Sp.step rfl rfl rfl rfl ?_
  refine Sp.step rfl rfl rfl rfl ?_
  refine Sp.ite (fun e1 => ?_) (fun e1 => ?_)
  · refine Sp.step rfl rfl rfl (go_sw (t := 212) (sw_of e1 rfl)) ?_
    refine Sp.step rfl rfl rfl rfl ?_
    refine Sp.step rfl rfl rfl rfl ?_
    refine Sp.call rfl rfl rfl (mrecv (by decide) (by decide +kernel)) s_M_putInt (fun x2 => ⟨_, _, ⟨rfl, rfl⟩, ?_⟩)
    refine Sp.id (pc := 217) (l := [some (.ref 60), some (.int x), some (.int y), some (.int ((22 * (M.1 60 89)) + y)), none, none, none, none, none, none, none, none]) (st := []) (h := hS X x2) ?_
    refine Sp.step rfl rfl rfl rfl ?_
    exact Sp.vret rfl rfl rfl (fun _ _ h => h)
  · refine Sp.ite (fun e3 => ?_) (fun e3 => ?_)
    · refine Sp.step rfl rfl rfl (go_sw (t := 220) (sw_of e3 rfl)) ?_
      refine Sp.step rfl rfl rfl rfl ?_
      refine Sp.step rfl rfl rfl (mg_F (f := 71) rfl rfl rfl rfl) ?_
      refine Sp.step rfl rfl rfl rfl ?_
      refine Sp.call rfl rfl rfl (mrecv (by decide) (by decide +kernel)) s_M_topAt (fun x4 => ⟨_, _, ⟨rfl, rfl⟩, ?_⟩)
      refine Sp.id (pc := 228) (l := [some (.ref 60), some (.int x), some (.int y), some (.int ((22 * (M.1 60 89)) + y)), none, none, none, none, none, none, none, none]) (st := [.int x4, .ref 115]) (h := hS X M) ?_
      refine Sp.step rfl rfl rfl rfl ?_
      refine Sp.step rfl rfl rfl (mg_F (f := 71) rfl rfl rfl rfl) ?_
      refine Sp.step rfl rfl rfl rfl ?_
      refine Sp.guard (fun e5 => ?_)
      refine Sp.step rfl rfl rfl (mld rfl rfl (by decide) e5) ?_
      refine Sp.guard (fun e6 => ?_)
      refine Sp.step rfl rfl rfl (mst rfl rfl (by decide) e6) ?_
      refine Sp.step rfl rfl rfl rfl ?_
      refine Sp.step rfl rfl rfl (mg_F (f := 72) rfl rfl rfl rfl) ?_
      refine Sp.step rfl rfl rfl rfl ?_
      refine Sp.call rfl rfl rfl (mrecv (by decide) (by decide +kernel)) s_M_topAt (fun x8 => ⟨_, _, ⟨rfl, rfl⟩, ?_⟩)
      refine Sp.id (pc := 243) (l := [some (.ref 60), some (.int x), some (.int y), some (.int ((22 * (M.1 60 89)) + y)), none, none, none, none, none, none, none, none]) (st := [.int x8, .ref 116]) (h := hS X (mw M 115 x4.toNatClampNeg (M.1 115 ((22 * (M.1 60 89)) + y).toNatClampNeg))) ?_
      refine Sp.step rfl rfl rfl rfl ?_
      refine Sp.step rfl rfl rfl (mg_F (f := 72) rfl rfl rfl rfl) ?_
      refine Sp.step rfl rfl rfl rfl ?_
      refine Sp.step rfl rfl rfl (mld rfl rfl (by decide) e5) ?_
      refine Sp.guard (fun e9 => ?_)
      refine Sp.step rfl rfl rfl (mst rfl rfl (by decide) e9) ?_
      refine Sp.step rfl rfl rfl rfl ?_
      refine Sp.step rfl rfl rfl (mg_F (f := 70) rfl rfl rfl rfl) ?_
      refine Sp.step rfl rfl rfl rfl ?_
      refine Sp.step rfl rfl rfl (mg_I (f := 89) rfl rfl rfl) ?_
      refine Sp.step rfl rfl rfl rfl ?_
      refine Sp.guard (fun e11 => ?_)
      refine Sp.step rfl rfl rfl (mld rfl rfl (by decide) e11) ?_
      refine Sp.step rfl rfl rfl rfl ?_
      refine Sp.step rfl rfl rfl rfl ?_
      refine Sp.step rfl rfl rfl (mst rfl rfl (by decide) e11) ?_
      refine Sp.step rfl rfl rfl rfl ?_
      exact Sp.vret rfl rfl rfl (fun _ _ h => h)
    · refine Sp.ite (fun e13 => ?_) (fun e13 => ?_)
      · refine Sp.step rfl rfl rfl (go_sw (t := 266) (sw_of e13 rfl)) ?_
        refine Sp.step rfl rfl rfl rfl ?_
        refine Sp.step rfl rfl rfl (mg_F (f := 72) rfl rfl rfl rfl) ?_
        refine Sp.step rfl rfl rfl rfl ?_
        refine Sp.step rfl rfl rfl rfl ?_
        refine Sp.step rfl rfl rfl (mg_F (f := 72) rfl rfl rfl rfl) ?_
        refine Sp.step rfl rfl rfl rfl ?_
        refine Sp.call rfl rfl rfl (mrecv (by decide) (by decide +kernel)) s_M_topAt (fun x14 => ⟨_, _, ⟨rfl, rfl⟩, ?_⟩)
        refine Sp.id (pc := 279) (l := [some (.ref 60), some (.int x), some (.int y), some (.int ((22 * (M.1 60 89)) + y)), none, none, none, none, none, none, none, none]) (st := [.int x14, .ref 116, .int ((22 * (M.1 60 89)) + y), .ref 116]) (h := hS X M) ?_
        refine Sp.step rfl rfl rfl rfl ?_
        refine Sp.step rfl rfl rfl rfl ?_
        refine Sp.guard (fun e15 => ?_)
        refine Sp.step rfl rfl rfl (mld rfl rfl (by decide) e15) ?_
        refine Sp.guard (fun e16 => ?_)
        refine Sp.step rfl rfl rfl (mst rfl rfl (by decide) e16) ?_
        refine Sp.step rfl rfl rfl rfl ?_
        refine Sp.step rfl rfl rfl (mg_F (f := 71) rfl rfl rfl rfl) ?_
        refine Sp.step rfl rfl rfl rfl ?_
        refine Sp.step rfl rfl rfl rfl ?_
        refine Sp.call rfl rfl rfl (mrecv (by decide) (by decide +kernel)) s_M_takeValue (fun x18 => ⟨_, _, ⟨rfl, rfl⟩, ?_⟩)
        refine Sp.id (pc := 292) (l := [some (.ref 60), some (.int x), some (.int y), some (.int ((22 * (M.1 60 89)) + y)), none, none, none, none, none, none, none, none]) (st := [.int x18.1, .int ((22 * (M.1 60 89)) + y), .ref 115]) (h := hS X x18.2) ?_
        refine Sp.guard (fun e19 => ?_)
        refine Sp.step rfl rfl rfl (mst rfl rfl (by decide) e19) ?_
        refine Sp.step rfl rfl rfl rfl ?_
        exact Sp.vret rfl rfl rfl (fun _ _ h => h)
      · refine Sp.ite (fun e21 => ?_) (fun e21 => ?_)
        · refine Sp.step rfl rfl rfl (go_sw (t := 679) (sw_of e21 rfl)) ?_
          exact Sp.vret rfl rfl rfl (fun _ _ h => h)
        · refine Sp.ite (fun e22 => ?_) (fun e22 => ?_)
          · refine Sp.step rfl rfl rfl (go_sw (t := 679) (sw_of e22 rfl)) ?_
            exact Sp.vret rfl rfl rfl (fun _ _ h => h)
          · refine Sp.ite (fun e23 => ?_) (fun e23 => ?_)
            · refine Sp.step rfl rfl rfl (go_sw (t := 679) (sw_of e23 rfl)) ?_
              exact Sp.vret rfl rfl rfl (fun _ _ h => h)
            · refine Sp.ite (fun e24 => ?_) (fun e24 => ?_)
              · refine Sp.step rfl rfl rfl (go_sw (t := 679) (sw_of e24 rfl)) ?_
                exact Sp.vret rfl rfl rfl (fun _ _ h => h)
              · refine Sp.ite (fun e25 => ?_) (fun e25 => ?_)
                · refine Sp.step rfl rfl rfl (go_sw (t := 679) (sw_of e25 rfl)) ?_
                  exact Sp.vret rfl rfl rfl (fun _ _ h => h)
                · refine Sp.ite (fun e26 => ?_) (fun e26 => ?_)
                  · refine Sp.step rfl rfl rfl (go_sw (t := 679) (sw_of e26 rfl)) ?_
                    exact Sp.vret rfl rfl rfl (fun _ _ h => h)
                  · refine Sp.ite (fun e27 => ?_) (fun e27 => ?_)
                    · refine Sp.step rfl rfl rfl (go_sw (t := 679) (sw_of e27 rfl)) ?_
                      exact Sp.vret rfl rfl rfl (fun _ _ h => h)
                    · refine Sp.ite (fun e28 => ?_) (fun e28 => ?_)
                      · refine Sp.step rfl rfl rfl (go_sw (t := 679) (sw_of e28 rfl)) ?_
                        exact Sp.vret rfl rfl rfl (fun _ _ h => h)
                      · refine Sp.ite (fun e29 => ?_) (fun e29 => ?_)
                        · refine Sp.step rfl rfl rfl (go_sw (t := 679) (sw_of e29 rfl)) ?_
                          exact Sp.vret rfl rfl rfl (fun _ _ h => h)
                        · refine Sp.ite (fun e30 => ?_) (fun e30 => ?_)
                          · refine Sp.step rfl rfl rfl (go_sw (t := 679) (sw_of e30 rfl)) ?_
                            exact Sp.vret rfl rfl rfl (fun _ _ h => h)
                          · refine Sp.ite (fun e31 => ?_) (fun e31 => ?_)
                            · refine Sp.step rfl rfl rfl (go_sw (t := 679) (sw_of e31 rfl)) ?_
                              exact Sp.vret rfl rfl rfl (fun _ _ h => h)
                            · refine Sp.ite (fun e32 => ?_) (fun e32 => ?_)
                              · refine Sp.step rfl rfl rfl (go_sw (t := 679) (sw_of e32 rfl)) ?_
                                exact Sp.vret rfl rfl rfl (fun _ _ h => h)
                              · refine Sp.ite (fun e33 => ?_) (fun e33 => ?_)
                                · refine Sp.step rfl rfl rfl (go_sw (t := 296) (sw_of e33 rfl)) ?_
                                  refine Sp.step rfl rfl rfl rfl ?_
                                  refine Sp.step rfl rfl rfl (mg_F (f := 71) rfl rfl rfl rfl) ?_
                                  refine Sp.step rfl rfl rfl rfl ?_
                                  refine Sp.call rfl rfl rfl (mrecv (by decide) (by decide +kernel)) s_M_topAt (fun x34 => ⟨_, _, ⟨rfl, rfl⟩, ?_⟩)
                                  refine Sp.id (pc := 304) (l := [some (.ref 60), some (.int x), some (.int y), some (.int ((22 * (M.1 60 89)) + y)), none, none, none, none, none, none, none, none]) (st := [.int x34, .ref 115]) (h := hS X M) ?_
                                  refine Sp.step rfl rfl rfl rfl ?_
                                  refine Sp.step rfl rfl rfl (mg_F (f := 71) rfl rfl rfl rfl) ?_
                                  refine Sp.step rfl rfl rfl rfl ?_
                                  refine Sp.call rfl rfl rfl (mrecv (by decide) (by decide +kernel)) s_M_topAt (fun x35 => ⟨_, _, ⟨rfl, rfl⟩, ?_⟩)
                                  refine Sp.id (pc := 312) (l := [some (.ref 60), some (.int x), some (.int y), some (.int ((22 * (M.1 60 89)) + y)), none, none, none, none, none, none, none, none]) (st := [.int x35, .ref 115, .int x34, .ref 115]) (h := hS X M) ?_
                                  refine Sp.step rfl rfl rfl rfl ?_
                                  refine Sp.step rfl rfl rfl rfl ?_
                                  refine Sp.guard (fun e36 => ?_)
                                  refine Sp.step rfl rfl rfl (mld rfl rfl (by decide) e36) ?_
                                  refine Sp.guard (fun e37 => ?_)
                                  refine Sp.step rfl rfl rfl (mst rfl rfl (by decide) e37) ?_
                                  refine Sp.step rfl rfl rfl rfl ?_
                                  refine Sp.step rfl rfl rfl (mg_F (f := 72) rfl rfl rfl rfl) ?_
                                  refine Sp.step rfl rfl rfl rfl ?_
                                  refine Sp.call rfl rfl rfl (mrecv (by decide) (by decide +kernel)) s_M_topAt (fun x39 => ⟨_, _, ⟨rfl, rfl⟩, ?_⟩)
                                  refine Sp.id (pc := 324) (l := [some (.ref 60), some (.int x), some (.int y), some (.int ((22 * (M.1 60 89)) + y)), none, none, none, none, none, none, none, none]) (st := [.int x39, .ref 116]) (h := hS X (mw M 115 x34.toNatClampNeg (M.1 115 (x35 - 1).toNatClampNeg))) ?_
                                  refine Sp.step rfl rfl rfl rfl ?_
                                  refine Sp.step rfl rfl rfl (mg_F (f := 72) rfl rfl rfl rfl) ?_
                                  refine Sp.step rfl rfl rfl rfl ?_
                                  refine Sp.call rfl rfl rfl (mrecv (by decide) (by decide +kernel)) s_M_topAt (fun x40 => ⟨_, _, ⟨rfl, rfl⟩, ?_⟩)
                                  refine Sp.id (pc := 332) (l := [some (.ref 60), some (.int x), some (.int y), some (.int ((22 * (M.1 60 89)) + y)), none, none, none, none, none, none, none, none]) (st := [.int x40, .ref 116, .int x39, .ref 116]) (h := hS X (mw M 115 x34.toNatClampNeg (M.1 115 (x35 - 1).toNatClampNeg))) ?_
                                  refine Sp.step rfl rfl rfl rfl ?_
                                  refine Sp.step rfl rfl rfl rfl ?_
                                  refine Sp.guard (fun e41 => ?_)
                                  refine Sp.step rfl rfl rfl (mld rfl rfl (by decide) e41) ?_
                                  refine Sp.guard (fun e42 => ?_)
                                  refine Sp.step rfl rfl rfl (mst rfl rfl (by decide) e42) ?_
                                  refine Sp.step rfl rfl rfl rfl ?_
                                  refine Sp.step rfl rfl rfl (mg_F (f := 70) rfl rfl rfl rfl) ?_
                                  refine Sp.step rfl rfl rfl rfl ?_
                                  refine Sp.step rfl rfl rfl (mg_I (f := 89) rfl rfl rfl) ?_
                                  refine Sp.step rfl rfl rfl rfl ?_
                                  refine Sp.guard (fun e44 => ?_)
                                  refine Sp.step rfl rfl rfl (mld rfl rfl (by decide) e44) ?_
                                  refine Sp.step rfl rfl rfl rfl ?_
                                  refine Sp.step rfl rfl rfl rfl ?_
                                  refine Sp.step rfl rfl rfl (mst rfl rfl (by decide) e44) ?_
                                  refine Sp.step rfl rfl rfl rfl ?_
                                  exact Sp.vret rfl rfl rfl (fun _ _ h => h)
                                · refine Sp.ite (fun e46 => ?_) (fun e46 => ?_)
                                  · refine Sp.step rfl rfl rfl (go_sw (t := 352) (sw_of e46 rfl)) ?_
                                    refine Sp.step rfl rfl rfl rfl ?_
                                    refine Sp.call rfl rfl rfl (mrecv (by decide) (by decide +kernel)) s_M_takeValue (fun x47 => ⟨_, _, ⟨rfl, rfl⟩, ?_⟩)
                                    refine Sp.id (pc := 356) (l := [some (.ref 60), some (.int x), some (.int y), some (.int ((22 * (M.1 60 89)) + y)), none, none, none, none, none, none, none, none]) (st := [.int x47.1]) (h := hS X x47.2) ?_
                                    refine Sp.step rfl rfl rfl rfl ?_
                                    refine Sp.step rfl rfl rfl rfl ?_
                                    exact Sp.vret rfl rfl rfl (fun _ _ h => h)
                                  · refine Sp.ite (fun e48 => ?_) (fun e48 => ?_)
                                    · refine Sp.step rfl rfl rfl (go_sw (t := 361) (sw_of e48 rfl)) ?_
                                      refine Sp.step rfl rfl rfl rfl ?_
                                      refine Sp.call rfl rfl rfl (mrecv (by decide) (by decide +kernel)) s_M_topAt (fun x49 => ⟨_, _, ⟨rfl, rfl⟩, ?_⟩)
                                      refine Sp.id (pc := 365) (l := [some (.ref 60), some (.int x), some (.int y), some (.int ((22 * (M.1 60 89)) + y)), none, none, none, none, none, none, none, none]) (st := [.int x49]) (h := hS X M) ?_
                                      refine Sp.step rfl rfl rfl rfl ?_
                                      refine Sp.step rfl rfl rfl rfl ?_
                                      refine Sp.step rfl rfl rfl (mg_F (f := 71) rfl rfl rfl rfl) ?_
                                      refine Sp.step rfl rfl rfl rfl ?_
                                      refine Sp.step rfl rfl rfl rfl ?_
                                      refine Sp.step rfl rfl rfl rfl ?_
                                      refine Sp.guard (fun e50 => ?_)
                                      refine Sp.step rfl rfl rfl (mld rfl rfl (by decide) e50) ?_
                                      refine Sp.step rfl rfl rfl rfl ?_
                                      refine Sp.step rfl rfl rfl rfl ?_
                                      refine Sp.step rfl rfl rfl (mg_F (f := 72) rfl rfl rfl rfl) ?_
                                      refine Sp.step rfl rfl rfl rfl ?_
                                      refine Sp.step rfl rfl rfl rfl ?_
                                      refine Sp.step rfl rfl rfl rfl ?_
                                      refine Sp.step rfl rfl rfl (mld rfl rfl (by decide) e50) ?_
                                      refine Sp.step rfl rfl rfl rfl ?_
                                      refine Sp.step rfl rfl rfl rfl ?_
                                      refine Sp.step rfl rfl rfl (mg_F (f := 71) rfl rfl rfl rfl) ?_
                                      refine Sp.step rfl rfl rfl rfl ?_
                                      refine Sp.step rfl rfl rfl rfl ?_
                                      refine Sp.step rfl rfl rfl rfl ?_
                                      refine Sp.step rfl rfl rfl rfl ?_
                                      refine Sp.step rfl rfl rfl (mg_F (f := 71) rfl rfl rfl rfl) ?_
                                      refine Sp.step rfl rfl rfl rfl ?_
                                      refine Sp.step rfl rfl rfl rfl ?_
                                      refine Sp.step rfl rfl rfl rfl ?_
                                      refine Sp.guard (fun e51 => ?_)
                                      refine Sp.step rfl rfl rfl (mld rfl rfl (by decide) e51) ?_
                                      refine Sp.step rfl rfl rfl (mst rfl rfl (by decide) e50) ?_
                                      refine Sp.step rfl rfl rfl rfl ?_
                                      refine Sp.step rfl rfl rfl (mg_F (f := 72) rfl rfl rfl rfl) ?_
                                      refine Sp.step rfl rfl rfl rfl ?_
                                      refine Sp.step rfl rfl rfl rfl ?_
                                      refine Sp.step rfl rfl rfl rfl ?_
                                      refine Sp.step rfl rfl rfl rfl ?_
                                      refine Sp.step rfl rfl rfl (mg_F (f := 72) rfl rfl rfl rfl) ?_
                                      refine Sp.step rfl rfl rfl rfl ?_
                                      refine Sp.step rfl rfl rfl rfl ?_
                                      refine Sp.step rfl rfl rfl rfl ?_
                                      refine Sp.step rfl rfl rfl (mld rfl rfl (by decide) e51) ?_
                                      refine Sp.step rfl rfl rfl (mst rfl rfl (by decide) e50) ?_
                                      refine Sp.step rfl rfl rfl rfl ?_
                                      refine Sp.step rfl rfl rfl (mg_F (f := 71) rfl rfl rfl rfl) ?_
                                      refine Sp.step rfl rfl rfl rfl ?_
                                      refine Sp.step rfl rfl rfl rfl ?_
                                      refine Sp.step rfl rfl rfl rfl ?_
                                      refine Sp.step rfl rfl rfl rfl ?_
                                      refine Sp.step rfl rfl rfl (mst rfl rfl (by decide) e51) ?_
                                      refine Sp.step rfl rfl rfl rfl ?_
                                      refine Sp.step rfl rfl rfl (mg_F (f := 72) rfl rfl rfl rfl) ?_
                                      refine Sp.step rfl rfl rfl rfl ?_
                                      refine Sp.step rfl rfl rfl rfl ?_
                                      refine Sp.step rfl rfl rfl rfl ?_
                                      refine Sp.step rfl rfl rfl rfl ?_
                                      refine Sp.step rfl rfl rfl (mst rfl rfl (by decide) e51) ?_
                                      refine Sp.step rfl rfl rfl rfl ?_
                                      exact Sp.vret rfl rfl rfl (fun _ _ h => h)
                                    · refine Sp.ite (fun e56 => ?_) (fun e56 => ?_)
                                      · refine Sp.step rfl rfl rfl (go_sw (t := 679) (sw_of e56 rfl)) ?_
                                        exact Sp.vret rfl rfl rfl (fun _ _ h => h)
                                      · refine Sp.ite (fun e57 => ?_) (fun e57 => ?_)
                                        · refine Sp.step rfl rfl rfl (go_sw (t := 679) (sw_of e57 rfl)) ?_
                                          exact Sp.vret rfl rfl rfl (fun _ _ h => h)
                                        · refine Sp.ite (fun e58 => ?_) (fun e58 => ?_)
                                          · refine Sp.step rfl rfl rfl (go_sw (t := 679) (sw_of e58 rfl)) ?_
                                            exact Sp.vret rfl rfl rfl (fun _ _ h => h)
                                          · refine Sp.ite (fun e59 => ?_) (fun e59 => ?_)
                                            · refine Sp.step rfl rfl rfl (go_sw (t := 679) (sw_of e59 rfl)) ?_
                                              exact Sp.vret rfl rfl rfl (fun _ _ h => h)
                                            · refine Sp.ite (fun e60 => ?_) (fun e60 => ?_)
                                              · refine Sp.step rfl rfl rfl (go_sw (t := 679) (sw_of e60 rfl)) ?_
                                                exact Sp.vret rfl rfl rfl (fun _ _ h => h)
                                              · refine Sp.ite (fun e61 => ?_) (fun e61 => ?_)
                                                · refine Sp.step rfl rfl rfl (go_sw (t := 679) (sw_of e61 rfl)) ?_
                                                  exact Sp.vret rfl rfl rfl (fun _ _ h => h)
                                                · refine Sp.ite (fun e62 => ?_) (fun e62 => ?_)
                                                  · refine Sp.step rfl rfl rfl (go_sw (t := 679) (sw_of e62 rfl)) ?_
                                                    exact Sp.vret rfl rfl rfl (fun _ _ h => h)
                                                  · refine Sp.ite (fun e63 => ?_) (fun e63 => ?_)
                                                    · refine Sp.step rfl rfl rfl (go_sw (t := 450) (sw_of e63 rfl)) ?_
                                                      refine Sp.step rfl rfl rfl rfl ?_
                                                      refine Sp.step rfl rfl rfl rfl ?_
                                                      refine Sp.step rfl rfl rfl rfl ?_
                                                      refine Sp.call rfl rfl rfl (mrecv (by decide) (by decide +kernel)) s_M_make (fun x64 => ⟨_, _, ⟨rfl, rfl⟩, ?_⟩)
                                                      refine Sp.id (pc := 456) (l := [some (.ref 60), some (.int x), some (.int y), some (.int ((22 * (M.1 60 89)) + y)), none, none, none, none, none, none, none, none]) (st := [.int x64.1]) (h := hS X x64.2) ?_
                                                      refine Sp.step rfl rfl rfl rfl ?_
                                                      refine Sp.step rfl rfl rfl rfl ?_
                                                      refine Sp.step rfl rfl rfl (mg_I (f := 90) rfl rfl rfl) ?_
                                                      refine Sp.if1 rfl rfl rfl rfl (fun e65 => ?_) (fun e65 => ?_)
                                                      · exact Sp.vret rfl rfl rfl (fun _ _ h => h)
                                                      · refine Sp.step rfl rfl rfl rfl ?_
                                                        refine Sp.step rfl rfl rfl rfl ?_
                                                        refine Sp.call rfl rfl rfl (mrecv (by decide) (by decide +kernel)) s_M_putRef (fun x66 => ⟨_, _, ⟨rfl, rfl⟩, ?_⟩)
                                                        refine Sp.id (pc := 471) (l := [some (.ref 60), some (.int x), some (.int y), some (.int ((22 * (M.1 60 89)) + y)), none, none, none, none, some (.int x64.1), none, none, none]) (st := []) (h := hS X x66) ?_
                                                        refine Sp.step rfl rfl rfl rfl ?_
                                                        exact Sp.vret rfl rfl rfl (fun _ _ h => h)
                                                    · refine Sp.ite (fun e67 => ?_) (fun e67 => ?_)
                                                      · refine Sp.step rfl rfl rfl (go_sw (t := 679) (sw_of e67 rfl)) ?_
                                                        exact Sp.vret rfl rfl rfl (fun _ _ h => h)
                                                      · refine Sp.ite (fun e68 => ?_) (fun e68 => ?_)
                                                        · refine Sp.step rfl rfl rfl (go_sw (t := 679) (sw_of e68 rfl)) ?_
                                                          exact Sp.vret rfl rfl rfl (fun _ _ h => h)
                                                        · refine Sp.ite (fun e69 => ?_) (fun e69 => ?_)
                                                          · refine Sp.step rfl rfl rfl (go_sw (t := 679) (sw_of e69 rfl)) ?_
                                                            exact Sp.vret rfl rfl rfl (fun _ _ h => h)
                                                          · refine Sp.ite (fun e70 => ?_) (fun e70 => ?_)
                                                            · refine Sp.step rfl rfl rfl (go_sw (t := 679) (sw_of e70 rfl)) ?_
                                                              exact Sp.vret rfl rfl rfl (fun _ _ h => h)
                                                            · refine Sp.ite (fun e71 => ?_) (fun e71 => ?_)
                                                              · refine Sp.step rfl rfl rfl (go_sw (t := 679) (sw_of e71 rfl)) ?_
                                                                exact Sp.vret rfl rfl rfl (fun _ _ h => h)
                                                              · refine Sp.ite (fun e72 => ?_) (fun e72 => ?_)
                                                                · refine Sp.step rfl rfl rfl (go_sw (t := 679) (sw_of e72 rfl)) ?_
                                                                  exact Sp.vret rfl rfl rfl (fun _ _ h => h)
                                                                · refine Sp.ite (fun e73 => ?_) (fun e73 => ?_)
                                                                  · refine Sp.step rfl rfl rfl (go_sw (t := 679) (sw_of e73 rfl)) ?_
                                                                    exact Sp.vret rfl rfl rfl (fun _ _ h => h)
                                                                  · refine Sp.ite (fun e74 => ?_) (fun e74 => ?_)
                                                                    · refine Sp.step rfl rfl rfl (go_sw (t := 679) (sw_of e74 rfl)) ?_
                                                                      exact Sp.vret rfl rfl rfl (fun _ _ h => h)
                                                                    · refine Sp.ite (fun e75 => ?_) (fun e75 => ?_)
                                                                      · refine Sp.step rfl rfl rfl (go_sw (t := 679) (sw_of e75 rfl)) ?_
                                                                        exact Sp.vret rfl rfl rfl (fun _ _ h => h)
                                                                      · refine Sp.ite (fun e76 => ?_) (fun e76 => ?_)
                                                                        · refine Sp.step rfl rfl rfl (go_sw (t := 679) (sw_of e76 rfl)) ?_
                                                                          exact Sp.vret rfl rfl rfl (fun _ _ h => h)
                                                                        · refine Sp.ite (fun e77 => ?_) (fun e77 => ?_)
                                                                          · refine Sp.step rfl rfl rfl (go_sw (t := 679) (sw_of e77 rfl)) ?_
                                                                            exact Sp.vret rfl rfl rfl (fun _ _ h => h)
                                                                          · refine Sp.ite (fun e78 => ?_) (fun e78 => ?_)
                                                                            · refine Sp.step rfl rfl rfl (go_sw (t := 679) (sw_of e78 rfl)) ?_
                                                                              exact Sp.vret rfl rfl rfl (fun _ _ h => h)
                                                                            · refine Sp.ite (fun e79 => ?_) (fun e79 => ?_)
                                                                              · refine Sp.step rfl rfl rfl (go_sw (t := 679) (sw_of e79 rfl)) ?_
                                                                                exact Sp.vret rfl rfl rfl (fun _ _ h => h)
                                                                              · refine Sp.ite (fun e80 => ?_) (fun e80 => ?_)
                                                                                · refine Sp.step rfl rfl rfl (go_sw (t := 679) (sw_of e80 rfl)) ?_
                                                                                  exact Sp.vret rfl rfl rfl (fun _ _ h => h)
                                                                                · refine Sp.ite (fun e81 => ?_) (fun e81 => ?_)
                                                                                  · refine Sp.step rfl rfl rfl (go_sw (t := 679) (sw_of e81 rfl)) ?_
                                                                                    exact Sp.vret rfl rfl rfl (fun _ _ h => h)
                                                                                  · refine Sp.ite (fun e82 => ?_) (fun e82 => ?_)
                                                                                    · refine Sp.step rfl rfl rfl (go_sw (t := 679) (sw_of e82 rfl)) ?_
                                                                                      exact Sp.vret rfl rfl rfl (fun _ _ h => h)
                                                                                    · refine Sp.ite (fun e83 => ?_) (fun e83 => ?_)
                                                                                      · refine Sp.step rfl rfl rfl (go_sw (t := 474) (sw_of e83 rfl)) ?_
                                                                                        refine Sp.step rfl rfl rfl rfl ?_
                                                                                        refine Sp.step rfl rfl rfl rfl ?_
                                                                                        refine Sp.call rfl rfl rfl (mrecv (by decide) (by decide +kernel)) s_M_takeValue (fun x84 => ⟨_, _, ⟨rfl, rfl⟩, ?_⟩)
                                                                                        refine Sp.id (pc := 479) (l := [some (.ref 60), some (.int x), some (.int y), some (.int ((22 * (M.1 60 89)) + y)), none, none, none, none, none, none, none, none]) (st := [.int x84.1, .ref 60]) (h := hS X x84.2) ?_
                                                                                        refine Sp.step rfl rfl rfl (mp_I (f := 91) rfl rfl rfl rfl) ?_
                                                                                        refine Sp.step rfl rfl rfl rfl ?_
                                                                                        refine Sp.step rfl rfl rfl rfl ?_
                                                                                        refine Sp.step rfl rfl rfl (mg_I (f := 91) rfl rfl rfl) ?_
                                                                                        refine Sp.if1 rfl rfl rfl rfl (fun e86 => ?_) (fun e86 => ?_)
                                                                                        · refine Sp.step rfl rfl rfl rfl ?_
                                                                                          refine Sp.step rfl rfl rfl (mp_I (f := 90) rfl rfl rfl rfl) ?_
                                                                                          refine Sp.step rfl rfl rfl rfl ?_
                                                                                          exact Sp.vret rfl rfl rfl (fun _ _ h => h)
                                                                                        · refine Sp.step rfl rfl rfl rfl ?_
                                                                                          refine Sp.step rfl rfl rfl rfl ?_
                                                                                          refine Sp.step rfl rfl rfl (mp_I (f := 90) rfl rfl rfl rfl) ?_
                                                                                          refine Sp.step rfl rfl rfl rfl ?_
                                                                                          exact Sp.vret rfl rfl rfl (fun _ _ h => h)
                                                                                      · refine Sp.ite (fun e89 => ?_) (fun e89 => ?_)
                                                                                        · refine Sp.step rfl rfl rfl (go_sw (t := 502) (sw_of e89 rfl)) ?_
                                                                                          refine Sp.step rfl rfl rfl rfl ?_
                                                                                          refine Sp.call rfl rfl rfl (mrecv (by decide) (by decide +kernel)) s_M_takeValue (fun x90 => ⟨_, _, ⟨rfl, rfl⟩, ?_⟩)
                                                                                          refine Sp.id (pc := 506) (l := [some (.ref 60), some (.int x), some (.int y), some (.int ((22 * (M.1 60 89)) + y)), none, none, none, none, none, none, none, none]) (st := [.int x90.1]) (h := hS X x90.2) ?_
                                                                                          refine Sp.step rfl rfl rfl rfl ?_
                                                                                          refine Sp.step rfl rfl rfl rfl ?_
                                                                                          refine Sp.step rfl rfl rfl rfl ?_
                                                                                          refine Sp.if1 rfl rfl rfl rfl (fun e91 => ?_) (fun e91 => ?_)
                                                                                          · refine Sp.step rfl rfl rfl rfl ?_
                                                                                            refine Sp.call rfl rfl rfl (mrecv (by decide) (by decide +kernel)) s_M_putInt (fun x92 => ⟨_, _, ⟨rfl, rfl⟩, ?_⟩)
                                                                                            refine Sp.id (pc := 549) (l := [some (.ref 60), some (.int x), some (.int y), some (.int ((22 * (M.1 60 89)) + y)), none, none, none, none, none, some (.int x90.1), none, none]) (st := []) (h := hS X x92) ?_
                                                                                            refine Sp.step rfl rfl rfl rfl ?_
                                                                                            exact Sp.vret rfl rfl rfl (fun _ _ h => h)
                                                                                          · refine Sp.step rfl rfl rfl rfl ?_
                                                                                            refine Sp.step rfl rfl rfl (mg_F (f := 79) rfl rfl rfl rfl) ?_
                                                                                            refine Sp.step rfl rfl rfl rfl ?_
                                                                                            refine Sp.guard (fun e93 => ?_)
                                                                                            refine Sp.step rfl rfl rfl (mld rfl rfl (by decide) e93) ?_
                                                                                            refine Sp.step rfl rfl rfl rfl ?_
                                                                                            refine Sp.if2 rfl rfl rfl rfl (fun e94 => ?_) (fun e94 => ?_)
                                                                                            · refine Sp.step rfl rfl rfl rfl ?_
                                                                                              refine Sp.call rfl rfl rfl (mrecv (by decide) (by decide +kernel)) s_M_putInt (fun x95 => ⟨_, _, ⟨rfl, rfl⟩, ?_⟩)
                                                                                              refine Sp.id (pc := 549) (l := [some (.ref 60), some (.int x), some (.int y), some (.int ((22 * (M.1 60 89)) + y)), none, none, none, none, none, some (.int x90.1), none, none]) (st := []) (h := hS X x95) ?_
                                                                                              refine Sp.step rfl rfl rfl rfl ?_
                                                                                              exact Sp.vret rfl rfl rfl (fun _ _ h => h)
                                                                                            · refine Sp.step rfl rfl rfl rfl ?_
                                                                                              refine Sp.step rfl rfl rfl rfl ?_
                                                                                              refine Sp.step rfl rfl rfl (mg_F (f := 79) rfl rfl rfl rfl) ?_
                                                                                              refine Sp.step rfl rfl rfl rfl ?_
                                                                                              refine Sp.step rfl rfl rfl (mld rfl rfl (by decide) e93) ?_
                                                                                              refine Sp.step rfl rfl rfl rfl ?_
                                                                                              refine Sp.call rfl rfl rfl (mrecv (by decide) (by decide +kernel)) s_M_isBelow (fun x96 => ⟨_, _, ⟨rfl, rfl⟩, ?_⟩)
                                                                                              refine Sp.bool (fun e97 => ?_) (fun e97 => ?_)
                                                                                              · refine Sp.id (pc := 538) (l := [some (.ref 60), some (.int x), some (.int y), some (.int ((22 * (M.1 60 89)) + y)), none, none, none, none, none, some (.int x90.1), none, none]) (st := [.int 1, .ref 60]) (h := hS X x90.2) ?_
                                                                                                refine Sp.step rfl rfl rfl rfl ?_
                                                                                                refine Sp.step rfl rfl rfl rfl ?_
                                                                                                refine Sp.step rfl rfl rfl rfl ?_
                                                                                                refine Sp.call rfl rfl rfl (mrecv (by decide) (by decide +kernel)) s_M_putInt (fun x99 => ⟨_, _, ⟨rfl, rfl⟩, ?_⟩)
                                                                                                refine Sp.id (pc := 549) (l := [some (.ref 60), some (.int x), some (.int y), some (.int ((22 * (M.1 60 89)) + y)), none, none, none, none, none, some (.int x90.1), none, none]) (st := []) (h := hS X x99) ?_
                                                                                                refine Sp.step rfl rfl rfl rfl ?_
                                                                                                exact Sp.vret rfl rfl rfl (fun _ _ h => h)
                                                                                              · refine Sp.id (pc := 538) (l := [some (.ref 60), some (.int x), some (.int y), some (.int ((22 * (M.1 60 89)) + y)), none, none, none, none, none, some (.int x90.1), none, none]) (st := [.int 0, .ref 60]) (h := hS X x90.2) ?_
                                                                                                refine Sp.step rfl rfl rfl rfl ?_
                                                                                                refine Sp.step rfl rfl rfl rfl ?_
                                                                                                refine Sp.call rfl rfl rfl (mrecv (by decide) (by decide +kernel)) s_M_putInt (fun x101 => ⟨_, _, ⟨rfl, rfl⟩, ?_⟩)
                                                                                                refine Sp.id (pc := 549) (l := [some (.ref 60), some (.int x), some (.int y), some (.int ((22 * (M.1 60 89)) + y)), none, none, none, none, none, some (.int x90.1), none, none]) (st := []) (h := hS X x101) ?_
                                                                                                refine Sp.step rfl rfl rfl rfl ?_
                                                                                                exact Sp.vret rfl rfl rfl (fun _ _ h => h)
                                                                                        · refine Sp.ite (fun e102 => ?_) (fun e102 => ?_)
                                                                                          · refine Sp.step rfl rfl rfl (go_sw (t := 552) (sw_of e102 rfl)) ?_
                                                                                            refine Sp.step rfl rfl rfl rfl ?_
                                                                                            refine Sp.step rfl rfl rfl rfl ?_
                                                                                            refine Sp.call rfl rfl rfl (mrecv (by decide) (by decide +kernel)) s_M_putRef (fun x103 => ⟨_, _, ⟨rfl, rfl⟩, ?_⟩)
                                                                                            refine Sp.id (pc := 557) (l := [some (.ref 60), some (.int x), some (.int y), some (.int ((22 * (M.1 60 89)) + y)), none, none, none, none, none, none, none, none]) (st := []) (h := hS X x103) ?_
                                                                                            refine Sp.step rfl rfl rfl rfl ?_
                                                                                            exact Sp.vret rfl rfl rfl (fun _ _ h => h)
                                                                                          · refine Sp.ite (fun e104 => ?_) (fun e104 => ?_)
                                                                                            · refine Sp.step rfl rfl rfl (go_sw (t := 560) (sw_of e104 rfl)) ?_
                                                                                              refine Sp.step rfl rfl rfl rfl ?_
                                                                                              refine Sp.call rfl rfl rfl (mrecv (by decide) (by decide +kernel)) s_M_takeValue (fun x105 => ⟨_, _, ⟨rfl, rfl⟩, ?_⟩)
                                                                                              refine Sp.id (pc := 564) (l := [some (.ref 60), some (.int x), some (.int y), some (.int ((22 * (M.1 60 89)) + y)), none, none, none, none, none, none, none, none]) (st := [.int x105.1]) (h := hS X x105.2) ?_
                                                                                              refine Sp.step rfl rfl rfl rfl ?_
                                                                                              refine Sp.step rfl rfl rfl rfl ?_
                                                                                              refine Sp.step rfl rfl rfl (mg_I (f := 78) rfl rfl rfl) ?_
                                                                                              refine Sp.step rfl rfl rfl rfl ?_
                                                                                              refine Sp.if2 rfl rfl rfl rfl (fun e106 => ?_) (fun e106 => ?_)
                                                                                              · refine Sp.step rfl rfl rfl rfl ?_
                                                                                                refine Sp.step rfl rfl rfl rfl ?_
                                                                                                refine Sp.step rfl rfl rfl (mg_I (f := 78) rfl rfl rfl) ?_
                                                                                                refine Sp.step rfl rfl rfl rfl ?_
                                                                                                refine Sp.step rfl rfl rfl rfl ?_
                                                                                                refine Sp.step rfl rfl rfl (mp_I (f := 78) rfl rfl rfl rfl) ?_
                                                                                                refine Sp.step rfl rfl rfl rfl ?_
                                                                                                exact Sp.vret rfl rfl rfl (fun _ _ h => h)
                                                                                              · refine Sp.step rfl rfl rfl rfl ?_
                                                                                                refine Sp.step rfl rfl rfl (mg_F (f := 77) rfl rfl rfl rfl) ?_
                                                                                                refine Sp.step rfl rfl rfl rfl ?_
                                                                                                refine Sp.step rfl rfl rfl (mg_I (f := 78) rfl rfl rfl) ?_
                                                                                                refine Sp.step rfl rfl rfl rfl ?_
                                                                                                refine Sp.guard (fun e108 => ?_)
                                                                                                refine Sp.step rfl rfl rfl (mst rfl rfl (by decide) e108) ?_
                                                                                                refine Sp.step rfl rfl rfl rfl ?_
                                                                                                refine Sp.step rfl rfl rfl rfl ?_
                                                                                                refine Sp.step rfl rfl rfl (mg_I (f := 78) rfl rfl rfl) ?_
                                                                                                refine Sp.step rfl rfl rfl rfl ?_
                                                                                                refine Sp.step rfl rfl rfl rfl ?_
                                                                                                refine Sp.step rfl rfl rfl (mp_I (f := 78) rfl rfl rfl rfl) ?_
                                                                                                refine Sp.step rfl rfl rfl rfl ?_
                                                                                                exact Sp.vret rfl rfl rfl (fun _ _ h => h)
                                                                                            · refine Sp.ite (fun e111 => ?_) (fun e111 => ?_)
                                                                                              · refine Sp.step rfl rfl rfl (go_sw (t := 600) (sw_of e111 rfl)) ?_
                                                                                                refine Sp.step rfl rfl rfl rfl ?_
                                                                                                refine Sp.step rfl rfl rfl rfl ?_
                                                                                                refine Sp.step rfl rfl rfl (mg_I (f := 76) rfl rfl rfl) ?_
                                                                                                refine Sp.piece (pe := 618) (mf := (fun (x113 : Int32) => [some (.ref 60), none, none, none, none, none, none, none, none, none, none, none])) (sf := (fun (x113 : Int32) => [.int x113, .ref 60])) (hf := (fun (x113 : Int32) => hS X M)) ?_ (fun x113 => ?_)
                                                                                                · refine Sp.if1 rfl rfl rfl rfl (fun e112 => ?_) (fun e112 => ?_)
                                                                                                  · refine Sp.step rfl rfl rfl rfl ?_
                                                                                                    exact Sp.jmp (l0 := [some (.ref 60), none, none, none, none, none, none, none, none, none, none, none]) ⟨rfl, trivial⟩ (fun _ _ h => h)
                                                                                                  · refine Sp.step rfl rfl rfl rfl ?_
                                                                                                    refine Sp.step rfl rfl rfl (mg_F (f := 75) rfl rfl rfl rfl) ?_
                                                                                                    refine Sp.step rfl rfl rfl rfl ?_
                                                                                                    refine Sp.step rfl rfl rfl (mld rfl rfl (by decide) (by decide)) ?_
                                                                                                    refine Sp.step rfl rfl rfl rfl ?_
                                                                                                    exact Sp.jmp (l0 := [some (.ref 60), none, none, none, none, none, none, none, none, none, none, none]) ⟨rfl, trivial⟩ (fun _ _ h => h)
                                                                                                · refine Sp.call rfl rfl rfl (mrecv (by decide) (by decide +kernel)) s_M_putInt (fun x114 => ⟨_, _, ⟨rfl, rfl⟩, ?_⟩)
                                                                                                  refine Sp.id (pc := 621) (l := [some (.ref 60), none, none, none, none, none, none, none, none, none, none, none]) (st := []) (h := hS X x114) ?_
                                                                                                  refine Sp.step rfl rfl rfl rfl ?_
                                                                                                  refine Sp.step rfl rfl rfl rfl ?_
                                                                                                  refine Sp.weak (l0 := [some (.ref 60), none, none, none, none, none, none, none, none, none, none, some (.int 1)]) ⟨rfl, rfl, trivial⟩ ?_
                                                                                                  refine Sp.loopX (pe := 655) (mf := (fun (x120 : (Int32 × MS)) => [some (.ref 60), none, none, none, none, none, none, none, none, none, none, some (.int x120.1)])) (hf := (fun (x120 : (Int32 × MS)) => hS X x120.2)) (fun x120 => ?_) (fun x125 => ?_) _ _
                                                                                                  · unfold b624_M_others
                                                                                                    refine Sp.step rfl rfl rfl rfl ?_
                                                                                                    refine Sp.step rfl rfl rfl rfl ?_
                                                                                                    refine Sp.step rfl rfl rfl (mg_I (f := 76) rfl rfl rfl) ?_
                                                                                                    refine Sp.if2 rfl rfl rfl rfl (fun e121 => ?_) (fun e121 => ?_)
                                                                                                    · exact Sp.jmp (l0 := [some (.ref 60), none, none, none, none, none, none, none, none, none, none, some (.int x120.1)]) ⟨rfl, rfl, trivial⟩ (fun _ _ h => h)
                                                                                                    · refine Sp.step rfl rfl rfl rfl ?_
                                                                                                      refine Sp.step rfl rfl rfl (mg_F (f := 75) rfl rfl rfl rfl) ?_
                                                                                                      refine Sp.step rfl rfl rfl rfl ?_
                                                                                                      refine Sp.step rfl rfl rfl rfl ?_
                                                                                                      refine Sp.step rfl rfl rfl rfl ?_
                                                                                                      refine Sp.step rfl rfl rfl rfl ?_
                                                                                                      refine Sp.step rfl rfl rfl (mg_F (f := 75) rfl rfl rfl rfl) ?_
                                                                                                      refine Sp.step rfl rfl rfl rfl ?_
                                                                                                      refine Sp.guard (fun e122 => ?_)
                                                                                                      refine Sp.step rfl rfl rfl (mld rfl rfl (by decide) e122) ?_
                                                                                                      refine Sp.guard (fun e123 => ?_)
                                                                                                      refine Sp.step rfl rfl rfl (mst rfl rfl (by decide) e123) ?_
                                                                                                      refine Sp.step rfl rfl rfl rfl ?_
                                                                                                      refine Sp.step rfl rfl rfl rfl ?_
                                                                                                      exact Sp.jmp (l0 := [some (.ref 60), none, none, none, none, none, none, none, none, none, none, some (.int (x120.1 + 1))]) ⟨rfl, rfl, trivial⟩ (fun _ _ h => h)
                                                                                                  · refine Sp.step rfl rfl rfl rfl ?_
                                                                                                    refine Sp.step rfl rfl rfl rfl ?_
                                                                                                    refine Sp.step rfl rfl rfl (mg_I (f := 76) rfl rfl rfl) ?_
                                                                                                    refine Sp.if1 rfl rfl rfl rfl (fun e126 => ?_) (fun e126 => ?_)
                                                                                                    · refine Sp.step rfl rfl rfl rfl ?_
                                                                                                      refine Sp.step rfl rfl rfl (mp_I (f := 76) rfl rfl rfl rfl) ?_
                                                                                                      refine Sp.step rfl rfl rfl rfl ?_
                                                                                                      exact Sp.vret rfl rfl rfl (fun _ _ h => h)
                                                                                                    · refine Sp.step rfl rfl rfl rfl ?_
                                                                                                      refine Sp.step rfl rfl rfl (mg_I (f := 76) rfl rfl rfl) ?_
                                                                                                      refine Sp.step rfl rfl rfl rfl ?_
                                                                                                      refine Sp.step rfl rfl rfl rfl ?_
                                                                                                      refine Sp.step rfl rfl rfl rfl ?_
                                                                                                      refine Sp.step rfl rfl rfl (mp_I (f := 76) rfl rfl rfl rfl) ?_
                                                                                                      refine Sp.step rfl rfl rfl rfl ?_
                                                                                                      exact Sp.vret rfl rfl rfl (fun _ _ h => h)
                                                                                              · refine Sp.step rfl rfl rfl (go_sw (t := 679) (mjSw_out _ (by
                                                                                                  intro q hq
                                                                                                  simp only [List.mem_cons, List.not_mem_nil, or_false] at hq
                                                                                                  rcases hq with rfl | rfl | rfl | rfl | rfl | rfl | rfl | rfl | rfl | rfl | rfl | rfl | rfl | rfl | rfl | rfl | rfl | rfl | rfl | rfl | rfl | rfl | rfl | rfl | rfl | rfl | rfl | rfl | rfl | rfl | rfl | rfl | rfl | rfl | rfl | rfl | rfl | rfl | rfl | rfl | rfl | rfl | rfl | rfl | rfl | rfl | rfl
                                                                                                  · exact e1
                                                                                                  · exact e3
                                                                                                  · exact e13
                                                                                                  · exact e21
                                                                                                  · exact e22
                                                                                                  · exact e23
                                                                                                  · exact e24
                                                                                                  · exact e25
                                                                                                  · exact e26
                                                                                                  · exact e27
                                                                                                  · exact e28
                                                                                                  · exact e29
                                                                                                  · exact e30
                                                                                                  · exact e31
                                                                                                  · exact e32
                                                                                                  · exact e33
                                                                                                  · exact e46
                                                                                                  · exact e48
                                                                                                  · exact e56
                                                                                                  · exact e57
                                                                                                  · exact e58
                                                                                                  · exact e59
                                                                                                  · exact e60
                                                                                                  · exact e61
                                                                                                  · exact e62
                                                                                                  · exact e63
                                                                                                  · exact e67
                                                                                                  · exact e68
                                                                                                  · exact e69
                                                                                                  · exact e70
                                                                                                  · exact e71
                                                                                                  · exact e72
                                                                                                  · exact e73
                                                                                                  · exact e74
                                                                                                  · exact e75
                                                                                                  · exact e76
                                                                                                  · exact e77
                                                                                                  · exact e78
                                                                                                  · exact e79
                                                                                                  · exact e80
                                                                                                  · exact e81
                                                                                                  · exact e82
                                                                                                  · exact e83
                                                                                                  · exact e89
                                                                                                  · exact e102
                                                                                                  · exact e104
                                                                                                  · exact e111))) ?_
                                                                                                exact Sp.vret rfl rfl rfl (fun _ _ h => h)
