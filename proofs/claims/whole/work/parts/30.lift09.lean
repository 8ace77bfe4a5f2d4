/-! methods as functions, by program -/
def b161_M_comeTo_86 (y : Int32) (z : Int32) (M : MS) (x4 : (Int32 × Int32)) : Option ((Int32 × Int32) ⊕ (Int32 × Int32)) := (if z ≤ x4.2 then some (.inr (x4.1, x4.2)) else (if x4.1 = 0 then some (.inr (x4.1, x4.2)) else (if ixo ((10 * y) + x4.2) 600 then (if ixo x4.2 16 then (if ¬ M.1 84 ((10 * y) + x4.2).toNatClampNeg = M.1 86 x4.2.toNatClampNeg then some (.inl (0, x4.2 + 1)) else some (.inl (1, x4.2 + 1))) else none) else none)))
def b208_M_comeTo_86 (y : Int32) (x10 : (Int32 × Int32)) (x20 : (Int32 × MS)) : Option ((Int32 × MS) ⊕ (Int32 × MS)) := (if 12 ≤ x20.1 then some (.inr (x20.1, x20.2)) else (if x10.1 = 0 then some (.inr (x20.1, x20.2)) else (if ixo ((12 * y) + x20.1) 720 then (if x20.2.1 85 ((12 * y) + x20.1).toNatClampNeg = 0 then some (.inl (x20.1 + 1, x20.2)) else (if ixo x20.1 12 then (if x20.2.1 85 ((12 * y) + x20.1).toNatClampNeg = x20.2.1 87 x20.1.toNatClampNeg then some (.inl (x20.1 + 1, x20.2)) else (lt (mw x20.2 85 ((12 * y) + x20.1).toNatClampNeg 0) fun M27 => (if ixo y 60 then (lt (mw M27 82 y.toNatClampNeg 1) fun M29 => some (.inl (x20.1 + 1, M29))) else none))) else none)) else none)))
def b208_M_comeTo_86' (y : Int32) (x38 : (Int32 × Int32)) (x48 : (Int32 × MS)) : Option ((Int32 × MS) ⊕ (Int32 × MS)) := (if 12 ≤ x48.1 then some (.inr (x48.1, x48.2)) else (if x38.1 = 0 then some (.inr (x48.1, x48.2)) else (if ixo ((12 * y) + x48.1) 720 then (if x48.2.1 85 ((12 * y) + x48.1).toNatClampNeg = 0 then some (.inl (x48.1 + 1, x48.2)) else (if ixo x48.1 12 then (if x48.2.1 85 ((12 * y) + x48.1).toNatClampNeg = x48.2.1 87 x48.1.toNatClampNeg then some (.inl (x48.1 + 1, x48.2)) else (lt (mw x48.2 85 ((12 * y) + x48.1).toNatClampNeg 0) fun M55 => (if ixo y 60 then (lt (mw M55 82 y.toNatClampNeg 1) fun M57 => some (.inl (x48.1 + 1, M57))) else none))) else none)) else none)))
def b74_M_comeTo_86 (y : Int32) (z : Int32) (x74 : (Int32 × MS)) : Option ((Int32 × MS) ⊕ (Int32 × MS)) := (if z ≤ x74.1 then some (.inr (x74.1, x74.2)) else (if ixo x74.1 16 then (if ixo ((10 * y) + x74.1) 600 then (lt (mw x74.2 84 ((10 * y) + x74.1).toNatClampNeg (x74.2.1 86 x74.1.toNatClampNeg)) fun M78 => some (.inl (x74.1 + 1, M78))) else none) else none))
def b106_M_comeTo_86 (y : Int32) (x85 : (Int32 × MS)) : Option ((Int32 × MS) ⊕ (Int32 × MS)) := (if 12 ≤ x85.1 then some (.inr (x85.1, x85.2)) else (if ixo x85.1 12 then (if ixo ((12 * y) + x85.1) 720 then (lt (mw x85.2 85 ((12 * y) + x85.1).toNatClampNeg (x85.2.1 87 x85.1.toNatClampNeg)) fun M89 => some (.inl (x85.1 + 1, M89))) else none) else none))
def f_M_comeTo_86 (x : Int32) (y : Int32) (z : Int32) (M : MS) : Option (Bool × MS) := (if ixo y 60 then (if ¬ M.1 81 y.toNatClampNeg = 0 then (if ¬ M.1 83 y.toNatClampNeg = z then ((lp (b161_M_comeTo_86 y z M) 10000 ((0 : Int32), (0 : Int32))).bind fun x10 => ((lp (b208_M_comeTo_86 y x10) 10000 ((0 : Int32), M)).bind fun x30 => (if x10.1 = 1 then some (true, x30.2) else (if x10.1 = 0 then some (false, x30.2) else none)))) else ((lp (b161_M_comeTo_86 y z M) 10000 ((1 : Int32), (0 : Int32))).bind fun x38 => ((lp (b208_M_comeTo_86' y x38) 10000 ((0 : Int32), M)).bind fun x58 => (if x38.1 = 1 then some (true, x58.2) else (if x38.1 = 0 then some (false, x58.2) else none))))) else (lt (mw M 81 y.toNatClampNeg 1) fun M60 => (lt (mw M60 82 y.toNatClampNeg 1) fun M61 => (if ixo ((60 * x) + y) 1440 then (lt (mw M61 88 ((60 * x) + y).toNatClampNeg 1) fun M63 => (lt (mw M63 83 y.toNatClampNeg z) fun M64 => (if ixo x 24 then (((if z ≤ M64.1 89 x.toNatClampNeg then some (M64.1 89 x.toNatClampNeg) else some z) : Option (Int32)).bind fun x67 => (lt (mw M64 89 x.toNatClampNeg x67) fun M68 => ((lp (b74_M_comeTo_86 y z) 10000 ((0 : Int32), M68)).bind fun x79 => ((lp (b106_M_comeTo_86 y) 10000 ((0 : Int32), x79.2)).bind fun x90 => some (true, x90.2))))) else none))) else none)))) else none)
set_option maxRecDepth 100000 in
set_option maxHeartbeats 4000000 in
theorem s_M_comeTo_86 {L : Nat} {xs : Nat → Int32} {X : XS} {M : MS} {x : Int32} {y : Int32} {z : Int32} : Sp (mjOO L xs) 33 0 [some (.ref 60), some (.int x), some (.int y), some (.ref 86), some (.int z), none, none] [] (hS X M) (f_M_comeTo_86 x y z M) (KBM X) := by
  unfold f_M_comeTo_86
  refine Sp.step rfl rfl rfl rfl ?_
  refine Sp.step rfl rfl rfl (mg_F (f := 24) rfl rfl rfl rfl) ?_
  refine Sp.step rfl rfl rfl rfl ?_
  refine Sp.guard (fun e1 => ?_)
  refine Sp.step rfl rfl rfl (mld rfl rfl (by decide) e1) ?_
  refine Sp.if1 rfl rfl rfl rfl (fun e2 => ?_) (fun e2 => ?_)
  · refine Sp.step rfl rfl rfl rfl ?_
    refine Sp.step rfl rfl rfl (mg_F (f := 26) rfl rfl rfl rfl) ?_
    refine Sp.step rfl rfl rfl rfl ?_
    refine Sp.step rfl rfl rfl (mld rfl rfl (by decide) e1) ?_
    refine Sp.step rfl rfl rfl rfl ?_
    refine Sp.if2 rfl rfl rfl rfl (fun e3 => ?_) (fun e3 => ?_)
    · refine Sp.step rfl rfl rfl rfl ?_
      refine Sp.step rfl rfl rfl rfl ?_
      refine Sp.step rfl rfl rfl rfl ?_
      refine Sp.step rfl rfl rfl rfl ?_
      refine Sp.weak (l0 := [some (.ref 60), none, some (.int y), some (.ref 86), some (.int z), some (.int 0), some (.int 0)]) ⟨rfl, rfl, rfl, rfl, rfl, rfl, trivial⟩ ?_
      refine Sp.loopX (pe := 205) (mf := (fun (x4 : (Int32 × Int32)) => [some (.ref 60), none, some (.int y), some (.ref 86), some (.int z), some (.int x4.1), some (.int x4.2)])) (hf := (fun (x4 : (Int32 × Int32)) => hS X M)) (fun x4 => ?_) (fun x10 => ?_) _ _
      · unfold b161_M_comeTo_86
        refine Sp.step rfl rfl rfl rfl ?_
        refine Sp.step rfl rfl rfl rfl ?_
        refine Sp.if2 rfl rfl rfl rfl (fun e5 => ?_) (fun e5 => ?_)
        · exact Sp.jmp (l0 := [some (.ref 60), none, some (.int y), some (.ref 86), some (.int z), some (.int x4.1), some (.int x4.2)]) ⟨rfl, rfl, rfl, rfl, rfl, rfl, trivial⟩ (fun _ _ h => h)
        · refine Sp.step rfl rfl rfl rfl ?_
          refine Sp.if1 rfl rfl rfl rfl (fun e6 => ?_) (fun e6 => ?_)
          · exact Sp.jmp (l0 := [some (.ref 60), none, some (.int y), some (.ref 86), some (.int z), some (.int x4.1), some (.int x4.2)]) ⟨rfl, rfl, rfl, rfl, rfl, rfl, trivial⟩ (fun _ _ h => h)
          · refine Sp.step rfl rfl rfl rfl ?_
            refine Sp.step rfl rfl rfl (mg_F (f := 27) rfl rfl rfl rfl) ?_
            refine Sp.step rfl rfl rfl rfl ?_
            refine Sp.step rfl rfl rfl rfl ?_
            refine Sp.step rfl rfl rfl rfl ?_
            refine Sp.step rfl rfl rfl rfl ?_
            refine Sp.step rfl rfl rfl rfl ?_
            refine Sp.guard (fun e7 => ?_)
            refine Sp.step rfl rfl rfl (mld rfl rfl (by decide) e7) ?_
            refine Sp.step rfl rfl rfl rfl ?_
            refine Sp.step rfl rfl rfl rfl ?_
            refine Sp.guard (fun e8 => ?_)
            refine Sp.step rfl rfl rfl (mld rfl rfl (by decide) e8) ?_
            refine Sp.if2 rfl rfl rfl rfl (fun e9 => ?_) (fun e9 => ?_)
            · refine Sp.step rfl rfl rfl rfl ?_
              refine Sp.step rfl rfl rfl rfl ?_
              refine Sp.step rfl rfl rfl rfl ?_
              refine Sp.step rfl rfl rfl rfl ?_
              exact Sp.jmp (l0 := [some (.ref 60), none, some (.int y), some (.ref 86), some (.int z), some (.int 0), some (.int (x4.2 + 1))]) ⟨rfl, rfl, rfl, rfl, rfl, rfl, trivial⟩ (fun _ _ h => h)
            · refine Sp.step rfl rfl rfl rfl ?_
              refine Sp.step rfl rfl rfl rfl ?_
              refine Sp.step rfl rfl rfl rfl ?_
              refine Sp.step rfl rfl rfl rfl ?_
              refine Sp.step rfl rfl rfl rfl ?_
              exact Sp.jmp (l0 := [some (.ref 60), none, some (.int y), some (.ref 86), some (.int z), some (.int 1), some (.int (x4.2 + 1))]) ⟨rfl, rfl, rfl, rfl, rfl, rfl, trivial⟩ (fun _ _ h => h)
      · refine Sp.step rfl rfl rfl rfl ?_
        refine Sp.step rfl rfl rfl rfl ?_
        refine Sp.weak (l0 := [some (.ref 60), none, some (.int y), none, none, some (.int x10.1), some (.int 0)]) ⟨rfl, rfl, rfl, rfl, trivial⟩ ?_
        refine Sp.loopX (pe := 283) (mf := (fun (x20 : (Int32 × MS)) => [some (.ref 60), none, some (.int y), none, none, some (.int x10.1), some (.int x20.1)])) (hf := (fun (x20 : (Int32 × MS)) => hS X x20.2)) (fun x20 => ?_) (fun x30 => ?_) _ _
        · unfold b208_M_comeTo_86
          refine Sp.step rfl rfl rfl rfl ?_
          refine Sp.step rfl rfl rfl rfl ?_
          refine Sp.if2 rfl rfl rfl rfl (fun e21 => ?_) (fun e21 => ?_)
          · exact Sp.jmp (l0 := [some (.ref 60), none, some (.int y), none, none, some (.int x10.1), some (.int x20.1)]) ⟨rfl, rfl, rfl, rfl, trivial⟩ (fun _ _ h => h)
          · refine Sp.step rfl rfl rfl rfl ?_
            refine Sp.if1 rfl rfl rfl rfl (fun e22 => ?_) (fun e22 => ?_)
            · exact Sp.jmp (l0 := [some (.ref 60), none, some (.int y), none, none, some (.int x10.1), some (.int x20.1)]) ⟨rfl, rfl, rfl, rfl, trivial⟩ (fun _ _ h => h)
            · refine Sp.step rfl rfl rfl rfl ?_
              refine Sp.step rfl rfl rfl (mg_F (f := 28) rfl rfl rfl rfl) ?_
              refine Sp.step rfl rfl rfl rfl ?_
              refine Sp.step rfl rfl rfl rfl ?_
              refine Sp.step rfl rfl rfl rfl ?_
              refine Sp.step rfl rfl rfl rfl ?_
              refine Sp.step rfl rfl rfl rfl ?_
              refine Sp.guard (fun e23 => ?_)
              refine Sp.step rfl rfl rfl (mld rfl rfl (by decide) e23) ?_
              refine Sp.if1 rfl rfl rfl rfl (fun e24 => ?_) (fun e24 => ?_)
              · refine Sp.step rfl rfl rfl rfl ?_
                refine Sp.step rfl rfl rfl rfl ?_
                exact Sp.jmp (l0 := [some (.ref 60), none, some (.int y), none, none, some (.int x10.1), some (.int (x20.1 + 1))]) ⟨rfl, rfl, rfl, rfl, trivial⟩ (fun _ _ h => h)
              · refine Sp.step rfl rfl rfl rfl ?_
                refine Sp.step rfl rfl rfl (mg_F (f := 28) rfl rfl rfl rfl) ?_
                refine Sp.step rfl rfl rfl rfl ?_
                refine Sp.step rfl rfl rfl rfl ?_
                refine Sp.step rfl rfl rfl rfl ?_
                refine Sp.step rfl rfl rfl rfl ?_
                refine Sp.step rfl rfl rfl rfl ?_
                refine Sp.step rfl rfl rfl (mld rfl rfl (by decide) e23) ?_
                refine Sp.step rfl rfl rfl rfl ?_
                refine Sp.step rfl rfl rfl (mg_F (f := 31) rfl rfl rfl rfl) ?_
                refine Sp.step rfl rfl rfl rfl ?_
                refine Sp.guard (fun e25 => ?_)
                refine Sp.step rfl rfl rfl (mld rfl rfl (by decide) e25) ?_
                refine Sp.if2 rfl rfl rfl rfl (fun e26 => ?_) (fun e26 => ?_)
                · refine Sp.step rfl rfl rfl rfl ?_
                  refine Sp.step rfl rfl rfl rfl ?_
                  exact Sp.jmp (l0 := [some (.ref 60), none, some (.int y), none, none, some (.int x10.1), some (.int (x20.1 + 1))]) ⟨rfl, rfl, rfl, rfl, trivial⟩ (fun _ _ h => h)
                · refine Sp.step rfl rfl rfl rfl ?_
                  refine Sp.step rfl rfl rfl (mg_F (f := 28) rfl rfl rfl rfl) ?_
                  refine Sp.step rfl rfl rfl rfl ?_
                  refine Sp.step rfl rfl rfl rfl ?_
                  refine Sp.step rfl rfl rfl rfl ?_
                  refine Sp.step rfl rfl rfl rfl ?_
                  refine Sp.step rfl rfl rfl rfl ?_
                  refine Sp.step rfl rfl rfl rfl ?_
                  refine Sp.step rfl rfl rfl (mst rfl rfl (by decide) e23) ?_
                  refine Sp.step rfl rfl rfl rfl ?_
                  refine Sp.step rfl rfl rfl (mg_F (f := 25) rfl rfl rfl rfl) ?_
                  refine Sp.step rfl rfl rfl rfl ?_
                  refine Sp.step rfl rfl rfl rfl ?_
                  refine Sp.guard (fun e28 => ?_)
                  refine Sp.step rfl rfl rfl (mst1 rfl rfl e28) ?_
                  refine Sp.step rfl rfl rfl rfl ?_
                  refine Sp.step rfl rfl rfl rfl ?_
                  exact Sp.jmp (l0 := [some (.ref 60), none, some (.int y), none, none, some (.int x10.1), some (.int (x20.1 + 1))]) ⟨rfl, rfl, rfl, rfl, trivial⟩ (fun _ _ h => h)
        · refine Sp.step rfl rfl rfl rfl ?_
          refine Sp.ite (fun e31 => ?_) (fun _ => Sp.guard (fun e31 => ?_))
          · exact Sp.iret rfl rfl rfl (by rw [e31]; rfl) (fun _ _ h => by rw [e31]; exact h)
          · exact Sp.iret rfl rfl rfl (by rw [e31]; rfl) (fun _ _ h => by rw [e31]; exact h)
    · refine Sp.step rfl rfl rfl rfl ?_
      refine Sp.step rfl rfl rfl rfl ?_
      refine Sp.step rfl rfl rfl rfl ?_
      refine Sp.step rfl rfl rfl rfl ?_
      refine Sp.step rfl rfl rfl rfl ?_
      refine Sp.weak (l0 := [some (.ref 60), none, some (.int y), some (.ref 86), some (.int z), some (.int 1), some (.int 0)]) ⟨rfl, rfl, rfl, rfl, rfl, rfl, trivial⟩ ?_
      refine Sp.loopX (pe := 205) (mf := (fun (x32 : (Int32 × Int32)) => [some (.ref 60), none, some (.int y), some (.ref 86), some (.int z), some (.int x32.1), some (.int x32.2)])) (hf := (fun (x32 : (Int32 × Int32)) => hS X M)) (fun x32 => ?_) (fun x38 => ?_) _ _
      · unfold b161_M_comeTo_86
        refine Sp.step rfl rfl rfl rfl ?_
        refine Sp.step rfl rfl rfl rfl ?_
        refine Sp.if2 rfl rfl rfl rfl (fun e33 => ?_) (fun e33 => ?_)
        · exact Sp.jmp (l0 := [some (.ref 60), none, some (.int y), some (.ref 86), some (.int z), some (.int x32.1), some (.int x32.2)]) ⟨rfl, rfl, rfl, rfl, rfl, rfl, trivial⟩ (fun _ _ h => h)
        · refine Sp.step rfl rfl rfl rfl ?_
          refine Sp.if1 rfl rfl rfl rfl (fun e34 => ?_) (fun e34 => ?_)
          · exact Sp.jmp (l0 := [some (.ref 60), none, some (.int y), some (.ref 86), some (.int z), some (.int x32.1), some (.int x32.2)]) ⟨rfl, rfl, rfl, rfl, rfl, rfl, trivial⟩ (fun _ _ h => h)
          · refine Sp.step rfl rfl rfl rfl ?_
            refine Sp.step rfl rfl rfl (mg_F (f := 27) rfl rfl rfl rfl) ?_
            refine Sp.step rfl rfl rfl rfl ?_
            refine Sp.step rfl rfl rfl rfl ?_
            refine Sp.step rfl rfl rfl rfl ?_
            refine Sp.step rfl rfl rfl rfl ?_
            refine Sp.step rfl rfl rfl rfl ?_
            refine Sp.guard (fun e35 => ?_)
            refine Sp.step rfl rfl rfl (mld rfl rfl (by decide) e35) ?_
            refine Sp.step rfl rfl rfl rfl ?_
            refine Sp.step rfl rfl rfl rfl ?_
            refine Sp.guard (fun e36 => ?_)
            refine Sp.step rfl rfl rfl (mld rfl rfl (by decide) e36) ?_
            refine Sp.if2 rfl rfl rfl rfl (fun e37 => ?_) (fun e37 => ?_)
            · refine Sp.step rfl rfl rfl rfl ?_
              refine Sp.step rfl rfl rfl rfl ?_
              refine Sp.step rfl rfl rfl rfl ?_
              refine Sp.step rfl rfl rfl rfl ?_
              exact Sp.jmp (l0 := [some (.ref 60), none, some (.int y), some (.ref 86), some (.int z), some (.int 0), some (.int (x32.2 + 1))]) ⟨rfl, rfl, rfl, rfl, rfl, rfl, trivial⟩ (fun _ _ h => h)
            · refine Sp.step rfl rfl rfl rfl ?_
              refine Sp.step rfl rfl rfl rfl ?_
              refine Sp.step rfl rfl rfl rfl ?_
              refine Sp.step rfl rfl rfl rfl ?_
              refine Sp.step rfl rfl rfl rfl ?_
              exact Sp.jmp (l0 := [some (.ref 60), none, some (.int y), some (.ref 86), some (.int z), some (.int 1), some (.int (x32.2 + 1))]) ⟨rfl, rfl, rfl, rfl, rfl, rfl, trivial⟩ (fun _ _ h => h)
      · refine Sp.step rfl rfl rfl rfl ?_
        refine Sp.step rfl rfl rfl rfl ?_
        refine Sp.weak (l0 := [some (.ref 60), none, some (.int y), none, none, some (.int x38.1), some (.int 0)]) ⟨rfl, rfl, rfl, rfl, trivial⟩ ?_
        refine Sp.loopX (pe := 283) (mf := (fun (x48 : (Int32 × MS)) => [some (.ref 60), none, some (.int y), none, none, some (.int x38.1), some (.int x48.1)])) (hf := (fun (x48 : (Int32 × MS)) => hS X x48.2)) (fun x48 => ?_) (fun x58 => ?_) _ _
        · unfold b208_M_comeTo_86'
          refine Sp.step rfl rfl rfl rfl ?_
          refine Sp.step rfl rfl rfl rfl ?_
          refine Sp.if2 rfl rfl rfl rfl (fun e49 => ?_) (fun e49 => ?_)
          · exact Sp.jmp (l0 := [some (.ref 60), none, some (.int y), none, none, some (.int x38.1), some (.int x48.1)]) ⟨rfl, rfl, rfl, rfl, trivial⟩ (fun _ _ h => h)
          · refine Sp.step rfl rfl rfl rfl ?_
            refine Sp.if1 rfl rfl rfl rfl (fun e50 => ?_) (fun e50 => ?_)
            · exact Sp.jmp (l0 := [some (.ref 60), none, some (.int y), none, none, some (.int x38.1), some (.int x48.1)]) ⟨rfl, rfl, rfl, rfl, trivial⟩ (fun _ _ h => h)
            · refine Sp.step rfl rfl rfl rfl ?_
              refine Sp.step rfl rfl rfl (mg_F (f := 28) rfl rfl rfl rfl) ?_
              refine Sp.step rfl rfl rfl rfl ?_
              refine Sp.step rfl rfl rfl rfl ?_
              refine Sp.step rfl rfl rfl rfl ?_
              refine Sp.step rfl rfl rfl rfl ?_
              refine Sp.step rfl rfl rfl rfl ?_
              refine Sp.guard (fun e51 => ?_)
              refine Sp.step rfl rfl rfl (mld rfl rfl (by decide) e51) ?_
              refine Sp.if1 rfl rfl rfl rfl (fun e52 => ?_) (fun e52 => ?_)
              · refine Sp.step rfl rfl rfl rfl ?_
                refine Sp.step rfl rfl rfl rfl ?_
                exact Sp.jmp (l0 := [some (.ref 60), none, some (.int y), none, none, some (.int x38.1), some (.int (x48.1 + 1))]) ⟨rfl, rfl, rfl, rfl, trivial⟩ (fun _ _ h => h)
              · refine Sp.step rfl rfl rfl rfl ?_
                refine Sp.step rfl rfl rfl (mg_F (f := 28) rfl rfl rfl rfl) ?_
                refine Sp.step rfl rfl rfl rfl ?_
                refine Sp.step rfl rfl rfl rfl ?_
                refine Sp.step rfl rfl rfl rfl ?_
                refine Sp.step rfl rfl rfl rfl ?_
                refine Sp.step rfl rfl rfl rfl ?_
                refine Sp.step rfl rfl rfl (mld rfl rfl (by decide) e51) ?_
                refine Sp.step rfl rfl rfl rfl ?_
                refine Sp.step rfl rfl rfl (mg_F (f := 31) rfl rfl rfl rfl) ?_
                refine Sp.step rfl rfl rfl rfl ?_
                refine Sp.guard (fun e53 => ?_)
                refine Sp.step rfl rfl rfl (mld rfl rfl (by decide) e53) ?_
                refine Sp.if2 rfl rfl rfl rfl (fun e54 => ?_) (fun e54 => ?_)
                · refine Sp.step rfl rfl rfl rfl ?_
                  refine Sp.step rfl rfl rfl rfl ?_
                  exact Sp.jmp (l0 := [some (.ref 60), none, some (.int y), none, none, some (.int x38.1), some (.int (x48.1 + 1))]) ⟨rfl, rfl, rfl, rfl, trivial⟩ (fun _ _ h => h)
                · refine Sp.step rfl rfl rfl rfl ?_
                  refine Sp.step rfl rfl rfl (mg_F (f := 28) rfl rfl rfl rfl) ?_
                  refine Sp.step rfl rfl rfl rfl ?_
                  refine Sp.step rfl rfl rfl rfl ?_
                  refine Sp.step rfl rfl rfl rfl ?_
                  refine Sp.step rfl rfl rfl rfl ?_
                  refine Sp.step rfl rfl rfl rfl ?_
                  refine Sp.step rfl rfl rfl rfl ?_
                  refine Sp.step rfl rfl rfl (mst rfl rfl (by decide) e51) ?_
                  refine Sp.step rfl rfl rfl rfl ?_
                  refine Sp.step rfl rfl rfl (mg_F (f := 25) rfl rfl rfl rfl) ?_
                  refine Sp.step rfl rfl rfl rfl ?_
                  refine Sp.step rfl rfl rfl rfl ?_
                  refine Sp.guard (fun e56 => ?_)
                  refine Sp.step rfl rfl rfl (mst1 rfl rfl e56) ?_
                  refine Sp.step rfl rfl rfl rfl ?_
                  refine Sp.step rfl rfl rfl rfl ?_
                  exact Sp.jmp (l0 := [some (.ref 60), none, some (.int y), none, none, some (.int x38.1), some (.int (x48.1 + 1))]) ⟨rfl, rfl, rfl, rfl, trivial⟩ (fun _ _ h => h)
        · refine Sp.step rfl rfl rfl rfl ?_
          refine Sp.ite (fun e59 => ?_) (fun _ => Sp.guard (fun e59 => ?_))
          · exact Sp.iret rfl rfl rfl (by rw [e59]; rfl) (fun _ _ h => by rw [e59]; exact h)
          · exact Sp.iret rfl rfl rfl (by rw [e59]; rfl) (fun _ _ h => by rw [e59]; exact h)
  · refine Sp.step rfl rfl rfl rfl ?_
    refine Sp.step rfl rfl rfl (mg_F (f := 24) rfl rfl rfl rfl) ?_
    refine Sp.step rfl rfl rfl rfl ?_
    refine Sp.step rfl rfl rfl rfl ?_
    refine Sp.step rfl rfl rfl (mst1 rfl rfl e1) ?_
    refine Sp.step rfl rfl rfl rfl ?_
    refine Sp.step rfl rfl rfl (mg_F (f := 25) rfl rfl rfl rfl) ?_
    refine Sp.step rfl rfl rfl rfl ?_
    refine Sp.step rfl rfl rfl rfl ?_
    refine Sp.step rfl rfl rfl (mst1 rfl rfl e1) ?_
    refine Sp.step rfl rfl rfl rfl ?_
    refine Sp.step rfl rfl rfl (mg_F (f := 33) rfl rfl rfl rfl) ?_
    refine Sp.step rfl rfl rfl rfl ?_
    refine Sp.step rfl rfl rfl rfl ?_
    refine Sp.step rfl rfl rfl rfl ?_
    refine Sp.step rfl rfl rfl rfl ?_
    refine Sp.step rfl rfl rfl rfl ?_
    refine Sp.step rfl rfl rfl rfl ?_
    refine Sp.guard (fun e62 => ?_)
    refine Sp.step rfl rfl rfl (mst1 rfl rfl e62) ?_
    refine Sp.step rfl rfl rfl rfl ?_
    refine Sp.step rfl rfl rfl (mg_F (f := 26) rfl rfl rfl rfl) ?_
    refine Sp.step rfl rfl rfl rfl ?_
    refine Sp.step rfl rfl rfl rfl ?_
    refine Sp.step rfl rfl rfl (mst rfl rfl (by decide) e1) ?_
    refine Sp.step rfl rfl rfl rfl ?_
    refine Sp.step rfl rfl rfl (mg_F (f := 34) rfl rfl rfl rfl) ?_
    refine Sp.step rfl rfl rfl rfl ?_
    refine Sp.step rfl rfl rfl rfl ?_
    refine Sp.step rfl rfl rfl rfl ?_
    refine Sp.step rfl rfl rfl (mg_F (f := 34) rfl rfl rfl rfl) ?_
    refine Sp.step rfl rfl rfl rfl ?_
    refine Sp.guard (fun e65 => ?_)
    refine Sp.step rfl rfl rfl (mld rfl rfl (by decide) e65) ?_
    refine Sp.piece (pe := 70) (mf := (fun (x67 : Int32) => [some (.ref 60), none, some (.int y), some (.ref 86), some (.int z), none, none])) (sf := (fun (x67 : Int32) => [.int x67, .int x, .ref 89])) (hf := (fun (x67 : Int32) => hS X (mw (mw (mw (mw M 81 y.toNatClampNeg 1) 82 y.toNatClampNeg 1) 88 ((60 * x) + y).toNatClampNeg 1) 83 y.toNatClampNeg z))) ?_ (fun x67 => ?_)
    · refine Sp.if2 rfl rfl rfl rfl (fun e66 => ?_) (fun e66 => ?_)
      · refine Sp.step rfl rfl rfl rfl ?_
        refine Sp.step rfl rfl rfl (mg_F (f := 34) rfl rfl rfl rfl) ?_
        refine Sp.step rfl rfl rfl rfl ?_
        refine Sp.step rfl rfl rfl (mld rfl rfl (by decide) e65) ?_
        exact Sp.jmp (l0 := [some (.ref 60), none, some (.int y), some (.ref 86), some (.int z), none, none]) ⟨rfl, rfl, rfl, rfl, trivial⟩ (fun _ _ h => h)
      · refine Sp.step rfl rfl rfl rfl ?_
        refine Sp.step rfl rfl rfl rfl ?_
        exact Sp.jmp (l0 := [some (.ref 60), none, some (.int y), some (.ref 86), some (.int z), none, none]) ⟨rfl, rfl, rfl, rfl, trivial⟩ (fun _ _ h => h)
    · refine Sp.step rfl rfl rfl (mst rfl rfl (by decide) e65) ?_
      refine Sp.step rfl rfl rfl rfl ?_
      refine Sp.step rfl rfl rfl rfl ?_
      refine Sp.weak (l0 := [some (.ref 60), none, some (.int y), some (.ref 86), some (.int z), some (.int 0), none]) ⟨rfl, rfl, rfl, rfl, rfl, trivial⟩ ?_
      refine Sp.loopX (pe := 103) (mf := (fun (x74 : (Int32 × MS)) => [some (.ref 60), none, some (.int y), some (.ref 86), some (.int z), some (.int x74.1), none])) (hf := (fun (x74 : (Int32 × MS)) => hS X x74.2)) (fun x74 => ?_) (fun x79 => ?_) _ _
      · unfold b74_M_comeTo_86
        refine Sp.step rfl rfl rfl rfl ?_
        refine Sp.step rfl rfl rfl rfl ?_
        refine Sp.if2 rfl rfl rfl rfl (fun e75 => ?_) (fun e75 => ?_)
        · exact Sp.jmp (l0 := [some (.ref 60), none, some (.int y), some (.ref 86), some (.int z), some (.int x74.1), none]) ⟨rfl, rfl, rfl, rfl, rfl, trivial⟩ (fun _ _ h => h)
        · refine Sp.step rfl rfl rfl rfl ?_
          refine Sp.step rfl rfl rfl (mg_F (f := 27) rfl rfl rfl rfl) ?_
          refine Sp.step rfl rfl rfl rfl ?_
          refine Sp.step rfl rfl rfl rfl ?_
          refine Sp.step rfl rfl rfl rfl ?_
          refine Sp.step rfl rfl rfl rfl ?_
          refine Sp.step rfl rfl rfl rfl ?_
          refine Sp.step rfl rfl rfl rfl ?_
          refine Sp.step rfl rfl rfl rfl ?_
          refine Sp.guard (fun e76 => ?_)
          refine Sp.step rfl rfl rfl (mld rfl rfl (by decide) e76) ?_
          refine Sp.guard (fun e77 => ?_)
          refine Sp.step rfl rfl rfl (mst rfl rfl (by decide) e77) ?_
          refine Sp.step rfl rfl rfl rfl ?_
          refine Sp.step rfl rfl rfl rfl ?_
          exact Sp.jmp (l0 := [some (.ref 60), none, some (.int y), some (.ref 86), some (.int z), some (.int (x74.1 + 1)), none]) ⟨rfl, rfl, rfl, rfl, rfl, trivial⟩ (fun _ _ h => h)
      · refine Sp.step rfl rfl rfl rfl ?_
        refine Sp.step rfl rfl rfl rfl ?_
        refine Sp.weak (l0 := [some (.ref 60), none, some (.int y), none, none, some (.int 0), none]) ⟨rfl, rfl, rfl, trivial⟩ ?_
        refine Sp.loopX (pe := 138) (mf := (fun (x85 : (Int32 × MS)) => [some (.ref 60), none, some (.int y), none, none, some (.int x85.1), none])) (hf := (fun (x85 : (Int32 × MS)) => hS X x85.2)) (fun x85 => ?_) (fun x90 => ?_) _ _
        · unfold b106_M_comeTo_86
          refine Sp.step rfl rfl rfl rfl ?_
          refine Sp.step rfl rfl rfl rfl ?_
          refine Sp.if2 rfl rfl rfl rfl (fun e86 => ?_) (fun e86 => ?_)
          · exact Sp.jmp (l0 := [some (.ref 60), none, some (.int y), none, none, some (.int x85.1), none]) ⟨rfl, rfl, rfl, trivial⟩ (fun _ _ h => h)
          · refine Sp.step rfl rfl rfl rfl ?_
            refine Sp.step rfl rfl rfl (mg_F (f := 28) rfl rfl rfl rfl) ?_
            refine Sp.step rfl rfl rfl rfl ?_
            refine Sp.step rfl rfl rfl rfl ?_
            refine Sp.step rfl rfl rfl rfl ?_
            refine Sp.step rfl rfl rfl rfl ?_
            refine Sp.step rfl rfl rfl rfl ?_
            refine Sp.step rfl rfl rfl rfl ?_
            refine Sp.step rfl rfl rfl (mg_F (f := 31) rfl rfl rfl rfl) ?_
            refine Sp.step rfl rfl rfl rfl ?_
            refine Sp.guard (fun e87 => ?_)
            refine Sp.step rfl rfl rfl (mld rfl rfl (by decide) e87) ?_
            refine Sp.guard (fun e88 => ?_)
            refine Sp.step rfl rfl rfl (mst rfl rfl (by decide) e88) ?_
            refine Sp.step rfl rfl rfl rfl ?_
            refine Sp.step rfl rfl rfl rfl ?_
            exact Sp.jmp (l0 := [some (.ref 60), none, some (.int y), none, none, some (.int (x85.1 + 1)), none]) ⟨rfl, rfl, rfl, trivial⟩ (fun _ _ h => h)
        · refine Sp.step rfl rfl rfl rfl ?_
          exact Sp.iret rfl rfl rfl rfl (fun _ _ h => h)
def b2_M_nextLook (x : Int32) (M : MS) (x1 : Int32) : Option (Int32 ⊕ Int32) := (if ixo x 24 then (if M.1 70 x.toNatClampNeg ≤ x1 then some (.inr (-2)) else (if ixo x1 60 then (if M.1 82 x1.toNatClampNeg = 0 then some (.inl (x1 + 1)) else some (.inr x1)) else none)) else none)
def f_M_nextLook (x : Int32) (M : MS) : Option Int32 := (lp (b2_M_nextLook x M) 10000 (0 : Int32))
set_option maxRecDepth 100000 in
set_option maxHeartbeats 4000000 in
theorem s_M_nextLook {L : Nat} {xs : Nat → Int32} {X : XS} {M : MS} {x : Int32} : Sp (mjOO L xs) 42 0 [some (.ref 60), some (.int x), none] [] (hS X M) (f_M_nextLook x M) (KQ (hS X M)) := by
  unfold f_M_nextLook
  refine Sp.step rfl rfl rfl rfl ?_
  refine Sp.step rfl rfl rfl rfl ?_
  refine Sp.weak (l0 := [some (.ref 60), some (.int x), some (.int 0)]) ⟨rfl, rfl, rfl, trivial⟩ ?_
  refine Sp.loopL (mf := (fun (x1 : Int32) => [some (.ref 60), some (.int x), some (.int x1)])) (hf := (fun (x1 : Int32) => hS X M)) (fun x1 => ?_) _ _
  unfold b2_M_nextLook
  refine Sp.step rfl rfl rfl rfl ?_
  refine Sp.step rfl rfl rfl rfl ?_
  refine Sp.step rfl rfl rfl (mg_F (f := 10) rfl rfl rfl rfl) ?_
  refine Sp.step rfl rfl rfl rfl ?_
  refine Sp.guard (fun e2 => ?_)
  refine Sp.step rfl rfl rfl (mld rfl rfl (by decide) e2) ?_
  refine Sp.if2 rfl rfl rfl rfl (fun e3 => ?_) (fun e3 => ?_)
  · refine Sp.step rfl rfl rfl rfl ?_
    exact Sp.iret rfl rfl rfl rfl (fun _ _ h => h)
  · refine Sp.step rfl rfl rfl rfl ?_
    refine Sp.step rfl rfl rfl (mg_F (f := 25) rfl rfl rfl rfl) ?_
    refine Sp.step rfl rfl rfl rfl ?_
    refine Sp.guard (fun e4 => ?_)
    refine Sp.step rfl rfl rfl (mld rfl rfl (by decide) e4) ?_
    refine Sp.if1 rfl rfl rfl rfl (fun e5 => ?_) (fun e5 => ?_)
    · refine Sp.step rfl rfl rfl rfl ?_
      refine Sp.step rfl rfl rfl rfl ?_
      exact Sp.jmp (l0 := [some (.ref 60), some (.int x), some (.int (x1 + 1))]) ⟨rfl, rfl, rfl, trivial⟩ (fun _ _ h => h)
    · refine Sp.step rfl rfl rfl rfl ?_
      exact Sp.iret rfl rfl rfl rfl (fun _ _ h => h)
def b161_M_comeTo_90 (y : Int32) (z : Int32) (M : MS) (x4 : (Int32 × Int32)) : Option ((Int32 × Int32) ⊕ (Int32 × Int32)) := (if z ≤ x4.2 then some (.inr (x4.1, x4.2)) else (if x4.1 = 0 then some (.inr (x4.1, x4.2)) else (if ixo ((10 * y) + x4.2) 600 then (if ixo x4.2 10 then (if ¬ M.1 84 ((10 * y) + x4.2).toNatClampNeg = M.1 90 x4.2.toNatClampNeg then some (.inl (0, x4.2 + 1)) else some (.inl (1, x4.2 + 1))) else none) else none)))
def b208_M_comeTo_90 (y : Int32) (x10 : (Int32 × Int32)) (x20 : (Int32 × MS)) : Option ((Int32 × MS) ⊕ (Int32 × MS)) := (if 12 ≤ x20.1 then some (.inr (x20.1, x20.2)) else (if x10.1 = 0 then some (.inr (x20.1, x20.2)) else (if ixo ((12 * y) + x20.1) 720 then (if x20.2.1 85 ((12 * y) + x20.1).toNatClampNeg = 0 then some (.inl (x20.1 + 1, x20.2)) else (if ixo x20.1 12 then (if x20.2.1 85 ((12 * y) + x20.1).toNatClampNeg = x20.2.1 87 x20.1.toNatClampNeg then some (.inl (x20.1 + 1, x20.2)) else (lt (mw x20.2 85 ((12 * y) + x20.1).toNatClampNeg 0) fun M27 => (if ixo y 60 then (lt (mw M27 82 y.toNatClampNeg 1) fun M29 => some (.inl (x20.1 + 1, M29))) else none))) else none)) else none)))
def b208_M_comeTo_90' (y : Int32) (x38 : (Int32 × Int32)) (x48 : (Int32 × MS)) : Option ((Int32 × MS) ⊕ (Int32 × MS)) := (if 12 ≤ x48.1 then some (.inr (x48.1, x48.2)) else (if x38.1 = 0 then some (.inr (x48.1, x48.2)) else (if ixo ((12 * y) + x48.1) 720 then (if x48.2.1 85 ((12 * y) + x48.1).toNatClampNeg = 0 then some (.inl (x48.1 + 1, x48.2)) else (if ixo x48.1 12 then (if x48.2.1 85 ((12 * y) + x48.1).toNatClampNeg = x48.2.1 87 x48.1.toNatClampNeg then some (.inl (x48.1 + 1, x48.2)) else (lt (mw x48.2 85 ((12 * y) + x48.1).toNatClampNeg 0) fun M55 => (if ixo y 60 then (lt (mw M55 82 y.toNatClampNeg 1) fun M57 => some (.inl (x48.1 + 1, M57))) else none))) else none)) else none)))
def b74_M_comeTo_90 (y : Int32) (z : Int32) (x74 : (Int32 × MS)) : Option ((Int32 × MS) ⊕ (Int32 × MS)) := (if z ≤ x74.1 then some (.inr (x74.1, x74.2)) else (if ixo x74.1 10 then (if ixo ((10 * y) + x74.1) 600 then (lt (mw x74.2 84 ((10 * y) + x74.1).toNatClampNeg (x74.2.1 90 x74.1.toNatClampNeg)) fun M78 => some (.inl (x74.1 + 1, M78))) else none) else none))
def b106_M_comeTo_90 (y : Int32) (x85 : (Int32 × MS)) : Option ((Int32 × MS) ⊕ (Int32 × MS)) := (if 12 ≤ x85.1 then some (.inr (x85.1, x85.2)) else (if ixo x85.1 12 then (if ixo ((12 * y) + x85.1) 720 then (lt (mw x85.2 85 ((12 * y) + x85.1).toNatClampNeg (x85.2.1 87 x85.1.toNatClampNeg)) fun M89 => some (.inl (x85.1 + 1, M89))) else none) else none))
def f_M_comeTo_90 (x : Int32) (y : Int32) (z : Int32) (M : MS) : Option (Bool × MS) := (if ixo y 60 then (if ¬ M.1 81 y.toNatClampNeg = 0 then (if ¬ M.1 83 y.toNatClampNeg = z then ((lp (b161_M_comeTo_90 y z M) 10000 ((0 : Int32), (0 : Int32))).bind fun x10 => ((lp (b208_M_comeTo_90 y x10) 10000 ((0 : Int32), M)).bind fun x30 => (if x10.1 = 1 then some (true, x30.2) else (if x10.1 = 0 then some (false, x30.2) else none)))) else ((lp (b161_M_comeTo_90 y z M) 10000 ((1 : Int32), (0 : Int32))).bind fun x38 => ((lp (b208_M_comeTo_90' y x38) 10000 ((0 : Int32), M)).bind fun x58 => (if x38.1 = 1 then some (true, x58.2) else (if x38.1 = 0 then some (false, x58.2) else none))))) else (lt (mw M 81 y.toNatClampNeg 1) fun M60 => (lt (mw M60 82 y.toNatClampNeg 1) fun M61 => (if ixo ((60 * x) + y) 1440 then (lt (mw M61 88 ((60 * x) + y).toNatClampNeg 1) fun M63 => (lt (mw M63 83 y.toNatClampNeg z) fun M64 => (if ixo x 24 then (((if z ≤ M64.1 89 x.toNatClampNeg then some (M64.1 89 x.toNatClampNeg) else some z) : Option (Int32)).bind fun x67 => (lt (mw M64 89 x.toNatClampNeg x67) fun M68 => ((lp (b74_M_comeTo_90 y z) 10000 ((0 : Int32), M68)).bind fun x79 => ((lp (b106_M_comeTo_90 y) 10000 ((0 : Int32), x79.2)).bind fun x90 => some (true, x90.2))))) else none))) else none)))) else none)
set_option maxRecDepth 100000 in
set_option maxHeartbeats 4000000 in
theorem s_M_comeTo_90 {L : Nat} {xs : Nat → Int32} {X : XS} {M : MS} {x : Int32} {y : Int32} {z : Int32} : Sp (mjOO L xs) 33 0 [some (.ref 60), some (.int x), some (.int y), some (.ref 90), some (.int z), none, none] [] (hS X M) (f_M_comeTo_90 x y z M) (KBM X) := by
  unfold f_M_comeTo_90
  refine Sp.step rfl rfl rfl rfl ?_
  refine Sp.step rfl rfl rfl (mg_F (f := 24) rfl rfl rfl rfl) ?_
  refine Sp.step rfl rfl rfl rfl ?_
  refine Sp.guard (fun e1 => ?_)
  refine Sp.step rfl rfl rfl (mld rfl rfl (by decide) e1) ?_
  refine Sp.if1 rfl rfl rfl rfl (fun e2 => ?_) (fun e2 => ?_)
  · refine Sp.step rfl rfl rfl rfl ?_
    refine Sp.step rfl rfl rfl (mg_F (f := 26) rfl rfl rfl rfl) ?_
    refine Sp.step rfl rfl rfl rfl ?_
    refine Sp.step rfl rfl rfl (mld rfl rfl (by decide) e1) ?_
    refine Sp.step rfl rfl rfl rfl ?_
    refine Sp.if2 rfl rfl rfl rfl (fun e3 => ?_) (fun e3 => ?_)
    · refine Sp.step rfl rfl rfl rfl ?_
      refine Sp.step rfl rfl rfl rfl ?_
      refine Sp.step rfl rfl rfl rfl ?_
      refine Sp.step rfl rfl rfl rfl ?_
      refine Sp.weak (l0 := [some (.ref 60), none, some (.int y), some (.ref 90), some (.int z), some (.int 0), some (.int 0)]) ⟨rfl, rfl, rfl, rfl, rfl, rfl, trivial⟩ ?_
      refine Sp.loopX (pe := 205) (mf := (fun (x4 : (Int32 × Int32)) => [some (.ref 60), none, some (.int y), some (.ref 90), some (.int z), some (.int x4.1), some (.int x4.2)])) (hf := (fun (x4 : (Int32 × Int32)) => hS X M)) (fun x4 => ?_) (fun x10 => ?_) _ _
      · unfold b161_M_comeTo_90
        refine Sp.step rfl rfl rfl rfl ?_
        refine Sp.step rfl rfl rfl rfl ?_
        refine Sp.if2 rfl rfl rfl rfl (fun e5 => ?_) (fun e5 => ?_)
        · exact Sp.jmp (l0 := [some (.ref 60), none, some (.int y), some (.ref 90), some (.int z), some (.int x4.1), some (.int x4.2)]) ⟨rfl, rfl, rfl, rfl, rfl, rfl, trivial⟩ (fun _ _ h => h)
        · refine Sp.step rfl rfl rfl rfl ?_
          refine Sp.if1 rfl rfl rfl rfl (fun e6 => ?_) (fun e6 => ?_)
          · exact Sp.jmp (l0 := [some (.ref 60), none, some (.int y), some (.ref 90), some (.int z), some (.int x4.1), some (.int x4.2)]) ⟨rfl, rfl, rfl, rfl, rfl, rfl, trivial⟩ (fun _ _ h => h)
          · refine Sp.step rfl rfl rfl rfl ?_
            refine Sp.step rfl rfl rfl (mg_F (f := 27) rfl rfl rfl rfl) ?_
            refine Sp.step rfl rfl rfl rfl ?_
            refine Sp.step rfl rfl rfl rfl ?_
            refine Sp.step rfl rfl rfl rfl ?_
            refine Sp.step rfl rfl rfl rfl ?_
            refine Sp.step rfl rfl rfl rfl ?_
            refine Sp.guard (fun e7 => ?_)
            refine Sp.step rfl rfl rfl (mld rfl rfl (by decide) e7) ?_
            refine Sp.step rfl rfl rfl rfl ?_
            refine Sp.step rfl rfl rfl rfl ?_
            refine Sp.guard (fun e8 => ?_)
            refine Sp.step rfl rfl rfl (mld rfl rfl (by decide) e8) ?_
            refine Sp.if2 rfl rfl rfl rfl (fun e9 => ?_) (fun e9 => ?_)
            · refine Sp.step rfl rfl rfl rfl ?_
              refine Sp.step rfl rfl rfl rfl ?_
              refine Sp.step rfl rfl rfl rfl ?_
              refine Sp.step rfl rfl rfl rfl ?_
              exact Sp.jmp (l0 := [some (.ref 60), none, some (.int y), some (.ref 90), some (.int z), some (.int 0), some (.int (x4.2 + 1))]) ⟨rfl, rfl, rfl, rfl, rfl, rfl, trivial⟩ (fun _ _ h => h)
            · refine Sp.step rfl rfl rfl rfl ?_
              refine Sp.step rfl rfl rfl rfl ?_
              refine Sp.step rfl rfl rfl rfl ?_
              refine Sp.step rfl rfl rfl rfl ?_
              refine Sp.step rfl rfl rfl rfl ?_
              exact Sp.jmp (l0 := [some (.ref 60), none, some (.int y), some (.ref 90), some (.int z), some (.int 1), some (.int (x4.2 + 1))]) ⟨rfl, rfl, rfl, rfl, rfl, rfl, trivial⟩ (fun _ _ h => h)
      · refine Sp.step rfl rfl rfl rfl ?_
        refine Sp.step rfl rfl rfl rfl ?_
        refine Sp.weak (l0 := [some (.ref 60), none, some (.int y), none, none, some (.int x10.1), some (.int 0)]) ⟨rfl, rfl, rfl, rfl, trivial⟩ ?_
        refine Sp.loopX (pe := 283) (mf := (fun (x20 : (Int32 × MS)) => [some (.ref 60), none, some (.int y), none, none, some (.int x10.1), some (.int x20.1)])) (hf := (fun (x20 : (Int32 × MS)) => hS X x20.2)) (fun x20 => ?_) (fun x30 => ?_) _ _
        · unfold b208_M_comeTo_90
          refine Sp.step rfl rfl rfl rfl ?_
          refine Sp.step rfl rfl rfl rfl ?_
          refine Sp.if2 rfl rfl rfl rfl (fun e21 => ?_) (fun e21 => ?_)
          · exact Sp.jmp (l0 := [some (.ref 60), none, some (.int y), none, none, some (.int x10.1), some (.int x20.1)]) ⟨rfl, rfl, rfl, rfl, trivial⟩ (fun _ _ h => h)
          · refine Sp.step rfl rfl rfl rfl ?_
            refine Sp.if1 rfl rfl rfl rfl (fun e22 => ?_) (fun e22 => ?_)
            · exact Sp.jmp (l0 := [some (.ref 60), none, some (.int y), none, none, some (.int x10.1), some (.int x20.1)]) ⟨rfl, rfl, rfl, rfl, trivial⟩ (fun _ _ h => h)
            · refine Sp.step rfl rfl rfl rfl ?_
              refine Sp.step rfl rfl rfl (mg_F (f := 28) rfl rfl rfl rfl) ?_
              refine Sp.step rfl rfl rfl rfl ?_
              refine Sp.step rfl rfl rfl rfl ?_
              refine Sp.step rfl rfl rfl rfl ?_
              refine Sp.step rfl rfl rfl rfl ?_
              refine Sp.step rfl rfl rfl rfl ?_
              refine Sp.guard (fun e23 => ?_)
              refine Sp.step rfl rfl rfl (mld rfl rfl (by decide) e23) ?_
              refine Sp.if1 rfl rfl rfl rfl (fun e24 => ?_) (fun e24 => ?_)
              · refine Sp.step rfl rfl rfl rfl ?_
                refine Sp.step rfl rfl rfl rfl ?_
                exact Sp.jmp (l0 := [some (.ref 60), none, some (.int y), none, none, some (.int x10.1), some (.int (x20.1 + 1))]) ⟨rfl, rfl, rfl, rfl, trivial⟩ (fun _ _ h => h)
              · refine Sp.step rfl rfl rfl rfl ?_
                refine Sp.step rfl rfl rfl (mg_F (f := 28) rfl rfl rfl rfl) ?_
                refine Sp.step rfl rfl rfl rfl ?_
                refine Sp.step rfl rfl rfl rfl ?_
                refine Sp.step rfl rfl rfl rfl ?_
                refine Sp.step rfl rfl rfl rfl ?_
                refine Sp.step rfl rfl rfl rfl ?_
                refine Sp.step rfl rfl rfl (mld rfl rfl (by decide) e23) ?_
                refine Sp.step rfl rfl rfl rfl ?_
                refine Sp.step rfl rfl rfl (mg_F (f := 31) rfl rfl rfl rfl) ?_
                refine Sp.step rfl rfl rfl rfl ?_
                refine Sp.guard (fun e25 => ?_)
                refine Sp.step rfl rfl rfl (mld rfl rfl (by decide) e25) ?_
                refine Sp.if2 rfl rfl rfl rfl (fun e26 => ?_) (fun e26 => ?_)
                · refine Sp.step rfl rfl rfl rfl ?_
                  refine Sp.step rfl rfl rfl rfl ?_
                  exact Sp.jmp (l0 := [some (.ref 60), none, some (.int y), none, none, some (.int x10.1), some (.int (x20.1 + 1))]) ⟨rfl, rfl, rfl, rfl, trivial⟩ (fun _ _ h => h)
                · refine Sp.step rfl rfl rfl rfl ?_
                  refine Sp.step rfl rfl rfl (mg_F (f := 28) rfl rfl rfl rfl) ?_
                  refine Sp.step rfl rfl rfl rfl ?_
                  refine Sp.step rfl rfl rfl rfl ?_
                  refine Sp.step rfl rfl rfl rfl ?_
                  refine Sp.step rfl rfl rfl rfl ?_
                  refine Sp.step rfl rfl rfl rfl ?_
                  refine Sp.step rfl rfl rfl rfl ?_
                  refine Sp.step rfl rfl rfl (mst rfl rfl (by decide) e23) ?_
                  refine Sp.step rfl rfl rfl rfl ?_
                  refine Sp.step rfl rfl rfl (mg_F (f := 25) rfl rfl rfl rfl) ?_
                  refine Sp.step rfl rfl rfl rfl ?_
                  refine Sp.step rfl rfl rfl rfl ?_
                  refine Sp.guard (fun e28 => ?_)
                  refine Sp.step rfl rfl rfl (mst1 rfl rfl e28) ?_
                  refine Sp.step rfl rfl rfl rfl ?_
                  refine Sp.step rfl rfl rfl rfl ?_
                  exact Sp.jmp (l0 := [some (.ref 60), none, some (.int y), none, none, some (.int x10.1), some (.int (x20.1 + 1))]) ⟨rfl, rfl, rfl, rfl, trivial⟩ (fun _ _ h => h)
        · refine Sp.step rfl rfl rfl rfl ?_
          refine Sp.ite (fun e31 => ?_) (fun _ => Sp.guard (fun e31 => ?_))
          · exact Sp.iret rfl rfl rfl (by rw [e31]; rfl) (fun _ _ h => by rw [e31]; exact h)
          · exact Sp.iret rfl rfl rfl (by rw [e31]; rfl) (fun _ _ h => by rw [e31]; exact h)
    · refine Sp.step rfl rfl rfl rfl ?_
      refine Sp.step rfl rfl rfl rfl ?_
      refine Sp.step rfl rfl rfl rfl ?_
      refine Sp.step rfl rfl rfl rfl ?_
      refine Sp.step rfl rfl rfl rfl ?_
      refine Sp.weak (l0 := [some (.ref 60), none, some (.int y), some (.ref 90), some (.int z), some (.int 1), some (.int 0)]) ⟨rfl, rfl, rfl, rfl, rfl, rfl, trivial⟩ ?_
      refine Sp.loopX (pe := 205) (mf := (fun (x32 : (Int32 × Int32)) => [some (.ref 60), none, some (.int y), some (.ref 90), some (.int z), some (.int x32.1), some (.int x32.2)])) (hf := (fun (x32 : (Int32 × Int32)) => hS X M)) (fun x32 => ?_) (fun x38 => ?_) _ _
      · unfold b161_M_comeTo_90
        refine Sp.step rfl rfl rfl rfl ?_
        refine Sp.step rfl rfl rfl rfl ?_
        refine Sp.if2 rfl rfl rfl rfl (fun e33 => ?_) (fun e33 => ?_)
        · exact Sp.jmp (l0 := [some (.ref 60), none, some (.int y), some (.ref 90), some (.int z), some (.int x32.1), some (.int x32.2)]) ⟨rfl, rfl, rfl, rfl, rfl, rfl, trivial⟩ (fun _ _ h => h)
        · refine Sp.step rfl rfl rfl rfl ?_
          refine Sp.if1 rfl rfl rfl rfl (fun e34 => ?_) (fun e34 => ?_)
          · exact Sp.jmp (l0 := [some (.ref 60), none, some (.int y), some (.ref 90), some (.int z), some (.int x32.1), some (.int x32.2)]) ⟨rfl, rfl, rfl, rfl, rfl, rfl, trivial⟩ (fun _ _ h => h)
          · refine Sp.step rfl rfl rfl rfl ?_
            refine Sp.step rfl rfl rfl (mg_F (f := 27) rfl rfl rfl rfl) ?_
            refine Sp.step rfl rfl rfl rfl ?_
            refine Sp.step rfl rfl rfl rfl ?_
            refine Sp.step rfl rfl rfl rfl ?_
            refine Sp.step rfl rfl rfl rfl ?_
            refine Sp.step rfl rfl rfl rfl ?_
            refine Sp.guard (fun e35 => ?_)
            refine Sp.step rfl rfl rfl (mld rfl rfl (by decide) e35) ?_
            refine Sp.step rfl rfl rfl rfl ?_
            refine Sp.step rfl rfl rfl rfl ?_
            refine Sp.guard (fun e36 => ?_)
            refine Sp.step rfl rfl rfl (mld rfl rfl (by decide) e36) ?_
            refine Sp.if2 rfl rfl rfl rfl (fun e37 => ?_) (fun e37 => ?_)
            · refine Sp.step rfl rfl rfl rfl ?_
              refine Sp.step rfl rfl rfl rfl ?_
              refine Sp.step rfl rfl rfl rfl ?_
              refine Sp.step rfl rfl rfl rfl ?_
              exact Sp.jmp (l0 := [some (.ref 60), none, some (.int y), some (.ref 90), some (.int z), some (.int 0), some (.int (x32.2 + 1))]) ⟨rfl, rfl, rfl, rfl, rfl, rfl, trivial⟩ (fun _ _ h => h)
            · refine Sp.step rfl rfl rfl rfl ?_
              refine Sp.step rfl rfl rfl rfl ?_
              refine Sp.step rfl rfl rfl rfl ?_
              refine Sp.step rfl rfl rfl rfl ?_
              refine Sp.step rfl rfl rfl rfl ?_
              exact Sp.jmp (l0 := [some (.ref 60), none, some (.int y), some (.ref 90), some (.int z), some (.int 1), some (.int (x32.2 + 1))]) ⟨rfl, rfl, rfl, rfl, rfl, rfl, trivial⟩ (fun _ _ h => h)
      · refine Sp.step rfl rfl rfl rfl ?_
        refine Sp.step rfl rfl rfl rfl ?_
        refine Sp.weak (l0 := [some (.ref 60), none, some (.int y), none, none, some (.int x38.1), some (.int 0)]) ⟨rfl, rfl, rfl, rfl, trivial⟩ ?_
        refine Sp.loopX (pe := 283) (mf := (fun (x48 : (Int32 × MS)) => [some (.ref 60), none, some (.int y), none, none, some (.int x38.1), some (.int x48.1)])) (hf := (fun (x48 : (Int32 × MS)) => hS X x48.2)) (fun x48 => ?_) (fun x58 => ?_) _ _
        · unfold b208_M_comeTo_90'
          refine Sp.step rfl rfl rfl rfl ?_
          refine Sp.step rfl rfl rfl rfl ?_
          refine Sp.if2 rfl rfl rfl rfl (fun e49 => ?_) (fun e49 => ?_)
          · exact Sp.jmp (l0 := [some (.ref 60), none, some (.int y), none, none, some (.int x38.1), some (.int x48.1)]) ⟨rfl, rfl, rfl, rfl, trivial⟩ (fun _ _ h => h)
          · refine Sp.step rfl rfl rfl rfl ?_
            refine Sp.if1 rfl rfl rfl rfl (fun e50 => ?_) (fun e50 => ?_)
            · exact Sp.jmp (l0 := [some (.ref 60), none, some (.int y), none, none, some (.int x38.1), some (.int x48.1)]) ⟨rfl, rfl, rfl, rfl, trivial⟩ (fun _ _ h => h)
            · refine Sp.step rfl rfl rfl rfl ?_
              refine Sp.step rfl rfl rfl (mg_F (f := 28) rfl rfl rfl rfl) ?_
              refine Sp.step rfl rfl rfl rfl ?_
              refine Sp.step rfl rfl rfl rfl ?_
              refine Sp.step rfl rfl rfl rfl ?_
              refine Sp.step rfl rfl rfl rfl ?_
              refine Sp.step rfl rfl rfl rfl ?_
              refine Sp.guard (fun e51 => ?_)
              refine Sp.step rfl rfl rfl (mld rfl rfl (by decide) e51) ?_
              refine Sp.if1 rfl rfl rfl rfl (fun e52 => ?_) (fun e52 => ?_)
              · refine Sp.step rfl rfl rfl rfl ?_
                refine Sp.step rfl rfl rfl rfl ?_
                exact Sp.jmp (l0 := [some (.ref 60), none, some (.int y), none, none, some (.int x38.1), some (.int (x48.1 + 1))]) ⟨rfl, rfl, rfl, rfl, trivial⟩ (fun _ _ h => h)
              · refine Sp.step rfl rfl rfl rfl ?_
                refine Sp.step rfl rfl rfl (mg_F (f := 28) rfl rfl rfl rfl) ?_
                refine Sp.step rfl rfl rfl rfl ?_
                refine Sp.step rfl rfl rfl rfl ?_
                refine Sp.step rfl rfl rfl rfl ?_
                refine Sp.step rfl rfl rfl rfl ?_
                refine Sp.step rfl rfl rfl rfl ?_
                refine Sp.step rfl rfl rfl (mld rfl rfl (by decide) e51) ?_
                refine Sp.step rfl rfl rfl rfl ?_
                refine Sp.step rfl rfl rfl (mg_F (f := 31) rfl rfl rfl rfl) ?_
                refine Sp.step rfl rfl rfl rfl ?_
                refine Sp.guard (fun e53 => ?_)
                refine Sp.step rfl rfl rfl (mld rfl rfl (by decide) e53) ?_
                refine Sp.if2 rfl rfl rfl rfl (fun e54 => ?_) (fun e54 => ?_)
                · refine Sp.step rfl rfl rfl rfl ?_
                  refine Sp.step rfl rfl rfl rfl ?_
                  exact Sp.jmp (l0 := [some (.ref 60), none, some (.int y), none, none, some (.int x38.1), some (.int (x48.1 + 1))]) ⟨rfl, rfl, rfl, rfl, trivial⟩ (fun _ _ h => h)
                · refine Sp.step rfl rfl rfl rfl ?_
                  refine Sp.step rfl rfl rfl (mg_F (f := 28) rfl rfl rfl rfl) ?_
                  refine Sp.step rfl rfl rfl rfl ?_
                  refine Sp.step rfl rfl rfl rfl ?_
                  refine Sp.step rfl rfl rfl rfl ?_
                  refine Sp.step rfl rfl rfl rfl ?_
                  refine Sp.step rfl rfl rfl rfl ?_
                  refine Sp.step rfl rfl rfl rfl ?_
                  refine Sp.step rfl rfl rfl (mst rfl rfl (by decide) e51) ?_
                  refine Sp.step rfl rfl rfl rfl ?_
                  refine Sp.step rfl rfl rfl (mg_F (f := 25) rfl rfl rfl rfl) ?_
                  refine Sp.step rfl rfl rfl rfl ?_
                  refine Sp.step rfl rfl rfl rfl ?_
                  refine Sp.guard (fun e56 => ?_)
                  refine Sp.step rfl rfl rfl (mst1 rfl rfl e56) ?_
                  refine Sp.step rfl rfl rfl rfl ?_
                  refine Sp.step rfl rfl rfl rfl ?_
                  exact Sp.jmp (l0 := [some (.ref 60), none, some (.int y), none, none, some (.int x38.1), some (.int (x48.1 + 1))]) ⟨rfl, rfl, rfl, rfl, trivial⟩ (fun _ _ h => h)
        · refine Sp.step rfl rfl rfl rfl ?_
          refine Sp.ite (fun e59 => ?_) (fun _ => Sp.guard (fun e59 => ?_))
          · exact Sp.iret rfl rfl rfl (by rw [e59]; rfl) (fun _ _ h => by rw [e59]; exact h)
          · exact Sp.iret rfl rfl rfl (by rw [e59]; rfl) (fun _ _ h => by rw [e59]; exact h)
  · refine Sp.step rfl rfl rfl rfl ?_
    refine Sp.step rfl rfl rfl (mg_F (f := 24) rfl rfl rfl rfl) ?_
    refine Sp.step rfl rfl rfl rfl ?_
    refine Sp.step rfl rfl rfl rfl ?_
    refine Sp.step rfl rfl rfl (mst1 rfl rfl e1) ?_
    refine Sp.step rfl rfl rfl rfl ?_
    refine Sp.step rfl rfl rfl (mg_F (f := 25) rfl rfl rfl rfl) ?_
    refine Sp.step rfl rfl rfl rfl ?_
    refine Sp.step rfl rfl rfl rfl ?_
    refine Sp.step rfl rfl rfl (mst1 rfl rfl e1) ?_
    refine Sp.step rfl rfl rfl rfl ?_
    refine Sp.step rfl rfl rfl (mg_F (f := 33) rfl rfl rfl rfl) ?_
    refine Sp.step rfl rfl rfl rfl ?_
    refine Sp.step rfl rfl rfl rfl ?_
    refine Sp.step rfl rfl rfl rfl ?_
    refine Sp.step rfl rfl rfl rfl ?_
    refine Sp.step rfl rfl rfl rfl ?_
    refine Sp.step rfl rfl rfl rfl ?_
    refine Sp.guard (fun e62 => ?_)
    refine Sp.step rfl rfl rfl (mst1 rfl rfl e62) ?_
    refine Sp.step rfl rfl rfl rfl ?_
    refine Sp.step rfl rfl rfl (mg_F (f := 26) rfl rfl rfl rfl) ?_
    refine Sp.step rfl rfl rfl rfl ?_
    refine Sp.step rfl rfl rfl rfl ?_
    refine Sp.step rfl rfl rfl (mst rfl rfl (by decide) e1) ?_
    refine Sp.step rfl rfl rfl rfl ?_
    refine Sp.step rfl rfl rfl (mg_F (f := 34) rfl rfl rfl rfl) ?_
    refine Sp.step rfl rfl rfl rfl ?_
    refine Sp.step rfl rfl rfl rfl ?_
    refine Sp.step rfl rfl rfl rfl ?_
    refine Sp.step rfl rfl rfl (mg_F (f := 34) rfl rfl rfl rfl) ?_
    refine Sp.step rfl rfl rfl rfl ?_
    refine Sp.guard (fun e65 => ?_)
    refine Sp.step rfl rfl rfl (mld rfl rfl (by decide) e65) ?_
    refine Sp.piece (pe := 70) (mf := (fun (x67 : Int32) => [some (.ref 60), none, some (.int y), some (.ref 90), some (.int z), none, none])) (sf := (fun (x67 : Int32) => [.int x67, .int x, .ref 89])) (hf := (fun (x67 : Int32) => hS X (mw (mw (mw (mw M 81 y.toNatClampNeg 1) 82 y.toNatClampNeg 1) 88 ((60 * x) + y).toNatClampNeg 1) 83 y.toNatClampNeg z))) ?_ (fun x67 => ?_)
    · refine Sp.if2 rfl rfl rfl rfl (fun e66 => ?_) (fun e66 => ?_)
      · refine Sp.step rfl rfl rfl rfl ?_
        refine Sp.step rfl rfl rfl (mg_F (f := 34) rfl rfl rfl rfl) ?_
        refine Sp.step rfl rfl rfl rfl ?_
        refine Sp.step rfl rfl rfl (mld rfl rfl (by decide) e65) ?_
        exact Sp.jmp (l0 := [some (.ref 60), none, some (.int y), some (.ref 90), some (.int z), none, none]) ⟨rfl, rfl, rfl, rfl, trivial⟩ (fun _ _ h => h)
      · refine Sp.step rfl rfl rfl rfl ?_
        refine Sp.step rfl rfl rfl rfl ?_
        exact Sp.jmp (l0 := [some (.ref 60), none, some (.int y), some (.ref 90), some (.int z), none, none]) ⟨rfl, rfl, rfl, rfl, trivial⟩ (fun _ _ h => h)
    · refine Sp.step rfl rfl rfl (mst rfl rfl (by decide) e65) ?_
      refine Sp.step rfl rfl rfl rfl ?_
      refine Sp.step rfl rfl rfl rfl ?_
      refine Sp.weak (l0 := [some (.ref 60), none, some (.int y), some (.ref 90), some (.int z), some (.int 0), none]) ⟨rfl, rfl, rfl, rfl, rfl, trivial⟩ ?_
      refine Sp.loopX (pe := 103) (mf := (fun (x74 : (Int32 × MS)) => [some (.ref 60), none, some (.int y), some (.ref 90), some (.int z), some (.int x74.1), none])) (hf := (fun (x74 : (Int32 × MS)) => hS X x74.2)) (fun x74 => ?_) (fun x79 => ?_) _ _
      · unfold b74_M_comeTo_90
        refine Sp.step rfl rfl rfl rfl ?_
        refine Sp.step rfl rfl rfl rfl ?_
        refine Sp.if2 rfl rfl rfl rfl (fun e75 => ?_) (fun e75 => ?_)
        · exact Sp.jmp (l0 := [some (.ref 60), none, some (.int y), some (.ref 90), some (.int z), some (.int x74.1), none]) ⟨rfl, rfl, rfl, rfl, rfl, trivial⟩ (fun _ _ h => h)
        · refine Sp.step rfl rfl rfl rfl ?_
          refine Sp.step rfl rfl rfl (mg_F (f := 27) rfl rfl rfl rfl) ?_
          refine Sp.step rfl rfl rfl rfl ?_
          refine Sp.step rfl rfl rfl rfl ?_
          refine Sp.step rfl rfl rfl rfl ?_
          refine Sp.step rfl rfl rfl rfl ?_
          refine Sp.step rfl rfl rfl rfl ?_
          refine Sp.step rfl rfl rfl rfl ?_
          refine Sp.step rfl rfl rfl rfl ?_
          refine Sp.guard (fun e76 => ?_)
          refine Sp.step rfl rfl rfl (mld rfl rfl (by decide) e76) ?_
          refine Sp.guard (fun e77 => ?_)
          refine Sp.step rfl rfl rfl (mst rfl rfl (by decide) e77) ?_
          refine Sp.step rfl rfl rfl rfl ?_
          refine Sp.step rfl rfl rfl rfl ?_
          exact Sp.jmp (l0 := [some (.ref 60), none, some (.int y), some (.ref 90), some (.int z), some (.int (x74.1 + 1)), none]) ⟨rfl, rfl, rfl, rfl, rfl, trivial⟩ (fun _ _ h => h)
      · refine Sp.step rfl rfl rfl rfl ?_
        refine Sp.step rfl rfl rfl rfl ?_
        refine Sp.weak (l0 := [some (.ref 60), none, some (.int y), none, none, some (.int 0), none]) ⟨rfl, rfl, rfl, trivial⟩ ?_
        refine Sp.loopX (pe := 138) (mf := (fun (x85 : (Int32 × MS)) => [some (.ref 60), none, some (.int y), none, none, some (.int x85.1), none])) (hf := (fun (x85 : (Int32 × MS)) => hS X x85.2)) (fun x85 => ?_) (fun x90 => ?_) _ _
        · unfold b106_M_comeTo_90
          refine Sp.step rfl rfl rfl rfl ?_
          refine Sp.step rfl rfl rfl rfl ?_
          refine Sp.if2 rfl rfl rfl rfl (fun e86 => ?_) (fun e86 => ?_)
          · exact Sp.jmp (l0 := [some (.ref 60), none, some (.int y), none, none, some (.int x85.1), none]) ⟨rfl, rfl, rfl, trivial⟩ (fun _ _ h => h)
          · refine Sp.step rfl rfl rfl rfl ?_
            refine Sp.step rfl rfl rfl (mg_F (f := 28) rfl rfl rfl rfl) ?_
            refine Sp.step rfl rfl rfl rfl ?_
            refine Sp.step rfl rfl rfl rfl ?_
            refine Sp.step rfl rfl rfl rfl ?_
            refine Sp.step rfl rfl rfl rfl ?_
            refine Sp.step rfl rfl rfl rfl ?_
            refine Sp.step rfl rfl rfl rfl ?_
            refine Sp.step rfl rfl rfl (mg_F (f := 31) rfl rfl rfl rfl) ?_
            refine Sp.step rfl rfl rfl rfl ?_
            refine Sp.guard (fun e87 => ?_)
            refine Sp.step rfl rfl rfl (mld rfl rfl (by decide) e87) ?_
            refine Sp.guard (fun e88 => ?_)
            refine Sp.step rfl rfl rfl (mst rfl rfl (by decide) e88) ?_
            refine Sp.step rfl rfl rfl rfl ?_
            refine Sp.step rfl rfl rfl rfl ?_
            exact Sp.jmp (l0 := [some (.ref 60), none, some (.int y), none, none, some (.int (x85.1 + 1)), none]) ⟨rfl, rfl, rfl, trivial⟩ (fun _ _ h => h)
        · refine Sp.step rfl rfl rfl rfl ?_
          exact Sp.iret rfl rfl rfl rfl (fun _ _ h => h)
def b2_M_anyOf (x : Int32) (M : MS) (x1 : Int32) : Option (Int32 ⊕ Int32) := (if M.1 60 15 ≤ x1 then some (.inr (-2)) else (if ixo x1 24 then (if ¬ M.1 65 x1.toNatClampNeg = x then some (.inl (x1 + 1)) else some (.inr x1)) else none))
def f_M_anyOf (x : Int32) (M : MS) : Option Int32 := (lp (b2_M_anyOf x M) 10000 (0 : Int32))
set_option maxRecDepth 100000 in
set_option maxHeartbeats 4000000 in
theorem s_M_anyOf {L : Nat} {xs : Nat → Int32} {X : XS} {M : MS} {x : Int32} : Sp (mjOO L xs) 37 0 [some (.ref 60), some (.int x), none] [] (hS X M) (f_M_anyOf x M) (KQ (hS X M)) := by
  unfold f_M_anyOf
  refine Sp.step rfl rfl rfl rfl ?_
  refine Sp.step rfl rfl rfl rfl ?_
  refine Sp.weak (l0 := [some (.ref 60), some (.int x), some (.int 0)]) ⟨rfl, rfl, rfl, trivial⟩ ?_
  refine Sp.loopL (mf := (fun (x1 : Int32) => [some (.ref 60), some (.int x), some (.int x1)])) (hf := (fun (x1 : Int32) => hS X M)) (fun x1 => ?_) _ _
  unfold b2_M_anyOf
  refine Sp.step rfl rfl rfl rfl ?_
  refine Sp.step rfl rfl rfl rfl ?_
  refine Sp.step rfl rfl rfl (mg_I (f := 15) rfl rfl rfl) ?_
  refine Sp.if2 rfl rfl rfl rfl (fun e2 => ?_) (fun e2 => ?_)
  · refine Sp.step rfl rfl rfl rfl ?_
    exact Sp.iret rfl rfl rfl rfl (fun _ _ h => h)
  · refine Sp.step rfl rfl rfl rfl ?_
    refine Sp.step rfl rfl rfl (mg_F (f := 5) rfl rfl rfl rfl) ?_
    refine Sp.step rfl rfl rfl rfl ?_
    refine Sp.guard (fun e3 => ?_)
    refine Sp.step rfl rfl rfl (mld rfl rfl (by decide) e3) ?_
    refine Sp.step rfl rfl rfl rfl ?_
    refine Sp.if2 rfl rfl rfl rfl (fun e4 => ?_) (fun e4 => ?_)
    · refine Sp.step rfl rfl rfl rfl ?_
      refine Sp.step rfl rfl rfl rfl ?_
      exact Sp.jmp (l0 := [some (.ref 60), some (.int x), some (.int (x1 + 1))]) ⟨rfl, rfl, rfl, trivial⟩ (fun _ _ h => h)
    · refine Sp.step rfl rfl rfl rfl ?_
      exact Sp.iret rfl rfl rfl rfl (fun _ _ h => h)
def f_M_hasOperand (x : Int32) (y : Int32) (z : Int32) (M : MS) : Option Bool := (if y = 1 then (if (-32768) ≤ z ∧ z ≤ 32767 then some true else some false) else (if y = 2 then (if ixo x 24 then (if 0 ≤ z ∧ z ≤ (M.1 69 x.toNatClampNeg) - 1 then some true else some false) else none) else (if y = 3 then (if ixo x 24 then (if 0 ≤ z ∧ z ≤ (M.1 69 x.toNatClampNeg) - 1 then some true else some false) else none) else (if y = 4 then some true else (if y = 5 then some true else (if y = 6 then some true else (if y = 7 then some true else (if y = 8 then some true else (if y = 9 then some true else (if y = 10 then some true else (if y = 11 then some true else (if y = 12 then some true else (if y = 13 then some true else (if y = 14 then some true else (if y = 15 then some true else (if y = 16 then some true else (if y = 17 then some true else (if y = 18 then some true else (if y = 19 then (if ixo x 24 then (if 0 ≤ z ∧ z ≤ (M.1 70 x.toNatClampNeg) - 1 then some true else some false) else none) else (if y = 20 then (if ixo x 24 then (if 0 ≤ z ∧ z ≤ (M.1 70 x.toNatClampNeg) - 1 then some true else some false) else none) else (if y = 21 then (if ixo x 24 then (if 0 ≤ z ∧ z ≤ (M.1 70 x.toNatClampNeg) - 1 then some true else some false) else none) else (if y = 22 then (if ixo x 24 then (if 0 ≤ z ∧ z ≤ (M.1 70 x.toNatClampNeg) - 1 then some true else some false) else none) else (if y = 23 then (if ixo x 24 then (if 0 ≤ z ∧ z ≤ (M.1 70 x.toNatClampNeg) - 1 then some true else some false) else none) else (if y = 24 then (if ixo x 24 then (if 0 ≤ z ∧ z ≤ (M.1 70 x.toNatClampNeg) - 1 then some true else some false) else none) else (if y = 25 then (if ixo x 24 then (if 0 ≤ z ∧ z ≤ (M.1 70 x.toNatClampNeg) - 1 then some true else some false) else none) else (if y = 26 then (if f_M_isClass z M = true then some true else some false) else (if y = 27 then (if z < 0 then some false else (if f_M_isClass (z / 8) M = true then (if ixo (z / 8) 10 then (if M.1 62 (z / 8).toNatClampNeg ≤ z - z / 8 * 8 then some false else some true) else none) else some false)) else (if y = 28 then (if z < 0 then some false else (if f_M_isClass (z / 8) M = true then (if ixo (z / 8) 10 then (if M.1 62 (z / 8).toNatClampNeg ≤ z - z / 8 * 8 then some false else some true) else none) else some false)) else (if y = 29 then (if z < 0 then some false else (if f_M_isClass (z / 8) M = true then (if ixo (z / 8) 10 then (if M.1 63 (z / 8).toNatClampNeg ≤ z - z / 8 * 8 then some false else some true) else none) else some false)) else (if y = 30 then (if z < 0 then some false else (if f_M_isClass (z / 8) M = true then (if ixo (z / 8) 10 then (if M.1 63 (z / 8).toNatClampNeg ≤ z - z / 8 * 8 then some false else some true) else none) else some false)) else (if y = 31 then some true else (if y = 32 then some true else (if y = 33 then some true else (if y = 34 then some true else (if y = 35 then some true else (if y = 36 then some true else (if y = 37 then some true else (if y = 38 then ((f_M_isStatic z M).bind fun x83 => (if x83 = true then some true else some false)) else (if y = 39 then (if 0 ≤ z ∧ z ≤ 7 then ((f_M_anyOf z M).bind fun x88 => (if x88 < 0 then some false else some true)) else some false) else (if y = 40 then (if ixo x 24 then (if ¬ M.1 68 x.toNatClampNeg = y - 40 then some false else some true) else none) else (if y = 41 then (if ixo x 24 then (if ¬ M.1 68 x.toNatClampNeg = y - 40 then some false else some true) else none) else (if y = 42 then (if ixo x 24 then (if ¬ M.1 68 x.toNatClampNeg = y - 40 then some false else some true) else none) else (if y = 43 then some true else (if y = 44 then (if f_M_isClass z M = true then some true else some false) else (if y = 45 then some true else (if y = 46 then some true else (if y = 47 then some true else (if y = 48 then ((f_M_anyOf 0 M).bind fun x107 => (if x107 < 0 then some false else ((f_M_anyOf 0 M).bind fun x109 => (if ixo x109 24 then (if ¬ M.1 66 x109.toNatClampNeg = 0 then some false else some true) else none)))) else (if y = 49 then some true else (if y = 50 then some true else (if y = 51 then some true else (if y = 52 then (if 0 ≤ z ∧ z ≤ 7 then some true else some false) else (if y = 53 then (if 0 ≤ z ∧ z ≤ 7 then some true else some false) else (if y = 54 then (if 0 ≤ z ∧ z ≤ 7 then some true else some false) else (if y = 55 then (if 0 ≤ z ∧ z ≤ 7 then some true else some false) else some true)))))))))))))))))))))))))))))))))))))))))))))))))))))))
set_option maxRecDepth 100000 in
set_option maxHeartbeats 4000000 in
theorem s_M_hasOperand {L : Nat} {xs : Nat → Int32} {X : XS} {M : MS} {x : Int32} {y : Int32} {z : Int32} : Sp (mjOO L xs) 36 0 [some (.ref 60), some (.int x), some (.int y), some (.int z)] [] (hS X M) (f_M_hasOperand x y z M) (KB (hS X M)) := by
  unfold f_M_hasOperand
  refine Sp.step rfl rfl rfl rfl ?_
  refine Sp.ite (fun e1 => ?_) (fun e1 => ?_)
  · refine Sp.step rfl rfl rfl (go_sw (t := 236) (sw_of e1 rfl)) ?_
    refine Sp.step rfl rfl rfl rfl ?_
    refine Sp.step rfl rfl rfl rfl ?_
    refine Sp.step rfl rfl rfl rfl ?_
    refine Sp.callP rfl rfl rfl rfl s_isIn (fun e2 => ?_) (fun e2 => ?_)
    · refine Sp.id (pc := 246) (l := [some (.ref 60), some (.int x), some (.int y), some (.int z)]) (st := [.int 1]) (h := hS X M) ?_
      exact Sp.iret rfl rfl rfl rfl (fun _ _ h => h)
    · refine Sp.id (pc := 246) (l := [some (.ref 60), some (.int x), some (.int y), some (.int z)]) (st := [.int 0]) (h := hS X M) ?_
      exact Sp.iret rfl rfl rfl rfl (fun _ _ h => h)
  · refine Sp.ite (fun e3 => ?_) (fun e3 => ?_)
    · refine Sp.step rfl rfl rfl (go_sw (t := 247) (sw_of e3 rfl)) ?_
      refine Sp.step rfl rfl rfl rfl ?_
      refine Sp.step rfl rfl rfl rfl ?_
      refine Sp.step rfl rfl rfl rfl ?_
      refine Sp.step rfl rfl rfl (mg_F (f := 9) rfl rfl rfl rfl) ?_
      refine Sp.step rfl rfl rfl rfl ?_
      refine Sp.guard (fun e4 => ?_)
      refine Sp.step rfl rfl rfl (mld rfl rfl (by decide) e4) ?_
      refine Sp.step rfl rfl rfl rfl ?_
      refine Sp.step rfl rfl rfl rfl ?_
      refine Sp.callP rfl rfl rfl rfl s_isIn (fun e5 => ?_) (fun e5 => ?_)
      · refine Sp.id (pc := 260) (l := [some (.ref 60), some (.int x), some (.int y), some (.int z)]) (st := [.int 1]) (h := hS X M) ?_
        exact Sp.iret rfl rfl rfl rfl (fun _ _ h => h)
      · refine Sp.id (pc := 260) (l := [some (.ref 60), some (.int x), some (.int y), some (.int z)]) (st := [.int 0]) (h := hS X M) ?_
        exact Sp.iret rfl rfl rfl rfl (fun _ _ h => h)
    · refine Sp.ite (fun e6 => ?_) (fun e6 => ?_)
      · refine Sp.step rfl rfl rfl (go_sw (t := 247) (sw_of e6 rfl)) ?_
        refine Sp.step rfl rfl rfl rfl ?_
        refine Sp.step rfl rfl rfl rfl ?_
        refine Sp.step rfl rfl rfl rfl ?_
        refine Sp.step rfl rfl rfl (mg_F (f := 9) rfl rfl rfl rfl) ?_
        refine Sp.step rfl rfl rfl rfl ?_
        refine Sp.guard (fun e7 => ?_)
        refine Sp.step rfl rfl rfl (mld rfl rfl (by decide) e7) ?_
        refine Sp.step rfl rfl rfl rfl ?_
        refine Sp.step rfl rfl rfl rfl ?_
        refine Sp.callP rfl rfl rfl rfl s_isIn (fun e8 => ?_) (fun e8 => ?_)
        · refine Sp.id (pc := 260) (l := [some (.ref 60), some (.int x), some (.int y), some (.int z)]) (st := [.int 1]) (h := hS X M) ?_
          exact Sp.iret rfl rfl rfl rfl (fun _ _ h => h)
        · refine Sp.id (pc := 260) (l := [some (.ref 60), some (.int x), some (.int y), some (.int z)]) (st := [.int 0]) (h := hS X M) ?_
          exact Sp.iret rfl rfl rfl rfl (fun _ _ h => h)
      · refine Sp.ite (fun e9 => ?_) (fun e9 => ?_)
        · refine Sp.step rfl rfl rfl (go_sw (t := 439) (sw_of e9 rfl)) ?_
          refine Sp.step rfl rfl rfl rfl ?_
          exact Sp.iret rfl rfl rfl rfl (fun _ _ h => h)
        · refine Sp.ite (fun e10 => ?_) (fun e10 => ?_)
          · refine Sp.step rfl rfl rfl (go_sw (t := 439) (sw_of e10 rfl)) ?_
            refine Sp.step rfl rfl rfl rfl ?_
            exact Sp.iret rfl rfl rfl rfl (fun _ _ h => h)
          · refine Sp.ite (fun e11 => ?_) (fun e11 => ?_)
            · refine Sp.step rfl rfl rfl (go_sw (t := 439) (sw_of e11 rfl)) ?_
              refine Sp.step rfl rfl rfl rfl ?_
              exact Sp.iret rfl rfl rfl rfl (fun _ _ h => h)
            · refine Sp.ite (fun e12 => ?_) (fun e12 => ?_)
              · refine Sp.step rfl rfl rfl (go_sw (t := 439) (sw_of e12 rfl)) ?_
                refine Sp.step rfl rfl rfl rfl ?_
                exact Sp.iret rfl rfl rfl rfl (fun _ _ h => h)
              · refine Sp.ite (fun e13 => ?_) (fun e13 => ?_)
                · refine Sp.step rfl rfl rfl (go_sw (t := 439) (sw_of e13 rfl)) ?_
                  refine Sp.step rfl rfl rfl rfl ?_
                  exact Sp.iret rfl rfl rfl rfl (fun _ _ h => h)
                · refine Sp.ite (fun e14 => ?_) (fun e14 => ?_)
                  · refine Sp.step rfl rfl rfl (go_sw (t := 439) (sw_of e14 rfl)) ?_
                    refine Sp.step rfl rfl rfl rfl ?_
                    exact Sp.iret rfl rfl rfl rfl (fun _ _ h => h)
                  · refine Sp.ite (fun e15 => ?_) (fun e15 => ?_)
                    · refine Sp.step rfl rfl rfl (go_sw (t := 439) (sw_of e15 rfl)) ?_
                      refine Sp.step rfl rfl rfl rfl ?_
                      exact Sp.iret rfl rfl rfl rfl (fun _ _ h => h)
                    · refine Sp.ite (fun e16 => ?_) (fun e16 => ?_)
                      · refine Sp.step rfl rfl rfl (go_sw (t := 439) (sw_of e16 rfl)) ?_
                        refine Sp.step rfl rfl rfl rfl ?_
                        exact Sp.iret rfl rfl rfl rfl (fun _ _ h => h)
                      · refine Sp.ite (fun e17 => ?_) (fun e17 => ?_)
                        · refine Sp.step rfl rfl rfl (go_sw (t := 439) (sw_of e17 rfl)) ?_
                          refine Sp.step rfl rfl rfl rfl ?_
                          exact Sp.iret rfl rfl rfl rfl (fun _ _ h => h)
                        · refine Sp.ite (fun e18 => ?_) (fun e18 => ?_)
                          · refine Sp.step rfl rfl rfl (go_sw (t := 439) (sw_of e18 rfl)) ?_
                            refine Sp.step rfl rfl rfl rfl ?_
                            exact Sp.iret rfl rfl rfl rfl (fun _ _ h => h)
                          · refine Sp.ite (fun e19 => ?_) (fun e19 => ?_)
                            · refine Sp.step rfl rfl rfl (go_sw (t := 439) (sw_of e19 rfl)) ?_
                              refine Sp.step rfl rfl rfl rfl ?_
                              exact Sp.iret rfl rfl rfl rfl (fun _ _ h => h)
                            · refine Sp.ite (fun e20 => ?_) (fun e20 => ?_)
                              · refine Sp.step rfl rfl rfl (go_sw (t := 439) (sw_of e20 rfl)) ?_
                                refine Sp.step rfl rfl rfl rfl ?_
                                exact Sp.iret rfl rfl rfl rfl (fun _ _ h => h)
                              · refine Sp.ite (fun e21 => ?_) (fun e21 => ?_)
                                · refine Sp.step rfl rfl rfl (go_sw (t := 439) (sw_of e21 rfl)) ?_
                                  refine Sp.step rfl rfl rfl rfl ?_
                                  exact Sp.iret rfl rfl rfl rfl (fun _ _ h => h)
                                · refine Sp.ite (fun e22 => ?_) (fun e22 => ?_)
                                  · refine Sp.step rfl rfl rfl (go_sw (t := 439) (sw_of e22 rfl)) ?_
                                    refine Sp.step rfl rfl rfl rfl ?_
                                    exact Sp.iret rfl rfl rfl rfl (fun _ _ h => h)
                                  · refine Sp.ite (fun e23 => ?_) (fun e23 => ?_)
                                    · refine Sp.step rfl rfl rfl (go_sw (t := 439) (sw_of e23 rfl)) ?_
                                      refine Sp.step rfl rfl rfl rfl ?_
                                      exact Sp.iret rfl rfl rfl rfl (fun _ _ h => h)
                                    · refine Sp.ite (fun e24 => ?_) (fun e24 => ?_)
                                      · refine Sp.step rfl rfl rfl (go_sw (t := 261) (sw_of e24 rfl)) ?_
                                        refine Sp.step rfl rfl rfl rfl ?_
                                        refine Sp.step rfl rfl rfl rfl ?_
                                        refine Sp.step rfl rfl rfl rfl ?_
                                        refine Sp.step rfl rfl rfl (mg_F (f := 10) rfl rfl rfl rfl) ?_
                                        refine Sp.step rfl rfl rfl rfl ?_
                                        refine Sp.guard (fun e25 => ?_)
                                        refine Sp.step rfl rfl rfl (mld rfl rfl (by decide) e25) ?_
                                        refine Sp.step rfl rfl rfl rfl ?_
                                        refine Sp.step rfl rfl rfl rfl ?_
                                        refine Sp.callP rfl rfl rfl rfl s_isIn (fun e26 => ?_) (fun e26 => ?_)
                                        · refine Sp.id (pc := 274) (l := [some (.ref 60), some (.int x), some (.int y), some (.int z)]) (st := [.int 1]) (h := hS X M) ?_
                                          exact Sp.iret rfl rfl rfl rfl (fun _ _ h => h)
                                        · refine Sp.id (pc := 274) (l := [some (.ref 60), some (.int x), some (.int y), some (.int z)]) (st := [.int 0]) (h := hS X M) ?_
                                          exact Sp.iret rfl rfl rfl rfl (fun _ _ h => h)
                                      · refine Sp.ite (fun e27 => ?_) (fun e27 => ?_)
                                        · refine Sp.step rfl rfl rfl (go_sw (t := 261) (sw_of e27 rfl)) ?_
                                          refine Sp.step rfl rfl rfl rfl ?_
                                          refine Sp.step rfl rfl rfl rfl ?_
                                          refine Sp.step rfl rfl rfl rfl ?_
                                          refine Sp.step rfl rfl rfl (mg_F (f := 10) rfl rfl rfl rfl) ?_
                                          refine Sp.step rfl rfl rfl rfl ?_
                                          refine Sp.guard (fun e28 => ?_)
                                          refine Sp.step rfl rfl rfl (mld rfl rfl (by decide) e28) ?_
                                          refine Sp.step rfl rfl rfl rfl ?_
                                          refine Sp.step rfl rfl rfl rfl ?_
                                          refine Sp.callP rfl rfl rfl rfl s_isIn (fun e29 => ?_) (fun e29 => ?_)
                                          · refine Sp.id (pc := 274) (l := [some (.ref 60), some (.int x), some (.int y), some (.int z)]) (st := [.int 1]) (h := hS X M) ?_
                                            exact Sp.iret rfl rfl rfl rfl (fun _ _ h => h)
                                          · refine Sp.id (pc := 274) (l := [some (.ref 60), some (.int x), some (.int y), some (.int z)]) (st := [.int 0]) (h := hS X M) ?_
                                            exact Sp.iret rfl rfl rfl rfl (fun _ _ h => h)
                                        · refine Sp.ite (fun e30 => ?_) (fun e30 => ?_)
                                          · refine Sp.step rfl rfl rfl (go_sw (t := 261) (sw_of e30 rfl)) ?_
                                            refine Sp.step rfl rfl rfl rfl ?_
                                            refine Sp.step rfl rfl rfl rfl ?_
                                            refine Sp.step rfl rfl rfl rfl ?_
                                            refine Sp.step rfl rfl rfl (mg_F (f := 10) rfl rfl rfl rfl) ?_
                                            refine Sp.step rfl rfl rfl rfl ?_
                                            refine Sp.guard (fun e31 => ?_)
                                            refine Sp.step rfl rfl rfl (mld rfl rfl (by decide) e31) ?_
                                            refine Sp.step rfl rfl rfl rfl ?_
                                            refine Sp.step rfl rfl rfl rfl ?_
                                            refine Sp.callP rfl rfl rfl rfl s_isIn (fun e32 => ?_) (fun e32 => ?_)
                                            · refine Sp.id (pc := 274) (l := [some (.ref 60), some (.int x), some (.int y), some (.int z)]) (st := [.int 1]) (h := hS X M) ?_
                                              exact Sp.iret rfl rfl rfl rfl (fun _ _ h => h)
                                            · refine Sp.id (pc := 274) (l := [some (.ref 60), some (.int x), some (.int y), some (.int z)]) (st := [.int 0]) (h := hS X M) ?_
                                              exact Sp.iret rfl rfl rfl rfl (fun _ _ h => h)
                                          · refine Sp.ite (fun e33 => ?_) (fun e33 => ?_)
                                            · refine Sp.step rfl rfl rfl (go_sw (t := 261) (sw_of e33 rfl)) ?_
                                              refine Sp.step rfl rfl rfl rfl ?_
                                              refine Sp.step rfl rfl rfl rfl ?_
                                              refine Sp.step rfl rfl rfl rfl ?_
                                              refine Sp.step rfl rfl rfl (mg_F (f := 10) rfl rfl rfl rfl) ?_
                                              refine Sp.step rfl rfl rfl rfl ?_
                                              refine Sp.guard (fun e34 => ?_)
                                              refine Sp.step rfl rfl rfl (mld rfl rfl (by decide) e34) ?_
                                              refine Sp.step rfl rfl rfl rfl ?_
                                              refine Sp.step rfl rfl rfl rfl ?_
                                              refine Sp.callP rfl rfl rfl rfl s_isIn (fun e35 => ?_) (fun e35 => ?_)
                                              · refine Sp.id (pc := 274) (l := [some (.ref 60), some (.int x), some (.int y), some (.int z)]) (st := [.int 1]) (h := hS X M) ?_
                                                exact Sp.iret rfl rfl rfl rfl (fun _ _ h => h)
                                              · refine Sp.id (pc := 274) (l := [some (.ref 60), some (.int x), some (.int y), some (.int z)]) (st := [.int 0]) (h := hS X M) ?_
                                                exact Sp.iret rfl rfl rfl rfl (fun _ _ h => h)
                                            · refine Sp.ite (fun e36 => ?_) (fun e36 => ?_)
                                              · refine Sp.step rfl rfl rfl (go_sw (t := 261) (sw_of e36 rfl)) ?_
                                                refine Sp.step rfl rfl rfl rfl ?_
                                                refine Sp.step rfl rfl rfl rfl ?_
                                                refine Sp.step rfl rfl rfl rfl ?_
                                                refine Sp.step rfl rfl rfl (mg_F (f := 10) rfl rfl rfl rfl) ?_
                                                refine Sp.step rfl rfl rfl rfl ?_
                                                refine Sp.guard (fun e37 => ?_)
                                                refine Sp.step rfl rfl rfl (mld rfl rfl (by decide) e37) ?_
                                                refine Sp.step rfl rfl rfl rfl ?_
                                                refine Sp.step rfl rfl rfl rfl ?_
                                                refine Sp.callP rfl rfl rfl rfl s_isIn (fun e38 => ?_) (fun e38 => ?_)
                                                · refine Sp.id (pc := 274) (l := [some (.ref 60), some (.int x), some (.int y), some (.int z)]) (st := [.int 1]) (h := hS X M) ?_
                                                  exact Sp.iret rfl rfl rfl rfl (fun _ _ h => h)
                                                · refine Sp.id (pc := 274) (l := [some (.ref 60), some (.int x), some (.int y), some (.int z)]) (st := [.int 0]) (h := hS X M) ?_
                                                  exact Sp.iret rfl rfl rfl rfl (fun _ _ h => h)
                                              · refine Sp.ite (fun e39 => ?_) (fun e39 => ?_)
                                                · refine Sp.step rfl rfl rfl (go_sw (t := 261) (sw_of e39 rfl)) ?_
                                                  refine Sp.step rfl rfl rfl rfl ?_
                                                  refine Sp.step rfl rfl rfl rfl ?_
                                                  refine Sp.step rfl rfl rfl rfl ?_
                                                  refine Sp.step rfl rfl rfl (mg_F (f := 10) rfl rfl rfl rfl) ?_
                                                  refine Sp.step rfl rfl rfl rfl ?_
                                                  refine Sp.guard (fun e40 => ?_)
                                                  refine Sp.step rfl rfl rfl (mld rfl rfl (by decide) e40) ?_
                                                  refine Sp.step rfl rfl rfl rfl ?_
                                                  refine Sp.step rfl rfl rfl rfl ?_
                                                  refine Sp.callP rfl rfl rfl rfl s_isIn (fun e41 => ?_) (fun e41 => ?_)
                                                  · refine Sp.id (pc := 274) (l := [some (.ref 60), some (.int x), some (.int y), some (.int z)]) (st := [.int 1]) (h := hS X M) ?_
                                                    exact Sp.iret rfl rfl rfl rfl (fun _ _ h => h)
                                                  · refine Sp.id (pc := 274) (l := [some (.ref 60), some (.int x), some (.int y), some (.int z)]) (st := [.int 0]) (h := hS X M) ?_
                                                    exact Sp.iret rfl rfl rfl rfl (fun _ _ h => h)
                                                · refine Sp.ite (fun e42 => ?_) (fun e42 => ?_)
                                                  · refine Sp.step rfl rfl rfl (go_sw (t := 261) (sw_of e42 rfl)) ?_
                                                    refine Sp.step rfl rfl rfl rfl ?_
                                                    refine Sp.step rfl rfl rfl rfl ?_
                                                    refine Sp.step rfl rfl rfl rfl ?_
                                                    refine Sp.step rfl rfl rfl (mg_F (f := 10) rfl rfl rfl rfl) ?_
                                                    refine Sp.step rfl rfl rfl rfl ?_
                                                    refine Sp.guard (fun e43 => ?_)
                                                    refine Sp.step rfl rfl rfl (mld rfl rfl (by decide) e43) ?_
                                                    refine Sp.step rfl rfl rfl rfl ?_
                                                    refine Sp.step rfl rfl rfl rfl ?_
                                                    refine Sp.callP rfl rfl rfl rfl s_isIn (fun e44 => ?_) (fun e44 => ?_)
                                                    · refine Sp.id (pc := 274) (l := [some (.ref 60), some (.int x), some (.int y), some (.int z)]) (st := [.int 1]) (h := hS X M) ?_
                                                      exact Sp.iret rfl rfl rfl rfl (fun _ _ h => h)
                                                    · refine Sp.id (pc := 274) (l := [some (.ref 60), some (.int x), some (.int y), some (.int z)]) (st := [.int 0]) (h := hS X M) ?_
                                                      exact Sp.iret rfl rfl rfl rfl (fun _ _ h => h)
                                                  · refine Sp.ite (fun e45 => ?_) (fun e45 => ?_)
                                                    · refine Sp.step rfl rfl rfl (go_sw (t := 275) (sw_of e45 rfl)) ?_
                                                      refine Sp.step rfl rfl rfl rfl ?_
                                                      refine Sp.step rfl rfl rfl rfl ?_
                                                      refine Sp.callS rfl rfl rfl (mrecv (by decide) (by decide +kernel)) s_M_isClass ⟨rfl, rfl⟩ ?_
                                                      refine Sp.bool (fun e46 => ?_) (fun e46 => ?_)
                                                      · refine Sp.id (pc := 280) (l := [some (.ref 60), some (.int x), some (.int y), some (.int z)]) (st := [.int 1]) (h := hS X M) ?_
                                                        exact Sp.iret rfl rfl rfl rfl (fun _ _ h => h)
                                                      · refine Sp.id (pc := 280) (l := [some (.ref 60), some (.int x), some (.int y), some (.int z)]) (st := [.int 0]) (h := hS X M) ?_
                                                        exact Sp.iret rfl rfl rfl rfl (fun _ _ h => h)
                                                    · refine Sp.ite (fun e47 => ?_) (fun e47 => ?_)
                                                      · refine Sp.step rfl rfl rfl (go_sw (t := 281) (sw_of e47 rfl)) ?_
                                                        refine Sp.step rfl rfl rfl rfl ?_
                                                        refine Sp.if1 rfl rfl rfl rfl (fun e48 => ?_) (fun e48 => ?_)
                                                        · refine Sp.step rfl rfl rfl rfl ?_
                                                          exact Sp.iret rfl rfl rfl rfl (fun _ _ h => h)
                                                        · refine Sp.step rfl rfl rfl rfl ?_
                                                          refine Sp.step rfl rfl rfl rfl ?_
                                                          refine Sp.step rfl rfl rfl rfl ?_
                                                          refine Sp.step rfl rfl rfl (go_div (by decide)) ?_
                                                          refine Sp.callS rfl rfl rfl (mrecv (by decide) (by decide +kernel)) s_M_isClass ⟨rfl, rfl⟩ ?_
                                                          refine Sp.bool (fun e49 => ?_) (fun e49 => ?_)
                                                          · refine Sp.id (pc := 293) (l := [some (.ref 60), some (.int x), some (.int y), some (.int z)]) (st := [.int 1]) (h := hS X M) ?_
                                                            refine Sp.step rfl rfl rfl rfl ?_
                                                            refine Sp.step rfl rfl rfl rfl ?_
                                                            refine Sp.step rfl rfl rfl rfl ?_
                                                            refine Sp.step rfl rfl rfl (go_div (by decide)) ?_
                                                            refine Sp.step rfl rfl rfl rfl ?_
                                                            refine Sp.step rfl rfl rfl (mg_F (f := 1) rfl rfl rfl rfl) ?_
                                                            refine Sp.step rfl rfl rfl rfl ?_
                                                            refine Sp.step rfl rfl rfl rfl ?_
                                                            refine Sp.step rfl rfl rfl (go_div (by decide)) ?_
                                                            refine Sp.guard (fun e51 => ?_)
                                                            refine Sp.step rfl rfl rfl (mld rfl rfl (by decide) e51) ?_
                                                            refine Sp.if2 rfl rfl rfl rfl (fun e52 => ?_) (fun e52 => ?_)
                                                            · refine Sp.step rfl rfl rfl rfl ?_
                                                              exact Sp.iret rfl rfl rfl rfl (fun _ _ h => h)
                                                            · refine Sp.step rfl rfl rfl rfl ?_
                                                              refine Sp.step rfl rfl rfl rfl ?_
                                                              exact Sp.iret rfl rfl rfl rfl (fun _ _ h => h)
                                                          · refine Sp.id (pc := 293) (l := [some (.ref 60), some (.int x), some (.int y), some (.int z)]) (st := [.int 0]) (h := hS X M) ?_
                                                            refine Sp.step rfl rfl rfl rfl ?_
                                                            refine Sp.step rfl rfl rfl rfl ?_
                                                            exact Sp.iret rfl rfl rfl rfl (fun _ _ h => h)
                                                      · refine Sp.ite (fun e54 => ?_) (fun e54 => ?_)
                                                        · refine Sp.step rfl rfl rfl (go_sw (t := 281) (sw_of e54 rfl)) ?_
                                                          refine Sp.step rfl rfl rfl rfl ?_
                                                          refine Sp.if1 rfl rfl rfl rfl (fun e55 => ?_) (fun e55 => ?_)
                                                          · refine Sp.step rfl rfl rfl rfl ?_
                                                            exact Sp.iret rfl rfl rfl rfl (fun _ _ h => h)
                                                          · refine Sp.step rfl rfl rfl rfl ?_
                                                            refine Sp.step rfl rfl rfl rfl ?_
                                                            refine Sp.step rfl rfl rfl rfl ?_
                                                            refine Sp.step rfl rfl rfl (go_div (by decide)) ?_
                                                            refine Sp.callS rfl rfl rfl (mrecv (by decide) (by decide +kernel)) s_M_isClass ⟨rfl, rfl⟩ ?_
                                                            refine Sp.bool (fun e56 => ?_) (fun e56 => ?_)
                                                            · refine Sp.id (pc := 293) (l := [some (.ref 60), some (.int x), some (.int y), some (.int z)]) (st := [.int 1]) (h := hS X M) ?_
                                                              refine Sp.step rfl rfl rfl rfl ?_
                                                              refine Sp.step rfl rfl rfl rfl ?_
                                                              refine Sp.step rfl rfl rfl rfl ?_
                                                              refine Sp.step rfl rfl rfl (go_div (by decide)) ?_
                                                              refine Sp.step rfl rfl rfl rfl ?_
                                                              refine Sp.step rfl rfl rfl (mg_F (f := 1) rfl rfl rfl rfl) ?_
                                                              refine Sp.step rfl rfl rfl rfl ?_
                                                              refine Sp.step rfl rfl rfl rfl ?_
                                                              refine Sp.step rfl rfl rfl (go_div (by decide)) ?_
                                                              refine Sp.guard (fun e58 => ?_)
                                                              refine Sp.step rfl rfl rfl (mld rfl rfl (by decide) e58) ?_
                                                              refine Sp.if2 rfl rfl rfl rfl (fun e59 => ?_) (fun e59 => ?_)
                                                              · refine Sp.step rfl rfl rfl rfl ?_
                                                                exact Sp.iret rfl rfl rfl rfl (fun _ _ h => h)
                                                              · refine Sp.step rfl rfl rfl rfl ?_
                                                                refine Sp.step rfl rfl rfl rfl ?_
                                                                exact Sp.iret rfl rfl rfl rfl (fun _ _ h => h)
                                                            · refine Sp.id (pc := 293) (l := [some (.ref 60), some (.int x), some (.int y), some (.int z)]) (st := [.int 0]) (h := hS X M) ?_
                                                              refine Sp.step rfl rfl rfl rfl ?_
                                                              refine Sp.step rfl rfl rfl rfl ?_
                                                              exact Sp.iret rfl rfl rfl rfl (fun _ _ h => h)
                                                        · refine Sp.ite (fun e61 => ?_) (fun e61 => ?_)
                                                          · refine Sp.step rfl rfl rfl (go_sw (t := 318) (sw_of e61 rfl)) ?_
                                                            refine Sp.step rfl rfl rfl rfl ?_
                                                            refine Sp.if1 rfl rfl rfl rfl (fun e62 => ?_) (fun e62 => ?_)
                                                            · refine Sp.step rfl rfl rfl rfl ?_
                                                              exact Sp.iret rfl rfl rfl rfl (fun _ _ h => h)
                                                            · refine Sp.step rfl rfl rfl rfl ?_
                                                              refine Sp.step rfl rfl rfl rfl ?_
                                                              refine Sp.step rfl rfl rfl rfl ?_
                                                              refine Sp.step rfl rfl rfl (go_div (by decide)) ?_
                                                              refine Sp.callS rfl rfl rfl (mrecv (by decide) (by decide +kernel)) s_M_isClass ⟨rfl, rfl⟩ ?_
                                                              refine Sp.bool (fun e63 => ?_) (fun e63 => ?_)
                                                              · refine Sp.id (pc := 330) (l := [some (.ref 60), some (.int x), some (.int y), some (.int z)]) (st := [.int 1]) (h := hS X M) ?_
                                                                refine Sp.step rfl rfl rfl rfl ?_
                                                                refine Sp.step rfl rfl rfl rfl ?_
                                                                refine Sp.step rfl rfl rfl rfl ?_
                                                                refine Sp.step rfl rfl rfl (go_div (by decide)) ?_
                                                                refine Sp.step rfl rfl rfl rfl ?_
                                                                refine Sp.step rfl rfl rfl (mg_F (f := 2) rfl rfl rfl rfl) ?_
                                                                refine Sp.step rfl rfl rfl rfl ?_
                                                                refine Sp.step rfl rfl rfl rfl ?_
                                                                refine Sp.step rfl rfl rfl (go_div (by decide)) ?_
                                                                refine Sp.guard (fun e65 => ?_)
                                                                refine Sp.step rfl rfl rfl (mld rfl rfl (by decide) e65) ?_
                                                                refine Sp.if2 rfl rfl rfl rfl (fun e66 => ?_) (fun e66 => ?_)
                                                                · refine Sp.step rfl rfl rfl rfl ?_
                                                                  exact Sp.iret rfl rfl rfl rfl (fun _ _ h => h)
                                                                · refine Sp.step rfl rfl rfl rfl ?_
                                                                  refine Sp.step rfl rfl rfl rfl ?_
                                                                  exact Sp.iret rfl rfl rfl rfl (fun _ _ h => h)
                                                              · refine Sp.id (pc := 330) (l := [some (.ref 60), some (.int x), some (.int y), some (.int z)]) (st := [.int 0]) (h := hS X M) ?_
                                                                refine Sp.step rfl rfl rfl rfl ?_
                                                                refine Sp.step rfl rfl rfl rfl ?_
                                                                exact Sp.iret rfl rfl rfl rfl (fun _ _ h => h)
                                                          · refine Sp.ite (fun e68 => ?_) (fun e68 => ?_)
                                                            · refine Sp.step rfl rfl rfl (go_sw (t := 318) (sw_of e68 rfl)) ?_
                                                              refine Sp.step rfl rfl rfl rfl ?_
                                                              refine Sp.if1 rfl rfl rfl rfl (fun e69 => ?_) (fun e69 => ?_)
                                                              · refine Sp.step rfl rfl rfl rfl ?_
                                                                exact Sp.iret rfl rfl rfl rfl (fun _ _ h => h)
                                                              · refine Sp.step rfl rfl rfl rfl ?_
                                                                refine Sp.step rfl rfl rfl rfl ?_
                                                                refine Sp.step rfl rfl rfl rfl ?_
                                                                refine Sp.step rfl rfl rfl (go_div (by decide)) ?_
                                                                refine Sp.callS rfl rfl rfl (mrecv (by decide) (by decide +kernel)) s_M_isClass ⟨rfl, rfl⟩ ?_
                                                                refine Sp.bool (fun e70 => ?_) (fun e70 => ?_)
                                                                · refine Sp.id (pc := 330) (l := [some (.ref 60), some (.int x), some (.int y), some (.int z)]) (st := [.int 1]) (h := hS X M) ?_
                                                                  refine Sp.step rfl rfl rfl rfl ?_
                                                                  refine Sp.step rfl rfl rfl rfl ?_
                                                                  refine Sp.step rfl rfl rfl rfl ?_
                                                                  refine Sp.step rfl rfl rfl (go_div (by decide)) ?_
                                                                  refine Sp.step rfl rfl rfl rfl ?_
                                                                  refine Sp.step rfl rfl rfl (mg_F (f := 2) rfl rfl rfl rfl) ?_
                                                                  refine Sp.step rfl rfl rfl rfl ?_
                                                                  refine Sp.step rfl rfl rfl rfl ?_
                                                                  refine Sp.step rfl rfl rfl (go_div (by decide)) ?_
                                                                  refine Sp.guard (fun e72 => ?_)
                                                                  refine Sp.step rfl rfl rfl (mld rfl rfl (by decide) e72) ?_
                                                                  refine Sp.if2 rfl rfl rfl rfl (fun e73 => ?_) (fun e73 => ?_)
                                                                  · refine Sp.step rfl rfl rfl rfl ?_
                                                                    exact Sp.iret rfl rfl rfl rfl (fun _ _ h => h)
                                                                  · refine Sp.step rfl rfl rfl rfl ?_
                                                                    refine Sp.step rfl rfl rfl rfl ?_
                                                                    exact Sp.iret rfl rfl rfl rfl (fun _ _ h => h)
                                                                · refine Sp.id (pc := 330) (l := [some (.ref 60), some (.int x), some (.int y), some (.int z)]) (st := [.int 0]) (h := hS X M) ?_
                                                                  refine Sp.step rfl rfl rfl rfl ?_
                                                                  refine Sp.step rfl rfl rfl rfl ?_
                                                                  exact Sp.iret rfl rfl rfl rfl (fun _ _ h => h)
                                                            · refine Sp.ite (fun e75 => ?_) (fun e75 => ?_)
                                                              · refine Sp.step rfl rfl rfl (go_sw (t := 439) (sw_of e75 rfl)) ?_
                                                                refine Sp.step rfl rfl rfl rfl ?_
                                                                exact Sp.iret rfl rfl rfl rfl (fun _ _ h => h)
                                                              · refine Sp.ite (fun e76 => ?_) (fun e76 => ?_)
                                                                · refine Sp.step rfl rfl rfl (go_sw (t := 439) (sw_of e76 rfl)) ?_
                                                                  refine Sp.step rfl rfl rfl rfl ?_
                                                                  exact Sp.iret rfl rfl rfl rfl (fun _ _ h => h)
                                                                · refine Sp.ite (fun e77 => ?_) (fun e77 => ?_)
                                                                  · refine Sp.step rfl rfl rfl (go_sw (t := 439) (sw_of e77 rfl)) ?_
                                                                    refine Sp.step rfl rfl rfl rfl ?_
                                                                    exact Sp.iret rfl rfl rfl rfl (fun _ _ h => h)
                                                                  · refine Sp.ite (fun e78 => ?_) (fun e78 => ?_)
                                                                    · refine Sp.step rfl rfl rfl (go_sw (t := 439) (sw_of e78 rfl)) ?_
                                                                      refine Sp.step rfl rfl rfl rfl ?_
                                                                      exact Sp.iret rfl rfl rfl rfl (fun _ _ h => h)
                                                                    · refine Sp.ite (fun e79 => ?_) (fun e79 => ?_)
                                                                      · refine Sp.step rfl rfl rfl (go_sw (t := 439) (sw_of e79 rfl)) ?_
                                                                        refine Sp.step rfl rfl rfl rfl ?_
                                                                        exact Sp.iret rfl rfl rfl rfl (fun _ _ h => h)
                                                                      · refine Sp.ite (fun e80 => ?_) (fun e80 => ?_)
                                                                        · refine Sp.step rfl rfl rfl (go_sw (t := 439) (sw_of e80 rfl)) ?_
                                                                          refine Sp.step rfl rfl rfl rfl ?_
                                                                          exact Sp.iret rfl rfl rfl rfl (fun _ _ h => h)
                                                                        · refine Sp.ite (fun e81 => ?_) (fun e81 => ?_)
                                                                          · refine Sp.step rfl rfl rfl (go_sw (t := 439) (sw_of e81 rfl)) ?_
                                                                            refine Sp.step rfl rfl rfl rfl ?_
                                                                            exact Sp.iret rfl rfl rfl rfl (fun _ _ h => h)
                                                                          · refine Sp.ite (fun e82 => ?_) (fun e82 => ?_)
                                                                            · refine Sp.step rfl rfl rfl (go_sw (t := 355) (sw_of e82 rfl)) ?_
                                                                              refine Sp.step rfl rfl rfl rfl ?_
                                                                              refine Sp.step rfl rfl rfl rfl ?_
                                                                              refine Sp.call rfl rfl rfl (mrecv (by decide) (by decide +kernel)) s_M_isStatic (fun x83 => ⟨_, _, ⟨rfl, rfl⟩, ?_⟩)
                                                                              refine Sp.bool (fun e84 => ?_) (fun e84 => ?_)
                                                                              · refine Sp.id (pc := 360) (l := [some (.ref 60), some (.int x), some (.int y), some (.int z)]) (st := [.int 1]) (h := hS X M) ?_
                                                                                exact Sp.iret rfl rfl rfl rfl (fun _ _ h => h)
                                                                              · refine Sp.id (pc := 360) (l := [some (.ref 60), some (.int x), some (.int y), some (.int z)]) (st := [.int 0]) (h := hS X M) ?_
                                                                                exact Sp.iret rfl rfl rfl rfl (fun _ _ h => h)
                                                                            · refine Sp.ite (fun e85 => ?_) (fun e85 => ?_)
                                                                              · refine Sp.step rfl rfl rfl (go_sw (t := 361) (sw_of e85 rfl)) ?_
                                                                                refine Sp.step rfl rfl rfl rfl ?_
                                                                                refine Sp.step rfl rfl rfl rfl ?_
                                                                                refine Sp.step rfl rfl rfl rfl ?_
                                                                                refine Sp.callP rfl rfl rfl rfl s_isIn (fun e86 => ?_) (fun e86 => ?_)
                                                                                · refine Sp.id (pc := 368) (l := [some (.ref 60), some (.int x), some (.int y), some (.int z)]) (st := [.int 1]) (h := hS X M) ?_
                                                                                  refine Sp.step rfl rfl rfl rfl ?_
                                                                                  refine Sp.step rfl rfl rfl rfl ?_
                                                                                  refine Sp.step rfl rfl rfl rfl ?_
                                                                                  refine Sp.call rfl rfl rfl (mrecv (by decide) (by decide +kernel)) s_M_anyOf (fun x88 => ⟨_, _, ⟨rfl, rfl⟩, ?_⟩)
                                                                                  refine Sp.id (pc := 376) (l := [some (.ref 60), some (.int x), some (.int y), some (.int z)]) (st := [.int x88]) (h := hS X M) ?_
                                                                                  refine Sp.if1 rfl rfl rfl rfl (fun e89 => ?_) (fun e89 => ?_)
                                                                                  · refine Sp.step rfl rfl rfl rfl ?_
                                                                                    exact Sp.iret rfl rfl rfl rfl (fun _ _ h => h)
                                                                                  · refine Sp.step rfl rfl rfl rfl ?_
                                                                                    refine Sp.step rfl rfl rfl rfl ?_
                                                                                    exact Sp.iret rfl rfl rfl rfl (fun _ _ h => h)
                                                                                · refine Sp.id (pc := 368) (l := [some (.ref 60), some (.int x), some (.int y), some (.int z)]) (st := [.int 0]) (h := hS X M) ?_
                                                                                  refine Sp.step rfl rfl rfl rfl ?_
                                                                                  refine Sp.step rfl rfl rfl rfl ?_
                                                                                  exact Sp.iret rfl rfl rfl rfl (fun _ _ h => h)
                                                                              · refine Sp.ite (fun e91 => ?_) (fun e91 => ?_)
                                                                                · refine Sp.step rfl rfl rfl (go_sw (t := 385) (sw_of e91 rfl)) ?_
                                                                                  refine Sp.step rfl rfl rfl rfl ?_
                                                                                  refine Sp.step rfl rfl rfl (mg_F (f := 8) rfl rfl rfl rfl) ?_
                                                                                  refine Sp.step rfl rfl rfl rfl ?_
                                                                                  refine Sp.guard (fun e92 => ?_)
                                                                                  refine Sp.step rfl rfl rfl (mld rfl rfl (by decide) e92) ?_
                                                                                  refine Sp.step rfl rfl rfl rfl ?_
                                                                                  refine Sp.step rfl rfl rfl rfl ?_
                                                                                  refine Sp.step rfl rfl rfl rfl ?_
                                                                                  refine Sp.if2 rfl rfl rfl rfl (fun e93 => ?_) (fun e93 => ?_)
                                                                                  · refine Sp.step rfl rfl rfl rfl ?_
                                                                                    exact Sp.iret rfl rfl rfl rfl (fun _ _ h => h)
                                                                                  · refine Sp.step rfl rfl rfl rfl ?_
                                                                                    refine Sp.step rfl rfl rfl rfl ?_
                                                                                    exact Sp.iret rfl rfl rfl rfl (fun _ _ h => h)
                                                                                · refine Sp.ite (fun e94 => ?_) (fun e94 => ?_)
                                                                                  · refine Sp.step rfl rfl rfl (go_sw (t := 385) (sw_of e94 rfl)) ?_
                                                                                    refine Sp.step rfl rfl rfl rfl ?_
                                                                                    refine Sp.step rfl rfl rfl (mg_F (f := 8) rfl rfl rfl rfl) ?_
                                                                                    refine Sp.step rfl rfl rfl rfl ?_
                                                                                    refine Sp.guard (fun e95 => ?_)
                                                                                    refine Sp.step rfl rfl rfl (mld rfl rfl (by decide) e95) ?_
                                                                                    refine Sp.step rfl rfl rfl rfl ?_
                                                                                    refine Sp.step rfl rfl rfl rfl ?_
                                                                                    refine Sp.step rfl rfl rfl rfl ?_
                                                                                    refine Sp.if2 rfl rfl rfl rfl (fun e96 => ?_) (fun e96 => ?_)
                                                                                    · refine Sp.step rfl rfl rfl rfl ?_
                                                                                      exact Sp.iret rfl rfl rfl rfl (fun _ _ h => h)
                                                                                    · refine Sp.step rfl rfl rfl rfl ?_
                                                                                      refine Sp.step rfl rfl rfl rfl ?_
                                                                                      exact Sp.iret rfl rfl rfl rfl (fun _ _ h => h)
                                                                                  · refine Sp.ite (fun e97 => ?_) (fun e97 => ?_)
                                                                                    · refine Sp.step rfl rfl rfl (go_sw (t := 385) (sw_of e97 rfl)) ?_
                                                                                      refine Sp.step rfl rfl rfl rfl ?_
                                                                                      refine Sp.step rfl rfl rfl (mg_F (f := 8) rfl rfl rfl rfl) ?_
                                                                                      refine Sp.step rfl rfl rfl rfl ?_
                                                                                      refine Sp.guard (fun e98 => ?_)
                                                                                      refine Sp.step rfl rfl rfl (mld rfl rfl (by decide) e98) ?_
                                                                                      refine Sp.step rfl rfl rfl rfl ?_
                                                                                      refine Sp.step rfl rfl rfl rfl ?_
                                                                                      refine Sp.step rfl rfl rfl rfl ?_
                                                                                      refine Sp.if2 rfl rfl rfl rfl (fun e99 => ?_) (fun e99 => ?_)
                                                                                      · refine Sp.step rfl rfl rfl rfl ?_
                                                                                        exact Sp.iret rfl rfl rfl rfl (fun _ _ h => h)
                                                                                      · refine Sp.step rfl rfl rfl rfl ?_
                                                                                        refine Sp.step rfl rfl rfl rfl ?_
                                                                                        exact Sp.iret rfl rfl rfl rfl (fun _ _ h => h)
                                                                                    · refine Sp.ite (fun e100 => ?_) (fun e100 => ?_)
                                                                                      · refine Sp.step rfl rfl rfl (go_sw (t := 439) (sw_of e100 rfl)) ?_
                                                                                        refine Sp.step rfl rfl rfl rfl ?_
                                                                                        exact Sp.iret rfl rfl rfl rfl (fun _ _ h => h)
                                                                                      · refine Sp.ite (fun e101 => ?_) (fun e101 => ?_)
                                                                                        · refine Sp.step rfl rfl rfl (go_sw (t := 275) (sw_of e101 rfl)) ?_
                                                                                          refine Sp.step rfl rfl rfl rfl ?_
                                                                                          refine Sp.step rfl rfl rfl rfl ?_
                                                                                          refine Sp.callS rfl rfl rfl (mrecv (by decide) (by decide +kernel)) s_M_isClass ⟨rfl, rfl⟩ ?_
                                                                                          refine Sp.bool (fun e102 => ?_) (fun e102 => ?_)
                                                                                          · refine Sp.id (pc := 280) (l := [some (.ref 60), some (.int x), some (.int y), some (.int z)]) (st := [.int 1]) (h := hS X M) ?_
                                                                                            exact Sp.iret rfl rfl rfl rfl (fun _ _ h => h)
                                                                                          · refine Sp.id (pc := 280) (l := [some (.ref 60), some (.int x), some (.int y), some (.int z)]) (st := [.int 0]) (h := hS X M) ?_
                                                                                            exact Sp.iret rfl rfl rfl rfl (fun _ _ h => h)
                                                                                        · refine Sp.ite (fun e103 => ?_) (fun e103 => ?_)
                                                                                          · refine Sp.step rfl rfl rfl (go_sw (t := 439) (sw_of e103 rfl)) ?_
                                                                                            refine Sp.step rfl rfl rfl rfl ?_
                                                                                            exact Sp.iret rfl rfl rfl rfl (fun _ _ h => h)
                                                                                          · refine Sp.ite (fun e104 => ?_) (fun e104 => ?_)
                                                                                            · refine Sp.step rfl rfl rfl (go_sw (t := 439) (sw_of e104 rfl)) ?_
                                                                                              refine Sp.step rfl rfl rfl rfl ?_
                                                                                              exact Sp.iret rfl rfl rfl rfl (fun _ _ h => h)
                                                                                            · refine Sp.ite (fun e105 => ?_) (fun e105 => ?_)
                                                                                              · refine Sp.step rfl rfl rfl (go_sw (t := 439) (sw_of e105 rfl)) ?_
                                                                                                refine Sp.step rfl rfl rfl rfl ?_
                                                                                                exact Sp.iret rfl rfl rfl rfl (fun _ _ h => h)
                                                                                              · refine Sp.ite (fun e106 => ?_) (fun e106 => ?_)
                                                                                                · refine Sp.step rfl rfl rfl (go_sw (t := 404) (sw_of e106 rfl)) ?_
                                                                                                  refine Sp.step rfl rfl rfl rfl ?_
                                                                                                  refine Sp.step rfl rfl rfl rfl ?_
                                                                                                  refine Sp.call rfl rfl rfl (mrecv (by decide) (by decide +kernel)) s_M_anyOf (fun x107 => ⟨_, _, ⟨rfl, rfl⟩, ?_⟩)
                                                                                                  refine Sp.id (pc := 409) (l := [some (.ref 60), some (.int x), some (.int y), some (.int z)]) (st := [.int x107]) (h := hS X M) ?_
                                                                                                  refine Sp.if1 rfl rfl rfl rfl (fun e108 => ?_) (fun e108 => ?_)
                                                                                                  · refine Sp.step rfl rfl rfl rfl ?_
                                                                                                    exact Sp.iret rfl rfl rfl rfl (fun _ _ h => h)
                                                                                                  · refine Sp.step rfl rfl rfl rfl ?_
                                                                                                    refine Sp.step rfl rfl rfl (mg_F (f := 6) rfl rfl rfl rfl) ?_
                                                                                                    refine Sp.step rfl rfl rfl rfl ?_
                                                                                                    refine Sp.step rfl rfl rfl rfl ?_
                                                                                                    refine Sp.call rfl rfl rfl (mrecv (by decide) (by decide +kernel)) s_M_anyOf (fun x109 => ⟨_, _, ⟨rfl, rfl⟩, ?_⟩)
                                                                                                    refine Sp.id (pc := 421) (l := [some (.ref 60), some (.int x), some (.int y), some (.int z)]) (st := [.int x109, .ref 66]) (h := hS X M) ?_
                                                                                                    refine Sp.guard (fun e110 => ?_)
                                                                                                    refine Sp.step rfl rfl rfl (mld rfl rfl (by decide) e110) ?_
                                                                                                    refine Sp.if1 rfl rfl rfl rfl (fun e111 => ?_) (fun e111 => ?_)
                                                                                                    · refine Sp.step rfl rfl rfl rfl ?_
                                                                                                      exact Sp.iret rfl rfl rfl rfl (fun _ _ h => h)
                                                                                                    · refine Sp.step rfl rfl rfl rfl ?_
                                                                                                      refine Sp.step rfl rfl rfl rfl ?_
                                                                                                      exact Sp.iret rfl rfl rfl rfl (fun _ _ h => h)
                                                                                                · refine Sp.ite (fun e112 => ?_) (fun e112 => ?_)
                                                                                                  · refine Sp.step rfl rfl rfl (go_sw (t := 439) (sw_of e112 rfl)) ?_
                                                                                                    refine Sp.step rfl rfl rfl rfl ?_
                                                                                                    exact Sp.iret rfl rfl rfl rfl (fun _ _ h => h)
                                                                                                  · refine Sp.ite (fun e113 => ?_) (fun e113 => ?_)
                                                                                                    · refine Sp.step rfl rfl rfl (go_sw (t := 439) (sw_of e113 rfl)) ?_
                                                                                                      refine Sp.step rfl rfl rfl rfl ?_
                                                                                                      exact Sp.iret rfl rfl rfl rfl (fun _ _ h => h)
                                                                                                    · refine Sp.ite (fun e114 => ?_) (fun e114 => ?_)
                                                                                                      · refine Sp.step rfl rfl rfl (go_sw (t := 439) (sw_of e114 rfl)) ?_
                                                                                                        refine Sp.step rfl rfl rfl rfl ?_
                                                                                                        exact Sp.iret rfl rfl rfl rfl (fun _ _ h => h)
                                                                                                      · refine Sp.ite (fun e115 => ?_) (fun e115 => ?_)
                                                                                                        · refine Sp.step rfl rfl rfl (go_sw (t := 431) (sw_of e115 rfl)) ?_
                                                                                                          refine Sp.step rfl rfl rfl rfl ?_
                                                                                                          refine Sp.step rfl rfl rfl rfl ?_
                                                                                                          refine Sp.step rfl rfl rfl rfl ?_
                                                                                                          refine Sp.callP rfl rfl rfl rfl s_isIn (fun e116 => ?_) (fun e116 => ?_)
                                                                                                          · refine Sp.id (pc := 438) (l := [some (.ref 60), some (.int x), some (.int y), some (.int z)]) (st := [.int 1]) (h := hS X M) ?_
                                                                                                            exact Sp.iret rfl rfl rfl rfl (fun _ _ h => h)
                                                                                                          · refine Sp.id (pc := 438) (l := [some (.ref 60), some (.int x), some (.int y), some (.int z)]) (st := [.int 0]) (h := hS X M) ?_
                                                                                                            exact Sp.iret rfl rfl rfl rfl (fun _ _ h => h)
                                                                                                        · refine Sp.ite (fun e117 => ?_) (fun e117 => ?_)
                                                                                                          · refine Sp.step rfl rfl rfl (go_sw (t := 431) (sw_of e117 rfl)) ?_
                                                                                                            refine Sp.step rfl rfl rfl rfl ?_
                                                                                                            refine Sp.step rfl rfl rfl rfl ?_
                                                                                                            refine Sp.step rfl rfl rfl rfl ?_
                                                                                                            refine Sp.callP rfl rfl rfl rfl s_isIn (fun e118 => ?_) (fun e118 => ?_)
                                                                                                            · refine Sp.id (pc := 438) (l := [some (.ref 60), some (.int x), some (.int y), some (.int z)]) (st := [.int 1]) (h := hS X M) ?_
                                                                                                              exact Sp.iret rfl rfl rfl rfl (fun _ _ h => h)
                                                                                                            · refine Sp.id (pc := 438) (l := [some (.ref 60), some (.int x), some (.int y), some (.int z)]) (st := [.int 0]) (h := hS X M) ?_
                                                                                                              exact Sp.iret rfl rfl rfl rfl (fun _ _ h => h)
                                                                                                          · refine Sp.ite (fun e119 => ?_) (fun e119 => ?_)
                                                                                                            · refine Sp.step rfl rfl rfl (go_sw (t := 431) (sw_of e119 rfl)) ?_
                                                                                                              refine Sp.step rfl rfl rfl rfl ?_
                                                                                                              refine Sp.step rfl rfl rfl rfl ?_
                                                                                                              refine Sp.step rfl rfl rfl rfl ?_
                                                                                                              refine Sp.callP rfl rfl rfl rfl s_isIn (fun e120 => ?_) (fun e120 => ?_)
                                                                                                              · refine Sp.id (pc := 438) (l := [some (.ref 60), some (.int x), some (.int y), some (.int z)]) (st := [.int 1]) (h := hS X M) ?_
                                                                                                                exact Sp.iret rfl rfl rfl rfl (fun _ _ h => h)
                                                                                                              · refine Sp.id (pc := 438) (l := [some (.ref 60), some (.int x), some (.int y), some (.int z)]) (st := [.int 0]) (h := hS X M) ?_
                                                                                                                exact Sp.iret rfl rfl rfl rfl (fun _ _ h => h)
                                                                                                            · refine Sp.ite (fun e121 => ?_) (fun e121 => ?_)
                                                                                                              · refine Sp.step rfl rfl rfl (go_sw (t := 431) (sw_of e121 rfl)) ?_
                                                                                                                refine Sp.step rfl rfl rfl rfl ?_
                                                                                                                refine Sp.step rfl rfl rfl rfl ?_
                                                                                                                refine Sp.step rfl rfl rfl rfl ?_
                                                                                                                refine Sp.callP rfl rfl rfl rfl s_isIn (fun e122 => ?_) (fun e122 => ?_)
                                                                                                                · refine Sp.id (pc := 438) (l := [some (.ref 60), some (.int x), some (.int y), some (.int z)]) (st := [.int 1]) (h := hS X M) ?_
                                                                                                                  exact Sp.iret rfl rfl rfl rfl (fun _ _ h => h)
                                                                                                                · refine Sp.id (pc := 438) (l := [some (.ref 60), some (.int x), some (.int y), some (.int z)]) (st := [.int 0]) (h := hS X M) ?_
                                                                                                                  exact Sp.iret rfl rfl rfl rfl (fun _ _ h => h)
                                                                                                              · refine Sp.step rfl rfl rfl (go_sw (t := 439) (mjSw_out _ (by
                                                                                                                  intro q hq
                                                                                                                  simp only [List.mem_cons, List.not_mem_nil, or_false] at hq
                                                                                                                  rcases hq with rfl | rfl | rfl | rfl | rfl | rfl | rfl | rfl | rfl | rfl | rfl | rfl | rfl | rfl | rfl | rfl | rfl | rfl | rfl | rfl | rfl | rfl | rfl | rfl | rfl | rfl | rfl | rfl | rfl | rfl | rfl | rfl | rfl | rfl | rfl | rfl | rfl | rfl | rfl | rfl | rfl | rfl | rfl | rfl | rfl | rfl | rfl | rfl | rfl | rfl | rfl | rfl | rfl | rfl | rfl
                                                                                                                  · exact e1
                                                                                                                  · exact e3
                                                                                                                  · exact e6
                                                                                                                  · exact e9
                                                                                                                  · exact e10
                                                                                                                  · exact e11
                                                                                                                  · exact e12
                                                                                                                  · exact e13
                                                                                                                  · exact e14
                                                                                                                  · exact e15
                                                                                                                  · exact e16
                                                                                                                  · exact e17
                                                                                                                  · exact e18
                                                                                                                  · exact e19
                                                                                                                  · exact e20
                                                                                                                  · exact e21
                                                                                                                  · exact e22
                                                                                                                  · exact e23
                                                                                                                  · exact e24
                                                                                                                  · exact e27
                                                                                                                  · exact e30
                                                                                                                  · exact e33
                                                                                                                  · exact e36
                                                                                                                  · exact e39
                                                                                                                  · exact e42
                                                                                                                  · exact e45
                                                                                                                  · exact e47
                                                                                                                  · exact e54
                                                                                                                  · exact e61
                                                                                                                  · exact e68
                                                                                                                  · exact e75
                                                                                                                  · exact e76
                                                                                                                  · exact e77
                                                                                                                  · exact e78
                                                                                                                  · exact e79
                                                                                                                  · exact e80
                                                                                                                  · exact e81
                                                                                                                  · exact e82
                                                                                                                  · exact e85
                                                                                                                  · exact e91
                                                                                                                  · exact e94
                                                                                                                  · exact e97
                                                                                                                  · exact e100
                                                                                                                  · exact e101
                                                                                                                  · exact e103
                                                                                                                  · exact e104
                                                                                                                  · exact e105
                                                                                                                  · exact e106
                                                                                                                  · exact e112
                                                                                                                  · exact e113
                                                                                                                  · exact e114
                                                                                                                  · exact e115
                                                                                                                  · exact e117
                                                                                                                  · exact e119
                                                                                                                  · exact e121))) ?_
                                                                                                                refine Sp.step rfl rfl rfl rfl ?_
                                                                                                                exact Sp.iret rfl rfl rfl rfl (fun _ _ h => h)
def f_M_push (x : Int32) (M : MS) : Option MS := (if M.1 60 32 = 0 then (if ¬ M.1 60 30 = 10 then (lt (mw M 60 32 0) fun M3 => (if ¬ M3.1 60 32 = 0 then some M3 else (if ixo (M3.1 60 30) 16 then (lt (mw M3 86 (M3.1 60 30).toNatClampNeg x) fun M6 => (lt (mw M6 60 30 ((M6.1 60 30) + 1)) fun M7 => some M7)) else none))) else (lt (mw M 60 32 1) fun M8 => (if ¬ M8.1 60 32 = 0 then some M8 else (if ixo (M8.1 60 30) 16 then (lt (mw M8 86 (M8.1 60 30).toNatClampNeg x) fun M11 => (lt (mw M11 60 30 ((M11.1 60 30) + 1)) fun M12 => some M12)) else none)))) else some M)
set_option maxRecDepth 100000 in
set_option maxHeartbeats 4000000 in
theorem s_M_push {L : Nat} {xs : Nat → Int32} {X : XS} {M : MS} {x : Int32} : Sp (mjOO L xs) 35 0 [some (.ref 60), some (.int x)] [] (hS X M) (f_M_push x M) (KVM X) := by
  unfold f_M_push
  refine Sp.step rfl rfl rfl rfl ?_
  refine Sp.step rfl rfl rfl (mg_I (f := 32) rfl rfl rfl) ?_
  refine Sp.if1 rfl rfl rfl rfl (fun e1 => ?_) (fun e1 => ?_)
  · refine Sp.step rfl rfl rfl rfl ?_
    refine Sp.step rfl rfl rfl rfl ?_
    refine Sp.step rfl rfl rfl (mg_I (f := 30) rfl rfl rfl) ?_
    refine Sp.step rfl rfl rfl rfl ?_
    refine Sp.if2 rfl rfl rfl rfl (fun e2 => ?_) (fun e2 => ?_)
    · refine Sp.step rfl rfl rfl rfl ?_
      refine Sp.step rfl rfl rfl (mp_I (f := 32) rfl rfl rfl rfl) ?_
      refine Sp.step rfl rfl rfl rfl ?_
      refine Sp.step rfl rfl rfl (mg_I (f := 32) rfl rfl rfl) ?_
      refine Sp.if1 rfl rfl rfl rfl (fun e4 => ?_) (fun e4 => ?_)
      · exact Sp.vret rfl rfl rfl (fun _ _ h => h)
      · refine Sp.step rfl rfl rfl rfl ?_
        refine Sp.step rfl rfl rfl (mg_F (f := 29) rfl rfl rfl rfl) ?_
        refine Sp.step rfl rfl rfl rfl ?_
        refine Sp.step rfl rfl rfl (mg_I (f := 30) rfl rfl rfl) ?_
        refine Sp.step rfl rfl rfl rfl ?_
        refine Sp.guard (fun e5 => ?_)
        refine Sp.step rfl rfl rfl (mst rfl rfl (by decide) e5) ?_
        refine Sp.step rfl rfl rfl rfl ?_
        refine Sp.step rfl rfl rfl rfl ?_
        refine Sp.step rfl rfl rfl (mg_I (f := 30) rfl rfl rfl) ?_
        refine Sp.step rfl rfl rfl rfl ?_
        refine Sp.step rfl rfl rfl rfl ?_
        refine Sp.step rfl rfl rfl (mp_I (f := 30) rfl rfl rfl rfl) ?_
        exact Sp.vret rfl rfl rfl (fun _ _ h => h)
    · refine Sp.step rfl rfl rfl rfl ?_
      refine Sp.step rfl rfl rfl rfl ?_
      refine Sp.step rfl rfl rfl (mp_I (f := 32) rfl rfl rfl rfl) ?_
      refine Sp.step rfl rfl rfl rfl ?_
      refine Sp.step rfl rfl rfl (mg_I (f := 32) rfl rfl rfl) ?_
      refine Sp.if1 rfl rfl rfl rfl (fun e9 => ?_) (fun e9 => ?_)
      · exact Sp.vret rfl rfl rfl (fun _ _ h => h)
      · refine Sp.step rfl rfl rfl rfl ?_
        refine Sp.step rfl rfl rfl (mg_F (f := 29) rfl rfl rfl rfl) ?_
        refine Sp.step rfl rfl rfl rfl ?_
        refine Sp.step rfl rfl rfl (mg_I (f := 30) rfl rfl rfl) ?_
        refine Sp.step rfl rfl rfl rfl ?_
        refine Sp.guard (fun e10 => ?_)
        refine Sp.step rfl rfl rfl (mst rfl rfl (by decide) e10) ?_
        refine Sp.step rfl rfl rfl rfl ?_
        refine Sp.step rfl rfl rfl rfl ?_
        refine Sp.step rfl rfl rfl (mg_I (f := 30) rfl rfl rfl) ?_
        refine Sp.step rfl rfl rfl rfl ?_
        refine Sp.step rfl rfl rfl rfl ?_
        refine Sp.step rfl rfl rfl (mp_I (f := 30) rfl rfl rfl rfl) ?_
        exact Sp.vret rfl rfl rfl (fun _ _ h => h)
  · exact Sp.vret rfl rfl rfl (fun _ _ h => h)
def f_M_pop (x : Int32) (M : MS) : Option (Int32 × MS) := (if M.1 60 30 = 0 then (lt (mw M 60 32 1) fun M2 => some (1, M2)) else (if x = 0 then (lt (mw M 60 30 ((M.1 60 30) - 1)) fun M4 => (if ixo (M4.1 60 30) 16 then some (M4.1 86 (M4.1 60 30).toNatClampNeg, M4) else none)) else (if ixo ((M.1 60 30) - 1) 16 then (if M.1 86 ((M.1 60 30) - 1).toNatClampNeg = x then (lt (mw M 60 30 ((M.1 60 30) - 1)) fun M8 => (if ixo (M8.1 60 30) 16 then some (M8.1 86 (M8.1 60 30).toNatClampNeg, M8) else none)) else (lt (mw M 60 32 1) fun M10 => some (1, M10))) else none)))
set_option maxRecDepth 100000 in
set_option maxHeartbeats 4000000 in
theorem s_M_pop {L : Nat} {xs : Nat → Int32} {X : XS} {M : MS} {x : Int32} : Sp (mjOO L xs) 34 0 [some (.ref 60), some (.int x)] [] (hS X M) (f_M_pop x M) (KEM X) := by
  unfold f_M_pop
  refine Sp.step rfl rfl rfl rfl ?_
  refine Sp.step rfl rfl rfl (mg_I (f := 30) rfl rfl rfl) ?_
  refine Sp.if1 rfl rfl rfl rfl (fun e1 => ?_) (fun e1 => ?_)
  · refine Sp.step rfl rfl rfl rfl ?_
    refine Sp.step rfl rfl rfl rfl ?_
    refine Sp.step rfl rfl rfl (mp_I (f := 32) rfl rfl rfl rfl) ?_
    refine Sp.step rfl rfl rfl rfl ?_
    exact Sp.iret rfl rfl rfl rfl (fun _ _ h => h)
  · refine Sp.step rfl rfl rfl rfl ?_
    refine Sp.if1 rfl rfl rfl rfl (fun e3 => ?_) (fun e3 => ?_)
    · refine Sp.step rfl rfl rfl rfl ?_
      refine Sp.step rfl rfl rfl rfl ?_
      refine Sp.step rfl rfl rfl (mg_I (f := 30) rfl rfl rfl) ?_
      refine Sp.step rfl rfl rfl rfl ?_
      refine Sp.step rfl rfl rfl rfl ?_
      refine Sp.step rfl rfl rfl (mp_I (f := 30) rfl rfl rfl rfl) ?_
      refine Sp.step rfl rfl rfl rfl ?_
      refine Sp.step rfl rfl rfl (mg_F (f := 29) rfl rfl rfl rfl) ?_
      refine Sp.step rfl rfl rfl rfl ?_
      refine Sp.step rfl rfl rfl (mg_I (f := 30) rfl rfl rfl) ?_
      refine Sp.guard (fun e5 => ?_)
      refine Sp.step rfl rfl rfl (mld rfl rfl (by decide) e5) ?_
      exact Sp.iret rfl rfl rfl rfl (fun _ _ h => h)
    · refine Sp.step rfl rfl rfl rfl ?_
      refine Sp.step rfl rfl rfl (mg_F (f := 29) rfl rfl rfl rfl) ?_
      refine Sp.step rfl rfl rfl rfl ?_
      refine Sp.step rfl rfl rfl (mg_I (f := 30) rfl rfl rfl) ?_
      refine Sp.step rfl rfl rfl rfl ?_
      refine Sp.step rfl rfl rfl rfl ?_
      refine Sp.guard (fun e6 => ?_)
      refine Sp.step rfl rfl rfl (mld rfl rfl (by decide) e6) ?_
      refine Sp.step rfl rfl rfl rfl ?_
      refine Sp.if2 rfl rfl rfl rfl (fun e7 => ?_) (fun e7 => ?_)
      · refine Sp.step rfl rfl rfl rfl ?_
        refine Sp.step rfl rfl rfl rfl ?_
        refine Sp.step rfl rfl rfl (mg_I (f := 30) rfl rfl rfl) ?_
        refine Sp.step rfl rfl rfl rfl ?_
        refine Sp.step rfl rfl rfl rfl ?_
        refine Sp.step rfl rfl rfl (mp_I (f := 30) rfl rfl rfl rfl) ?_
        refine Sp.step rfl rfl rfl rfl ?_
        refine Sp.step rfl rfl rfl (mg_F (f := 29) rfl rfl rfl rfl) ?_
        refine Sp.step rfl rfl rfl rfl ?_
        refine Sp.step rfl rfl rfl (mg_I (f := 30) rfl rfl rfl) ?_
        refine Sp.guard (fun e9 => ?_)
        refine Sp.step rfl rfl rfl (mld rfl rfl (by decide) e9) ?_
        exact Sp.iret rfl rfl rfl rfl (fun _ _ h => h)
      · refine Sp.step rfl rfl rfl rfl ?_
        refine Sp.step rfl rfl rfl rfl ?_
        refine Sp.step rfl rfl rfl (mp_I (f := 32) rfl rfl rfl rfl) ?_
        refine Sp.step rfl rfl rfl rfl ?_
        exact Sp.iret rfl rfl rfl rfl (fun _ _ h => h)
def b9_M_popArguments (x : Int32) (x7 : (Int32 × MS)) : Option ((Int32 × MS) ⊕ (Int32 × MS)) := (if x7.1 < 0 then some (.inr (x7.1, x7.2)) else (if ixo x 24 then (if ¬ ((x7.2.1 67 x.toNatClampNeg : Int32) >>> ((x7.1 : Int32) &&& 31)) &&& 1 = 1 then ((f_M_pop 1 x7.2).bind fun x11 => some (.inl (x7.1 + (-1), x11.2))) else ((f_M_pop 2 x7.2).bind fun x12 => some (.inl (x7.1 + (-1), x12.2)))) else none))
def f_M_popArguments (x : Int32) (M : MS) : Option MS := (if ixo x 24 then ((lp (b9_M_popArguments x) 10000 ((M.1 66 x.toNatClampNeg) - 1, M)).bind fun x13 => some x13.2) else none)
set_option maxRecDepth 100000 in
set_option maxHeartbeats 4000000 in
theorem s_M_popArguments {L : Nat} {xs : Nat → Int32} {X : XS} {M : MS} {x : Int32} : Sp (mjOO L xs) 38 0 [some (.ref 60), some (.int x), none, none] [] (hS X M) (f_M_popArguments x M) (KVM X) := by
  unfold f_M_popArguments
  refine Sp.step rfl rfl rfl rfl ?_
  refine Sp.step rfl rfl rfl (mg_F (f := 6) rfl rfl rfl rfl) ?_
  refine Sp.step rfl rfl rfl rfl ?_
  refine Sp.guard (fun e1 => ?_)
  refine Sp.step rfl rfl rfl (mld rfl rfl (by decide) e1) ?_
  refine Sp.step rfl rfl rfl rfl ?_
  refine Sp.step rfl rfl rfl rfl ?_
  refine Sp.step rfl rfl rfl rfl ?_
  refine Sp.weak (l0 := [some (.ref 60), some (.int x), some (.int ((M.1 66 x.toNatClampNeg) - 1)), none]) ⟨rfl, rfl, rfl, trivial⟩ ?_
  refine Sp.loopX (pe := 43) (mf := (fun (x7 : (Int32 × MS)) => [some (.ref 60), some (.int x), some (.int x7.1), none])) (hf := (fun (x7 : (Int32 × MS)) => hS X x7.2)) (fun x7 => ?_) (fun x13 => ?_) _ _
  · unfold b9_M_popArguments
    refine Sp.step rfl rfl rfl rfl ?_
    refine Sp.if1 rfl rfl rfl rfl (fun e8 => ?_) (fun e8 => ?_)
    · exact Sp.jmp (l0 := [some (.ref 60), some (.int x), some (.int x7.1), none]) ⟨rfl, rfl, rfl, trivial⟩ (fun _ _ h => h)
    · refine Sp.step rfl rfl rfl rfl ?_
      refine Sp.step rfl rfl rfl rfl ?_
      refine Sp.step rfl rfl rfl (mg_F (f := 7) rfl rfl rfl rfl) ?_
      refine Sp.step rfl rfl rfl rfl ?_
      refine Sp.guard (fun e9 => ?_)
      refine Sp.step rfl rfl rfl (mld rfl rfl (by decide) e9) ?_
      refine Sp.step rfl rfl rfl rfl ?_
      refine Sp.step rfl rfl rfl rfl ?_
      refine Sp.step rfl rfl rfl rfl ?_
      refine Sp.step rfl rfl rfl rfl ?_
      refine Sp.step rfl rfl rfl rfl ?_
      refine Sp.if2 rfl rfl rfl rfl (fun e10 => ?_) (fun e10 => ?_)
      · refine Sp.step rfl rfl rfl rfl ?_
        refine Sp.call rfl rfl rfl (mrecv (by decide) (by decide +kernel)) s_M_pop (fun x11 => ⟨_, _, ⟨rfl, rfl⟩, ?_⟩)
        refine Sp.id (pc := 36) (l := [some (.ref 60), some (.int x), some (.int x7.1), none]) (st := [.int x11.1]) (h := hS X x11.2) ?_
        refine Sp.step rfl rfl rfl rfl ?_
        refine Sp.step rfl rfl rfl rfl ?_
        refine Sp.step rfl rfl rfl rfl ?_
        exact Sp.jmp (l0 := [some (.ref 60), some (.int x), some (.int (x7.1 + (-1))), none]) ⟨rfl, rfl, rfl, trivial⟩ (fun _ _ h => h)
      · refine Sp.step rfl rfl rfl rfl ?_
        refine Sp.step rfl rfl rfl rfl ?_
        refine Sp.call rfl rfl rfl (mrecv (by decide) (by decide +kernel)) s_M_pop (fun x12 => ⟨_, _, ⟨rfl, rfl⟩, ?_⟩)
        refine Sp.id (pc := 36) (l := [some (.ref 60), some (.int x), some (.int x7.1), none]) (st := [.int x12.1]) (h := hS X x12.2) ?_
        refine Sp.step rfl rfl rfl rfl ?_
        refine Sp.step rfl rfl rfl rfl ?_
        refine Sp.step rfl rfl rfl rfl ?_
        exact Sp.jmp (l0 := [some (.ref 60), some (.int x), some (.int (x7.1 + (-1))), none]) ⟨rfl, rfl, rfl, trivial⟩ (fun _ _ h => h)
  · exact Sp.vret rfl rfl rfl (fun _ _ h => h)
