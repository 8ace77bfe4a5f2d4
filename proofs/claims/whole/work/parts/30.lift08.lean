/-! methods as functions, by program -/
def f_M_code (x : Int32) (y : Int32) (M : MS) : Option (Int32 × MS) := (if M.1 60 15 = 0 then some ((-1), M) else (if 0 ≤ x ∧ x ≤ 55 then (if ixo ((M.1 60 15) - 1) 24 then (if ¬ M.1 70 ((M.1 60 15) - 1).toNatClampNeg = 60 then (if ixo ((60 * ((M.1 60 15) - 1)) + (M.1 70 ((M.1 60 15) - 1).toNatClampNeg)) 1440 then (lt (mw M 71 ((60 * ((M.1 60 15) - 1)) + (M.1 70 ((M.1 60 15) - 1).toNatClampNeg)).toNatClampNeg x) fun M7 => (lt (mw M7 72 ((60 * ((M.1 60 15) - 1)) + (M.1 70 ((M.1 60 15) - 1).toNatClampNeg)).toNatClampNeg y) fun M8 => (if ixo ((M8.1 60 15) - 1) 24 then (lt (mw M8 70 ((M8.1 60 15) - 1).toNatClampNeg ((M8.1 70 ((M8.1 60 15) - 1).toNatClampNeg) + 1)) fun M10 => (if ixo ((M10.1 60 15) - 1) 24 then some ((M10.1 70 ((M10.1 60 15) - 1).toNatClampNeg) - 1, M10) else none)) else none))) else none) else some ((-1), M)) else none) else some ((-1), M)))
set_option maxRecDepth 100000 in
set_option maxHeartbeats 4000000 in
theorem s_M_code {L : Nat} {xs : Nat → Int32} {X : XS} {M : MS} {x : Int32} {y : Int32} : Sp (mjOO L xs) 24 0 [some (.ref 60), some (.int x), some (.int y), none] [] (hS X M) (f_M_code x y M) (KEM X) := by
  unfold f_M_code
  refine Sp.step rfl rfl rfl rfl ?_
  refine Sp.step rfl rfl rfl (mg_I (f := 15) rfl rfl rfl) ?_
  refine Sp.if1 rfl rfl rfl rfl (fun e1 => ?_) (fun e1 => ?_)
  · refine Sp.step rfl rfl rfl rfl ?_
    exact Sp.iret rfl rfl rfl rfl (fun _ _ h => h)
  · refine Sp.step rfl rfl rfl rfl ?_
    refine Sp.step rfl rfl rfl rfl ?_
    refine Sp.step rfl rfl rfl rfl ?_
    refine Sp.callP rfl rfl rfl rfl s_isIn (fun e2 => ?_) (fun e2 => ?_)
    · refine Sp.id (pc := 14) (l := [some (.ref 60), some (.int x), some (.int y), none]) (st := [.int 1]) (h := hS X M) ?_
      refine Sp.step rfl rfl rfl rfl ?_
      refine Sp.step rfl rfl rfl rfl ?_
      refine Sp.step rfl rfl rfl (mg_F (f := 10) rfl rfl rfl rfl) ?_
      refine Sp.step rfl rfl rfl rfl ?_
      refine Sp.step rfl rfl rfl (mg_I (f := 15) rfl rfl rfl) ?_
      refine Sp.step rfl rfl rfl rfl ?_
      refine Sp.step rfl rfl rfl rfl ?_
      refine Sp.guard (fun e4 => ?_)
      refine Sp.step rfl rfl rfl (mld rfl rfl (by decide) e4) ?_
      refine Sp.step rfl rfl rfl rfl ?_
      refine Sp.if2 rfl rfl rfl rfl (fun e5 => ?_) (fun e5 => ?_)
      · refine Sp.step rfl rfl rfl rfl ?_
        refine Sp.step rfl rfl rfl rfl ?_
        refine Sp.step rfl rfl rfl (mg_I (f := 15) rfl rfl rfl) ?_
        refine Sp.step rfl rfl rfl rfl ?_
        refine Sp.step rfl rfl rfl rfl ?_
        refine Sp.step rfl rfl rfl rfl ?_
        refine Sp.step rfl rfl rfl rfl ?_
        refine Sp.step rfl rfl rfl (mg_F (f := 10) rfl rfl rfl rfl) ?_
        refine Sp.step rfl rfl rfl rfl ?_
        refine Sp.step rfl rfl rfl (mg_I (f := 15) rfl rfl rfl) ?_
        refine Sp.step rfl rfl rfl rfl ?_
        refine Sp.step rfl rfl rfl rfl ?_
        refine Sp.step rfl rfl rfl (mld rfl rfl (by decide) e4) ?_
        refine Sp.step rfl rfl rfl rfl ?_
        refine Sp.step rfl rfl rfl rfl ?_
        refine Sp.step rfl rfl rfl rfl ?_
        refine Sp.step rfl rfl rfl (mg_F (f := 11) rfl rfl rfl rfl) ?_
        refine Sp.step rfl rfl rfl rfl ?_
        refine Sp.step rfl rfl rfl rfl ?_
        refine Sp.guard (fun e6 => ?_)
        refine Sp.step rfl rfl rfl (mst rfl rfl (by decide) e6) ?_
        refine Sp.step rfl rfl rfl rfl ?_
        refine Sp.step rfl rfl rfl (mg_F (f := 12) rfl rfl rfl rfl) ?_
        refine Sp.step rfl rfl rfl rfl ?_
        refine Sp.step rfl rfl rfl rfl ?_
        refine Sp.step rfl rfl rfl (mst rfl rfl (by decide) e6) ?_
        refine Sp.step rfl rfl rfl rfl ?_
        refine Sp.step rfl rfl rfl (mg_F (f := 10) rfl rfl rfl rfl) ?_
        refine Sp.step rfl rfl rfl rfl ?_
        refine Sp.step rfl rfl rfl (mg_I (f := 15) rfl rfl rfl) ?_
        refine Sp.step rfl rfl rfl rfl ?_
        refine Sp.step rfl rfl rfl rfl ?_
        refine Sp.step rfl rfl rfl rfl ?_
        refine Sp.guard (fun e9 => ?_)
        refine Sp.step rfl rfl rfl (mld rfl rfl (by decide) e9) ?_
        refine Sp.step rfl rfl rfl rfl ?_
        refine Sp.step rfl rfl rfl rfl ?_
        refine Sp.step rfl rfl rfl (mst rfl rfl (by decide) e9) ?_
        refine Sp.step rfl rfl rfl rfl ?_
        refine Sp.step rfl rfl rfl (mg_F (f := 10) rfl rfl rfl rfl) ?_
        refine Sp.step rfl rfl rfl rfl ?_
        refine Sp.step rfl rfl rfl (mg_I (f := 15) rfl rfl rfl) ?_
        refine Sp.step rfl rfl rfl rfl ?_
        refine Sp.step rfl rfl rfl rfl ?_
        refine Sp.guard (fun e11 => ?_)
        refine Sp.step rfl rfl rfl (mld rfl rfl (by decide) e11) ?_
        refine Sp.step rfl rfl rfl rfl ?_
        refine Sp.step rfl rfl rfl rfl ?_
        exact Sp.iret rfl rfl rfl rfl (fun _ _ h => h)
      · refine Sp.step rfl rfl rfl rfl ?_
        exact Sp.iret rfl rfl rfl rfl (fun _ _ h => h)
    · refine Sp.id (pc := 14) (l := [some (.ref 60), some (.int x), some (.int y), none]) (st := [.int 0]) (h := hS X M) ?_
      refine Sp.step rfl rfl rfl rfl ?_
      refine Sp.step rfl rfl rfl rfl ?_
      exact Sp.iret rfl rfl rfl rfl (fun _ _ h => h)
def f_M_trap (x : Int32) (y : Int32) (z : Int32) (u : Int32) (M : MS) : Option (Int32 × MS) := (if M.1 60 15 = 0 then some ((-1), M) else (if ixo ((M.1 60 15) - 1) 24 then (if ¬ M.1 73 ((M.1 60 15) - 1).toNatClampNeg = 6 then (if ixo ((24 * ((M.1 60 15) - 1)) + (4 * (M.1 73 ((M.1 60 15) - 1).toNatClampNeg))) 576 then (lt (mw M 74 ((24 * ((M.1 60 15) - 1)) + (4 * (M.1 73 ((M.1 60 15) - 1).toNatClampNeg))).toNatClampNeg x) fun M5 => (if ixo (((24 * ((M.1 60 15) - 1)) + (4 * (M.1 73 ((M.1 60 15) - 1).toNatClampNeg))) + 1) 576 then (lt (mw M5 74 (((24 * ((M.1 60 15) - 1)) + (4 * (M.1 73 ((M.1 60 15) - 1).toNatClampNeg))) + 1).toNatClampNeg y) fun M7 => (if ixo (((24 * ((M.1 60 15) - 1)) + (4 * (M.1 73 ((M.1 60 15) - 1).toNatClampNeg))) + 2) 576 then (lt (mw M7 74 (((24 * ((M.1 60 15) - 1)) + (4 * (M.1 73 ((M.1 60 15) - 1).toNatClampNeg))) + 2).toNatClampNeg z) fun M9 => (if ixo (((24 * ((M.1 60 15) - 1)) + (4 * (M.1 73 ((M.1 60 15) - 1).toNatClampNeg))) + 3) 576 then (lt (mw M9 74 (((24 * ((M.1 60 15) - 1)) + (4 * (M.1 73 ((M.1 60 15) - 1).toNatClampNeg))) + 3).toNatClampNeg u) fun M11 => (if ixo ((M11.1 60 15) - 1) 24 then (lt (mw M11 73 ((M11.1 60 15) - 1).toNatClampNeg ((M11.1 73 ((M11.1 60 15) - 1).toNatClampNeg) + 1)) fun M13 => (if ixo ((M13.1 60 15) - 1) 24 then some (M13.1 73 ((M13.1 60 15) - 1).toNatClampNeg, M13) else none)) else none)) else none)) else none)) else none)) else none) else some ((-1), M)) else none))
set_option maxRecDepth 100000 in
set_option maxHeartbeats 4000000 in
theorem s_M_trap {L : Nat} {xs : Nat → Int32} {X : XS} {M : MS} {x : Int32} {y : Int32} {z : Int32} {u : Int32} : Sp (mjOO L xs) 25 0 [some (.ref 60), some (.int x), some (.int y), some (.int z), some (.int u), none] [] (hS X M) (f_M_trap x y z u M) (KEM X) := by
  unfold f_M_trap
  refine Sp.step rfl rfl rfl rfl ?_
  refine Sp.step rfl rfl rfl (mg_I (f := 15) rfl rfl rfl) ?_
  refine Sp.if1 rfl rfl rfl rfl (fun e1 => ?_) (fun e1 => ?_)
  · refine Sp.step rfl rfl rfl rfl ?_
    exact Sp.iret rfl rfl rfl rfl (fun _ _ h => h)
  · refine Sp.step rfl rfl rfl rfl ?_
    refine Sp.step rfl rfl rfl (mg_F (f := 13) rfl rfl rfl rfl) ?_
    refine Sp.step rfl rfl rfl rfl ?_
    refine Sp.step rfl rfl rfl (mg_I (f := 15) rfl rfl rfl) ?_
    refine Sp.step rfl rfl rfl rfl ?_
    refine Sp.step rfl rfl rfl rfl ?_
    refine Sp.guard (fun e2 => ?_)
    refine Sp.step rfl rfl rfl (mld rfl rfl (by decide) e2) ?_
    refine Sp.step rfl rfl rfl rfl ?_
    refine Sp.if2 rfl rfl rfl rfl (fun e3 => ?_) (fun e3 => ?_)
    · refine Sp.step rfl rfl rfl rfl ?_
      refine Sp.step rfl rfl rfl rfl ?_
      refine Sp.step rfl rfl rfl (mg_I (f := 15) rfl rfl rfl) ?_
      refine Sp.step rfl rfl rfl rfl ?_
      refine Sp.step rfl rfl rfl rfl ?_
      refine Sp.step rfl rfl rfl rfl ?_
      refine Sp.step rfl rfl rfl rfl ?_
      refine Sp.step rfl rfl rfl rfl ?_
      refine Sp.step rfl rfl rfl (mg_F (f := 13) rfl rfl rfl rfl) ?_
      refine Sp.step rfl rfl rfl rfl ?_
      refine Sp.step rfl rfl rfl (mg_I (f := 15) rfl rfl rfl) ?_
      refine Sp.step rfl rfl rfl rfl ?_
      refine Sp.step rfl rfl rfl rfl ?_
      refine Sp.step rfl rfl rfl (mld rfl rfl (by decide) e2) ?_
      refine Sp.step rfl rfl rfl rfl ?_
      refine Sp.step rfl rfl rfl rfl ?_
      refine Sp.step rfl rfl rfl rfl ?_
      refine Sp.step rfl rfl rfl rfl ?_
      refine Sp.step rfl rfl rfl (mg_F (f := 14) rfl rfl rfl rfl) ?_
      refine Sp.step rfl rfl rfl rfl ?_
      refine Sp.step rfl rfl rfl rfl ?_
      refine Sp.guard (fun e4 => ?_)
      refine Sp.step rfl rfl rfl (mst rfl rfl (by decide) e4) ?_
      refine Sp.step rfl rfl rfl rfl ?_
      refine Sp.step rfl rfl rfl (mg_F (f := 14) rfl rfl rfl rfl) ?_
      refine Sp.step rfl rfl rfl rfl ?_
      refine Sp.step rfl rfl rfl rfl ?_
      refine Sp.step rfl rfl rfl rfl ?_
      refine Sp.step rfl rfl rfl rfl ?_
      refine Sp.guard (fun e6 => ?_)
      refine Sp.step rfl rfl rfl (mst rfl rfl (by decide) e6) ?_
      refine Sp.step rfl rfl rfl rfl ?_
      refine Sp.step rfl rfl rfl (mg_F (f := 14) rfl rfl rfl rfl) ?_
      refine Sp.step rfl rfl rfl rfl ?_
      refine Sp.step rfl rfl rfl rfl ?_
      refine Sp.step rfl rfl rfl rfl ?_
      refine Sp.step rfl rfl rfl rfl ?_
      refine Sp.guard (fun e8 => ?_)
      refine Sp.step rfl rfl rfl (mst rfl rfl (by decide) e8) ?_
      refine Sp.step rfl rfl rfl rfl ?_
      refine Sp.step rfl rfl rfl (mg_F (f := 14) rfl rfl rfl rfl) ?_
      refine Sp.step rfl rfl rfl rfl ?_
      refine Sp.step rfl rfl rfl rfl ?_
      refine Sp.step rfl rfl rfl rfl ?_
      refine Sp.step rfl rfl rfl rfl ?_
      refine Sp.guard (fun e10 => ?_)
      refine Sp.step rfl rfl rfl (mst rfl rfl (by decide) e10) ?_
      refine Sp.step rfl rfl rfl rfl ?_
      refine Sp.step rfl rfl rfl (mg_F (f := 13) rfl rfl rfl rfl) ?_
      refine Sp.step rfl rfl rfl rfl ?_
      refine Sp.step rfl rfl rfl (mg_I (f := 15) rfl rfl rfl) ?_
      refine Sp.step rfl rfl rfl rfl ?_
      refine Sp.step rfl rfl rfl rfl ?_
      refine Sp.step rfl rfl rfl rfl ?_
      refine Sp.guard (fun e12 => ?_)
      refine Sp.step rfl rfl rfl (mld rfl rfl (by decide) e12) ?_
      refine Sp.step rfl rfl rfl rfl ?_
      refine Sp.step rfl rfl rfl rfl ?_
      refine Sp.step rfl rfl rfl (mst rfl rfl (by decide) e12) ?_
      refine Sp.step rfl rfl rfl rfl ?_
      refine Sp.step rfl rfl rfl (mg_F (f := 13) rfl rfl rfl rfl) ?_
      refine Sp.step rfl rfl rfl rfl ?_
      refine Sp.step rfl rfl rfl (mg_I (f := 15) rfl rfl rfl) ?_
      refine Sp.step rfl rfl rfl rfl ?_
      refine Sp.step rfl rfl rfl rfl ?_
      refine Sp.guard (fun e14 => ?_)
      refine Sp.step rfl rfl rfl (mld rfl rfl (by decide) e14) ?_
      exact Sp.iret rfl rfl rfl rfl (fun _ _ h => h)
    · refine Sp.step rfl rfl rfl rfl ?_
      exact Sp.iret rfl rfl rfl rfl (fun _ _ h => h)
def f_M_isStatic (x : Int32) (M : MS) : Option Bool := (if 0 ≤ x ∧ x ≤ (M.1 60 15) - 1 then (if ixo x 24 then (if ¬ M.1 65 x.toNatClampNeg = (-2) then some false else some true) else none) else some false)
set_option maxRecDepth 100000 in
set_option maxHeartbeats 4000000 in
theorem s_M_isStatic {L : Nat} {xs : Nat → Int32} {X : XS} {M : MS} {x : Int32} : Sp (mjOO L xs) 28 0 [some (.ref 60), some (.int x)] [] (hS X M) (f_M_isStatic x M) (KB (hS X M)) := by
  unfold f_M_isStatic
  refine Sp.step rfl rfl rfl rfl ?_
  refine Sp.step rfl rfl rfl rfl ?_
  refine Sp.step rfl rfl rfl rfl ?_
  refine Sp.step rfl rfl rfl (mg_I (f := 15) rfl rfl rfl) ?_
  refine Sp.step rfl rfl rfl rfl ?_
  refine Sp.step rfl rfl rfl rfl ?_
  refine Sp.callP rfl rfl rfl rfl s_isIn (fun e1 => ?_) (fun e1 => ?_)
  · refine Sp.id (pc := 11) (l := [some (.ref 60), some (.int x)]) (st := [.int 1]) (h := hS X M) ?_
    refine Sp.step rfl rfl rfl rfl ?_
    refine Sp.step rfl rfl rfl rfl ?_
    refine Sp.step rfl rfl rfl (mg_F (f := 5) rfl rfl rfl rfl) ?_
    refine Sp.step rfl rfl rfl rfl ?_
    refine Sp.guard (fun e3 => ?_)
    refine Sp.step rfl rfl rfl (mld rfl rfl (by decide) e3) ?_
    refine Sp.step rfl rfl rfl rfl ?_
    refine Sp.if2 rfl rfl rfl rfl (fun e4 => ?_) (fun e4 => ?_)
    · refine Sp.step rfl rfl rfl rfl ?_
      exact Sp.iret rfl rfl rfl rfl (fun _ _ h => h)
    · refine Sp.step rfl rfl rfl rfl ?_
      refine Sp.step rfl rfl rfl rfl ?_
      exact Sp.iret rfl rfl rfl rfl (fun _ _ h => h)
  · refine Sp.id (pc := 11) (l := [some (.ref 60), some (.int x)]) (st := [.int 0]) (h := hS X M) ?_
    refine Sp.step rfl rfl rfl rfl ?_
    refine Sp.step rfl rfl rfl rfl ?_
    exact Sp.iret rfl rfl rfl rfl (fun _ _ h => h)
def f_M_isClass (x : Int32) (M : MS) : Bool := (if 0 ≤ x ∧ x ≤ (M.1 60 3) - 1 then true else false)
set_option maxRecDepth 100000 in
set_option maxHeartbeats 4000000 in
theorem s_M_isClass {L : Nat} {xs : Nat → Int32} {X : XS} {M : MS} {x : Int32} : Sp (mjOO L xs) 27 0 [some (.ref 60), some (.int x)] [] (hS X M) (some (f_M_isClass x M)) (KB (hS X M)) := by
  unfold f_M_isClass
  refine Sp.step rfl rfl rfl rfl ?_
  refine Sp.step rfl rfl rfl rfl ?_
  refine Sp.step rfl rfl rfl rfl ?_
  refine Sp.step rfl rfl rfl (mg_I (f := 3) rfl rfl rfl) ?_
  refine Sp.step rfl rfl rfl rfl ?_
  refine Sp.step rfl rfl rfl rfl ?_
  refine Sp.callPV rfl rfl rfl rfl s_isIn (fun e1 => ?_) (fun e1 => ?_)
  · refine Sp.id (pc := 11) (l := [some (.ref 60), some (.int x)]) (st := [.int 1]) (h := hS X M) ?_
    exact Sp.iret rfl rfl rfl rfl (fun _ _ h => h)
  · refine Sp.id (pc := 11) (l := [some (.ref 60), some (.int x)]) (st := [.int 0]) (h := hS X M) ?_
    exact Sp.iret rfl rfl rfl rfl (fun _ _ h => h)
def b4_M_follow (x : Int32) (x43 : (Int32 × Int32 × MS)) : Option ((Int32 × Int32 × MS) ⊕ (Int32 × Int32 × MS)) := (if ixo x 24 then (if x43.2.2.1 70 x.toNatClampNeg ≤ x43.2.1 then some (.inr (x43.1, x43.2.1, x43.2.2)) else (if ixo ((60 * x) + x43.2.1) 1440 then (if ¬ x43.2.2.1 71 ((60 * x) + x43.2.1).toNatClampNeg = 38 then (if ¬ x43.2.2.1 71 ((60 * x) + x43.2.1).toNatClampNeg = 39 then (if ¬ x43.2.2.1 71 ((60 * x) + x43.2.1).toNatClampNeg = 48 then (if ¬ x43.2.2.1 71 ((60 * x) + x43.2.1).toNatClampNeg = 26 then some (.inl (x43.1, x43.2.1 + 1, x43.2.2)) else (if f_M_isClass (x43.2.2.1 72 ((60 * x) + x43.2.1).toNatClampNeg) x43.2.2 = true then (if ixo (x43.2.2.1 72 ((60 * x) + x43.2.1).toNatClampNeg) 10 then (if ¬ x43.2.2.1 76 (x43.2.2.1 72 ((60 * x) + x43.2.1).toNatClampNeg).toNatClampNeg = 0 then some (.inl (x43.1, x43.2.1 + 1, x43.2.2)) else (lt (mw x43.2.2 76 (x43.2.2.1 72 ((60 * x) + x43.2.1).toNatClampNeg).toNatClampNeg 1) fun M55 => some (.inl (1, x43.2.1 + 1, M55)))) else none) else some (.inl (x43.1, x43.2.1 + 1, x43.2.2)))) else (if ¬ x43.2.2.1 78 0 = 0 then some (.inl (x43.1, x43.2.1 + 1, x43.2.2)) else (lt (mw x43.2.2 78 0 1) fun M61 => some (.inl (1, x43.2.1 + 1, M61))))) else (if 0 ≤ x43.2.2.1 72 ((60 * x) + x43.2.1).toNatClampNeg ∧ x43.2.2.1 72 ((60 * x) + x43.2.1).toNatClampNeg ≤ 7 then (if ¬ x43.2.2.1 78 (x43.2.2.1 72 ((60 * x) + x43.2.1).toNatClampNeg).toNatClampNeg = 0 then some (.inl (x43.1, x43.2.1 + 1, x43.2.2)) else (lt (mw x43.2.2 78 (x43.2.2.1 72 ((60 * x) + x43.2.1).toNatClampNeg).toNatClampNeg 1) fun M68 => some (.inl (1, x43.2.1 + 1, M68)))) else some (.inl (x43.1, x43.2.1 + 1, x43.2.2)))) else ((f_M_isStatic (x43.2.2.1 72 ((60 * x) + x43.2.1).toNatClampNeg) x43.2.2).bind fun x72 => (if x72 = true then (if ixo (x43.2.2.1 72 ((60 * x) + x43.2.1).toNatClampNeg) 24 then (if ¬ x43.2.2.1 75 (x43.2.2.1 72 ((60 * x) + x43.2.1).toNatClampNeg).toNatClampNeg = 0 then some (.inl (x43.1, x43.2.1 + 1, x43.2.2)) else (lt (mw x43.2.2 75 (x43.2.2.1 72 ((60 * x) + x43.2.1).toNatClampNeg).toNatClampNeg 1) fun M80 => some (.inl (1, x43.2.1 + 1, M80)))) else none) else some (.inl (x43.1, x43.2.1 + 1, x43.2.2))))) else none)) else none)
def f_M_follow (x : Int32) (M : MS) : Option (Bool × MS) := ((lp (b4_M_follow x) 10000 ((0 : Int32), (0 : Int32), M)).bind fun x85 => (if x85.1 = 1 then some (true, x85.2.2) else (if x85.1 = 0 then some (false, x85.2.2) else none)))
set_option maxRecDepth 100000 in
set_option maxHeartbeats 4000000 in
theorem s_M_follow {L : Nat} {xs : Nat → Int32} {X : XS} {M : MS} {x : Int32} : Sp (mjOO L xs) 30 0 [some (.ref 60), some (.int x), none, none, none, none] [] (hS X M) (f_M_follow x M) (KBM X) := by
  unfold f_M_follow
  refine Sp.step rfl rfl rfl rfl ?_
  refine Sp.step rfl rfl rfl rfl ?_
  refine Sp.step rfl rfl rfl rfl ?_
  refine Sp.step rfl rfl rfl rfl ?_
  refine Sp.weak (l0 := [some (.ref 60), some (.int x), some (.int 0), some (.int 0), none, none]) ⟨rfl, rfl, rfl, rfl, trivial⟩ ?_
  refine Sp.loopX (pe := 191) (mf := (fun (x43 : (Int32 × Int32 × MS)) => [some (.ref 60), some (.int x), some (.int x43.1), some (.int x43.2.1), none, none])) (hf := (fun (x43 : (Int32 × Int32 × MS)) => hS X x43.2.2)) (fun x43 => ?_) (fun x85 => ?_) _ _
  · unfold b4_M_follow
    refine Sp.step rfl rfl rfl rfl ?_
    refine Sp.step rfl rfl rfl rfl ?_
    refine Sp.step rfl rfl rfl (mg_F (f := 10) rfl rfl rfl rfl) ?_
    refine Sp.step rfl rfl rfl rfl ?_
    refine Sp.guard (fun e44 => ?_)
    refine Sp.step rfl rfl rfl (mld rfl rfl (by decide) e44) ?_
    refine Sp.if2 rfl rfl rfl rfl (fun e45 => ?_) (fun e45 => ?_)
    · exact Sp.jmp (l0 := [some (.ref 60), some (.int x), some (.int x43.1), some (.int x43.2.1), none, none]) ⟨rfl, rfl, rfl, rfl, trivial⟩ (fun _ _ h => h)
    · refine Sp.step rfl rfl rfl rfl ?_
      refine Sp.step rfl rfl rfl (mg_F (f := 11) rfl rfl rfl rfl) ?_
      refine Sp.step rfl rfl rfl rfl ?_
      refine Sp.step rfl rfl rfl rfl ?_
      refine Sp.step rfl rfl rfl rfl ?_
      refine Sp.step rfl rfl rfl rfl ?_
      refine Sp.step rfl rfl rfl rfl ?_
      refine Sp.guard (fun e46 => ?_)
      refine Sp.step rfl rfl rfl (mld rfl rfl (by decide) e46) ?_
      refine Sp.step rfl rfl rfl rfl ?_
      refine Sp.step rfl rfl rfl rfl ?_
      refine Sp.step rfl rfl rfl (mg_F (f := 12) rfl rfl rfl rfl) ?_
      refine Sp.step rfl rfl rfl rfl ?_
      refine Sp.step rfl rfl rfl rfl ?_
      refine Sp.step rfl rfl rfl rfl ?_
      refine Sp.step rfl rfl rfl rfl ?_
      refine Sp.step rfl rfl rfl rfl ?_
      refine Sp.step rfl rfl rfl (mld rfl rfl (by decide) e46) ?_
      refine Sp.step rfl rfl rfl rfl ?_
      refine Sp.step rfl rfl rfl rfl ?_
      refine Sp.step rfl rfl rfl rfl ?_
      refine Sp.if2 rfl rfl rfl rfl (fun e47 => ?_) (fun e47 => ?_)
      · refine Sp.step rfl rfl rfl rfl ?_
        refine Sp.step rfl rfl rfl rfl ?_
        refine Sp.if2 rfl rfl rfl rfl (fun e48 => ?_) (fun e48 => ?_)
        · refine Sp.step rfl rfl rfl rfl ?_
          refine Sp.step rfl rfl rfl rfl ?_
          refine Sp.if2 rfl rfl rfl rfl (fun e49 => ?_) (fun e49 => ?_)
          · refine Sp.step rfl rfl rfl rfl ?_
            refine Sp.step rfl rfl rfl rfl ?_
            refine Sp.if2 rfl rfl rfl rfl (fun e50 => ?_) (fun e50 => ?_)
            · refine Sp.step rfl rfl rfl rfl ?_
              refine Sp.step rfl rfl rfl rfl ?_
              exact Sp.jmp (l0 := [some (.ref 60), some (.int x), some (.int x43.1), some (.int (x43.2.1 + 1)), none, none]) ⟨rfl, rfl, rfl, rfl, trivial⟩ (fun _ _ h => h)
            · refine Sp.step rfl rfl rfl rfl ?_
              refine Sp.step rfl rfl rfl rfl ?_
              refine Sp.callS rfl rfl rfl (mrecv (by decide) (by decide +kernel)) s_M_isClass ⟨rfl, rfl⟩ ?_
              refine Sp.bool (fun e51 => ?_) (fun e51 => ?_)
              · refine Sp.id (pc := 162) (l := [some (.ref 60), some (.int x), some (.int x43.1), some (.int x43.2.1), some (.int (x43.2.2.1 71 ((60 * x) + x43.2.1).toNatClampNeg)), some (.int (x43.2.2.1 72 ((60 * x) + x43.2.1).toNatClampNeg))]) (st := [.int 1]) (h := hS X x43.2.2) ?_
                refine Sp.step rfl rfl rfl rfl ?_
                refine Sp.step rfl rfl rfl rfl ?_
                refine Sp.step rfl rfl rfl (mg_F (f := 17) rfl rfl rfl rfl) ?_
                refine Sp.step rfl rfl rfl rfl ?_
                refine Sp.guard (fun e53 => ?_)
                refine Sp.step rfl rfl rfl (mld rfl rfl (by decide) e53) ?_
                refine Sp.if1 rfl rfl rfl rfl (fun e54 => ?_) (fun e54 => ?_)
                · refine Sp.step rfl rfl rfl rfl ?_
                  refine Sp.step rfl rfl rfl rfl ?_
                  exact Sp.jmp (l0 := [some (.ref 60), some (.int x), some (.int x43.1), some (.int (x43.2.1 + 1)), none, none]) ⟨rfl, rfl, rfl, rfl, trivial⟩ (fun _ _ h => h)
                · refine Sp.step rfl rfl rfl rfl ?_
                  refine Sp.step rfl rfl rfl (mg_F (f := 17) rfl rfl rfl rfl) ?_
                  refine Sp.step rfl rfl rfl rfl ?_
                  refine Sp.step rfl rfl rfl rfl ?_
                  refine Sp.step rfl rfl rfl (mst1 rfl rfl e53) ?_
                  refine Sp.step rfl rfl rfl rfl ?_
                  refine Sp.step rfl rfl rfl rfl ?_
                  refine Sp.step rfl rfl rfl rfl ?_
                  refine Sp.step rfl rfl rfl rfl ?_
                  exact Sp.jmp (l0 := [some (.ref 60), some (.int x), some (.int 1), some (.int (x43.2.1 + 1)), none, none]) ⟨rfl, rfl, rfl, rfl, trivial⟩ (fun _ _ h => h)
              · refine Sp.id (pc := 162) (l := [some (.ref 60), some (.int x), some (.int x43.1), some (.int x43.2.1), some (.int (x43.2.2.1 71 ((60 * x) + x43.2.1).toNatClampNeg)), some (.int (x43.2.2.1 72 ((60 * x) + x43.2.1).toNatClampNeg))]) (st := [.int 0]) (h := hS X x43.2.2) ?_
                refine Sp.step rfl rfl rfl rfl ?_
                refine Sp.step rfl rfl rfl rfl ?_
                refine Sp.step rfl rfl rfl rfl ?_
                exact Sp.jmp (l0 := [some (.ref 60), some (.int x), some (.int x43.1), some (.int (x43.2.1 + 1)), none, none]) ⟨rfl, rfl, rfl, rfl, trivial⟩ (fun _ _ h => h)
          · refine Sp.step rfl rfl rfl rfl ?_
            refine Sp.step rfl rfl rfl (mg_F (f := 19) rfl rfl rfl rfl) ?_
            refine Sp.step rfl rfl rfl rfl ?_
            refine Sp.step rfl rfl rfl rfl ?_
            refine Sp.prune (c := ¬ x43.2.2.1 71 ((60 * x) + x43.2.1).toNatClampNeg = 48) ?_
            refine Sp.if2 rfl rfl rfl rfl (fun e57 => absurd e57 e49) (fun e57 => ?_)
            refine Sp.step rfl rfl rfl rfl ?_
            refine Sp.step rfl rfl rfl rfl ?_
            refine Sp.step rfl rfl rfl (mld rfl rfl (by decide) (by decide)) ?_
            refine Sp.if1 rfl rfl rfl rfl (fun e58 => ?_) (fun e58 => ?_)
            · refine Sp.step rfl rfl rfl rfl ?_
              refine Sp.step rfl rfl rfl rfl ?_
              refine Sp.prune (c := ¬ x43.2.2.1 71 ((60 * x) + x43.2.1).toNatClampNeg = 26) ?_
              refine Sp.if2 rfl rfl rfl rfl (fun e59 => ?_) (fun e59 => absurd (fun h => absurd (((Classical.not_not.mp e49)).symm.trans h) (by decide)) e59)
              refine Sp.step rfl rfl rfl rfl ?_
              refine Sp.step rfl rfl rfl rfl ?_
              exact Sp.jmp (l0 := [some (.ref 60), some (.int x), some (.int x43.1), some (.int (x43.2.1 + 1)), none, none]) ⟨rfl, rfl, rfl, rfl, trivial⟩ (fun _ _ h => h)
            · refine Sp.step rfl rfl rfl rfl ?_
              refine Sp.step rfl rfl rfl (mg_F (f := 19) rfl rfl rfl rfl) ?_
              refine Sp.step rfl rfl rfl rfl ?_
              refine Sp.step rfl rfl rfl rfl ?_
              refine Sp.prune (c := ¬ x43.2.2.1 71 ((60 * x) + x43.2.1).toNatClampNeg = 48) ?_
              refine Sp.if2 rfl rfl rfl rfl (fun e60 => absurd e60 e49) (fun e60 => ?_)
              refine Sp.step rfl rfl rfl rfl ?_
              refine Sp.step rfl rfl rfl rfl ?_
              refine Sp.step rfl rfl rfl rfl ?_
              refine Sp.step rfl rfl rfl (mst1 rfl rfl (by decide)) ?_
              refine Sp.step rfl rfl rfl rfl ?_
              refine Sp.step rfl rfl rfl rfl ?_
              refine Sp.step rfl rfl rfl rfl ?_
              refine Sp.step rfl rfl rfl rfl ?_
              refine Sp.step rfl rfl rfl rfl ?_
              exact Sp.jmp (l0 := [some (.ref 60), some (.int x), some (.int 1), some (.int (x43.2.1 + 1)), none, none]) ⟨rfl, rfl, rfl, rfl, trivial⟩ (fun _ _ h => h)
        · refine Sp.step rfl rfl rfl rfl ?_
          refine Sp.step rfl rfl rfl rfl ?_
          refine Sp.step rfl rfl rfl rfl ?_
          refine Sp.callP rfl rfl rfl rfl s_isIn (fun e62 => ?_) (fun e62 => ?_)
          · refine Sp.id (pc := 94) (l := [some (.ref 60), some (.int x), some (.int x43.1), some (.int x43.2.1), some (.int (x43.2.2.1 71 ((60 * x) + x43.2.1).toNatClampNeg)), some (.int (x43.2.2.1 72 ((60 * x) + x43.2.1).toNatClampNeg))]) (st := [.int 1]) (h := hS X x43.2.2) ?_
            refine Sp.step rfl rfl rfl rfl ?_
            refine Sp.step rfl rfl rfl rfl ?_
            refine Sp.step rfl rfl rfl (mg_F (f := 19) rfl rfl rfl rfl) ?_
            refine Sp.step rfl rfl rfl rfl ?_
            refine Sp.step rfl rfl rfl rfl ?_
            refine Sp.prune (c := ¬ x43.2.2.1 71 ((60 * x) + x43.2.1).toNatClampNeg = 48) ?_
            refine Sp.if2 rfl rfl rfl rfl (fun e64 => ?_) (fun e64 => absurd (fun h => absurd (((Classical.not_not.mp e48)).symm.trans h) (by decide)) e64)
            refine Sp.step rfl rfl rfl rfl ?_
            refine Sp.step rfl rfl rfl (mld rfl rfl (by decide) (ix_le (N := 7) rfl e62.1 e62.2)) ?_
            refine Sp.if1 rfl rfl rfl rfl (fun e65 => ?_) (fun e65 => ?_)
            · refine Sp.step rfl rfl rfl rfl ?_
              refine Sp.step rfl rfl rfl rfl ?_
              refine Sp.prune (c := ¬ x43.2.2.1 71 ((60 * x) + x43.2.1).toNatClampNeg = 26) ?_
              refine Sp.if2 rfl rfl rfl rfl (fun e66 => ?_) (fun e66 => absurd (fun h => absurd (((Classical.not_not.mp e48)).symm.trans h) (by decide)) e66)
              refine Sp.step rfl rfl rfl rfl ?_
              refine Sp.step rfl rfl rfl rfl ?_
              exact Sp.jmp (l0 := [some (.ref 60), some (.int x), some (.int x43.1), some (.int (x43.2.1 + 1)), none, none]) ⟨rfl, rfl, rfl, rfl, trivial⟩ (fun _ _ h => h)
            · refine Sp.step rfl rfl rfl rfl ?_
              refine Sp.step rfl rfl rfl (mg_F (f := 19) rfl rfl rfl rfl) ?_
              refine Sp.step rfl rfl rfl rfl ?_
              refine Sp.step rfl rfl rfl rfl ?_
              refine Sp.prune (c := ¬ x43.2.2.1 71 ((60 * x) + x43.2.1).toNatClampNeg = 48) ?_
              refine Sp.if2 rfl rfl rfl rfl (fun e67 => ?_) (fun e67 => absurd (fun h => absurd (((Classical.not_not.mp e48)).symm.trans h) (by decide)) e67)
              refine Sp.step rfl rfl rfl rfl ?_
              refine Sp.step rfl rfl rfl rfl ?_
              refine Sp.step rfl rfl rfl (mst1 rfl rfl (ix_le (N := 7) rfl e62.1 e62.2)) ?_
              refine Sp.step rfl rfl rfl rfl ?_
              refine Sp.step rfl rfl rfl rfl ?_
              refine Sp.step rfl rfl rfl rfl ?_
              refine Sp.step rfl rfl rfl rfl ?_
              refine Sp.step rfl rfl rfl rfl ?_
              exact Sp.jmp (l0 := [some (.ref 60), some (.int x), some (.int 1), some (.int (x43.2.1 + 1)), none, none]) ⟨rfl, rfl, rfl, rfl, trivial⟩ (fun _ _ h => h)
          · refine Sp.id (pc := 94) (l := [some (.ref 60), some (.int x), some (.int x43.1), some (.int x43.2.1), some (.int (x43.2.2.1 71 ((60 * x) + x43.2.1).toNatClampNeg)), some (.int (x43.2.2.1 72 ((60 * x) + x43.2.1).toNatClampNeg))]) (st := [.int 0]) (h := hS X x43.2.2) ?_
            refine Sp.step rfl rfl rfl rfl ?_
            refine Sp.step rfl rfl rfl rfl ?_
            refine Sp.step rfl rfl rfl rfl ?_
            refine Sp.prune (c := ¬ x43.2.2.1 71 ((60 * x) + x43.2.1).toNatClampNeg = 48) ?_
            refine Sp.if2 rfl rfl rfl rfl (fun e70 => ?_) (fun e70 => absurd (fun h => absurd (((Classical.not_not.mp e48)).symm.trans h) (by decide)) e70)
            refine Sp.step rfl rfl rfl rfl ?_
            refine Sp.step rfl rfl rfl rfl ?_
            refine Sp.prune (c := ¬ x43.2.2.1 71 ((60 * x) + x43.2.1).toNatClampNeg = 26) ?_
            refine Sp.if2 rfl rfl rfl rfl (fun e71 => ?_) (fun e71 => absurd (fun h => absurd (((Classical.not_not.mp e48)).symm.trans h) (by decide)) e71)
            refine Sp.step rfl rfl rfl rfl ?_
            refine Sp.step rfl rfl rfl rfl ?_
            exact Sp.jmp (l0 := [some (.ref 60), some (.int x), some (.int x43.1), some (.int (x43.2.1 + 1)), none, none]) ⟨rfl, rfl, rfl, rfl, trivial⟩ (fun _ _ h => h)
      · refine Sp.step rfl rfl rfl rfl ?_
        refine Sp.step rfl rfl rfl rfl ?_
        refine Sp.call rfl rfl rfl (mrecv (by decide) (by decide +kernel)) s_M_isStatic (fun x72 => ⟨_, _, ⟨rfl, rfl⟩, ?_⟩)
        refine Sp.bool (fun e73 => ?_) (fun e73 => ?_)
        · refine Sp.id (pc := 53) (l := [some (.ref 60), some (.int x), some (.int x43.1), some (.int x43.2.1), some (.int (x43.2.2.1 71 ((60 * x) + x43.2.1).toNatClampNeg)), some (.int (x43.2.2.1 72 ((60 * x) + x43.2.1).toNatClampNeg))]) (st := [.int 1]) (h := hS X x43.2.2) ?_
          refine Sp.step rfl rfl rfl rfl ?_
          refine Sp.step rfl rfl rfl rfl ?_
          refine Sp.step rfl rfl rfl (mg_F (f := 16) rfl rfl rfl rfl) ?_
          refine Sp.step rfl rfl rfl rfl ?_
          refine Sp.guard (fun e75 => ?_)
          refine Sp.step rfl rfl rfl (mld rfl rfl (by decide) e75) ?_
          refine Sp.if1 rfl rfl rfl rfl (fun e76 => ?_) (fun e76 => ?_)
          · refine Sp.step rfl rfl rfl rfl ?_
            refine Sp.step rfl rfl rfl rfl ?_
            refine Sp.prune (c := ¬ x43.2.2.1 71 ((60 * x) + x43.2.1).toNatClampNeg = 39) ?_
            refine Sp.if2 rfl rfl rfl rfl (fun e77 => ?_) (fun e77 => absurd (fun h => absurd (((Classical.not_not.mp e47)).symm.trans h) (by decide)) e77)
            refine Sp.step rfl rfl rfl rfl ?_
            refine Sp.step rfl rfl rfl rfl ?_
            refine Sp.prune (c := ¬ x43.2.2.1 71 ((60 * x) + x43.2.1).toNatClampNeg = 48) ?_
            refine Sp.if2 rfl rfl rfl rfl (fun e78 => ?_) (fun e78 => absurd (fun h => absurd (((Classical.not_not.mp e47)).symm.trans h) (by decide)) e78)
            refine Sp.step rfl rfl rfl rfl ?_
            refine Sp.step rfl rfl rfl rfl ?_
            refine Sp.prune (c := ¬ x43.2.2.1 71 ((60 * x) + x43.2.1).toNatClampNeg = 26) ?_
            refine Sp.if2 rfl rfl rfl rfl (fun e79 => ?_) (fun e79 => absurd (fun h => absurd (((Classical.not_not.mp e47)).symm.trans h) (by decide)) e79)
            refine Sp.step rfl rfl rfl rfl ?_
            refine Sp.step rfl rfl rfl rfl ?_
            exact Sp.jmp (l0 := [some (.ref 60), some (.int x), some (.int x43.1), some (.int (x43.2.1 + 1)), none, none]) ⟨rfl, rfl, rfl, rfl, trivial⟩ (fun _ _ h => h)
          · refine Sp.step rfl rfl rfl rfl ?_
            refine Sp.step rfl rfl rfl (mg_F (f := 16) rfl rfl rfl rfl) ?_
            refine Sp.step rfl rfl rfl rfl ?_
            refine Sp.step rfl rfl rfl rfl ?_
            refine Sp.step rfl rfl rfl (mst1 rfl rfl e75) ?_
            refine Sp.step rfl rfl rfl rfl ?_
            refine Sp.step rfl rfl rfl rfl ?_
            refine Sp.step rfl rfl rfl rfl ?_
            refine Sp.step rfl rfl rfl rfl ?_
            refine Sp.step rfl rfl rfl rfl ?_
            exact Sp.jmp (l0 := [some (.ref 60), some (.int x), some (.int 1), some (.int (x43.2.1 + 1)), none, none]) ⟨rfl, rfl, rfl, rfl, trivial⟩ (fun _ _ h => h)
        · refine Sp.id (pc := 53) (l := [some (.ref 60), some (.int x), some (.int x43.1), some (.int x43.2.1), some (.int (x43.2.2.1 71 ((60 * x) + x43.2.1).toNatClampNeg)), some (.int (x43.2.2.1 72 ((60 * x) + x43.2.1).toNatClampNeg))]) (st := [.int 0]) (h := hS X x43.2.2) ?_
          refine Sp.step rfl rfl rfl rfl ?_
          refine Sp.step rfl rfl rfl rfl ?_
          refine Sp.step rfl rfl rfl rfl ?_
          refine Sp.prune (c := ¬ x43.2.2.1 71 ((60 * x) + x43.2.1).toNatClampNeg = 39) ?_
          refine Sp.if2 rfl rfl rfl rfl (fun e82 => ?_) (fun e82 => absurd (fun h => absurd (((Classical.not_not.mp e47)).symm.trans h) (by decide)) e82)
          refine Sp.step rfl rfl rfl rfl ?_
          refine Sp.step rfl rfl rfl rfl ?_
          refine Sp.prune (c := ¬ x43.2.2.1 71 ((60 * x) + x43.2.1).toNatClampNeg = 48) ?_
          refine Sp.if2 rfl rfl rfl rfl (fun e83 => ?_) (fun e83 => absurd (fun h => absurd (((Classical.not_not.mp e47)).symm.trans h) (by decide)) e83)
          refine Sp.step rfl rfl rfl rfl ?_
          refine Sp.step rfl rfl rfl rfl ?_
          refine Sp.prune (c := ¬ x43.2.2.1 71 ((60 * x) + x43.2.1).toNatClampNeg = 26) ?_
          refine Sp.if2 rfl rfl rfl rfl (fun e84 => ?_) (fun e84 => absurd (fun h => absurd (((Classical.not_not.mp e47)).symm.trans h) (by decide)) e84)
          refine Sp.step rfl rfl rfl rfl ?_
          refine Sp.step rfl rfl rfl rfl ?_
          exact Sp.jmp (l0 := [some (.ref 60), some (.int x), some (.int x43.1), some (.int (x43.2.1 + 1)), none, none]) ⟨rfl, rfl, rfl, rfl, trivial⟩ (fun _ _ h => h)
  · refine Sp.step rfl rfl rfl rfl ?_
    refine Sp.ite (fun e86 => ?_) (fun _ => Sp.guard (fun e86 => ?_))
    · exact Sp.iret rfl rfl rfl (by rw [e86]; rfl) (fun _ _ h => by rw [e86]; exact h)
    · exact Sp.iret rfl rfl rfl (by rw [e86]; rfl) (fun _ _ h => by rw [e86]; exact h)
def b9_M_find (y : Int32) (M : MS) (x1 : Int32) (x3 : Int32) : Option (Int32 ⊕ (Int32 ⊕ Int32)) := (if M.1 60 15 ≤ x3 then (if ixo x1 10 then some (.inr (.inl (M.1 61 x1.toNatClampNeg))) else none) else (if ixo x3 24 then (if ¬ M.1 64 x3.toNatClampNeg = x1 then some (.inl (x3 + 1)) else (if ¬ M.1 65 x3.toNatClampNeg = y then some (.inl (x3 + 1)) else some (.inr (.inr x3)))) else none))
def b2_M_find (y : Int32) (M : MS) (x1 : Int32) : Option (Int32 ⊕ Int32) := (if x1 < 0 then some (.inr (-2)) else (lp (b9_M_find y M x1) 10000 (0 : Int32)))
def f_M_find (x : Int32) (y : Int32) (M : MS) : Option Int32 := (lp (b2_M_find y M) 10000 x)
set_option maxRecDepth 100000 in
set_option maxHeartbeats 4000000 in
theorem s_M_find {L : Nat} {xs : Nat → Int32} {X : XS} {M : MS} {x : Int32} {y : Int32} : Sp (mjOO L xs) 26 0 [some (.ref 60), some (.int x), some (.int y), none, none] [] (hS X M) (f_M_find x y M) (KQ (hS X M)) := by
  unfold f_M_find
  refine Sp.step rfl rfl rfl rfl ?_
  refine Sp.step rfl rfl rfl rfl ?_
  refine Sp.weak (l0 := [some (.ref 60), none, some (.int y), some (.int x), none]) ⟨rfl, rfl, rfl, trivial⟩ ?_
  refine Sp.loopL (mf := (fun (x1 : Int32) => [some (.ref 60), none, some (.int y), some (.int x1), none])) (hf := (fun (x1 : Int32) => hS X M)) (fun x1 => ?_) _ _
  unfold b2_M_find
  refine Sp.step rfl rfl rfl rfl ?_
  refine Sp.if1 rfl rfl rfl rfl (fun e2 => ?_) (fun e2 => ?_)
  · refine Sp.step rfl rfl rfl rfl ?_
    exact Sp.iret rfl rfl rfl rfl (fun _ _ h => h)
  · refine Sp.step rfl rfl rfl rfl ?_
    refine Sp.step rfl rfl rfl rfl ?_
    refine Sp.weak (l0 := [some (.ref 60), none, some (.int y), some (.int x1), some (.int 0)]) ⟨rfl, rfl, rfl, rfl, trivial⟩ ?_
    refine Sp.loopL (mf := (fun (x3 : Int32) => [some (.ref 60), none, some (.int y), some (.int x1), some (.int x3)])) (hf := (fun (x3 : Int32) => hS X M)) (fun x3 => ?_) _ _
    unfold b9_M_find
    refine Sp.step rfl rfl rfl rfl ?_
    refine Sp.step rfl rfl rfl rfl ?_
    refine Sp.step rfl rfl rfl (mg_I (f := 15) rfl rfl rfl) ?_
    refine Sp.if2 rfl rfl rfl rfl (fun e4 => ?_) (fun e4 => ?_)
    · refine Sp.step rfl rfl rfl rfl ?_
      refine Sp.step rfl rfl rfl (mg_F (f := 0) rfl rfl rfl rfl) ?_
      refine Sp.step rfl rfl rfl rfl ?_
      refine Sp.guard (fun e5 => ?_)
      refine Sp.step rfl rfl rfl (mld rfl rfl (by decide) e5) ?_
      refine Sp.step rfl rfl rfl rfl ?_
      refine Sp.step rfl rfl rfl rfl ?_
      exact Sp.jmp (l0 := [some (.ref 60), none, some (.int y), some (.int (M.1 61 x1.toNatClampNeg)), none]) ⟨rfl, rfl, rfl, trivial⟩ (fun _ _ h => h)
    · refine Sp.step rfl rfl rfl rfl ?_
      refine Sp.step rfl rfl rfl (mg_F (f := 4) rfl rfl rfl rfl) ?_
      refine Sp.step rfl rfl rfl rfl ?_
      refine Sp.guard (fun e6 => ?_)
      refine Sp.step rfl rfl rfl (mld rfl rfl (by decide) e6) ?_
      refine Sp.step rfl rfl rfl rfl ?_
      refine Sp.if2 rfl rfl rfl rfl (fun e7 => ?_) (fun e7 => ?_)
      · refine Sp.step rfl rfl rfl rfl ?_
        refine Sp.step rfl rfl rfl rfl ?_
        exact Sp.jmp (l0 := [some (.ref 60), none, some (.int y), some (.int x1), some (.int (x3 + 1))]) ⟨rfl, rfl, rfl, rfl, trivial⟩ (fun _ _ h => h)
      · refine Sp.step rfl rfl rfl rfl ?_
        refine Sp.step rfl rfl rfl (mg_F (f := 5) rfl rfl rfl rfl) ?_
        refine Sp.step rfl rfl rfl rfl ?_
        refine Sp.step rfl rfl rfl (mld rfl rfl (by decide) e6) ?_
        refine Sp.step rfl rfl rfl rfl ?_
        refine Sp.if2 rfl rfl rfl rfl (fun e8 => ?_) (fun e8 => ?_)
        · refine Sp.step rfl rfl rfl rfl ?_
          refine Sp.step rfl rfl rfl rfl ?_
          exact Sp.jmp (l0 := [some (.ref 60), none, some (.int y), some (.int x1), some (.int (x3 + 1))]) ⟨rfl, rfl, rfl, rfl, trivial⟩ (fun _ _ h => h)
        · refine Sp.step rfl rfl rfl rfl ?_
          exact Sp.iret rfl rfl rfl rfl (fun _ _ h => h)
def b2_M_wantClass (x8 : (Int32 × MS)) : Option ((Int32 × MS) ⊕ (Int32 × MS)) := (if x8.1 < 0 then some (.inr (x8.1, x8.2)) else (if f_M_isClass x8.1 x8.2 = true then (if ixo x8.1 10 then (lt (mw x8.2 77 x8.1.toNatClampNeg 1) fun M13 => some (.inl (M13.1 61 x8.1.toNatClampNeg, M13))) else none) else some (.inr (x8.1, x8.2))))
def f_M_wantClass (x : Int32) (M : MS) : Option MS := ((lp (b2_M_wantClass) 10000 (x, M)).bind fun x15 => some x15.2)
set_option maxRecDepth 100000 in
set_option maxHeartbeats 4000000 in
theorem s_M_wantClass {L : Nat} {xs : Nat → Int32} {X : XS} {M : MS} {x : Int32} : Sp (mjOO L xs) 29 0 [some (.ref 60), some (.int x), none] [] (hS X M) (f_M_wantClass x M) (KVM X) := by
  unfold f_M_wantClass
  refine Sp.step rfl rfl rfl rfl ?_
  refine Sp.step rfl rfl rfl rfl ?_
  refine Sp.weak (l0 := [some (.ref 60), none, some (.int x)]) ⟨rfl, rfl, trivial⟩ ?_
  refine Sp.loopX (pe := 31) (mf := (fun (x8 : (Int32 × MS)) => [some (.ref 60), none, some (.int x8.1)])) (hf := (fun (x8 : (Int32 × MS)) => hS X x8.2)) (fun x8 => ?_) (fun x15 => ?_) _ _
  · unfold b2_M_wantClass
    refine Sp.step rfl rfl rfl rfl ?_
    refine Sp.if1 rfl rfl rfl rfl (fun e9 => ?_) (fun e9 => ?_)
    · exact Sp.jmp (l0 := [some (.ref 60), none, some (.int x8.1)]) ⟨rfl, rfl, trivial⟩ (fun _ _ h => h)
    · refine Sp.step rfl rfl rfl rfl ?_
      refine Sp.step rfl rfl rfl rfl ?_
      refine Sp.callS rfl rfl rfl (mrecv (by decide) (by decide +kernel)) s_M_isClass ⟨rfl, rfl⟩ ?_
      refine Sp.bool (fun e10 => ?_) (fun e10 => ?_)
      · refine Sp.id (pc := 11) (l := [some (.ref 60), none, some (.int x8.1)]) (st := [.int 1]) (h := hS X x8.2) ?_
        refine Sp.step rfl rfl rfl rfl ?_
        refine Sp.step rfl rfl rfl rfl ?_
        refine Sp.step rfl rfl rfl (mg_F (f := 18) rfl rfl rfl rfl) ?_
        refine Sp.step rfl rfl rfl rfl ?_
        refine Sp.step rfl rfl rfl rfl ?_
        refine Sp.guard (fun e12 => ?_)
        refine Sp.step rfl rfl rfl (mst1 rfl rfl e12) ?_
        refine Sp.step rfl rfl rfl rfl ?_
        refine Sp.step rfl rfl rfl (mg_F (f := 0) rfl rfl rfl rfl) ?_
        refine Sp.step rfl rfl rfl rfl ?_
        refine Sp.step rfl rfl rfl (mld rfl rfl (by decide) e12) ?_
        refine Sp.step rfl rfl rfl rfl ?_
        refine Sp.step rfl rfl rfl rfl ?_
        exact Sp.jmp (l0 := [some (.ref 60), none, some (.int ((mw x8.2 77 x8.1.toNatClampNeg 1).1 61 x8.1.toNatClampNeg))]) ⟨rfl, rfl, trivial⟩ (fun _ _ h => h)
      · refine Sp.id (pc := 11) (l := [some (.ref 60), none, some (.int x8.1)]) (st := [.int 0]) (h := hS X x8.2) ?_
        refine Sp.step rfl rfl rfl rfl ?_
        exact Sp.jmp (l0 := [some (.ref 60), none, some (.int x8.1)]) ⟨rfl, rfl, trivial⟩ (fun _ _ h => h)
  · exact Sp.vret rfl rfl rfl (fun _ _ h => h)
def b2_M_wantAll (x : Int32) (x14 : (Int32 × MS)) : Option ((Int32 × MS) ⊕ (Int32 × MS)) := (if ixo x 24 then (if x14.2.1 70 x.toNatClampNeg ≤ x14.1 then some (.inr (x14.1, x14.2)) else (if ixo ((60 * x) + x14.1) 1440 then (if x14.2.1 71 ((60 * x) + x14.1).toNatClampNeg = 26 then ((f_M_wantClass (x14.2.1 72 ((60 * x) + x14.1).toNatClampNeg) x14.2).bind fun x19 => some (.inl (x14.1 + 1, x19))) else (if ¬ x14.2.1 71 ((60 * x) + x14.1).toNatClampNeg = 44 then (if 27 ≤ x14.2.1 71 ((60 * x) + x14.1).toNatClampNeg ∧ x14.2.1 71 ((60 * x) + x14.1).toNatClampNeg ≤ 30 then (if x14.2.1 72 ((60 * x) + x14.1).toNatClampNeg < 0 then some (.inl (x14.1 + 1, x14.2)) else ((f_M_wantClass ((x14.2.1 72 ((60 * x) + x14.1).toNatClampNeg) / 8) x14.2).bind fun x24 => some (.inl (x14.1 + 1, x24)))) else some (.inl (x14.1 + 1, x14.2))) else ((f_M_wantClass (x14.2.1 72 ((60 * x) + x14.1).toNatClampNeg) x14.2).bind fun x26 => some (.inl (x14.1 + 1, x26))))) else none)) else none)
def b91_M_wantAll (x : Int32) (x33 : (Int32 × MS)) : Option ((Int32 × MS) ⊕ (Int32 × MS)) := (if ixo x 24 then (if x33.2.1 73 x.toNatClampNeg ≤ x33.1 then some (.inr (x33.1, x33.2)) else (if ixo (((24 * x) + (4 * x33.1)) + 3) 576 then ((f_M_wantClass (x33.2.1 74 (((24 * x) + (4 * x33.1)) + 3).toNatClampNeg) x33.2).bind fun x37 => some (.inl (x33.1 + 1, x37))) else none)) else none)
def f_M_wantAll (x : Int32) (M : MS) : Option MS := ((lp (b2_M_wantAll x) 10000 ((0 : Int32), M)).bind fun x27 => ((lp (b91_M_wantAll x) 10000 ((0 : Int32), x27.2)).bind fun x38 => (if ixo x 24 then (if x38.2.1 65 x.toNatClampNeg = (-2) then some x38.2 else ((f_M_wantClass (x38.2.1 64 x.toNatClampNeg) x38.2).bind fun x41 => some x41)) else none)))
set_option maxRecDepth 100000 in
set_option maxHeartbeats 4000000 in
theorem s_M_wantAll {L : Nat} {xs : Nat → Int32} {X : XS} {M : MS} {x : Int32} : Sp (mjOO L xs) 32 0 [some (.ref 60), some (.int x), none, none, none] [] (hS X M) (f_M_wantAll x M) (KVM X) := by
  unfold f_M_wantAll
  refine Sp.step rfl rfl rfl rfl ?_
  refine Sp.step rfl rfl rfl rfl ?_
  refine Sp.weak (l0 := [some (.ref 60), some (.int x), some (.int 0), none, none]) ⟨rfl, rfl, rfl, trivial⟩ ?_
  refine Sp.loopX (pe := 89) (mf := (fun (x14 : (Int32 × MS)) => [some (.ref 60), some (.int x), some (.int x14.1), none, none])) (hf := (fun (x14 : (Int32 × MS)) => hS X x14.2)) (fun x14 => ?_) (fun x27 => ?_) _ _
  · unfold b2_M_wantAll
    refine Sp.step rfl rfl rfl rfl ?_
    refine Sp.step rfl rfl rfl rfl ?_
    refine Sp.step rfl rfl rfl (mg_F (f := 10) rfl rfl rfl rfl) ?_
    refine Sp.step rfl rfl rfl rfl ?_
    refine Sp.guard (fun e15 => ?_)
    refine Sp.step rfl rfl rfl (mld rfl rfl (by decide) e15) ?_
    refine Sp.if2 rfl rfl rfl rfl (fun e16 => ?_) (fun e16 => ?_)
    · exact Sp.jmp (l0 := [some (.ref 60), some (.int x), some (.int x14.1), none, none]) ⟨rfl, rfl, rfl, trivial⟩ (fun _ _ h => h)
    · refine Sp.step rfl rfl rfl rfl ?_
      refine Sp.step rfl rfl rfl (mg_F (f := 11) rfl rfl rfl rfl) ?_
      refine Sp.step rfl rfl rfl rfl ?_
      refine Sp.step rfl rfl rfl rfl ?_
      refine Sp.step rfl rfl rfl rfl ?_
      refine Sp.step rfl rfl rfl rfl ?_
      refine Sp.step rfl rfl rfl rfl ?_
      refine Sp.guard (fun e17 => ?_)
      refine Sp.step rfl rfl rfl (mld rfl rfl (by decide) e17) ?_
      refine Sp.step rfl rfl rfl rfl ?_
      refine Sp.step rfl rfl rfl rfl ?_
      refine Sp.step rfl rfl rfl (mg_F (f := 12) rfl rfl rfl rfl) ?_
      refine Sp.step rfl rfl rfl rfl ?_
      refine Sp.step rfl rfl rfl rfl ?_
      refine Sp.step rfl rfl rfl rfl ?_
      refine Sp.step rfl rfl rfl rfl ?_
      refine Sp.step rfl rfl rfl rfl ?_
      refine Sp.step rfl rfl rfl (mld rfl rfl (by decide) e17) ?_
      refine Sp.step rfl rfl rfl rfl ?_
      refine Sp.step rfl rfl rfl rfl ?_
      refine Sp.step rfl rfl rfl rfl ?_
      refine Sp.if2 rfl rfl rfl rfl (fun e18 => ?_) (fun e18 => ?_)
      · refine Sp.step rfl rfl rfl rfl ?_
        refine Sp.step rfl rfl rfl rfl ?_
        refine Sp.call rfl rfl rfl (mrecv (by decide) (by decide +kernel)) s_M_wantClass (fun x19 => ⟨_, _, ⟨rfl, rfl⟩, ?_⟩)
        refine Sp.id (pc := 55) (l := [some (.ref 60), some (.int x), some (.int x14.1), some (.int (x14.2.1 71 ((60 * x) + x14.1).toNatClampNeg)), some (.int (x14.2.1 72 ((60 * x) + x14.1).toNatClampNeg))]) (st := []) (h := hS X x19) ?_
        refine Sp.step rfl rfl rfl rfl ?_
        refine Sp.step rfl rfl rfl rfl ?_
        refine Sp.step rfl rfl rfl rfl ?_
        exact Sp.jmp (l0 := [some (.ref 60), some (.int x), some (.int (x14.1 + 1)), none, none]) ⟨rfl, rfl, rfl, trivial⟩ (fun _ _ h => h)
      · refine Sp.step rfl rfl rfl rfl ?_
        refine Sp.step rfl rfl rfl rfl ?_
        refine Sp.if2 rfl rfl rfl rfl (fun e20 => ?_) (fun e20 => ?_)
        · refine Sp.step rfl rfl rfl rfl ?_
          refine Sp.step rfl rfl rfl rfl ?_
          refine Sp.step rfl rfl rfl rfl ?_
          refine Sp.callP rfl rfl rfl rfl s_isIn (fun e21 => ?_) (fun e21 => ?_)
          · refine Sp.id (pc := 66) (l := [some (.ref 60), some (.int x), some (.int x14.1), some (.int (x14.2.1 71 ((60 * x) + x14.1).toNatClampNeg)), some (.int (x14.2.1 72 ((60 * x) + x14.1).toNatClampNeg))]) (st := [.int 1]) (h := hS X x14.2) ?_
            refine Sp.step rfl rfl rfl rfl ?_
            refine Sp.step rfl rfl rfl rfl ?_
            refine Sp.if1 rfl rfl rfl rfl (fun e23 => ?_) (fun e23 => ?_)
            · refine Sp.step rfl rfl rfl rfl ?_
              refine Sp.step rfl rfl rfl rfl ?_
              exact Sp.jmp (l0 := [some (.ref 60), some (.int x), some (.int (x14.1 + 1)), none, none]) ⟨rfl, rfl, rfl, trivial⟩ (fun _ _ h => h)
            · refine Sp.step rfl rfl rfl rfl ?_
              refine Sp.step rfl rfl rfl rfl ?_
              refine Sp.step rfl rfl rfl rfl ?_
              refine Sp.step rfl rfl rfl (go_div (by decide)) ?_
              refine Sp.call rfl rfl rfl (mrecv (by decide) (by decide +kernel)) s_M_wantClass (fun x24 => ⟨_, _, ⟨rfl, rfl⟩, ?_⟩)
              refine Sp.id (pc := 83) (l := [some (.ref 60), some (.int x), some (.int x14.1), some (.int (x14.2.1 71 ((60 * x) + x14.1).toNatClampNeg)), some (.int (x14.2.1 72 ((60 * x) + x14.1).toNatClampNeg))]) (st := []) (h := hS X x24) ?_
              refine Sp.step rfl rfl rfl rfl ?_
              refine Sp.step rfl rfl rfl rfl ?_
              exact Sp.jmp (l0 := [some (.ref 60), some (.int x), some (.int (x14.1 + 1)), none, none]) ⟨rfl, rfl, rfl, trivial⟩ (fun _ _ h => h)
          · refine Sp.id (pc := 66) (l := [some (.ref 60), some (.int x), some (.int x14.1), some (.int (x14.2.1 71 ((60 * x) + x14.1).toNatClampNeg)), some (.int (x14.2.1 72 ((60 * x) + x14.1).toNatClampNeg))]) (st := [.int 0]) (h := hS X x14.2) ?_
            refine Sp.step rfl rfl rfl rfl ?_
            refine Sp.step rfl rfl rfl rfl ?_
            refine Sp.step rfl rfl rfl rfl ?_
            exact Sp.jmp (l0 := [some (.ref 60), some (.int x), some (.int (x14.1 + 1)), none, none]) ⟨rfl, rfl, rfl, trivial⟩ (fun _ _ h => h)
        · refine Sp.step rfl rfl rfl rfl ?_
          refine Sp.step rfl rfl rfl rfl ?_
          refine Sp.call rfl rfl rfl (mrecv (by decide) (by decide +kernel)) s_M_wantClass (fun x26 => ⟨_, _, ⟨rfl, rfl⟩, ?_⟩)
          refine Sp.id (pc := 55) (l := [some (.ref 60), some (.int x), some (.int x14.1), some (.int (x14.2.1 71 ((60 * x) + x14.1).toNatClampNeg)), some (.int (x14.2.1 72 ((60 * x) + x14.1).toNatClampNeg))]) (st := []) (h := hS X x26) ?_
          refine Sp.step rfl rfl rfl rfl ?_
          refine Sp.step rfl rfl rfl rfl ?_
          refine Sp.step rfl rfl rfl rfl ?_
          exact Sp.jmp (l0 := [some (.ref 60), some (.int x), some (.int (x14.1 + 1)), none, none]) ⟨rfl, rfl, rfl, trivial⟩ (fun _ _ h => h)
  · refine Sp.step rfl rfl rfl rfl ?_
    refine Sp.step rfl rfl rfl rfl ?_
    refine Sp.weak (l0 := [some (.ref 60), some (.int x), some (.int 0), none, none]) ⟨rfl, rfl, rfl, trivial⟩ ?_
    refine Sp.loopX (pe := 126) (mf := (fun (x33 : (Int32 × MS)) => [some (.ref 60), some (.int x), some (.int x33.1), none, none])) (hf := (fun (x33 : (Int32 × MS)) => hS X x33.2)) (fun x33 => ?_) (fun x38 => ?_) _ _
    · unfold b91_M_wantAll
      refine Sp.step rfl rfl rfl rfl ?_
      refine Sp.step rfl rfl rfl rfl ?_
      refine Sp.step rfl rfl rfl (mg_F (f := 13) rfl rfl rfl rfl) ?_
      refine Sp.step rfl rfl rfl rfl ?_
      refine Sp.guard (fun e34 => ?_)
      refine Sp.step rfl rfl rfl (mld rfl rfl (by decide) e34) ?_
      refine Sp.if2 rfl rfl rfl rfl (fun e35 => ?_) (fun e35 => ?_)
      · exact Sp.jmp (l0 := [some (.ref 60), some (.int x), some (.int x33.1), none, none]) ⟨rfl, rfl, rfl, trivial⟩ (fun _ _ h => h)
      · refine Sp.step rfl rfl rfl rfl ?_
        refine Sp.step rfl rfl rfl rfl ?_
        refine Sp.step rfl rfl rfl (mg_F (f := 14) rfl rfl rfl rfl) ?_
        refine Sp.step rfl rfl rfl rfl ?_
        refine Sp.step rfl rfl rfl rfl ?_
        refine Sp.step rfl rfl rfl rfl ?_
        refine Sp.step rfl rfl rfl rfl ?_
        refine Sp.step rfl rfl rfl rfl ?_
        refine Sp.step rfl rfl rfl rfl ?_
        refine Sp.step rfl rfl rfl rfl ?_
        refine Sp.step rfl rfl rfl rfl ?_
        refine Sp.step rfl rfl rfl rfl ?_
        refine Sp.guard (fun e36 => ?_)
        refine Sp.step rfl rfl rfl (mld rfl rfl (by decide) e36) ?_
        refine Sp.call rfl rfl rfl (mrecv (by decide) (by decide +kernel)) s_M_wantClass (fun x37 => ⟨_, _, ⟨rfl, rfl⟩, ?_⟩)
        refine Sp.id (pc := 120) (l := [some (.ref 60), some (.int x), some (.int x33.1), none, none]) (st := []) (h := hS X x37) ?_
        refine Sp.step rfl rfl rfl rfl ?_
        refine Sp.step rfl rfl rfl rfl ?_
        exact Sp.jmp (l0 := [some (.ref 60), some (.int x), some (.int (x33.1 + 1)), none, none]) ⟨rfl, rfl, rfl, trivial⟩ (fun _ _ h => h)
    · refine Sp.step rfl rfl rfl rfl ?_
      refine Sp.step rfl rfl rfl (mg_F (f := 5) rfl rfl rfl rfl) ?_
      refine Sp.step rfl rfl rfl rfl ?_
      refine Sp.guard (fun e39 => ?_)
      refine Sp.step rfl rfl rfl (mld rfl rfl (by decide) e39) ?_
      refine Sp.step rfl rfl rfl rfl ?_
      refine Sp.if2 rfl rfl rfl rfl (fun e40 => ?_) (fun e40 => ?_)
      · exact Sp.vret rfl rfl rfl (fun _ _ h => h)
      · refine Sp.step rfl rfl rfl rfl ?_
        refine Sp.step rfl rfl rfl rfl ?_
        refine Sp.step rfl rfl rfl (mg_F (f := 4) rfl rfl rfl rfl) ?_
        refine Sp.step rfl rfl rfl rfl ?_
        refine Sp.step rfl rfl rfl (mld rfl rfl (by decide) e39) ?_
        refine Sp.call rfl rfl rfl (mrecv (by decide) (by decide +kernel)) s_M_wantClass (fun x41 => ⟨_, _, ⟨rfl, rfl⟩, ?_⟩)
        refine Sp.id (pc := 147) (l := [some (.ref 60), some (.int x), some (.int x38.1), none, none]) (st := []) (h := hS X x41) ?_
        exact Sp.vret rfl rfl rfl (fun _ _ h => h)
def b2_M_reach (x : Int32) (x8 : (Int32 × MS)) : Option ((Int32 × MS) ⊕ (Int32 × MS)) := (if 24 ≤ x8.1 then some (.inr (x8.1, x8.2)) else (if ¬ x8.1 = x then (if ixo x8.1 24 then (lt (mw x8.2 75 x8.1.toNatClampNeg 0) fun M12 => some (.inl (x8.1 + 1, M12))) else none) else (if ixo x8.1 24 then (lt (mw x8.2 75 x8.1.toNatClampNeg 1) fun M14 => some (.inl (x8.1 + 1, M14))) else none)))
def b32_M_reach (x21 : (Int32 × MS)) : Option ((Int32 × MS) ⊕ (Int32 × MS)) := (if 10 ≤ x21.1 then some (.inr (x21.1, x21.2)) else (if ixo x21.1 10 then (lt (mw x21.2 76 x21.1.toNatClampNeg 0) fun M24 => (lt (mw M24 77 x21.1.toNatClampNeg 0) fun M25 => some (.inl (x21.1 + 1, M25)))) else none))
def b60_M_reach (x31 : (Int32 × MS)) : Option ((Int32 × MS) ⊕ (Int32 × MS)) := (if 8 ≤ x31.1 then some (.inr (x31.1, x31.2)) else (if ixo x31.1 8 then (lt (mw x31.2 78 x31.1.toNatClampNeg 0) fun M34 => some (.inl (x31.1 + 1, M34))) else none))
def b89_M_reach (x126 : (Int32 × Int32 × MS)) : Option ((Int32 × Int32 × MS) ⊕ (Int32 × Int32 × MS)) := (if x126.2.2.1 60 15 ≤ x126.2.1 then some (.inr (x126.1, x126.2.1, x126.2.2)) else (if ixo x126.2.1 24 then (if x126.2.2.1 75 x126.2.1.toNatClampNeg = 0 then (if x126.1 = 0 then some (.inl (0, x126.2.1 + 1, x126.2.2)) else some (.inl (1, x126.2.1 + 1, x126.2.2))) else ((f_M_follow x126.2.1 x126.2.2).bind fun x131 => (if x131.1 = true then some (.inl (1, x126.2.1 + 1, x131.2)) else (if x126.1 = 0 then some (.inl (0, x126.2.1 + 1, x131.2)) else some (.inl (1, x126.2.1 + 1, x131.2)))))) else none))
def b143_M_reach (x164 : (Int32 × Int32 × MS)) (x178 : (Int32 × Int32 × MS)) : Option ((Int32 × Int32 × MS) ⊕ (Int32 × Int32 × MS)) := (if 8 ≤ x178.2.1 then some (.inr (x178.1, x178.2.1, x178.2.2)) else (if ixo x164.2.1 10 then (((if x178.2.2.1 76 x164.2.1.toNatClampNeg = 0 then some (-2) else (if ixo x178.2.1 8 then (if x178.2.2.1 78 x178.2.1.toNatClampNeg = 0 then some (-2) else ((f_M_find x164.2.1 x178.2.1 x178.2.2).bind fun x184 => some x184)) else none)) : Option (Int32)).bind fun x185 => (if x185 < 0 then some (.inl (x178.1, x178.2.1 + 1, x178.2.2)) else (if ixo x185 24 then (if ¬ x178.2.2.1 75 x185.toNatClampNeg = 0 then some (.inl (x178.1, x178.2.1 + 1, x178.2.2)) else (lt (mw x178.2.2 75 x185.toNatClampNeg 1) fun M189 => some (.inl (1, x178.2.1 + 1, M189)))) else none))) else none))
def b132_M_reach (x164 : (Int32 × Int32 × MS)) : Option ((Int32 × Int32 × MS) ⊕ (Int32 × Int32 × MS)) := (if x164.2.2.1 60 3 ≤ x164.2.1 then some (.inr (x164.1, x164.2.1, x164.2.2)) else ((lp (b143_M_reach x164) 10000 (x164.1, (0 : Int32), x164.2.2)).bind fun x190 => some (.inl (x190.1, x164.2.1 + 1, x190.2.2))))
def b81_M_reach (x114 : (Int32 × MS)) : Option ((Int32 × MS) ⊕ (Int32 × MS)) := (if x114.1 = 0 then some (.inr (x114.1, x114.2)) else ((lp (b89_M_reach) 10000 ((0 : Int32), (0 : Int32), x114.2)).bind fun x136 => ((lp (b132_M_reach) 10000 (x136.1, (0 : Int32), x136.2.2)).bind fun x191 => some (.inl (x191.1, x191.2.2)))))
def b225_M_reach (x198 : (Int32 × MS)) : Option ((Int32 × MS) ⊕ (Int32 × MS)) := (if x198.2.1 60 15 ≤ x198.1 then some (.inr (x198.1, x198.2)) else (if ixo x198.1 24 then (if x198.2.1 75 x198.1.toNatClampNeg = 0 then some (.inl (x198.1 + 1, x198.2)) else ((f_M_wantAll x198.1 x198.2).bind fun x202 => some (.inl (x198.1 + 1, x202)))) else none))
def b258_M_reach (x209 : (Int32 × Int32 × MS)) : Option ((Int32 × Int32 × MS) ⊕ (Int32 × Int32 × MS)) := (if x209.2.2.1 60 15 ≤ x209.2.1 then some (.inr (x209.1, x209.2.1, x209.2.2)) else (if ixo x209.2.1 24 then (lt (mw x209.2.2 79 x209.2.1.toNatClampNeg x209.1) fun M212 => (if M212.1 75 x209.2.1.toNatClampNeg = 0 then some (.inl (x209.1, x209.2.1 + 1, M212)) else some (.inl (x209.1 + 1, x209.2.1 + 1, M212)))) else none))
def b309_M_reach (x221 : (Int32 × Int32 × MS)) : Option ((Int32 × Int32 × MS) ⊕ (Int32 × Int32 × MS)) := (if x221.2.2.1 60 3 ≤ x221.2.1 then some (.inr (x221.1, x221.2.1, x221.2.2)) else (if ixo x221.2.1 10 then (lt (mw x221.2.2 80 x221.2.1.toNatClampNeg x221.1) fun M224 => (if M224.1 77 x221.2.1.toNatClampNeg = 0 then some (.inl (x221.1, x221.2.1 + 1, M224)) else some (.inl (x221.1 + 1, x221.2.1 + 1, M224)))) else none))
def f_M_reach (x : Int32) (M : MS) : Option MS := ((lp (b2_M_reach x) 10000 ((0 : Int32), M)).bind fun x15 => ((lp (b32_M_reach) 10000 ((0 : Int32), x15.2)).bind fun x26 => ((lp (b60_M_reach) 10000 ((0 : Int32), x26.2)).bind fun x35 => ((lp (b81_M_reach) 10000 ((1 : Int32), x35.2)).bind fun x192 => ((lp (b225_M_reach) 10000 ((0 : Int32), x192.2)).bind fun x203 => ((lp (b258_M_reach) 10000 ((0 : Int32), (0 : Int32), x203.2)).bind fun x214 => (lt (mw x214.2.2 60 22 x214.1) fun M215 => ((lp (b309_M_reach) 10000 ((0 : Int32), (0 : Int32), M215)).bind fun x226 => (lt (mw x226.2.2 60 23 x226.1) fun M227 => some M227)))))))))
set_option maxRecDepth 100000 in
set_option maxHeartbeats 4000000 in
theorem s_M_reach {L : Nat} {xs : Nat → Int32} {X : XS} {M : MS} {x : Int32} : Sp (mjOO L xs) 31 0 [some (.ref 60), some (.int x), none, none, none, none] [] (hS X M) (f_M_reach x M) (KVM X) := by
  unfold f_M_reach
  refine Sp.step rfl rfl rfl rfl ?_
  refine Sp.step rfl rfl rfl rfl ?_
  refine Sp.weak (l0 := [some (.ref 60), some (.int x), some (.int 0), none, none, none]) ⟨rfl, rfl, rfl, trivial⟩ ?_
  refine Sp.loopX (pe := 30) (mf := (fun (x8 : (Int32 × MS)) => [some (.ref 60), some (.int x), some (.int x8.1), none, none, none])) (hf := (fun (x8 : (Int32 × MS)) => hS X x8.2)) (fun x8 => ?_) (fun x15 => ?_) _ _
  · unfold b2_M_reach
    refine Sp.step rfl rfl rfl rfl ?_
    refine Sp.step rfl rfl rfl rfl ?_
    refine Sp.if2 rfl rfl rfl rfl (fun e9 => ?_) (fun e9 => ?_)
    · exact Sp.jmp (l0 := [some (.ref 60), some (.int x), some (.int x8.1), none, none, none]) ⟨rfl, rfl, rfl, trivial⟩ (fun _ _ h => h)
    · refine Sp.step rfl rfl rfl rfl ?_
      refine Sp.step rfl rfl rfl (mg_F (f := 16) rfl rfl rfl rfl) ?_
      refine Sp.step rfl rfl rfl rfl ?_
      refine Sp.step rfl rfl rfl rfl ?_
      refine Sp.step rfl rfl rfl rfl ?_
      refine Sp.if2 rfl rfl rfl rfl (fun e10 => ?_) (fun e10 => ?_)
      · refine Sp.step rfl rfl rfl rfl ?_
        refine Sp.guard (fun e11 => ?_)
        refine Sp.step rfl rfl rfl (mst0 rfl rfl e11) ?_
        refine Sp.step rfl rfl rfl rfl ?_
        refine Sp.step rfl rfl rfl rfl ?_
        exact Sp.jmp (l0 := [some (.ref 60), some (.int x), some (.int (x8.1 + 1)), none, none, none]) ⟨rfl, rfl, rfl, trivial⟩ (fun _ _ h => h)
      · refine Sp.step rfl rfl rfl rfl ?_
        refine Sp.step rfl rfl rfl rfl ?_
        refine Sp.guard (fun e13 => ?_)
        refine Sp.step rfl rfl rfl (mst1 rfl rfl e13) ?_
        refine Sp.step rfl rfl rfl rfl ?_
        refine Sp.step rfl rfl rfl rfl ?_
        exact Sp.jmp (l0 := [some (.ref 60), some (.int x), some (.int (x8.1 + 1)), none, none, none]) ⟨rfl, rfl, rfl, trivial⟩ (fun _ _ h => h)
  · refine Sp.step rfl rfl rfl rfl ?_
    refine Sp.step rfl rfl rfl rfl ?_
    refine Sp.weak (l0 := [some (.ref 60), none, some (.int 0), none, none, none]) ⟨rfl, rfl, trivial⟩ ?_
    refine Sp.loopX (pe := 58) (mf := (fun (x21 : (Int32 × MS)) => [some (.ref 60), none, some (.int x21.1), none, none, none])) (hf := (fun (x21 : (Int32 × MS)) => hS X x21.2)) (fun x21 => ?_) (fun x26 => ?_) _ _
    · unfold b32_M_reach
      refine Sp.step rfl rfl rfl rfl ?_
      refine Sp.step rfl rfl rfl rfl ?_
      refine Sp.if2 rfl rfl rfl rfl (fun e22 => ?_) (fun e22 => ?_)
      · exact Sp.jmp (l0 := [some (.ref 60), none, some (.int x21.1), none, none, none]) ⟨rfl, rfl, trivial⟩ (fun _ _ h => h)
      · refine Sp.step rfl rfl rfl rfl ?_
        refine Sp.step rfl rfl rfl (mg_F (f := 17) rfl rfl rfl rfl) ?_
        refine Sp.step rfl rfl rfl rfl ?_
        refine Sp.step rfl rfl rfl rfl ?_
        refine Sp.guard (fun e23 => ?_)
        refine Sp.step rfl rfl rfl (mst0 rfl rfl e23) ?_
        refine Sp.step rfl rfl rfl rfl ?_
        refine Sp.step rfl rfl rfl (mg_F (f := 18) rfl rfl rfl rfl) ?_
        refine Sp.step rfl rfl rfl rfl ?_
        refine Sp.step rfl rfl rfl rfl ?_
        refine Sp.step rfl rfl rfl (mst0 rfl rfl e23) ?_
        refine Sp.step rfl rfl rfl rfl ?_
        refine Sp.step rfl rfl rfl rfl ?_
        exact Sp.jmp (l0 := [some (.ref 60), none, some (.int (x21.1 + 1)), none, none, none]) ⟨rfl, rfl, trivial⟩ (fun _ _ h => h)
    · refine Sp.step rfl rfl rfl rfl ?_
      refine Sp.step rfl rfl rfl rfl ?_
      refine Sp.weak (l0 := [some (.ref 60), none, some (.int 0), none, none, none]) ⟨rfl, rfl, trivial⟩ ?_
      refine Sp.loopX (pe := 79) (mf := (fun (x31 : (Int32 × MS)) => [some (.ref 60), none, some (.int x31.1), none, none, none])) (hf := (fun (x31 : (Int32 × MS)) => hS X x31.2)) (fun x31 => ?_) (fun x35 => ?_) _ _
      · unfold b60_M_reach
        refine Sp.step rfl rfl rfl rfl ?_
        refine Sp.step rfl rfl rfl rfl ?_
        refine Sp.if2 rfl rfl rfl rfl (fun e32 => ?_) (fun e32 => ?_)
        · exact Sp.jmp (l0 := [some (.ref 60), none, some (.int x31.1), none, none, none]) ⟨rfl, rfl, trivial⟩ (fun _ _ h => h)
        · refine Sp.step rfl rfl rfl rfl ?_
          refine Sp.step rfl rfl rfl (mg_F (f := 19) rfl rfl rfl rfl) ?_
          refine Sp.step rfl rfl rfl rfl ?_
          refine Sp.step rfl rfl rfl rfl ?_
          refine Sp.guard (fun e33 => ?_)
          refine Sp.step rfl rfl rfl (mst0 rfl rfl e33) ?_
          refine Sp.step rfl rfl rfl rfl ?_
          refine Sp.step rfl rfl rfl rfl ?_
          exact Sp.jmp (l0 := [some (.ref 60), none, some (.int (x31.1 + 1)), none, none, none]) ⟨rfl, rfl, trivial⟩ (fun _ _ h => h)
      · refine Sp.step rfl rfl rfl rfl ?_
        refine Sp.step rfl rfl rfl rfl ?_
        refine Sp.weak (l0 := [some (.ref 60), none, some (.int 1), none, none, none]) ⟨rfl, rfl, trivial⟩ ?_
        refine Sp.loopX (pe := 223) (mf := (fun (x114 : (Int32 × MS)) => [some (.ref 60), none, some (.int x114.1), none, none, none])) (hf := (fun (x114 : (Int32 × MS)) => hS X x114.2)) (fun x114 => ?_) (fun x192 => ?_) _ _
        · unfold b81_M_reach
          refine Sp.step rfl rfl rfl rfl ?_
          refine Sp.if1 rfl rfl rfl rfl (fun e115 => ?_) (fun e115 => ?_)
          · exact Sp.jmp (l0 := [some (.ref 60), none, some (.int x114.1), none, none, none]) ⟨rfl, rfl, trivial⟩ (fun _ _ h => h)
          · refine Sp.step rfl rfl rfl rfl ?_
            refine Sp.step rfl rfl rfl rfl ?_
            refine Sp.step rfl rfl rfl rfl ?_
            refine Sp.step rfl rfl rfl rfl ?_
            refine Sp.weak (l0 := [some (.ref 60), none, some (.int 0), some (.int 0), none, none]) ⟨rfl, rfl, rfl, trivial⟩ ?_
            refine Sp.loopX (pe := 130) (mf := (fun (x126 : (Int32 × Int32 × MS)) => [some (.ref 60), none, some (.int x126.1), some (.int x126.2.1), none, none])) (hf := (fun (x126 : (Int32 × Int32 × MS)) => hS X x126.2.2)) (fun x126 => ?_) (fun x136 => ?_) _ _
            · unfold b89_M_reach
              refine Sp.step rfl rfl rfl rfl ?_
              refine Sp.step rfl rfl rfl rfl ?_
              refine Sp.step rfl rfl rfl (mg_I (f := 15) rfl rfl rfl) ?_
              refine Sp.if2 rfl rfl rfl rfl (fun e127 => ?_) (fun e127 => ?_)
              · exact Sp.jmp (l0 := [some (.ref 60), none, some (.int x126.1), some (.int x126.2.1), none, none]) ⟨rfl, rfl, rfl, trivial⟩ (fun _ _ h => h)
              · refine Sp.step rfl rfl rfl rfl ?_
                refine Sp.step rfl rfl rfl (mg_F (f := 16) rfl rfl rfl rfl) ?_
                refine Sp.step rfl rfl rfl rfl ?_
                refine Sp.guard (fun e128 => ?_)
                refine Sp.step rfl rfl rfl (mld rfl rfl (by decide) e128) ?_
                refine Sp.if1 rfl rfl rfl rfl (fun e129 => ?_) (fun e129 => ?_)
                · refine Sp.step rfl rfl rfl rfl ?_
                  refine Sp.if1 rfl rfl rfl rfl (fun e130 => ?_) (fun e130 => ?_)
                  · refine Sp.step rfl rfl rfl rfl ?_
                    refine Sp.step rfl rfl rfl rfl ?_
                    refine Sp.step rfl rfl rfl rfl ?_
                    refine Sp.step rfl rfl rfl rfl ?_
                    exact Sp.jmp (l0 := [some (.ref 60), none, some (.int 0), some (.int (x126.2.1 + 1)), none, none]) ⟨rfl, rfl, rfl, trivial⟩ (fun _ _ h => h)
                  · refine Sp.step rfl rfl rfl rfl ?_
                    refine Sp.step rfl rfl rfl rfl ?_
                    refine Sp.step rfl rfl rfl rfl ?_
                    refine Sp.step rfl rfl rfl rfl ?_
                    refine Sp.step rfl rfl rfl rfl ?_
                    exact Sp.jmp (l0 := [some (.ref 60), none, some (.int 1), some (.int (x126.2.1 + 1)), none, none]) ⟨rfl, rfl, rfl, trivial⟩ (fun _ _ h => h)
                · refine Sp.step rfl rfl rfl rfl ?_
                  refine Sp.step rfl rfl rfl rfl ?_
                  refine Sp.call rfl rfl rfl (mrecv (by decide) (by decide +kernel)) s_M_follow (fun x131 => ⟨_, _, ⟨rfl, rfl⟩, ?_⟩)
                  refine Sp.bool (fun e132 => ?_) (fun e132 => ?_)
                  · refine Sp.id (pc := 111) (l := [some (.ref 60), none, some (.int x126.1), some (.int x126.2.1), none, none]) (st := [.int 1]) (h := hS X x131.2) ?_
                    refine Sp.step rfl rfl rfl rfl ?_
                    refine Sp.step rfl rfl rfl rfl ?_
                    refine Sp.step rfl rfl rfl rfl ?_
                    refine Sp.step rfl rfl rfl rfl ?_
                    refine Sp.step rfl rfl rfl rfl ?_
                    refine Sp.step rfl rfl rfl rfl ?_
                    exact Sp.jmp (l0 := [some (.ref 60), none, some (.int 1), some (.int (x126.2.1 + 1)), none, none]) ⟨rfl, rfl, rfl, trivial⟩ (fun _ _ h => h)
                  · refine Sp.id (pc := 111) (l := [some (.ref 60), none, some (.int x126.1), some (.int x126.2.1), none, none]) (st := [.int 0]) (h := hS X x131.2) ?_
                    refine Sp.step rfl rfl rfl rfl ?_
                    refine Sp.step rfl rfl rfl rfl ?_
                    refine Sp.if1 rfl rfl rfl rfl (fun e135 => ?_) (fun e135 => ?_)
                    · refine Sp.step rfl rfl rfl rfl ?_
                      refine Sp.step rfl rfl rfl rfl ?_
                      refine Sp.step rfl rfl rfl rfl ?_
                      refine Sp.step rfl rfl rfl rfl ?_
                      exact Sp.jmp (l0 := [some (.ref 60), none, some (.int 0), some (.int (x126.2.1 + 1)), none, none]) ⟨rfl, rfl, rfl, trivial⟩ (fun _ _ h => h)
                    · refine Sp.step rfl rfl rfl rfl ?_
                      refine Sp.step rfl rfl rfl rfl ?_
                      refine Sp.step rfl rfl rfl rfl ?_
                      refine Sp.step rfl rfl rfl rfl ?_
                      refine Sp.step rfl rfl rfl rfl ?_
                      exact Sp.jmp (l0 := [some (.ref 60), none, some (.int 1), some (.int (x126.2.1 + 1)), none, none]) ⟨rfl, rfl, rfl, trivial⟩ (fun _ _ h => h)
            · refine Sp.step rfl rfl rfl rfl ?_
              refine Sp.step rfl rfl rfl rfl ?_
              refine Sp.weak (l0 := [some (.ref 60), none, some (.int x136.1), some (.int 0), none, none]) ⟨rfl, rfl, rfl, trivial⟩ ?_
              refine Sp.loopX (pe := 81) (mf := (fun (x164 : (Int32 × Int32 × MS)) => [some (.ref 60), none, some (.int x164.1), some (.int x164.2.1), none, none])) (hf := (fun (x164 : (Int32 × Int32 × MS)) => hS X x164.2.2)) (fun x164 => ?_) (fun x191 => ?_) _ _
              · unfold b132_M_reach
                refine Sp.step rfl rfl rfl rfl ?_
                refine Sp.step rfl rfl rfl rfl ?_
                refine Sp.step rfl rfl rfl (mg_I (f := 3) rfl rfl rfl) ?_
                refine Sp.if2 rfl rfl rfl rfl (fun e165 => ?_) (fun e165 => ?_)
                · refine Sp.step rfl rfl rfl rfl ?_
                  exact Sp.jmp (l0 := [some (.ref 60), none, some (.int x164.1), some (.int x164.2.1), none, none]) ⟨rfl, rfl, rfl, trivial⟩ (fun _ _ h => h)
                · refine Sp.step rfl rfl rfl rfl ?_
                  refine Sp.step rfl rfl rfl rfl ?_
                  refine Sp.weak (l0 := [some (.ref 60), none, some (.int x164.1), some (.int x164.2.1), some (.int 0), none]) ⟨rfl, rfl, rfl, rfl, trivial⟩ ?_
                  refine Sp.loopX (pe := 214) (mf := (fun (x178 : (Int32 × Int32 × MS)) => [some (.ref 60), none, some (.int x178.1), some (.int x164.2.1), some (.int x178.2.1), none])) (hf := (fun (x178 : (Int32 × Int32 × MS)) => hS X x178.2.2)) (fun x178 => ?_) (fun x190 => ?_) _ _
                  · unfold b143_M_reach
                    refine Sp.step rfl rfl rfl rfl ?_
                    refine Sp.step rfl rfl rfl rfl ?_
                    refine Sp.if2 rfl rfl rfl rfl (fun e179 => ?_) (fun e179 => ?_)
                    · exact Sp.jmp (l0 := [some (.ref 60), none, some (.int x178.1), some (.int x164.2.1), some (.int x178.2.1), none]) ⟨rfl, rfl, rfl, rfl, trivial⟩ (fun _ _ h => h)
                    · refine Sp.step rfl rfl rfl rfl ?_
                      refine Sp.step rfl rfl rfl (mg_F (f := 17) rfl rfl rfl rfl) ?_
                      refine Sp.step rfl rfl rfl rfl ?_
                      refine Sp.guard (fun e180 => ?_)
                      refine Sp.step rfl rfl rfl (mld rfl rfl (by decide) e180) ?_
                      refine Sp.piece (pe := 181) (mf := (fun (x185 : Int32) => [some (.ref 60), none, some (.int x178.1), some (.int x164.2.1), some (.int x178.2.1), none])) (sf := (fun (x185 : Int32) => [.int x185])) (hf := (fun (x185 : Int32) => hS X x178.2.2)) ?_ (fun x185 => ?_)
                      · refine Sp.if1 rfl rfl rfl rfl (fun e181 => ?_) (fun e181 => ?_)
                        · refine Sp.step rfl rfl rfl rfl ?_
                          exact Sp.jmp (l0 := [some (.ref 60), none, some (.int x178.1), some (.int x164.2.1), some (.int x178.2.1), none]) ⟨rfl, rfl, rfl, rfl, trivial⟩ (fun _ _ h => h)
                        · refine Sp.step rfl rfl rfl rfl ?_
                          refine Sp.step rfl rfl rfl (mg_F (f := 19) rfl rfl rfl rfl) ?_
                          refine Sp.step rfl rfl rfl rfl ?_
                          refine Sp.guard (fun e182 => ?_)
                          refine Sp.step rfl rfl rfl (mld rfl rfl (by decide) e182) ?_
                          refine Sp.if1 rfl rfl rfl rfl (fun e183 => ?_) (fun e183 => ?_)
                          · refine Sp.step rfl rfl rfl rfl ?_
                            exact Sp.jmp (l0 := [some (.ref 60), none, some (.int x178.1), some (.int x164.2.1), some (.int x178.2.1), none]) ⟨rfl, rfl, rfl, rfl, trivial⟩ (fun _ _ h => h)
                          · refine Sp.step rfl rfl rfl rfl ?_
                            refine Sp.step rfl rfl rfl rfl ?_
                            refine Sp.step rfl rfl rfl rfl ?_
                            refine Sp.call rfl rfl rfl (mrecv (by decide) (by decide +kernel)) s_M_find (fun x184 => ⟨_, _, ⟨rfl, rfl⟩, ?_⟩)
                            refine Sp.id (pc := 176) (l := [some (.ref 60), none, some (.int x178.1), some (.int x164.2.1), some (.int x178.2.1), none]) (st := [.int x184]) (h := hS X x178.2.2) ?_
                            refine Sp.step rfl rfl rfl rfl ?_
                            exact Sp.jmp (l0 := [some (.ref 60), none, some (.int x178.1), some (.int x164.2.1), some (.int x178.2.1), none]) ⟨rfl, rfl, rfl, rfl, trivial⟩ (fun _ _ h => h)
                      · refine Sp.step rfl rfl rfl rfl ?_
                        refine Sp.step rfl rfl rfl rfl ?_
                        refine Sp.if1 rfl rfl rfl rfl (fun e186 => ?_) (fun e186 => ?_)
                        · refine Sp.step rfl rfl rfl rfl ?_
                          refine Sp.step rfl rfl rfl rfl ?_
                          exact Sp.jmp (l0 := [some (.ref 60), none, some (.int x178.1), some (.int x164.2.1), some (.int (x178.2.1 + 1)), none]) ⟨rfl, rfl, rfl, rfl, trivial⟩ (fun _ _ h => h)
                        · refine Sp.step rfl rfl rfl rfl ?_
                          refine Sp.step rfl rfl rfl (mg_F (f := 16) rfl rfl rfl rfl) ?_
                          refine Sp.step rfl rfl rfl rfl ?_
                          refine Sp.guard (fun e187 => ?_)
                          refine Sp.step rfl rfl rfl (mld rfl rfl (by decide) e187) ?_
                          refine Sp.if1 rfl rfl rfl rfl (fun e188 => ?_) (fun e188 => ?_)
                          · refine Sp.step rfl rfl rfl rfl ?_
                            refine Sp.step rfl rfl rfl rfl ?_
                            exact Sp.jmp (l0 := [some (.ref 60), none, some (.int x178.1), some (.int x164.2.1), some (.int (x178.2.1 + 1)), none]) ⟨rfl, rfl, rfl, rfl, trivial⟩ (fun _ _ h => h)
                          · refine Sp.step rfl rfl rfl rfl ?_
                            refine Sp.step rfl rfl rfl (mg_F (f := 16) rfl rfl rfl rfl) ?_
                            refine Sp.step rfl rfl rfl rfl ?_
                            refine Sp.step rfl rfl rfl rfl ?_
                            refine Sp.step rfl rfl rfl (mst1 rfl rfl e187) ?_
                            refine Sp.step rfl rfl rfl rfl ?_
                            refine Sp.step rfl rfl rfl rfl ?_
                            refine Sp.step rfl rfl rfl rfl ?_
                            refine Sp.step rfl rfl rfl rfl ?_
                            exact Sp.jmp (l0 := [some (.ref 60), none, some (.int 1), some (.int x164.2.1), some (.int (x178.2.1 + 1)), none]) ⟨rfl, rfl, rfl, rfl, trivial⟩ (fun _ _ h => h)
                  · refine Sp.step rfl rfl rfl rfl ?_
                    refine Sp.step rfl rfl rfl rfl ?_
                    exact Sp.jmp (l0 := [some (.ref 60), none, some (.int x190.1), some (.int (x164.2.1 + 1)), none, none]) ⟨rfl, rfl, rfl, trivial⟩ (fun _ _ h => h)
              · exact Sp.jmp (l0 := [some (.ref 60), none, some (.int x191.1), none, none, none]) ⟨rfl, rfl, trivial⟩ (fun _ _ h => h)
        · refine Sp.step rfl rfl rfl rfl ?_
          refine Sp.step rfl rfl rfl rfl ?_
          refine Sp.weak (l0 := [some (.ref 60), none, none, some (.int 0), none, none]) ⟨rfl, rfl, trivial⟩ ?_
          refine Sp.loopX (pe := 253) (mf := (fun (x198 : (Int32 × MS)) => [some (.ref 60), none, none, some (.int x198.1), none, none])) (hf := (fun (x198 : (Int32 × MS)) => hS X x198.2)) (fun x198 => ?_) (fun x203 => ?_) _ _
          · unfold b225_M_reach
            refine Sp.step rfl rfl rfl rfl ?_
            refine Sp.step rfl rfl rfl rfl ?_
            refine Sp.step rfl rfl rfl (mg_I (f := 15) rfl rfl rfl) ?_
            refine Sp.if2 rfl rfl rfl rfl (fun e199 => ?_) (fun e199 => ?_)
            · exact Sp.jmp (l0 := [some (.ref 60), none, none, some (.int x198.1), none, none]) ⟨rfl, rfl, trivial⟩ (fun _ _ h => h)
            · refine Sp.step rfl rfl rfl rfl ?_
              refine Sp.step rfl rfl rfl (mg_F (f := 16) rfl rfl rfl rfl) ?_
              refine Sp.step rfl rfl rfl rfl ?_
              refine Sp.guard (fun e200 => ?_)
              refine Sp.step rfl rfl rfl (mld rfl rfl (by decide) e200) ?_
              refine Sp.if1 rfl rfl rfl rfl (fun e201 => ?_) (fun e201 => ?_)
              · refine Sp.step rfl rfl rfl rfl ?_
                refine Sp.step rfl rfl rfl rfl ?_
                exact Sp.jmp (l0 := [some (.ref 60), none, none, some (.int (x198.1 + 1)), none, none]) ⟨rfl, rfl, trivial⟩ (fun _ _ h => h)
              · refine Sp.step rfl rfl rfl rfl ?_
                refine Sp.step rfl rfl rfl rfl ?_
                refine Sp.call rfl rfl rfl (mrecv (by decide) (by decide +kernel)) s_M_wantAll (fun x202 => ⟨_, _, ⟨rfl, rfl⟩, ?_⟩)
                refine Sp.id (pc := 247) (l := [some (.ref 60), none, none, some (.int x198.1), none, none]) (st := []) (h := hS X x202) ?_
                refine Sp.step rfl rfl rfl rfl ?_
                refine Sp.step rfl rfl rfl rfl ?_
                exact Sp.jmp (l0 := [some (.ref 60), none, none, some (.int (x198.1 + 1)), none, none]) ⟨rfl, rfl, trivial⟩ (fun _ _ h => h)
          · refine Sp.step rfl rfl rfl rfl ?_
            refine Sp.step rfl rfl rfl rfl ?_
            refine Sp.step rfl rfl rfl rfl ?_
            refine Sp.step rfl rfl rfl rfl ?_
            refine Sp.weak (l0 := [some (.ref 60), none, none, some (.int 0), some (.int 0), none]) ⟨rfl, rfl, rfl, trivial⟩ ?_
            refine Sp.loopX (pe := 299) (mf := (fun (x209 : (Int32 × Int32 × MS)) => [some (.ref 60), none, none, some (.int x209.1), some (.int x209.2.1), none])) (hf := (fun (x209 : (Int32 × Int32 × MS)) => hS X x209.2.2)) (fun x209 => ?_) (fun x214 => ?_) _ _
            · unfold b258_M_reach
              refine Sp.step rfl rfl rfl rfl ?_
              refine Sp.step rfl rfl rfl rfl ?_
              refine Sp.step rfl rfl rfl (mg_I (f := 15) rfl rfl rfl) ?_
              refine Sp.if2 rfl rfl rfl rfl (fun e210 => ?_) (fun e210 => ?_)
              · exact Sp.jmp (l0 := [some (.ref 60), none, none, some (.int x209.1), some (.int x209.2.1), none]) ⟨rfl, rfl, rfl, trivial⟩ (fun _ _ h => h)
              · refine Sp.step rfl rfl rfl rfl ?_
                refine Sp.step rfl rfl rfl (mg_F (f := 20) rfl rfl rfl rfl) ?_
                refine Sp.step rfl rfl rfl rfl ?_
                refine Sp.step rfl rfl rfl rfl ?_
                refine Sp.guard (fun e211 => ?_)
                refine Sp.step rfl rfl rfl (mst rfl rfl (by decide) e211) ?_
                refine Sp.step rfl rfl rfl rfl ?_
                refine Sp.step rfl rfl rfl (mg_F (f := 16) rfl rfl rfl rfl) ?_
                refine Sp.step rfl rfl rfl rfl ?_
                refine Sp.step rfl rfl rfl (mld rfl rfl (by decide) e211) ?_
                refine Sp.if1 rfl rfl rfl rfl (fun e213 => ?_) (fun e213 => ?_)
                · refine Sp.step rfl rfl rfl rfl ?_
                  refine Sp.step rfl rfl rfl rfl ?_
                  refine Sp.step rfl rfl rfl rfl ?_
                  refine Sp.step rfl rfl rfl rfl ?_
                  exact Sp.jmp (l0 := [some (.ref 60), none, none, some (.int x209.1), some (.int (x209.2.1 + 1)), none]) ⟨rfl, rfl, rfl, trivial⟩ (fun _ _ h => h)
                · refine Sp.step rfl rfl rfl rfl ?_
                  refine Sp.step rfl rfl rfl rfl ?_
                  refine Sp.step rfl rfl rfl rfl ?_
                  refine Sp.step rfl rfl rfl rfl ?_
                  refine Sp.step rfl rfl rfl rfl ?_
                  refine Sp.step rfl rfl rfl rfl ?_
                  refine Sp.step rfl rfl rfl rfl ?_
                  exact Sp.jmp (l0 := [some (.ref 60), none, none, some (.int (x209.1 + 1)), some (.int (x209.2.1 + 1)), none]) ⟨rfl, rfl, rfl, trivial⟩ (fun _ _ h => h)
            · refine Sp.step rfl rfl rfl rfl ?_
              refine Sp.step rfl rfl rfl rfl ?_
              refine Sp.step rfl rfl rfl (mp_I (f := 22) rfl rfl rfl rfl) ?_
              refine Sp.step rfl rfl rfl rfl ?_
              refine Sp.step rfl rfl rfl rfl ?_
              refine Sp.step rfl rfl rfl rfl ?_
              refine Sp.step rfl rfl rfl rfl ?_
              refine Sp.weak (l0 := [some (.ref 60), none, none, some (.int 0), some (.int 0), none]) ⟨rfl, rfl, rfl, trivial⟩ ?_
              refine Sp.loopX (pe := 350) (mf := (fun (x221 : (Int32 × Int32 × MS)) => [some (.ref 60), none, none, some (.int x221.1), some (.int x221.2.1), none])) (hf := (fun (x221 : (Int32 × Int32 × MS)) => hS X x221.2.2)) (fun x221 => ?_) (fun x226 => ?_) _ _
              · unfold b309_M_reach
                refine Sp.step rfl rfl rfl rfl ?_
                refine Sp.step rfl rfl rfl rfl ?_
                refine Sp.step rfl rfl rfl (mg_I (f := 3) rfl rfl rfl) ?_
                refine Sp.if2 rfl rfl rfl rfl (fun e222 => ?_) (fun e222 => ?_)
                · exact Sp.jmp (l0 := [some (.ref 60), none, none, some (.int x221.1), some (.int x221.2.1), none]) ⟨rfl, rfl, rfl, trivial⟩ (fun _ _ h => h)
                · refine Sp.step rfl rfl rfl rfl ?_
                  refine Sp.step rfl rfl rfl (mg_F (f := 21) rfl rfl rfl rfl) ?_
                  refine Sp.step rfl rfl rfl rfl ?_
                  refine Sp.step rfl rfl rfl rfl ?_
                  refine Sp.guard (fun e223 => ?_)
                  refine Sp.step rfl rfl rfl (mst rfl rfl (by decide) e223) ?_
                  refine Sp.step rfl rfl rfl rfl ?_
                  refine Sp.step rfl rfl rfl (mg_F (f := 18) rfl rfl rfl rfl) ?_
                  refine Sp.step rfl rfl rfl rfl ?_
                  refine Sp.step rfl rfl rfl (mld rfl rfl (by decide) e223) ?_
                  refine Sp.if1 rfl rfl rfl rfl (fun e225 => ?_) (fun e225 => ?_)
                  · refine Sp.step rfl rfl rfl rfl ?_
                    refine Sp.step rfl rfl rfl rfl ?_
                    refine Sp.step rfl rfl rfl rfl ?_
                    refine Sp.step rfl rfl rfl rfl ?_
                    exact Sp.jmp (l0 := [some (.ref 60), none, none, some (.int x221.1), some (.int (x221.2.1 + 1)), none]) ⟨rfl, rfl, rfl, trivial⟩ (fun _ _ h => h)
                  · refine Sp.step rfl rfl rfl rfl ?_
                    refine Sp.step rfl rfl rfl rfl ?_
                    refine Sp.step rfl rfl rfl rfl ?_
                    refine Sp.step rfl rfl rfl rfl ?_
                    refine Sp.step rfl rfl rfl rfl ?_
                    refine Sp.step rfl rfl rfl rfl ?_
                    refine Sp.step rfl rfl rfl rfl ?_
                    exact Sp.jmp (l0 := [some (.ref 60), none, none, some (.int (x221.1 + 1)), some (.int (x221.2.1 + 1)), none]) ⟨rfl, rfl, rfl, trivial⟩ (fun _ _ h => h)
              · refine Sp.step rfl rfl rfl rfl ?_
                refine Sp.step rfl rfl rfl rfl ?_
                refine Sp.step rfl rfl rfl (mp_I (f := 23) rfl rfl rfl rfl) ?_
                exact Sp.vret rfl rfl rfl (fun _ _ h => h)
def b161_M_comeTo_86 (y : Int32) (z : Int32) (M : MS) (x4 : (Int32 × Int32)) : Option ((Int32 × Int32) ⊕ (Int32 × Int32)) := (if z ≤ x4.2 then some (.inr (x4.1, x4.2)) else (if x4.1 = 0 then some (.inr (x4.1, x4.2)) else (if ixo ((10 * y) + x4.2) 600 then (if ixo x4.2 16 then (if ¬ M.1 84 ((10 * y) + x4.2).toNatClampNeg = M.1 86 x4.2.toNatClampNeg then some (.inl (0, x4.2 + 1)) else some (.inl (1, x4.2 + 1))) else none) else none)))
def b208_M_comeTo_86 (y : Int32) (x10 : (Int32 × Int32)) (x20 : (Int32 × MS)) : Option ((Int32 × MS) ⊕ (Int32 × MS)) := (if 12 ≤ x20.1 then some (.inr (x20.1, x20.2)) else (if x10.1 = 0 then some (.inr (x20.1, x20.2)) else (if ixo ((12 * y) + x20.1) 720 then (if x20.2.1 85 ((12 * y) + x20.1).toNatClampNeg = 0 then some (.inl (x20.1 + 1, x20.2)) else (if ixo x20.1 12 then (if x20.2.1 85 ((12 * y) + x20.1).toNatClampNeg = x20.2.1 87 x20.1.toNatClampNeg then some (.inl (x20.1 + 1, x20.2)) else (lt (mw x20.2 85 ((12 * y) + x20.1).toNatClampNeg 0) fun M27 => (if ixo y 60 then (lt (mw M27 82 y.toNatClampNeg 1) fun M29 => some (.inl (x20.1 + 1, M29))) else none))) else none)) else none)))
def b208_M_comeTo_86' (y : Int32) (x38 : (Int32 × Int32)) (x48 : (Int32 × MS)) : Option ((Int32 × MS) ⊕ (Int32 × MS)) := (if 12 ≤ x48.1 then some (.inr (x48.1, x48.2)) else (if x38.1 = 0 then some (.inr (x48.1, x48.2)) else (if ixo ((12 * y) + x48.1) 720 then (if x48.2.1 85 ((12 * y) + x48.1).toNatClampNeg = 0 then some (.inl (x48.1 + 1, x48.2)) else (if ixo x48.1 12 then (if x48.2.1 85 ((12 * y) + x48.1).toNatClampNeg = x48.2.1 87 x48.1.toNatClampNeg then some (.inl (x48.1 + 1, x48.2)) else (lt (mw x48.2 85 ((12 * y) + x48.1).toNatClampNeg 0) fun M55 => (if ixo y 60 then (lt (mw M55 82 y.toNatClampNeg 1) fun M57 => some (.inl (x48.1 + 1, M57))) else none))) else none)) else none)))
def b74_M_comeTo_86 (y : Int32) (z : Int32) (x74 : (Int32 × MS)) : Option ((Int32 × MS) ⊕ (Int32 × MS)) := (if z ≤ x74.1 then some (.inr (x74.1, x74.2)) else (if ixo x74.1 16 then (if ixo ((10 * y) + x74.1) 600 then (lt (mw x74.2 84 ((10 * y) + x74.1).toNatClampNeg (x74.2.1 86 x74.1.toNatClampNeg)) fun M78 => some (.inl (x74.1 + 1, M78))) else none) else none))
def b106_M_comeTo_86 (y : Int32) (x85 : (Int32 × MS)) : Option ((Int32 × MS) ⊕ (Int32 × MS)) := (if 12 ≤ x85.1 then some (.inr (x85.1, x85.2)) else (if ixo x85.1 12 then (if ixo ((12 * y) + x85.1) 720 then (lt (mw x85.2 85 ((12 * y) + x85.1).toNatClampNeg (x85.2.1 87 x85.1.toNatClampNeg)) fun M89 => some (.inl (x85.1 + 1, M89))) else none) else none))
def f_M_comeTo_86 (x : Int32) (y : Int32) (z : Int32) (M : MS) : Option (Bool × MS) := (if ixo y 60 then (if ¬ M.1 81 y.toNatClampNeg = 0 then (if ¬ M.1 83 y.toNatClampNeg = z then ((lp (b161_M_comeTo_86 y z M) 10000 ((0 : Int32), (0 : Int32))).bind fun x10 => ((lp (b208_M_comeTo_86 y x10) 10000 ((0 : Int32), M)).bind fun x30 => (if x10.1 = 1 then some (true, x30.2) else (if x10.1 = 0 then some (false, x30.2) else none)))) else ((lp (b161_M_comeTo_86 y z M) 10000 ((1 : Int32), (0 : Int32))).bind fun x38 => ((lp (b208_M_comeTo_86' y x38) 10000 ((0 : Int32), M)).bind fun x58 => (if x38.1 = 1 then some (true, x58.2) else (if x38.1 = 0 then some (false, x58.2) else none))))) else (lt (mw M 81 y.toNatClampNeg 1) fun M60 => (lt (mw M60 82 y.toNatClampNeg 1) fun M61 => (if ixo ((60 * x) + y) 1440 then (lt (mw M61 88 ((60 * x) + y).toNatClampNeg 1) fun M63 => (lt (mw M63 83 y.toNatClampNeg z) fun M64 => (if ixo x 24 then (((if z ≤ M64.1 89 x.toNatClampNeg then some (M64.1 89 x.toNatClampNeg) else some z) : Option (Int32)).bind fun x67 => (lt (mw M64 89 x.toNatClampNeg x67) fun M68 => ((lp (b74_M_comeTo_86 y z) 10000 ((0 : Int32), M68)).bind fun x79 => ((lp (b106_M_comeTo_86 y) 10000 ((0 : Int32), x79.2)).bind fun x90 => some (true, x90.2))))) else none))) else none)))) else none)
set_option maxRecDepth 100000 in
set_option maxHeartbeats 4000000 in
theorem s_M_comeTo_86 {L : Nat} {xs : Nat → Int32} {X : XS} {M : MS} {x : Int32} {y : Int32} {z : Int32} : Sp (mjOO L xs) 33 0 [some (.ref 60), some (.int x), some (.int y), some (.ref 86), some (.int z), none, none] [] (hS X M) (f_M_comeTo_86 x y z M) (KBM X) := by
  unfold f_M_comeTo_86
  refine Sp.step rfl rfl rfl rfl ?_
  refine Sp.step rfl rfl rfl (mg_F (f := 24) rfl rfl rfl rfl) ?_
  refine Sp.step rfl rfl rfl rfl ?_
  refine Sp.guard (fun e1 => ?_)
  refine Sp.step rfl rfl rfl (mld rfl rfl (by decide) e1) ?_
  refine Sp.if1 rfl rfl rfl rfl (fun e2 => ?_) (fun e2 => ?_)
  · refine Sp.step rfl rfl rfl rfl ?_
    refine Sp.step rfl rfl rfl (mg_F (f := 26) rfl rfl rfl rfl) ?_
    refine Sp.step rfl rfl rfl rfl ?_
    refine Sp.step rfl rfl rfl (mld rfl rfl (by decide) e1) ?_
    refine Sp.step rfl rfl rfl rfl ?_
    refine Sp.if2 rfl rfl rfl rfl (fun e3 => ?_) (fun e3 => ?_)
    · refine Sp.step rfl rfl rfl rfl ?_
      refine Sp.step rfl rfl rfl rfl ?_
      refine Sp.step rfl rfl rfl rfl ?_
      refine Sp.step rfl rfl rfl rfl ?_
      refine Sp.weak (l0 := [some (.ref 60), none, some (.int y), some (.ref 86), some (.int z), some (.int 0), some (.int 0)]) ⟨rfl, rfl, rfl, rfl, rfl, rfl, trivial⟩ ?_
      refine Sp.loopX (pe := 205) (mf := (fun (x4 : (Int32 × Int32)) => [some (.ref 60), none, some (.int y), some (.ref 86), some (.int z), some (.int x4.1), some (.int x4.2)])) (hf := (fun (x4 : (Int32 × Int32)) => hS X M)) (fun x4 => ?_) (fun x10 => ?_) _ _
      · unfold b161_M_comeTo_86
        refine Sp.step rfl rfl rfl rfl ?_
        refine Sp.step rfl rfl rfl rfl ?_
        refine Sp.if2 rfl rfl rfl rfl (fun e5 => ?_) (fun e5 => ?_)
        · exact Sp.jmp (l0 := [some (.ref 60), none, some (.int y), some (.ref 86), some (.int z), some (.int x4.1), some (.int x4.2)]) ⟨rfl, rfl, rfl, rfl, rfl, rfl, trivial⟩ (fun _ _ h => h)
        · refine Sp.step rfl rfl rfl rfl ?_
          refine Sp.if1 rfl rfl rfl rfl (fun e6 => ?_) (fun e6 => ?_)
          · exact Sp.jmp (l0 := [some (.ref 60), none, some (.int y), some (.ref 86), some (.int z), some (.int x4.1), some (.int x4.2)]) ⟨rfl, rfl, rfl, rfl, rfl, rfl, trivial⟩ (fun _ _ h => h)
          · refine Sp.step rfl rfl rfl rfl ?_
            refine Sp.step rfl rfl rfl (mg_F (f := 27) rfl rfl rfl rfl) ?_
            refine Sp.step rfl rfl rfl rfl ?_
            refine Sp.step rfl rfl rfl rfl ?_
            refine Sp.step rfl rfl rfl rfl ?_
            refine Sp.step rfl rfl rfl rfl ?_
            refine Sp.step rfl rfl rfl rfl ?_
            refine Sp.guard (fun e7 => ?_)
            refine Sp.step rfl rfl rfl (mld rfl rfl (by decide) e7) ?_
            refine Sp.step rfl rfl rfl rfl ?_
            refine Sp.step rfl rfl rfl rfl ?_
            refine Sp.guard (fun e8 => ?_)
            refine Sp.step rfl rfl rfl (mld rfl rfl (by decide) e8) ?_
            refine Sp.if2 rfl rfl rfl rfl (fun e9 => ?_) (fun e9 => ?_)
            · refine Sp.step rfl rfl rfl rfl ?_
              refine Sp.step rfl rfl rfl rfl ?_
              refine Sp.step rfl rfl rfl rfl ?_
              refine Sp.step rfl rfl rfl rfl ?_
              exact Sp.jmp (l0 := [some (.ref 60), none, some (.int y), some (.ref 86), some (.int z), some (.int 0), some (.int (x4.2 + 1))]) ⟨rfl, rfl, rfl, rfl, rfl, rfl, trivial⟩ (fun _ _ h => h)
            · refine Sp.step rfl rfl rfl rfl ?_
              refine Sp.step rfl rfl rfl rfl ?_
              refine Sp.step rfl rfl rfl rfl ?_
              refine Sp.step rfl rfl rfl rfl ?_
              refine Sp.step rfl rfl rfl rfl ?_
              exact Sp.jmp (l0 := [some (.ref 60), none, some (.int y), some (.ref 86), some (.int z), some (.int 1), some (.int (x4.2 + 1))]) ⟨rfl, rfl, rfl, rfl, rfl, rfl, trivial⟩ (fun _ _ h => h)
      · refine Sp.step rfl rfl rfl rfl ?_
        refine Sp.step rfl rfl rfl rfl ?_
        refine Sp.weak (l0 := [some (.ref 60), none, some (.int y), none, none, some (.int x10.1), some (.int 0)]) ⟨rfl, rfl, rfl, rfl, trivial⟩ ?_
        refine Sp.loopX (pe := 283) (mf := (fun (x20 : (Int32 × MS)) => [some (.ref 60), none, some (.int y), none, none, some (.int x10.1), some (.int x20.1)])) (hf := (fun (x20 : (Int32 × MS)) => hS X x20.2)) (fun x20 => ?_) (fun x30 => ?_) _ _
        · unfold b208_M_comeTo_86
          refine Sp.step rfl rfl rfl rfl ?_
          refine Sp.step rfl rfl rfl rfl ?_
          refine Sp.if2 rfl rfl rfl rfl (fun e21 => ?_) (fun e21 => ?_)
          · exact Sp.jmp (l0 := [some (.ref 60), none, some (.int y), none, none, some (.int x10.1), some (.int x20.1)]) ⟨rfl, rfl, rfl, rfl, trivial⟩ (fun _ _ h => h)
          · refine Sp.step rfl rfl rfl rfl ?_
            refine Sp.if1 rfl rfl rfl rfl (fun e22 => ?_) (fun e22 => ?_)
            · exact Sp.jmp (l0 := [some (.ref 60), none, some (.int y), none, none, some (.int x10.1), some (.int x20.1)]) ⟨rfl, rfl, rfl, rfl, trivial⟩ (fun _ _ h => h)
            · refine Sp.step rfl rfl rfl rfl ?_
              refine Sp.step rfl rfl rfl (mg_F (f := 28) rfl rfl rfl rfl) ?_
              refine Sp.step rfl rfl rfl rfl ?_
              refine Sp.step rfl rfl rfl rfl ?_
              refine Sp.step rfl rfl rfl rfl ?_
              refine Sp.step rfl rfl rfl rfl ?_
              refine Sp.step rfl rfl rfl rfl ?_
              refine Sp.guard (fun e23 => ?_)
              refine Sp.step rfl rfl rfl (mld rfl rfl (by decide) e23) ?_
              refine Sp.if1 rfl rfl rfl rfl (fun e24 => ?_) (fun e24 => ?_)
              · refine Sp.step rfl rfl rfl rfl ?_
                refine Sp.step rfl rfl rfl rfl ?_
                exact Sp.jmp (l0 := [some (.ref 60), none, some (.int y), none, none, some (.int x10.1), some (.int (x20.1 + 1))]) ⟨rfl, rfl, rfl, rfl, trivial⟩ (fun _ _ h => h)
              · refine Sp.step rfl rfl rfl rfl ?_
                refine Sp.step rfl rfl rfl (mg_F (f := 28) rfl rfl rfl rfl) ?_
                refine Sp.step rfl rfl rfl rfl ?_
                refine Sp.step rfl rfl rfl rfl ?_
                refine Sp.step rfl rfl rfl rfl ?_
                refine Sp.step rfl rfl rfl rfl ?_
                refine Sp.step rfl rfl rfl rfl ?_
                refine Sp.step rfl rfl rfl (mld rfl rfl (by decide) e23) ?_
                refine Sp.step rfl rfl rfl rfl ?_
                refine Sp.step rfl rfl rfl (mg_F (f := 31) rfl rfl rfl rfl) ?_
                refine Sp.step rfl rfl rfl rfl ?_
                refine Sp.guard (fun e25 => ?_)
                refine Sp.step rfl rfl rfl (mld rfl rfl (by decide) e25) ?_
                refine Sp.if2 rfl rfl rfl rfl (fun e26 => ?_) (fun e26 => ?_)
                · refine Sp.step rfl rfl rfl rfl ?_
                  refine Sp.step rfl rfl rfl rfl ?_
                  exact Sp.jmp (l0 := [some (.ref 60), none, some (.int y), none, none, some (.int x10.1), some (.int (x20.1 + 1))]) ⟨rfl, rfl, rfl, rfl, trivial⟩ (fun _ _ h => h)
                · refine Sp.step rfl rfl rfl rfl ?_
                  refine Sp.step rfl rfl rfl (mg_F (f := 28) rfl rfl rfl rfl) ?_
                  refine Sp.step rfl rfl rfl rfl ?_
                  refine Sp.step rfl rfl rfl rfl ?_
                  refine Sp.step rfl rfl rfl rfl ?_
                  refine Sp.step rfl rfl rfl rfl ?_
                  refine Sp.step rfl rfl rfl rfl ?_
                  refine Sp.step rfl rfl rfl rfl ?_
                  refine Sp.step rfl rfl rfl (mst rfl rfl (by decide) e23) ?_
                  refine Sp.step rfl rfl rfl rfl ?_
                  refine Sp.step rfl rfl rfl (mg_F (f := 25) rfl rfl rfl rfl) ?_
                  refine Sp.step rfl rfl rfl rfl ?_
                  refine Sp.step rfl rfl rfl rfl ?_
                  refine Sp.guard (fun e28 => ?_)
                  refine Sp.step rfl rfl rfl (mst1 rfl rfl e28) ?_
                  refine Sp.step rfl rfl rfl rfl ?_
                  refine Sp.step rfl rfl rfl rfl ?_
                  exact Sp.jmp (l0 := [some (.ref 60), none, some (.int y), none, none, some (.int x10.1), some (.int (x20.1 + 1))]) ⟨rfl, rfl, rfl, rfl, trivial⟩ (fun _ _ h => h)
        · refine Sp.step rfl rfl rfl rfl ?_
          refine Sp.ite (fun e31 => ?_) (fun _ => Sp.guard (fun e31 => ?_))
          · exact Sp.iret rfl rfl rfl (by rw [e31]; rfl) (fun _ _ h => by rw [e31]; exact h)
          · exact Sp.iret rfl rfl rfl (by rw [e31]; rfl) (fun _ _ h => by rw [e31]; exact h)
    · refine Sp.step rfl rfl rfl rfl ?_
      refine Sp.step rfl rfl rfl rfl ?_
      refine Sp.step rfl rfl rfl rfl ?_
      refine Sp.step rfl rfl rfl rfl ?_
      refine Sp.step rfl rfl rfl rfl ?_
      refine Sp.weak (l0 := [some (.ref 60), none, some (.int y), some (.ref 86), some (.int z), some (.int 1), some (.int 0)]) ⟨rfl, rfl, rfl, rfl, rfl, rfl, trivial⟩ ?_
      refine Sp.loopX (pe := 205) (mf := (fun (x32 : (Int32 × Int32)) => [some (.ref 60), none, some (.int y), some (.ref 86), some (.int z), some (.int x32.1), some (.int x32.2)])) (hf := (fun (x32 : (Int32 × Int32)) => hS X M)) (fun x32 => ?_) (fun x38 => ?_) _ _
      · unfold b161_M_comeTo_86
        refine Sp.step rfl rfl rfl rfl ?_
        refine Sp.step rfl rfl rfl rfl ?_
        refine Sp.if2 rfl rfl rfl rfl (fun e33 => ?_) (fun e33 => ?_)
        · exact Sp.jmp (l0 := [some (.ref 60), none, some (.int y), some (.ref 86), some (.int z), some (.int x32.1), some (.int x32.2)]) ⟨rfl, rfl, rfl, rfl, rfl, rfl, trivial⟩ (fun _ _ h => h)
        · refine Sp.step rfl rfl rfl rfl ?_
          refine Sp.if1 rfl rfl rfl rfl (fun e34 => ?_) (fun e34 => ?_)
          · exact Sp.jmp (l0 := [some (.ref 60), none, some (.int y), some (.ref 86), some (.int z), some (.int x32.1), some (.int x32.2)]) ⟨rfl, rfl, rfl, rfl, rfl, rfl, trivial⟩ (fun _ _ h => h)
          · refine Sp.step rfl rfl rfl rfl ?_
            refine Sp.step rfl rfl rfl (mg_F (f := 27) rfl rfl rfl rfl) ?_
            refine Sp.step rfl rfl rfl rfl ?_
            refine Sp.step rfl rfl rfl rfl ?_
            refine Sp.step rfl rfl rfl rfl ?_
            refine Sp.step rfl rfl rfl rfl ?_
            refine Sp.step rfl rfl rfl rfl ?_
            refine Sp.guard (fun e35 => ?_)
            refine Sp.step rfl rfl rfl (mld rfl rfl (by decide) e35) ?_
            refine Sp.step rfl rfl rfl rfl ?_
            refine Sp.step rfl rfl rfl rfl ?_
            refine Sp.guard (fun e36 => ?_)
            refine Sp.step rfl rfl rfl (mld rfl rfl (by decide) e36) ?_
            refine Sp.if2 rfl rfl rfl rfl (fun e37 => ?_) (fun e37 => ?_)
            · refine Sp.step rfl rfl rfl rfl ?_
              refine Sp.step rfl rfl rfl rfl ?_
              refine Sp.step rfl rfl rfl rfl ?_
              refine Sp.step rfl rfl rfl rfl ?_
              exact Sp.jmp (l0 := [some (.ref 60), none, some (.int y), some (.ref 86), some (.int z), some (.int 0), some (.int (x32.2 + 1))]) ⟨rfl, rfl, rfl, rfl, rfl, rfl, trivial⟩ (fun _ _ h => h)
            · refine Sp.step rfl rfl rfl rfl ?_
              refine Sp.step rfl rfl rfl rfl ?_
              refine Sp.step rfl rfl rfl rfl ?_
              refine Sp.step rfl rfl rfl rfl ?_
              refine Sp.step rfl rfl rfl rfl ?_
              exact Sp.jmp (l0 := [some (.ref 60), none, some (.int y), some (.ref 86), some (.int z), some (.int 1), some (.int (x32.2 + 1))]) ⟨rfl, rfl, rfl, rfl, rfl, rfl, trivial⟩ (fun _ _ h => h)
      · refine Sp.step rfl rfl rfl rfl ?_
        refine Sp.step rfl rfl rfl rfl ?_
        refine Sp.weak (l0 := [some (.ref 60), none, some (.int y), none, none, some (.int x38.1), some (.int 0)]) ⟨rfl, rfl, rfl, rfl, trivial⟩ ?_
        refine Sp.loopX (pe := 283) (mf := (fun (x48 : (Int32 × MS)) => [some (.ref 60), none, some (.int y), none, none, some (.int x38.1), some (.int x48.1)])) (hf := (fun (x48 : (Int32 × MS)) => hS X x48.2)) (fun x48 => ?_) (fun x58 => ?_) _ _
        · unfold b208_M_comeTo_86'
          refine Sp.step rfl rfl rfl rfl ?_
          refine Sp.step rfl rfl rfl rfl ?_
          refine Sp.if2 rfl rfl rfl rfl (fun e49 => ?_) (fun e49 => ?_)
          · exact Sp.jmp (l0 := [some (.ref 60), none, some (.int y), none, none, some (.int x38.1), some (.int x48.1)]) ⟨rfl, rfl, rfl, rfl, trivial⟩ (fun _ _ h => h)
          · refine Sp.step rfl rfl rfl rfl ?_
            refine Sp.if1 rfl rfl rfl rfl (fun e50 => ?_) (fun e50 => ?_)
            · exact Sp.jmp (l0 := [some (.ref 60), none, some (.int y), none, none, some (.int x38.1), some (.int x48.1)]) ⟨rfl, rfl, rfl, rfl, trivial⟩ (fun _ _ h => h)
            · refine Sp.step rfl rfl rfl rfl ?_
              refine Sp.step rfl rfl rfl (mg_F (f := 28) rfl rfl rfl rfl) ?_
              refine Sp.step rfl rfl rfl rfl ?_
              refine Sp.step rfl rfl rfl rfl ?_
              refine Sp.step rfl rfl rfl rfl ?_
              refine Sp.step rfl rfl rfl rfl ?_
              refine Sp.step rfl rfl rfl rfl ?_
              refine Sp.guard (fun e51 => ?_)
              refine Sp.step rfl rfl rfl (mld rfl rfl (by decide) e51) ?_
              refine Sp.if1 rfl rfl rfl rfl (fun e52 => ?_) (fun e52 => ?_)
              · refine Sp.step rfl rfl rfl rfl ?_
                refine Sp.step rfl rfl rfl rfl ?_
                exact Sp.jmp (l0 := [some (.ref 60), none, some (.int y), none, none, some (.int x38.1), some (.int (x48.1 + 1))]) ⟨rfl, rfl, rfl, rfl, trivial⟩ (fun _ _ h => h)
              · refine Sp.step rfl rfl rfl rfl ?_
                refine Sp.step rfl rfl rfl (mg_F (f := 28) rfl rfl rfl rfl) ?_
                refine Sp.step rfl rfl rfl rfl ?_
                refine Sp.step rfl rfl rfl rfl ?_
                refine Sp.step rfl rfl rfl rfl ?_
                refine Sp.step rfl rfl rfl rfl ?_
                refine Sp.step rfl rfl rfl rfl ?_
                refine Sp.step rfl rfl rfl (mld rfl rfl (by decide) e51) ?_
                refine Sp.step rfl rfl rfl rfl ?_
                refine Sp.step rfl rfl rfl (mg_F (f := 31) rfl rfl rfl rfl) ?_
                refine Sp.step rfl rfl rfl rfl ?_
                refine Sp.guard (fun e53 => ?_)
                refine Sp.step rfl rfl rfl (mld rfl rfl (by decide) e53) ?_
                refine Sp.if2 rfl rfl rfl rfl (fun e54 => ?_) (fun e54 => ?_)
                · refine Sp.step rfl rfl rfl rfl ?_
                  refine Sp.step rfl rfl rfl rfl ?_
                  exact Sp.jmp (l0 := [some (.ref 60), none, some (.int y), none, none, some (.int x38.1), some (.int (x48.1 + 1))]) ⟨rfl, rfl, rfl, rfl, trivial⟩ (fun _ _ h => h)
                · refine Sp.step rfl rfl rfl rfl ?_
                  refine Sp.step rfl rfl rfl (mg_F (f := 28) rfl rfl rfl rfl) ?_
                  refine Sp.step rfl rfl rfl rfl ?_
                  refine Sp.step rfl rfl rfl rfl ?_
                  refine Sp.step rfl rfl rfl rfl ?_
                  refine Sp.step rfl rfl rfl rfl ?_
                  refine Sp.step rfl rfl rfl rfl ?_
                  refine Sp.step rfl rfl rfl rfl ?_
                  refine Sp.step rfl rfl rfl (mst rfl rfl (by decide) e51) ?_
                  refine Sp.step rfl rfl rfl rfl ?_
                  refine Sp.step rfl rfl rfl (mg_F (f := 25) rfl rfl rfl rfl) ?_
                  refine Sp.step rfl rfl rfl rfl ?_
                  refine Sp.step rfl rfl rfl rfl ?_
                  refine Sp.guard (fun e56 => ?_)
                  refine Sp.step rfl rfl rfl (mst1 rfl rfl e56) ?_
                  refine Sp.step rfl rfl rfl rfl ?_
                  refine Sp.step rfl rfl rfl rfl ?_
                  exact Sp.jmp (l0 := [some (.ref 60), none, some (.int y), none, none, some (.int x38.1), some (.int (x48.1 + 1))]) ⟨rfl, rfl, rfl, rfl, trivial⟩ (fun _ _ h => h)
        · refine Sp.step rfl rfl rfl rfl ?_
          refine Sp.ite (fun e59 => ?_) (fun _ => Sp.guard (fun e59 => ?_))
          · exact Sp.iret rfl rfl rfl (by rw [e59]; rfl) (fun _ _ h => by rw [e59]; exact h)
          · exact Sp.iret rfl rfl rfl (by rw [e59]; rfl) (fun _ _ h => by rw [e59]; exact h)
  · refine Sp.step rfl rfl rfl rfl ?_
    refine Sp.step rfl rfl rfl (mg_F (f := 24) rfl rfl rfl rfl) ?_
    refine Sp.step rfl rfl rfl rfl ?_
    refine Sp.step rfl rfl rfl rfl ?_
    refine Sp.step rfl rfl rfl (mst1 rfl rfl e1) ?_
    refine Sp.step rfl rfl rfl rfl ?_
    refine Sp.step rfl rfl rfl (mg_F (f := 25) rfl rfl rfl rfl) ?_
    refine Sp.step rfl rfl rfl rfl ?_
    refine Sp.step rfl rfl rfl rfl ?_
    refine Sp.step rfl rfl rfl (mst1 rfl rfl e1) ?_
    refine Sp.step rfl rfl rfl rfl ?_
    refine Sp.step rfl rfl rfl (mg_F (f := 33) rfl rfl rfl rfl) ?_
    refine Sp.step rfl rfl rfl rfl ?_
    refine Sp.step rfl rfl rfl rfl ?_
    refine Sp.step rfl rfl rfl rfl ?_
    refine Sp.step rfl rfl rfl rfl ?_
    refine Sp.step rfl rfl rfl rfl ?_
    refine Sp.step rfl rfl rfl rfl ?_
    refine Sp.guard (fun e62 => ?_)
    refine Sp.step rfl rfl rfl (mst1 rfl rfl e62) ?_
    refine Sp.step rfl rfl rfl rfl ?_
    refine Sp.step rfl rfl rfl (mg_F (f := 26) rfl rfl rfl rfl) ?_
    refine Sp.step rfl rfl rfl rfl ?_
    refine Sp.step rfl rfl rfl rfl ?_
    refine Sp.step rfl rfl rfl (mst rfl rfl (by decide) e1) ?_
    refine Sp.step rfl rfl rfl rfl ?_
    refine Sp.step rfl rfl rfl (mg_F (f := 34) rfl rfl rfl rfl) ?_
    refine Sp.step rfl rfl rfl rfl ?_
    refine Sp.step rfl rfl rfl rfl ?_
    refine Sp.step rfl rfl rfl rfl ?_
    refine Sp.step rfl rfl rfl (mg_F (f := 34) rfl rfl rfl rfl) ?_
    refine Sp.step rfl rfl rfl rfl ?_
    refine Sp.guard (fun e65 => ?_)
    refine Sp.step rfl rfl rfl (mld rfl rfl (by decide) e65) ?_
    refine Sp.piece (pe := 70) (mf := (fun (x67 : Int32) => [some (.ref 60), none, some (.int y), some (.ref 86), some (.int z), none, none])) (sf := (fun (x67 : Int32) => [.int x67, .int x, .ref 89])) (hf := (fun (x67 : Int32) => hS X (mw (mw (mw (mw M 81 y.toNatClampNeg 1) 82 y.toNatClampNeg 1) 88 ((60 * x) + y).toNatClampNeg 1) 83 y.toNatClampNeg z))) ?_ (fun x67 => ?_)
    · refine Sp.if2 rfl rfl rfl rfl (fun e66 => ?_) (fun e66 => ?_)
      · refine Sp.step rfl rfl rfl rfl ?_
        refine Sp.step rfl rfl rfl (mg_F (f := 34) rfl rfl rfl rfl) ?_
        refine Sp.step rfl rfl rfl rfl ?_
        refine Sp.step rfl rfl rfl (mld rfl rfl (by decide) e65) ?_
        exact Sp.jmp (l0 := [some (.ref 60), none, some (.int y), some (.ref 86), some (.int z), none, none]) ⟨rfl, rfl, rfl, rfl, trivial⟩ (fun _ _ h => h)
      · refine Sp.step rfl rfl rfl rfl ?_
        refine Sp.step rfl rfl rfl rfl ?_
        exact Sp.jmp (l0 := [some (.ref 60), none, some (.int y), some (.ref 86), some (.int z), none, none]) ⟨rfl, rfl, rfl, rfl, trivial⟩ (fun _ _ h => h)
    · refine Sp.step rfl rfl rfl (mst rfl rfl (by decide) e65) ?_
      refine Sp.step rfl rfl rfl rfl ?_
      refine Sp.step rfl rfl rfl rfl ?_
      refine Sp.weak (l0 := [some (.ref 60), none, some (.int y), some (.ref 86), some (.int z), some (.int 0), none]) ⟨rfl, rfl, rfl, rfl, rfl, trivial⟩ ?_
      refine Sp.loopX (pe := 103) (mf := (fun (x74 : (Int32 × MS)) => [some (.ref 60), none, some (.int y), some (.ref 86), some (.int z), some (.int x74.1), none])) (hf := (fun (x74 : (Int32 × MS)) => hS X x74.2)) (fun x74 => ?_) (fun x79 => ?_) _ _
      · unfold b74_M_comeTo_86
        refine Sp.step rfl rfl rfl rfl ?_
        refine Sp.step rfl rfl rfl rfl ?_
        refine Sp.if2 rfl rfl rfl rfl (fun e75 => ?_) (fun e75 => ?_)
        · exact Sp.jmp (l0 := [some (.ref 60), none, some (.int y), some (.ref 86), some (.int z), some (.int x74.1), none]) ⟨rfl, rfl, rfl, rfl, rfl, trivial⟩ (fun _ _ h => h)
        · refine Sp.step rfl rfl rfl rfl ?_
          refine Sp.step rfl rfl rfl (mg_F (f := 27) rfl rfl rfl rfl) ?_
          refine Sp.step rfl rfl rfl rfl ?_
          refine Sp.step rfl rfl rfl rfl ?_
          refine Sp.step rfl rfl rfl rfl ?_
          refine Sp.step rfl rfl rfl rfl ?_
          refine Sp.step rfl rfl rfl rfl ?_
          refine Sp.step rfl rfl rfl rfl ?_
          refine Sp.step rfl rfl rfl rfl ?_
          refine Sp.guard (fun e76 => ?_)
          refine Sp.step rfl rfl rfl (mld rfl rfl (by decide) e76) ?_
          refine Sp.guard (fun e77 => ?_)
          refine Sp.step rfl rfl rfl (mst rfl rfl (by decide) e77) ?_
          refine Sp.step rfl rfl rfl rfl ?_
          refine Sp.step rfl rfl rfl rfl ?_
          exact Sp.jmp (l0 := [some (.ref 60), none, some (.int y), some (.ref 86), some (.int z), some (.int (x74.1 + 1)), none]) ⟨rfl, rfl, rfl, rfl, rfl, trivial⟩ (fun _ _ h => h)
      · refine Sp.step rfl rfl rfl rfl ?_
        refine Sp.step rfl rfl rfl rfl ?_
        refine Sp.weak (l0 := [some (.ref 60), none, some (.int y), none, none, some (.int 0), none]) ⟨rfl, rfl, rfl, trivial⟩ ?_
        refine Sp.loopX (pe := 138) (mf := (fun (x85 : (Int32 × MS)) => [some (.ref 60), none, some (.int y), none, none, some (.int x85.1), none])) (hf := (fun (x85 : (Int32 × MS)) => hS X x85.2)) (fun x85 => ?_) (fun x90 => ?_) _ _
        · unfold b106_M_comeTo_86
          refine Sp.step rfl rfl rfl rfl ?_
          refine Sp.step rfl rfl rfl rfl ?_
          refine Sp.if2 rfl rfl rfl rfl (fun e86 => ?_) (fun e86 => ?_)
          · exact Sp.jmp (l0 := [some (.ref 60), none, some (.int y), none, none, some (.int x85.1), none]) ⟨rfl, rfl, rfl, trivial⟩ (fun _ _ h => h)
          · refine Sp.step rfl rfl rfl rfl ?_
            refine Sp.step rfl rfl rfl (mg_F (f := 28) rfl rfl rfl rfl) ?_
            refine Sp.step rfl rfl rfl rfl ?_
            refine Sp.step rfl rfl rfl rfl ?_
            refine Sp.step rfl rfl rfl rfl ?_
            refine Sp.step rfl rfl rfl rfl ?_
            refine Sp.step rfl rfl rfl rfl ?_
            refine Sp.step rfl rfl rfl rfl ?_
            refine Sp.step rfl rfl rfl (mg_F (f := 31) rfl rfl rfl rfl) ?_
            refine Sp.step rfl rfl rfl rfl ?_
            refine Sp.guard (fun e87 => ?_)
            refine Sp.step rfl rfl rfl (mld rfl rfl (by decide) e87) ?_
            refine Sp.guard (fun e88 => ?_)
            refine Sp.step rfl rfl rfl (mst rfl rfl (by decide) e88) ?_
            refine Sp.step rfl rfl rfl rfl ?_
            refine Sp.step rfl rfl rfl rfl ?_
            exact Sp.jmp (l0 := [some (.ref 60), none, some (.int y), none, none, some (.int (x85.1 + 1)), none]) ⟨rfl, rfl, rfl, trivial⟩ (fun _ _ h => h)
        · refine Sp.step rfl rfl rfl rfl ?_
          exact Sp.iret rfl rfl rfl rfl (fun _ _ h => h)
def b2_M_nextLook (x : Int32) (M : MS) (x1 : Int32) : Option (Int32 ⊕ Int32) := (if ixo x 24 then (if M.1 70 x.toNatClampNeg ≤ x1 then some (.inr (-2)) else (if ixo x1 60 then (if M.1 82 x1.toNatClampNeg = 0 then some (.inl (x1 + 1)) else some (.inr x1)) else none)) else none)
def f_M_nextLook (x : Int32) (M : MS) : Option Int32 := (lp (b2_M_nextLook x M) 10000 (0 : Int32))
set_option maxRecDepth 100000 in
set_option maxHeartbeats 4000000 in
theorem s_M_nextLook {L : Nat} {xs : Nat → Int32} {X : XS} {M : MS} {x : Int32} : Sp (mjOO L xs) 42 0 [some (.ref 60), some (.int x), none] [] (hS X M) (f_M_nextLook x M) (KQ (hS X M)) := by
  unfold f_M_nextLook
  refine Sp.step rfl rfl rfl rfl ?_
  refine Sp.step rfl rfl rfl rfl ?_
  refine Sp.weak (l0 := [some (.ref 60), some (.int x), some (.int 0)]) ⟨rfl, rfl, rfl, trivial⟩ ?_
  refine Sp.loopL (mf := (fun (x1 : Int32) => [some (.ref 60), some (.int x), some (.int x1)])) (hf := (fun (x1 : Int32) => hS X M)) (fun x1 => ?_) _ _
  unfold b2_M_nextLook
  refine Sp.step rfl rfl rfl rfl ?_
  refine Sp.step rfl rfl rfl rfl ?_
  refine Sp.step rfl rfl rfl (mg_F (f := 10) rfl rfl rfl rfl) ?_
  refine Sp.step rfl rfl rfl rfl ?_
  refine Sp.guard (fun e2 => ?_)
  refine Sp.step rfl rfl rfl (mld rfl rfl (by decide) e2) ?_
  refine Sp.if2 rfl rfl rfl rfl (fun e3 => ?_) (fun e3 => ?_)
  · refine Sp.step rfl rfl rfl rfl ?_
    exact Sp.iret rfl rfl rfl rfl (fun _ _ h => h)
  · refine Sp.step rfl rfl rfl rfl ?_
    refine Sp.step rfl rfl rfl (mg_F (f := 25) rfl rfl rfl rfl) ?_
    refine Sp.step rfl rfl rfl rfl ?_
    refine Sp.guard (fun e4 => ?_)
    refine Sp.step rfl rfl rfl (mld rfl rfl (by decide) e4) ?_
    refine Sp.if1 rfl rfl rfl rfl (fun e5 => ?_) (fun e5 => ?_)
    · refine Sp.step rfl rfl rfl rfl ?_
      refine Sp.step rfl rfl rfl rfl ?_
      exact Sp.jmp (l0 := [some (.ref 60), some (.int x), some (.int (x1 + 1))]) ⟨rfl, rfl, rfl, trivial⟩ (fun _ _ h => h)
    · refine Sp.step rfl rfl rfl rfl ?_
      exact Sp.iret rfl rfl rfl rfl (fun _ _ h => h)
def b161_M_comeTo_90 (y : Int32) (z : Int32) (M : MS) (x4 : (Int32 × Int32)) : Option ((Int32 × Int32) ⊕ (Int32 × Int32)) := (if z ≤ x4.2 then some (.inr (x4.1, x4.2)) else (if x4.1 = 0 then some (.inr (x4.1, x4.2)) else (if ixo ((10 * y) + x4.2) 600 then (if ixo x4.2 10 then (if ¬ M.1 84 ((10 * y) + x4.2).toNatClampNeg = M.1 90 x4.2.toNatClampNeg then some (.inl (0, x4.2 + 1)) else some (.inl (1, x4.2 + 1))) else none) else none)))
def b208_M_comeTo_90 (y : Int32) (x10 : (Int32 × Int32)) (x20 : (Int32 × MS)) : Option ((Int32 × MS) ⊕ (Int32 × MS)) := (if 12 ≤ x20.1 then some (.inr (x20.1, x20.2)) else (if x10.1 = 0 then some (.inr (x20.1, x20.2)) else (if ixo ((12 * y) + x20.1) 720 then (if x20.2.1 85 ((12 * y) + x20.1).toNatClampNeg = 0 then some (.inl (x20.1 + 1, x20.2)) else (if ixo x20.1 12 then (if x20.2.1 85 ((12 * y) + x20.1).toNatClampNeg = x20.2.1 87 x20.1.toNatClampNeg then some (.inl (x20.1 + 1, x20.2)) else (lt (mw x20.2 85 ((12 * y) + x20.1).toNatClampNeg 0) fun M27 => (if ixo y 60 then (lt (mw M27 82 y.toNatClampNeg 1) fun M29 => some (.inl (x20.1 + 1, M29))) else none))) else none)) else none)))
def b208_M_comeTo_90' (y : Int32) (x38 : (Int32 × Int32)) (x48 : (Int32 × MS)) : Option ((Int32 × MS) ⊕ (Int32 × MS)) := (if 12 ≤ x48.1 then some (.inr (x48.1, x48.2)) else (if x38.1 = 0 then some (.inr (x48.1, x48.2)) else (if ixo ((12 * y) + x48.1) 720 then (if x48.2.1 85 ((12 * y) + x48.1).toNatClampNeg = 0 then some (.inl (x48.1 + 1, x48.2)) else (if ixo x48.1 12 then (if x48.2.1 85 ((12 * y) + x48.1).toNatClampNeg = x48.2.1 87 x48.1.toNatClampNeg then some (.inl (x48.1 + 1, x48.2)) else (lt (mw x48.2 85 ((12 * y) + x48.1).toNatClampNeg 0) fun M55 => (if ixo y 60 then (lt (mw M55 82 y.toNatClampNeg 1) fun M57 => some (.inl (x48.1 + 1, M57))) else none))) else none)) else none)))
def b74_M_comeTo_90 (y : Int32) (z : Int32) (x74 : (Int32 × MS)) : Option ((Int32 × MS) ⊕ (Int32 × MS)) := (if z ≤ x74.1 then some (.inr (x74.1, x74.2)) else (if ixo x74.1 10 then (if ixo ((10 * y) + x74.1) 600 then (lt (mw x74.2 84 ((10 * y) + x74.1).toNatClampNeg (x74.2.1 90 x74.1.toNatClampNeg)) fun M78 => some (.inl (x74.1 + 1, M78))) else none) else none))
def b106_M_comeTo_90 (y : Int32) (x85 : (Int32 × MS)) : Option ((Int32 × MS) ⊕ (Int32 × MS)) := (if 12 ≤ x85.1 then some (.inr (x85.1, x85.2)) else (if ixo x85.1 12 then (if ixo ((12 * y) + x85.1) 720 then (lt (mw x85.2 85 ((12 * y) + x85.1).toNatClampNeg (x85.2.1 87 x85.1.toNatClampNeg)) fun M89 => some (.inl (x85.1 + 1, M89))) else none) else none))
def f_M_comeTo_90 (x : Int32) (y : Int32) (z : Int32) (M : MS) : Option (Bool × MS) := (if ixo y 60 then (if ¬ M.1 81 y.toNatClampNeg = 0 then (if ¬ M.1 83 y.toNatClampNeg = z then ((lp (b161_M_comeTo_90 y z M) 10000 ((0 : Int32), (0 : Int32))).bind fun x10 => ((lp (b208_M_comeTo_90 y x10) 10000 ((0 : Int32), M)).bind fun x30 => (if x10.1 = 1 then some (true, x30.2) else (if x10.1 = 0 then some (false, x30.2) else none)))) else ((lp (b161_M_comeTo_90 y z M) 10000 ((1 : Int32), (0 : Int32))).bind fun x38 => ((lp (b208_M_comeTo_90' y x38) 10000 ((0 : Int32), M)).bind fun x58 => (if x38.1 = 1 then some (true, x58.2) else (if x38.1 = 0 then some (false, x58.2) else none))))) else (lt (mw M 81 y.toNatClampNeg 1) fun M60 => (lt (mw M60 82 y.toNatClampNeg 1) fun M61 => (if ixo ((60 * x) + y) 1440 then (lt (mw M61 88 ((60 * x) + y).toNatClampNeg 1) fun M63 => (lt (mw M63 83 y.toNatClampNeg z) fun M64 => (if ixo x 24 then (((if z ≤ M64.1 89 x.toNatClampNeg then some (M64.1 89 x.toNatClampNeg) else some z) : Option (Int32)).bind fun x67 => (lt (mw M64 89 x.toNatClampNeg x67) fun M68 => ((lp (b74_M_comeTo_90 y z) 10000 ((0 : Int32), M68)).bind fun x79 => ((lp (b106_M_comeTo_90 y) 10000 ((0 : Int32), x79.2)).bind fun x90 => some (true, x90.2))))) else none))) else none)))) else none)
set_option maxRecDepth 100000 in
set_option maxHeartbeats 4000000 in
theorem s_M_comeTo_90 {L : Nat} {xs : Nat → Int32} {X : XS} {M : MS} {x : Int32} {y : Int32} {z : Int32} : Sp (mjOO L xs) 33 0 [some (.ref 60), some (.int x), some (.int y), some (.ref 90), some (.int z), none, none] [] (hS X M) (f_M_comeTo_90 x y z M) (KBM X) := by
  unfold f_M_comeTo_90
  refine Sp.step rfl rfl rfl rfl ?_
  refine Sp.step rfl rfl rfl (mg_F (f := 24) rfl rfl rfl rfl) ?_
  refine Sp.step rfl rfl rfl rfl ?_
  refine Sp.guard (fun e1 => ?_)
  refine Sp.step rfl rfl rfl (mld rfl rfl (by decide) e1) ?_
  refine Sp.if1 rfl rfl rfl rfl (fun e2 => ?_) (fun e2 => ?_)
  · refine Sp.step rfl rfl rfl rfl ?_
    refine Sp.step rfl rfl rfl (mg_F (f := 26) rfl rfl rfl rfl) ?_
    refine Sp.step rfl rfl rfl rfl ?_
    refine Sp.step rfl rfl rfl (mld rfl rfl (by decide) e1) ?_
    refine Sp.step rfl rfl rfl rfl ?_
    refine Sp.if2 rfl rfl rfl rfl (fun e3 => ?_) (fun e3 => ?_)
    · refine Sp.step rfl rfl rfl rfl ?_
      refine Sp.step rfl rfl rfl rfl ?_
      refine Sp.step rfl rfl rfl rfl ?_
      refine Sp.step rfl rfl rfl rfl ?_
      refine Sp.weak (l0 := [some (.ref 60), none, some (.int y), some (.ref 90), some (.int z), some (.int 0), some (.int 0)]) ⟨rfl, rfl, rfl, rfl, rfl, rfl, trivial⟩ ?_
      refine Sp.loopX (pe := 205) (mf := (fun (x4 : (Int32 × Int32)) => [some (.ref 60), none, some (.int y), some (.ref 90), some (.int z), some (.int x4.1), some (.int x4.2)])) (hf := (fun (x4 : (Int32 × Int32)) => hS X M)) (fun x4 => ?_) (fun x10 => ?_) _ _
      · unfold b161_M_comeTo_90
        refine Sp.step rfl rfl rfl rfl ?_
        refine Sp.step rfl rfl rfl rfl ?_
        refine Sp.if2 rfl rfl rfl rfl (fun e5 => ?_) (fun e5 => ?_)
        · exact Sp.jmp (l0 := [some (.ref 60), none, some (.int y), some (.ref 90), some (.int z), some (.int x4.1), some (.int x4.2)]) ⟨rfl, rfl, rfl, rfl, rfl, rfl, trivial⟩ (fun _ _ h => h)
        · refine Sp.step rfl rfl rfl rfl ?_
          refine Sp.if1 rfl rfl rfl rfl (fun e6 => ?_) (fun e6 => ?_)
          · exact Sp.jmp (l0 := [some (.ref 60), none, some (.int y), some (.ref 90), some (.int z), some (.int x4.1), some (.int x4.2)]) ⟨rfl, rfl, rfl, rfl, rfl, rfl, trivial⟩ (fun _ _ h => h)
          · refine Sp.step rfl rfl rfl rfl ?_
            refine Sp.step rfl rfl rfl (mg_F (f := 27) rfl rfl rfl rfl) ?_
            refine Sp.step rfl rfl rfl rfl ?_
            refine Sp.step rfl rfl rfl rfl ?_
            refine Sp.step rfl rfl rfl rfl ?_
            refine Sp.step rfl rfl rfl rfl ?_
            refine Sp.step rfl rfl rfl rfl ?_
            refine Sp.guard (fun e7 => ?_)
            refine Sp.step rfl rfl rfl (mld rfl rfl (by decide) e7) ?_
            refine Sp.step rfl rfl rfl rfl ?_
            refine Sp.step rfl rfl rfl rfl ?_
            refine Sp.guard (fun e8 => ?_)
            refine Sp.step rfl rfl rfl (mld rfl rfl (by decide) e8) ?_
            refine Sp.if2 rfl rfl rfl rfl (fun e9 => ?_) (fun e9 => ?_)
            · refine Sp.step rfl rfl rfl rfl ?_
              refine Sp.step rfl rfl rfl rfl ?_
              refine Sp.step rfl rfl rfl rfl ?_
              refine Sp.step rfl rfl rfl rfl ?_
              exact Sp.jmp (l0 := [some (.ref 60), none, some (.int y), some (.ref 90), some (.int z), some (.int 0), some (.int (x4.2 + 1))]) ⟨rfl, rfl, rfl, rfl, rfl, rfl, trivial⟩ (fun _ _ h => h)
            · refine Sp.step rfl rfl rfl rfl ?_
              refine Sp.step rfl rfl rfl rfl ?_
              refine Sp.step rfl rfl rfl rfl ?_
              refine Sp.step rfl rfl rfl rfl ?_
              refine Sp.step rfl rfl rfl rfl ?_
              exact Sp.jmp (l0 := [some (.ref 60), none, some (.int y), some (.ref 90), some (.int z), some (.int 1), some (.int (x4.2 + 1))]) ⟨rfl, rfl, rfl, rfl, rfl, rfl, trivial⟩ (fun _ _ h => h)
      · refine Sp.step rfl rfl rfl rfl ?_
        refine Sp.step rfl rfl rfl rfl ?_
        refine Sp.weak (l0 := [some (.ref 60), none, some (.int y), none, none, some (.int x10.1), some (.int 0)]) ⟨rfl, rfl, rfl, rfl, trivial⟩ ?_
        refine Sp.loopX (pe := 283) (mf := (fun (x20 : (Int32 × MS)) => [some (.ref 60), none, some (.int y), none, none, some (.int x10.1), some (.int x20.1)])) (hf := (fun (x20 : (Int32 × MS)) => hS X x20.2)) (fun x20 => ?_) (fun x30 => ?_) _ _
        · unfold b208_M_comeTo_90
          refine Sp.step rfl rfl rfl rfl ?_
          refine Sp.step rfl rfl rfl rfl ?_
          refine Sp.if2 rfl rfl rfl rfl (fun e21 => ?_) (fun e21 => ?_)
          · exact Sp.jmp (l0 := [some (.ref 60), none, some (.int y), none, none, some (.int x10.1), some (.int x20.1)]) ⟨rfl, rfl, rfl, rfl, trivial⟩ (fun _ _ h => h)
          · refine Sp.step rfl rfl rfl rfl ?_
            refine Sp.if1 rfl rfl rfl rfl (fun e22 => ?_) (fun e22 => ?_)
            · exact Sp.jmp (l0 := [some (.ref 60), none, some (.int y), none, none, some (.int x10.1), some (.int x20.1)]) ⟨rfl, rfl, rfl, rfl, trivial⟩ (fun _ _ h => h)
            · refine Sp.step rfl rfl rfl rfl ?_
              refine Sp.step rfl rfl rfl (mg_F (f := 28) rfl rfl rfl rfl) ?_
              refine Sp.step rfl rfl rfl rfl ?_
              refine Sp.step rfl rfl rfl rfl ?_
              refine Sp.step rfl rfl rfl rfl ?_
              refine Sp.step rfl rfl rfl rfl ?_
              refine Sp.step rfl rfl rfl rfl ?_
              refine Sp.guard (fun e23 => ?_)
              refine Sp.step rfl rfl rfl (mld rfl rfl (by decide) e23) ?_
              refine Sp.if1 rfl rfl rfl rfl (fun e24 => ?_) (fun e24 => ?_)
              · refine Sp.step rfl rfl rfl rfl ?_
                refine Sp.step rfl rfl rfl rfl ?_
                exact Sp.jmp (l0 := [some (.ref 60), none, some (.int y), none, none, some (.int x10.1), some (.int (x20.1 + 1))]) ⟨rfl, rfl, rfl, rfl, trivial⟩ (fun _ _ h => h)
              · refine Sp.step rfl rfl rfl rfl ?_
                refine Sp.step rfl rfl rfl (mg_F (f := 28) rfl rfl rfl rfl) ?_
                refine Sp.step rfl rfl rfl rfl ?_
                refine Sp.step rfl rfl rfl rfl ?_
                refine Sp.step rfl rfl rfl rfl ?_
                refine Sp.step rfl rfl rfl rfl ?_
                refine Sp.step rfl rfl rfl rfl ?_
                refine Sp.step rfl rfl rfl (mld rfl rfl (by decide) e23) ?_
                refine Sp.step rfl rfl rfl rfl ?_
                refine Sp.step rfl rfl rfl (mg_F (f := 31) rfl rfl rfl rfl) ?_
                refine Sp.step rfl rfl rfl rfl ?_
                refine Sp.guard (fun e25 => ?_)
                refine Sp.step rfl rfl rfl (mld rfl rfl (by decide) e25) ?_
                refine Sp.if2 rfl rfl rfl rfl (fun e26 => ?_) (fun e26 => ?_)
                · refine Sp.step rfl rfl rfl rfl ?_
                  refine Sp.step rfl rfl rfl rfl ?_
                  exact Sp.jmp (l0 := [some (.ref 60), none, some (.int y), none, none, some (.int x10.1), some (.int (x20.1 + 1))]) ⟨rfl, rfl, rfl, rfl, trivial⟩ (fun _ _ h => h)
                · refine Sp.step rfl rfl rfl rfl ?_
                  refine Sp.step rfl rfl rfl (mg_F (f := 28) rfl rfl rfl rfl) ?_
                  refine Sp.step rfl rfl rfl rfl ?_
                  refine Sp.step rfl rfl rfl rfl ?_
                  refine Sp.step rfl rfl rfl rfl ?_
                  refine Sp.step rfl rfl rfl rfl ?_
                  refine Sp.step rfl rfl rfl rfl ?_
                  refine Sp.step rfl rfl rfl rfl ?_
                  refine Sp.step rfl rfl rfl (mst rfl rfl (by decide) e23) ?_
                  refine Sp.step rfl rfl rfl rfl ?_
                  refine Sp.step rfl rfl rfl (mg_F (f := 25) rfl rfl rfl rfl) ?_
                  refine Sp.step rfl rfl rfl rfl ?_
                  refine Sp.step rfl rfl rfl rfl ?_
                  refine Sp.guard (fun e28 => ?_)
                  refine Sp.step rfl rfl rfl (mst1 rfl rfl e28) ?_
                  refine Sp.step rfl rfl rfl rfl ?_
                  refine Sp.step rfl rfl rfl rfl ?_
                  exact Sp.jmp (l0 := [some (.ref 60), none, some (.int y), none, none, some (.int x10.1), some (.int (x20.1 + 1))]) ⟨rfl, rfl, rfl, rfl, trivial⟩ (fun _ _ h => h)
        · refine Sp.step rfl rfl rfl rfl ?_
          refine Sp.ite (fun e31 => ?_) (fun _ => Sp.guard (fun e31 => ?_))
          · exact Sp.iret rfl rfl rfl (by rw [e31]; rfl) (fun _ _ h => by rw [e31]; exact h)
          · exact Sp.iret rfl rfl rfl (by rw [e31]; rfl) (fun _ _ h => by rw [e31]; exact h)
    · refine Sp.step rfl rfl rfl rfl ?_
      refine Sp.step rfl rfl rfl rfl ?_
      refine Sp.step rfl rfl rfl rfl ?_
      refine Sp.step rfl rfl rfl rfl ?_
      refine Sp.step rfl rfl rfl rfl ?_
      refine Sp.weak (l0 := [some (.ref 60), none, some (.int y), some (.ref 90), some (.int z), some (.int 1), some (.int 0)]) ⟨rfl, rfl, rfl, rfl, rfl, rfl, trivial⟩ ?_
      refine Sp.loopX (pe := 205) (mf := (fun (x32 : (Int32 × Int32)) => [some (.ref 60), none, some (.int y), some (.ref 90), some (.int z), some (.int x32.1), some (.int x32.2)])) (hf := (fun (x32 : (Int32 × Int32)) => hS X M)) (fun x32 => ?_) (fun x38 => ?_) _ _
      · unfold b161_M_comeTo_90
        refine Sp.step rfl rfl rfl rfl ?_
        refine Sp.step rfl rfl rfl rfl ?_
        refine Sp.if2 rfl rfl rfl rfl (fun e33 => ?_) (fun e33 => ?_)
        · exact Sp.jmp (l0 := [some (.ref 60), none, some (.int y), some (.ref 90), some (.int z), some (.int x32.1), some (.int x32.2)]) ⟨rfl, rfl, rfl, rfl, rfl, rfl, trivial⟩ (fun _ _ h => h)
        · refine Sp.step rfl rfl rfl rfl ?_
          refine Sp.if1 rfl rfl rfl rfl (fun e34 => ?_) (fun e34 => ?_)
          · exact Sp.jmp (l0 := [some (.ref 60), none, some (.int y), some (.ref 90), some (.int z), some (.int x32.1), some (.int x32.2)]) ⟨rfl, rfl, rfl, rfl, rfl, rfl, trivial⟩ (fun _ _ h => h)
          · refine Sp.step rfl rfl rfl rfl ?_
            refine Sp.step rfl rfl rfl (mg_F (f := 27) rfl rfl rfl rfl) ?_
            refine Sp.step rfl rfl rfl rfl ?_
            refine Sp.step rfl rfl rfl rfl ?_
            refine Sp.step rfl rfl rfl rfl ?_
            refine Sp.step rfl rfl rfl rfl ?_
            refine Sp.step rfl rfl rfl rfl ?_
            refine Sp.guard (fun e35 => ?_)
            refine Sp.step rfl rfl rfl (mld rfl rfl (by decide) e35) ?_
            refine Sp.step rfl rfl rfl rfl ?_
            refine Sp.step rfl rfl rfl rfl ?_
            refine Sp.guard (fun e36 => ?_)
            refine Sp.step rfl rfl rfl (mld rfl rfl (by decide) e36) ?_
            refine Sp.if2 rfl rfl rfl rfl (fun e37 => ?_) (fun e37 => ?_)
            · refine Sp.step rfl rfl rfl rfl ?_
              refine Sp.step rfl rfl rfl rfl ?_
              refine Sp.step rfl rfl rfl rfl ?_
              refine Sp.step rfl rfl rfl rfl ?_
              exact Sp.jmp (l0 := [some (.ref 60), none, some (.int y), some (.ref 90), some (.int z), some (.int 0), some (.int (x32.2 + 1))]) ⟨rfl, rfl, rfl, rfl, rfl, rfl, trivial⟩ (fun _ _ h => h)
            · refine Sp.step rfl rfl rfl rfl ?_
              refine Sp.step rfl rfl rfl rfl ?_
              refine Sp.step rfl rfl rfl rfl ?_
              refine Sp.step rfl rfl rfl rfl ?_
              refine Sp.step rfl rfl rfl rfl ?_
              exact Sp.jmp (l0 := [some (.ref 60), none, some (.int y), some (.ref 90), some (.int z), some (.int 1), some (.int (x32.2 + 1))]) ⟨rfl, rfl, rfl, rfl, rfl, rfl, trivial⟩ (fun _ _ h => h)
      · refine Sp.step rfl rfl rfl rfl ?_
        refine Sp.step rfl rfl rfl rfl ?_
        refine Sp.weak (l0 := [some (.ref 60), none, some (.int y), none, none, some (.int x38.1), some (.int 0)]) ⟨rfl, rfl, rfl, rfl, trivial⟩ ?_
        refine Sp.loopX (pe := 283) (mf := (fun (x48 : (Int32 × MS)) => [some (.ref 60), none, some (.int y), none, none, some (.int x38.1), some (.int x48.1)])) (hf := (fun (x48 : (Int32 × MS)) => hS X x48.2)) (fun x48 => ?_) (fun x58 => ?_) _ _
        · unfold b208_M_comeTo_90'
          refine Sp.step rfl rfl rfl rfl ?_
          refine Sp.step rfl rfl rfl rfl ?_
          refine Sp.if2 rfl rfl rfl rfl (fun e49 => ?_) (fun e49 => ?_)
          · exact Sp.jmp (l0 := [some (.ref 60), none, some (.int y), none, none, some (.int x38.1), some (.int x48.1)]) ⟨rfl, rfl, rfl, rfl, trivial⟩ (fun _ _ h => h)
          · refine Sp.step rfl rfl rfl rfl ?_
            refine Sp.if1 rfl rfl rfl rfl (fun e50 => ?_) (fun e50 => ?_)
            · exact Sp.jmp (l0 := [some (.ref 60), none, some (.int y), none, none, some (.int x38.1), some (.int x48.1)]) ⟨rfl, rfl, rfl, rfl, trivial⟩ (fun _ _ h => h)
            · refine Sp.step rfl rfl rfl rfl ?_
              refine Sp.step rfl rfl rfl (mg_F (f := 28) rfl rfl rfl rfl) ?_
              refine Sp.step rfl rfl rfl rfl ?_
              refine Sp.step rfl rfl rfl rfl ?_
              refine Sp.step rfl rfl rfl rfl ?_
              refine Sp.step rfl rfl rfl rfl ?_
              refine Sp.step rfl rfl rfl rfl ?_
              refine Sp.guard (fun e51 => ?_)
              refine Sp.step rfl rfl rfl (mld rfl rfl (by decide) e51) ?_
              refine Sp.if1 rfl rfl rfl rfl (fun e52 => ?_) (fun e52 => ?_)
              · refine Sp.step rfl rfl rfl rfl ?_
                refine Sp.step rfl rfl rfl rfl ?_
                exact Sp.jmp (l0 := [some (.ref 60), none, some (.int y), none, none, some (.int x38.1), some (.int (x48.1 + 1))]) ⟨rfl, rfl, rfl, rfl, trivial⟩ (fun _ _ h => h)
              · refine Sp.step rfl rfl rfl rfl ?_
                refine Sp.step rfl rfl rfl (mg_F (f := 28) rfl rfl rfl rfl) ?_
                refine Sp.step rfl rfl rfl rfl ?_
                refine Sp.step rfl rfl rfl rfl ?_
                refine Sp.step rfl rfl rfl rfl ?_
                refine Sp.step rfl rfl rfl rfl ?_
                refine Sp.step rfl rfl rfl rfl ?_
                refine Sp.step rfl rfl rfl (mld rfl rfl (by decide) e51) ?_
                refine Sp.step rfl rfl rfl rfl ?_
                refine Sp.step rfl rfl rfl (mg_F (f := 31) rfl rfl rfl rfl) ?_
                refine Sp.step rfl rfl rfl rfl ?_
                refine Sp.guard (fun e53 => ?_)
                refine Sp.step rfl rfl rfl (mld rfl rfl (by decide) e53) ?_
                refine Sp.if2 rfl rfl rfl rfl (fun e54 => ?_) (fun e54 => ?_)
                · refine Sp.step rfl rfl rfl rfl ?_
                  refine Sp.step rfl rfl rfl rfl ?_
                  exact Sp.jmp (l0 := [some (.ref 60), none, some (.int y), none, none, some (.int x38.1), some (.int (x48.1 + 1))]) ⟨rfl, rfl, rfl, rfl, trivial⟩ (fun _ _ h => h)
                · refine Sp.step rfl rfl rfl rfl ?_
                  refine Sp.step rfl rfl rfl (mg_F (f := 28) rfl rfl rfl rfl) ?_
                  refine Sp.step rfl rfl rfl rfl ?_
                  refine Sp.step rfl rfl rfl rfl ?_
                  refine Sp.step rfl rfl rfl rfl ?_
                  refine Sp.step rfl rfl rfl rfl ?_
                  refine Sp.step rfl rfl rfl rfl ?_
                  refine Sp.step rfl rfl rfl rfl ?_
                  refine Sp.step rfl rfl rfl (mst rfl rfl (by decide) e51) ?_
                  refine Sp.step rfl rfl rfl rfl ?_
                  refine Sp.step rfl rfl rfl (mg_F (f := 25) rfl rfl rfl rfl) ?_
                  refine Sp.step rfl rfl rfl rfl ?_
                  refine Sp.step rfl rfl rfl rfl ?_
                  refine Sp.guard (fun e56 => ?_)
                  refine Sp.step rfl rfl rfl (mst1 rfl rfl e56) ?_
                  refine Sp.step rfl rfl rfl rfl ?_
                  refine Sp.step rfl rfl rfl rfl ?_
                  exact Sp.jmp (l0 := [some (.ref 60), none, some (.int y), none, none, some (.int x38.1), some (.int (x48.1 + 1))]) ⟨rfl, rfl, rfl, rfl, trivial⟩ (fun _ _ h => h)
        · refine Sp.step rfl rfl rfl rfl ?_
          refine Sp.ite (fun e59 => ?_) (fun _ => Sp.guard (fun e59 => ?_))
          · exact Sp.iret rfl rfl rfl (by rw [e59]; rfl) (fun _ _ h => by rw [e59]; exact h)
          · exact Sp.iret rfl rfl rfl (by rw [e59]; rfl) (fun _ _ h => by rw [e59]; exact h)
  · refine Sp.step rfl rfl rfl rfl ?_
    refine Sp.step rfl rfl rfl (mg_F (f := 24) rfl rfl rfl rfl) ?_
    refine Sp.step rfl rfl rfl rfl ?_
    refine Sp.step rfl rfl rfl rfl ?_
    refine Sp.step rfl rfl rfl (mst1 rfl rfl e1) ?_
    refine Sp.step rfl rfl rfl rfl ?_
    refine Sp.step rfl rfl rfl (mg_F (f := 25) rfl rfl rfl rfl) ?_
    refine Sp.step rfl rfl rfl rfl ?_
    refine Sp.step rfl rfl rfl rfl ?_
    refine Sp.step rfl rfl rfl (mst1 rfl rfl e1) ?_
    refine Sp.step rfl rfl rfl rfl ?_
    refine Sp.step rfl rfl rfl (mg_F (f := 33) rfl rfl rfl rfl) ?_
    refine Sp.step rfl rfl rfl rfl ?_
    refine Sp.step rfl rfl rfl rfl ?_
    refine Sp.step rfl rfl rfl rfl ?_
    refine Sp.step rfl rfl rfl rfl ?_
    refine Sp.step rfl rfl rfl rfl ?_
    refine Sp.step rfl rfl rfl rfl ?_
    refine Sp.guard (fun e62 => ?_)
    refine Sp.step rfl rfl rfl (mst1 rfl rfl e62) ?_
    refine Sp.step rfl rfl rfl rfl ?_
    refine Sp.step rfl rfl rfl (mg_F (f := 26) rfl rfl rfl rfl) ?_
    refine Sp.step rfl rfl rfl rfl ?_
    refine Sp.step rfl rfl rfl rfl ?_
    refine Sp.step rfl rfl rfl (mst rfl rfl (by decide) e1) ?_
    refine Sp.step rfl rfl rfl rfl ?_
    refine Sp.step rfl rfl rfl (mg_F (f := 34) rfl rfl rfl rfl) ?_
    refine Sp.step rfl rfl rfl rfl ?_
    refine Sp.step rfl rfl rfl rfl ?_
    refine Sp.step rfl rfl rfl rfl ?_
    refine Sp.step rfl rfl rfl (mg_F (f := 34) rfl rfl rfl rfl) ?_
    refine Sp.step rfl rfl rfl rfl ?_
    refine Sp.guard (fun e65 => ?_)
    refine Sp.step rfl rfl rfl (mld rfl rfl (by decide) e65) ?_
    refine Sp.piece (pe := 70) (mf := (fun (x67 : Int32) => [some (.ref 60), none, some (.int y), some (.ref 90), some (.int z), none, none])) (sf := (fun (x67 : Int32) => [.int x67, .int x, .ref 89])) (hf := (fun (x67 : Int32) => hS X (mw (mw (mw (mw M 81 y.toNatClampNeg 1) 82 y.toNatClampNeg 1) 88 ((60 * x) + y).toNatClampNeg 1) 83 y.toNatClampNeg z))) ?_ (fun x67 => ?_)
    · refine Sp.if2 rfl rfl rfl rfl (fun e66 => ?_) (fun e66 => ?_)
      · refine Sp.step rfl rfl rfl rfl ?_
        refine Sp.step rfl rfl rfl (mg_F (f := 34) rfl rfl rfl rfl) ?_
        refine Sp.step rfl rfl rfl rfl ?_
        refine Sp.step rfl rfl rfl (mld rfl rfl (by decide) e65) ?_
        exact Sp.jmp (l0 := [some (.ref 60), none, some (.int y), some (.ref 90), some (.int z), none, none]) ⟨rfl, rfl, rfl, rfl, trivial⟩ (fun _ _ h => h)
      · refine Sp.step rfl rfl rfl rfl ?_
        refine Sp.step rfl rfl rfl rfl ?_
        exact Sp.jmp (l0 := [some (.ref 60), none, some (.int y), some (.ref 90), some (.int z), none, none]) ⟨rfl, rfl, rfl, rfl, trivial⟩ (fun _ _ h => h)
    · refine Sp.step rfl rfl rfl (mst rfl rfl (by decide) e65) ?_
      refine Sp.step rfl rfl rfl rfl ?_
      refine Sp.step rfl rfl rfl rfl ?_
      refine Sp.weak (l0 := [some (.ref 60), none, some (.int y), some (.ref 90), some (.int z), some (.int 0), none]) ⟨rfl, rfl, rfl, rfl, rfl, trivial⟩ ?_
      refine Sp.loopX (pe := 103) (mf := (fun (x74 : (Int32 × MS)) => [some (.ref 60), none, some (.int y), some (.ref 90), some (.int z), some (.int x74.1), none])) (hf := (fun (x74 : (Int32 × MS)) => hS X x74.2)) (fun x74 => ?_) (fun x79 => ?_) _ _
      · unfold b74_M_comeTo_90
        refine Sp.step rfl rfl rfl rfl ?_
        refine Sp.step rfl rfl rfl rfl ?_
        refine Sp.if2 rfl rfl rfl rfl (fun e75 => ?_) (fun e75 => ?_)
        · exact Sp.jmp (l0 := [some (.ref 60), none, some (.int y), some (.ref 90), some (.int z), some (.int x74.1), none]) ⟨rfl, rfl, rfl, rfl, rfl, trivial⟩ (fun _ _ h => h)
        · refine Sp.step rfl rfl rfl rfl ?_
          refine Sp.step rfl rfl rfl (mg_F (f := 27) rfl rfl rfl rfl) ?_
          refine Sp.step rfl rfl rfl rfl ?_
          refine Sp.step rfl rfl rfl rfl ?_
          refine Sp.step rfl rfl rfl rfl ?_
          refine Sp.step rfl rfl rfl rfl ?_
          refine Sp.step rfl rfl rfl rfl ?_
          refine Sp.step rfl rfl rfl rfl ?_
          refine Sp.step rfl rfl rfl rfl ?_
          refine Sp.guard (fun e76 => ?_)
          refine Sp.step rfl rfl rfl (mld rfl rfl (by decide) e76) ?_
          refine Sp.guard (fun e77 => ?_)
          refine Sp.step rfl rfl rfl (mst rfl rfl (by decide) e77) ?_
          refine Sp.step rfl rfl rfl rfl ?_
          refine Sp.step rfl rfl rfl rfl ?_
          exact Sp.jmp (l0 := [some (.ref 60), none, some (.int y), some (.ref 90), some (.int z), some (.int (x74.1 + 1)), none]) ⟨rfl, rfl, rfl, rfl, rfl, trivial⟩ (fun _ _ h => h)
      · refine Sp.step rfl rfl rfl rfl ?_
        refine Sp.step rfl rfl rfl rfl ?_
        refine Sp.weak (l0 := [some (.ref 60), none, some (.int y), none, none, some (.int 0), none]) ⟨rfl, rfl, rfl, trivial⟩ ?_
        refine Sp.loopX (pe := 138) (mf := (fun (x85 : (Int32 × MS)) => [some (.ref 60), none, some (.int y), none, none, some (.int x85.1), none])) (hf := (fun (x85 : (Int32 × MS)) => hS X x85.2)) (fun x85 => ?_) (fun x90 => ?_) _ _
        · unfold b106_M_comeTo_90
          refine Sp.step rfl rfl rfl rfl ?_
          refine Sp.step rfl rfl rfl rfl ?_
          refine Sp.if2 rfl rfl rfl rfl (fun e86 => ?_) (fun e86 => ?_)
          · exact Sp.jmp (l0 := [some (.ref 60), none, some (.int y), none, none, some (.int x85.1), none]) ⟨rfl, rfl, rfl, trivial⟩ (fun _ _ h => h)
          · refine Sp.step rfl rfl rfl rfl ?_
            refine Sp.step rfl rfl rfl (mg_F (f := 28) rfl rfl rfl rfl) ?_
            refine Sp.step rfl rfl rfl rfl ?_
            refine Sp.step rfl rfl rfl rfl ?_
            refine Sp.step rfl rfl rfl rfl ?_
            refine Sp.step rfl rfl rfl rfl ?_
            refine Sp.step rfl rfl rfl rfl ?_
            refine Sp.step rfl rfl rfl rfl ?_
            refine Sp.step rfl rfl rfl (mg_F (f := 31) rfl rfl rfl rfl) ?_
            refine Sp.step rfl rfl rfl rfl ?_
            refine Sp.guard (fun e87 => ?_)
            refine Sp.step rfl rfl rfl (mld rfl rfl (by decide) e87) ?_
            refine Sp.guard (fun e88 => ?_)
            refine Sp.step rfl rfl rfl (mst rfl rfl (by decide) e88) ?_
            refine Sp.step rfl rfl rfl rfl ?_
            refine Sp.step rfl rfl rfl rfl ?_
            exact Sp.jmp (l0 := [some (.ref 60), none, some (.int y), none, none, some (.int (x85.1 + 1)), none]) ⟨rfl, rfl, rfl, trivial⟩ (fun _ _ h => h)
        · refine Sp.step rfl rfl rfl rfl ?_
          exact Sp.iret rfl rfl rfl rfl (fun _ _ h => h)
