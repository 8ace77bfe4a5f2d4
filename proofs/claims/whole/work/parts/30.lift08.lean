/-! methods as functions, by program -/
def f_M_code (x : Int32) (y : Int32) (M : MS) : Option (Int32 × MS) := (if M.1 60 15 = 0 then some ((-1), M) else (if 0 ≤ x ∧ x ≤ 55 then (if ixo ((M.1 60 15) - 1) 24 then (if ¬ M.1 70 ((M.1 60 15) - 1).toNatClampNeg = 60 then (if ixo ((60 * ((M.1 60 15) - 1)) + (M.1 70 ((M.1 60 15) - 1).toNatClampNeg)) 1440 then (lt (mw M 71 ((60 * ((M.1 60 15) - 1)) + (M.1 70 ((M.1 60 15) - 1).toNatClampNeg)).toNatClampNeg x) fun M7 => (lt (mw M7 72 ((60 * ((M.1 60 15) - 1)) + (M.1 70 ((M.1 60 15) - 1).toNatClampNeg)).toNatClampNeg y) fun M8 => (if ixo ((M8.1 60 15) - 1) 24 then (lt (mw M8 70 ((M8.1 60 15) - 1).toNatClampNeg ((M8.1 70 ((M8.1 60 15) - 1).toNatClampNeg) + 1)) fun M10 => (if ixo ((M10.1 60 15) - 1) 24 then some ((M10.1 70 ((M10.1 60 15) - 1).toNatClampNeg) - 1, M10) else none)) else none))) else none) else some ((-1), M)) else none) else some ((-1), M)))
set_option maxRecDepth 100000 in
set_option maxHeartbeats 4000000 in
theorem s_M_code {L : Nat} {xs : Nat → Int32} {X : XS} {M : MS} {x : Int32} {y : Int32} : Sp (mjOO L xs) 24 0 [some (.ref 60), some (.int x), some (.int y), none] [] (hS X M) (f_M_code x y M) (KEM X) := by
  unfold f_M_code
  refine Sp.step rfl rfl rfl rfl ?_
  refine Sp.step rfl rfl rfl (mg_I (f := 15) rfl rfl rfl) ?_
  refine Sp.if1 rfl rfl rfl rfl (fun e1 => ?_) (fun e1 => ?_)
  · refine Sp.step rfl rfl rfl rfl ?_
    exact Sp.iret rfl rfl rfl rfl (fun _ _ h => h)
  · refine Sp.step rfl rfl rfl rfl ?_
    refine Sp.step rfl rfl rfl rfl ?_
    refine Sp.step rfl rfl rfl rfl ?_
    refine Sp.callP rfl rfl rfl rfl s_isIn (fun e2 => ?_) (fun e2 => ?_)
    · refine Sp.id (pc := 14) (l := [some (.ref 60), some (.int x), some (.int y), none]) (st := [.int 1]) (h := hS X M) ?_
      refine Sp.step rfl rfl rfl rfl ?_
      refine Sp.step rfl rfl rfl rfl ?_
      refine Sp.step rfl rfl rfl (mg_F (f := 10) rfl rfl rfl rfl) ?_
      refine Sp.step rfl rfl rfl rfl ?_
      refine Sp.step rfl rfl rfl (mg_I (f := 15) rfl rfl rfl) ?_
      refine Sp.step rfl rfl rfl rfl ?_
      refine Sp.step rfl rfl rfl rfl ?_
      refine Sp.guard (fun e4 => ?_)
      refine Sp.step rfl rfl rfl (mld rfl rfl (by decide) e4) ?_
      refine Sp.step rfl rfl rfl rfl ?_
      refine Sp.if2 rfl rfl rfl rfl (fun e5 => ?_) (fun e5 => ?_)
      · refine Sp.step rfl rfl rfl rfl ?_
        refine Sp.step rfl rfl rfl rfl ?_
        refine Sp.step rfl rfl rfl (mg_I (f := 15) rfl rfl rfl) ?_
        refine Sp.step rfl rfl rfl rfl ?_
        refine Sp.step rfl rfl rfl rfl ?_
        refine Sp.step rfl rfl rfl rfl ?_
        refine Sp.step rfl rfl rfl rfl ?_
        refine Sp.step rfl rfl rfl (mg_F (f := 10) rfl rfl rfl rfl) ?_
        refine Sp.step rfl rfl rfl rfl ?_
        refine Sp.step rfl rfl rfl (mg_I (f := 15) rfl rfl rfl) ?_
        refine Sp.step rfl rfl rfl rfl ?_
        refine Sp.step rfl rfl rfl rfl ?_
        refine Sp.step rfl rfl rfl (mld rfl rfl (by decide) e4) ?_
        refine Sp.step rfl rfl rfl rfl ?_
        refine Sp.step rfl rfl rfl rfl ?_
        refine Sp.step rfl rfl rfl rfl ?_
        refine Sp.step rfl rfl rfl (mg_F (f := 11) rfl rfl rfl rfl) ?_
        refine Sp.step rfl rfl rfl rfl ?_
        refine Sp.step rfl rfl rfl rfl ?_
        refine Sp.guard (fun e6 => ?_)
        refine Sp.step rfl rfl rfl (mst rfl rfl (by decide) e6) ?_
        refine Sp.step rfl rfl rfl rfl ?_
        refine Sp.step rfl rfl rfl (mg_F (f := 12) rfl rfl rfl rfl) ?_
        refine Sp.step rfl rfl rfl rfl ?_
        refine Sp.step rfl rfl rfl rfl ?_
        refine Sp.step rfl rfl rfl (mst rfl rfl (by decide) e6) ?_
        refine Sp.step rfl rfl rfl rfl ?_
        refine Sp.step rfl rfl rfl (mg_F (f := 10) rfl rfl rfl rfl) ?_
        refine Sp.step rfl rfl rfl rfl ?_
        refine Sp.step rfl rfl rfl (mg_I (f := 15) rfl rfl rfl) ?_
        refine Sp.step rfl rfl rfl rfl ?_
        refine Sp.step rfl rfl rfl rfl ?_
        refine Sp.step rfl rfl rfl rfl ?_
        refine Sp.guard (fun e9 => ?_)
        refine Sp.step rfl rfl rfl (mld rfl rfl (by decide) e9) ?_
        refine Sp.step rfl rfl rfl rfl ?_
        refine Sp.step rfl rfl rfl rfl ?_
        refine Sp.step rfl rfl rfl (mst rfl rfl (by decide) e9) ?_
        refine Sp.step rfl rfl rfl rfl ?_
        refine Sp.step rfl rfl rfl (mg_F (f := 10) rfl rfl rfl rfl) ?_
        refine Sp.step rfl rfl rfl rfl ?_
        refine Sp.step rfl rfl rfl (mg_I (f := 15) rfl rfl rfl) ?_
        refine Sp.step rfl rfl rfl rfl ?_
        refine Sp.step rfl rfl rfl rfl ?_
        refine Sp.guard (fun e11 => ?_)
        refine Sp.step rfl rfl rfl (mld rfl rfl (by decide) e11) ?_
        refine Sp.step rfl rfl rfl rfl ?_
        refine Sp.step rfl rfl rfl rfl ?_
        exact Sp.iret rfl rfl rfl rfl (fun _ _ h => h)
      · refine Sp.step rfl rfl rfl rfl ?_
        exact Sp.iret rfl rfl rfl rfl (fun _ _ h => h)
    · refine Sp.id (pc := 14) (l := [some (.ref 60), some (.int x), some (.int y), none]) (st := [.int 0]) (h := hS X M) ?_
      refine Sp.step rfl rfl rfl rfl ?_
      refine Sp.step rfl rfl rfl rfl ?_
      exact Sp.iret rfl rfl rfl rfl (fun _ _ h => h)
def f_M_trap (x : Int32) (y : Int32) (z : Int32) (u : Int32) (M : MS) : Option (Int32 × MS) := (if M.1 60 15 = 0 then some ((-1), M) else (if ixo ((M.1 60 15) - 1) 24 then (if ¬ M.1 73 ((M.1 60 15) - 1).toNatClampNeg = 6 then (if ixo ((24 * ((M.1 60 15) - 1)) + (4 * (M.1 73 ((M.1 60 15) - 1).toNatClampNeg))) 576 then (lt (mw M 74 ((24 * ((M.1 60 15) - 1)) + (4 * (M.1 73 ((M.1 60 15) - 1).toNatClampNeg))).toNatClampNeg x) fun M5 => (if ixo (((24 * ((M.1 60 15) - 1)) + (4 * (M.1 73 ((M.1 60 15) - 1).toNatClampNeg))) + 1) 576 then (lt (mw M5 74 (((24 * ((M.1 60 15) - 1)) + (4 * (M.1 73 ((M.1 60 15) - 1).toNatClampNeg))) + 1).toNatClampNeg y) fun M7 => (if ixo (((24 * ((M.1 60 15) - 1)) + (4 * (M.1 73 ((M.1 60 15) - 1).toNatClampNeg))) + 2) 576 then (lt (mw M7 74 (((24 * ((M.1 60 15) - 1)) + (4 * (M.1 73 ((M.1 60 15) - 1).toNatClampNeg))) + 2).toNatClampNeg z) fun M9 => (if ixo (((24 * ((M.1 60 15) - 1)) + (4 * (M.1 73 ((M.1 60 15) - 1).toNatClampNeg))) + 3) 576 then (lt (mw M9 74 (((24 * ((M.1 60 15) - 1)) + (4 * (M.1 73 ((M.1 60 15) - 1).toNatClampNeg))) + 3).toNatClampNeg u) fun M11 => (if ixo ((M11.1 60 15) - 1) 24 then (lt (mw M11 73 ((M11.1 60 15) - 1).toNatClampNeg ((M11.1 73 ((M11.1 60 15) - 1).toNatClampNeg) + 1)) fun M13 => (if ixo ((M13.1 60 15) - 1) 24 then some (M13.1 73 ((M13.1 60 15) - 1).toNatClampNeg, M13) else none)) else none)) else none)) else none)) else none)) else none) else some ((-1), M)) else none))
set_option maxRecDepth 100000 in
set_option maxHeartbeats 4000000 in
theorem s_M_trap {L : Nat} {xs : Nat → Int32} {X : XS} {M : MS} {x : Int32} {y : Int32} {z : Int32} {u : Int32} : Sp (mjOO L xs) 25 0 [some (.ref 60), some (.int x), some (.int y), some (.int z), some (.int u), none] [] (hS X M) (f_M_trap x y z u M) (KEM X) := by
  unfold f_M_trap
  refine Sp.step rfl rfl rfl rfl ?_
  refine Sp.step rfl rfl rfl (mg_I (f := 15) rfl rfl rfl) ?_
  refine Sp.if1 rfl rfl rfl rfl (fun e1 => ?_) (fun e1 => ?_)
  · refine Sp.step rfl rfl rfl rfl ?_
    exact Sp.iret rfl rfl rfl rfl (fun _ _ h => h)
  · refine Sp.step rfl rfl rfl rfl ?_
    refine Sp.step rfl rfl rfl (mg_F (f := 13) rfl rfl rfl rfl) ?_
    refine Sp.step rfl rfl rfl rfl ?_
    refine Sp.step rfl rfl rfl (mg_I (f := 15) rfl rfl rfl) ?_
    refine Sp.step rfl rfl rfl rfl ?_
    refine Sp.step rfl rfl rfl rfl ?_
    refine Sp.guard (fun e2 => ?_)
    refine Sp.step rfl rfl rfl (mld rfl rfl (by decide) e2) ?_
    refine Sp.step rfl rfl rfl rfl ?_
    refine Sp.if2 rfl rfl rfl rfl (fun e3 => ?_) (fun e3 => ?_)
    · refine Sp.step rfl rfl rfl rfl ?_
      refine Sp.step rfl rfl rfl rfl ?_
      refine Sp.step rfl rfl rfl (mg_I (f := 15) rfl rfl rfl) ?_
      refine Sp.step rfl rfl rfl rfl ?_
      refine Sp.step rfl rfl rfl rfl ?_
      refine Sp.step rfl rfl rfl rfl ?_
      refine Sp.step rfl rfl rfl rfl ?_
      refine Sp.step rfl rfl rfl rfl ?_
      refine Sp.step rfl rfl rfl (mg_F (f := 13) rfl rfl rfl rfl) ?_
      refine Sp.step rfl rfl rfl rfl ?_
      refine Sp.step rfl rfl rfl (mg_I (f := 15) rfl rfl rfl) ?_
      refine Sp.step rfl rfl rfl rfl ?_
      refine Sp.step rfl rfl rfl rfl ?_
      refine Sp.step rfl rfl rfl (mld rfl rfl (by decide) e2) ?_
      refine Sp.step rfl rfl rfl rfl ?_
      refine Sp.step rfl rfl rfl rfl ?_
      refine Sp.step rfl rfl rfl rfl ?_
      refine Sp.step rfl rfl rfl rfl ?_
      refine Sp.step rfl rfl rfl (mg_F (f := 14) rfl rfl rfl rfl) ?_
      refine Sp.step rfl rfl rfl rfl ?_
      refine Sp.step rfl rfl rfl rfl ?_
      refine Sp.guard (fun e4 => ?_)
      refine Sp.step rfl rfl rfl (mst rfl rfl (by decide) e4) ?_
      refine Sp.step rfl rfl rfl rfl ?_
      refine Sp.step rfl rfl rfl (mg_F (f := 14) rfl rfl rfl rfl) ?_
      refine Sp.step rfl rfl rfl rfl ?_
      refine Sp.step rfl rfl rfl rfl ?_
      refine Sp.step rfl rfl rfl rfl ?_
      refine Sp.step rfl rfl rfl rfl ?_
      refine Sp.guard (fun e6 => ?_)
      refine Sp.step rfl rfl rfl (mst rfl rfl (by decide) e6) ?_
      refine Sp.step rfl rfl rfl rfl ?_
      refine Sp.step rfl rfl rfl (mg_F (f := 14) rfl rfl rfl rfl) ?_
      refine Sp.step rfl rfl rfl rfl ?_
      refine Sp.step rfl rfl rfl rfl ?_
      refine Sp.step rfl rfl rfl rfl ?_
      refine Sp.step rfl rfl rfl rfl ?_
      refine Sp.guard (fun e8 => ?_)
      refine Sp.step rfl rfl rfl (mst rfl rfl (by decide) e8) ?_
      refine Sp.step rfl rfl rfl rfl ?_
      refine Sp.step rfl rfl rfl (mg_F (f := 14) rfl rfl rfl rfl) ?_
      refine Sp.step rfl rfl rfl rfl ?_
      refine Sp.step rfl rfl rfl rfl ?_
      refine Sp.step rfl rfl rfl rfl ?_
      refine Sp.step rfl rfl rfl rfl ?_
      refine Sp.guard (fun e10 => ?_)
      refine Sp.step rfl rfl rfl (mst rfl rfl (by decide) e10) ?_
      refine Sp.step rfl rfl rfl rfl ?_
      refine Sp.step rfl rfl rfl (mg_F (f := 13) rfl rfl rfl rfl) ?_
      refine Sp.step rfl rfl rfl rfl ?_
      refine Sp.step rfl rfl rfl (mg_I (f := 15) rfl rfl rfl) ?_
      refine Sp.step rfl rfl rfl rfl ?_
      refine Sp.step rfl rfl rfl rfl ?_
      refine Sp.step rfl rfl rfl rfl ?_
      refine Sp.guard (fun e12 => ?_)
      refine Sp.step rfl rfl rfl (mld rfl rfl (by decide) e12) ?_
      refine Sp.step rfl rfl rfl rfl ?_
      refine Sp.step rfl rfl rfl rfl ?_
      refine Sp.step rfl rfl rfl (mst rfl rfl (by decide) e12) ?_
      refine Sp.step rfl rfl rfl rfl ?_
      refine Sp.step rfl rfl rfl (mg_F (f := 13) rfl rfl rfl rfl) ?_
      refine Sp.step rfl rfl rfl rfl ?_
      refine Sp.step rfl rfl rfl (mg_I (f := 15) rfl rfl rfl) ?_
      refine Sp.step rfl rfl rfl rfl ?_
      refine Sp.step rfl rfl rfl rfl ?_
      refine Sp.guard (fun e14 => ?_)
      refine Sp.step rfl rfl rfl (mld rfl rfl (by decide) e14) ?_
      exact Sp.iret rfl rfl rfl rfl (fun _ _ h => h)
    · refine Sp.step rfl rfl rfl rfl ?_
      exact Sp.iret rfl rfl rfl rfl (fun _ _ h => h)
def f_M_isStatic (x : Int32) (M : MS) : Option Bool := (if 0 ≤ x ∧ x ≤ (M.1 60 15) - 1 then (if ixo x 24 then (if ¬ M.1 65 x.toNatClampNeg = (-2) then some false else some true) else none) else some false)
set_option maxRecDepth 100000 in
set_option maxHeartbeats 4000000 in
theorem s_M_isStatic {L : Nat} {xs : Nat → Int32} {X : XS} {M : MS} {x : Int32} : Sp (mjOO L xs) 28 0 [some (.ref 60), some (.int x)] [] (hS X M) (f_M_isStatic x M) (KB (hS X M)) := by
  unfold f_M_isStatic
  refine Sp.step rfl rfl rfl rfl ?_
  refine Sp.step rfl rfl rfl rfl ?_
  refine Sp.step rfl rfl rfl rfl ?_
  refine Sp.step rfl rfl rfl (mg_I (f := 15) rfl rfl rfl) ?_
  refine Sp.step rfl rfl rfl rfl ?_
  refine Sp.step rfl rfl rfl rfl ?_
  refine Sp.callP rfl rfl rfl rfl s_isIn (fun e1 => ?_) (fun e1 => ?_)
  · refine Sp.id (pc := 11) (l := [some (.ref 60), some (.int x)]) (st := [.int 1]) (h := hS X M) ?_
    refine Sp.step rfl rfl rfl rfl ?_
    refine Sp.step rfl rfl rfl rfl ?_
    refine Sp.step rfl rfl rfl (mg_F (f := 5) rfl rfl rfl rfl) ?_
    refine Sp.step rfl rfl rfl rfl ?_
    refine Sp.guard (fun e3 => ?_)
    refine Sp.step rfl rfl rfl (mld rfl rfl (by decide) e3) ?_
    refine Sp.step rfl rfl rfl rfl ?_
    refine Sp.if2 rfl rfl rfl rfl (fun e4 => ?_) (fun e4 => ?_)
    · refine Sp.step rfl rfl rfl rfl ?_
      exact Sp.iret rfl rfl rfl rfl (fun _ _ h => h)
    · refine Sp.step rfl rfl rfl rfl ?_
      refine Sp.step rfl rfl rfl rfl ?_
      exact Sp.iret rfl rfl rfl rfl (fun _ _ h => h)
  · refine Sp.id (pc := 11) (l := [some (.ref 60), some (.int x)]) (st := [.int 0]) (h := hS X M) ?_
    refine Sp.step rfl rfl rfl rfl ?_
    refine Sp.step rfl rfl rfl rfl ?_
    exact Sp.iret rfl rfl rfl rfl (fun _ _ h => h)
def f_M_isClass (x : Int32) (M : MS) : Bool := (if 0 ≤ x ∧ x ≤ (M.1 60 3) - 1 then true else false)
set_option maxRecDepth 100000 in
set_option maxHeartbeats 4000000 in
theorem s_M_isClass {L : Nat} {xs : Nat → Int32} {X : XS} {M : MS} {x : Int32} : Sp (mjOO L xs) 27 0 [some (.ref 60), some (.int x)] [] (hS X M) (some (f_M_isClass x M)) (KB (hS X M)) := by
  unfold f_M_isClass
  refine Sp.step rfl rfl rfl rfl ?_
  refine Sp.step rfl rfl rfl rfl ?_
  refine Sp.step rfl rfl rfl rfl ?_
  refine Sp.step rfl rfl rfl (mg_I (f := 3) rfl rfl rfl) ?_
  refine Sp.step rfl rfl rfl rfl ?_
  refine Sp.step rfl rfl rfl rfl ?_
  refine Sp.callPV rfl rfl rfl rfl s_isIn (fun e1 => ?_) (fun e1 => ?_)
  · refine Sp.id (pc := 11) (l := [some (.ref 60), some (.int x)]) (st := [.int 1]) (h := hS X M) ?_
    exact Sp.iret rfl rfl rfl rfl (fun _ _ h => h)
  · refine Sp.id (pc := 11) (l := [some (.ref 60), some (.int x)]) (st := [.int 0]) (h := hS X M) ?_
    exact Sp.iret rfl rfl rfl rfl (fun _ _ h => h)
def b4_M_follow (x : Int32) (x205 : (Int32 × Int32 × MS)) : Option ((Int32 × Int32 × MS) ⊕ (Int32 × Int32 × MS)) := (if ixo x 24 then (if x205.2.2.1 70 x.toNatClampNeg ≤ x205.2.1 then some (.inr (x205.1, x205.2.1, x205.2.2)) else (if ixo ((60 * x) + x205.2.1) 1440 then (if ¬ x205.2.2.1 71 ((60 * x) + x205.2.1).toNatClampNeg = 38 then (if ¬ x205.2.2.1 71 ((60 * x) + x205.2.1).toNatClampNeg = 39 then (if ¬ x205.2.2.1 71 ((60 * x) + x205.2.1).toNatClampNeg = 48 then (if ¬ x205.2.2.1 71 ((60 * x) + x205.2.1).toNatClampNeg = 26 then some (.inl (x205.1, x205.2.1 + 1, x205.2.2)) else (if f_M_isClass (x205.2.2.1 72 ((60 * x) + x205.2.1).toNatClampNeg) x205.2.2 = true then (if ixo (x205.2.2.1 72 ((60 * x) + x205.2.1).toNatClampNeg) 10 then (if ¬ x205.2.2.1 76 (x205.2.2.1 72 ((60 * x) + x205.2.1).toNatClampNeg).toNatClampNeg = 0 then some (.inl (x205.1, x205.2.1 + 1, x205.2.2)) else (lt (mw x205.2.2 76 (x205.2.2.1 72 ((60 * x) + x205.2.1).toNatClampNeg).toNatClampNeg 1) fun M217 => some (.inl (1, x205.2.1 + 1, M217)))) else none) else some (.inl (x205.1, x205.2.1 + 1, x205.2.2)))) else (((if ¬ x205.2.2.1 71 ((60 * x) + x205.2.1).toNatClampNeg = 48 then some (x205.2.2.1 72 ((60 * x) + x205.2.1).toNatClampNeg) else some 0) : Option (Int32)).bind fun x220 => (if ixo x220 8 then (if ¬ x205.2.2.1 78 x220.toNatClampNeg = 0 then (if ¬ x205.2.2.1 71 ((60 * x) + x205.2.1).toNatClampNeg = 26 then some (.inl (x205.1, x205.2.1 + 1, x205.2.2)) else (if f_M_isClass (x205.2.2.1 72 ((60 * x) + x205.2.1).toNatClampNeg) x205.2.2 = true then (if ixo (x205.2.2.1 72 ((60 * x) + x205.2.1).toNatClampNeg) 10 then (if ¬ x205.2.2.1 76 (x205.2.2.1 72 ((60 * x) + x205.2.1).toNatClampNeg).toNatClampNeg = 0 then some (.inl (x205.1, x205.2.1 + 1, x205.2.2)) else (lt (mw x205.2.2 76 (x205.2.2.1 72 ((60 * x) + x205.2.1).toNatClampNeg).toNatClampNeg 1) fun M228 => some (.inl (1, x205.2.1 + 1, M228)))) else none) else some (.inl (x205.1, x205.2.1 + 1, x205.2.2)))) else (if ¬ x205.2.2.1 71 ((60 * x) + x205.2.1).toNatClampNeg = 48 then (if ixo (x205.2.2.1 72 ((60 * x) + x205.2.1).toNatClampNeg) 8 then (lt (mw x205.2.2 78 (x205.2.2.1 72 ((60 * x) + x205.2.1).toNatClampNeg).toNatClampNeg 1) fun M232 => some (.inl (1, x205.2.1 + 1, M232))) else none) else (lt (mw x205.2.2 78 0 1) fun M233 => some (.inl (1, x205.2.1 + 1, M233))))) else none))) else (if 0 ≤ x205.2.2.1 72 ((60 * x) + x205.2.1).toNatClampNeg ∧ x205.2.2.1 72 ((60 * x) + x205.2.1).toNatClampNeg ≤ 7 then (((if ¬ x205.2.2.1 71 ((60 * x) + x205.2.1).toNatClampNeg = 48 then some (x205.2.2.1 72 ((60 * x) + x205.2.1).toNatClampNeg) else some 0) : Option (Int32)).bind fun x237 => (if ixo x237 8 then (if ¬ x205.2.2.1 78 x237.toNatClampNeg = 0 then (if ¬ x205.2.2.1 71 ((60 * x) + x205.2.1).toNatClampNeg = 26 then some (.inl (x205.1, x205.2.1 + 1, x205.2.2)) else (if f_M_isClass (x205.2.2.1 72 ((60 * x) + x205.2.1).toNatClampNeg) x205.2.2 = true then (if ixo (x205.2.2.1 72 ((60 * x) + x205.2.1).toNatClampNeg) 10 then (if ¬ x205.2.2.1 76 (x205.2.2.1 72 ((60 * x) + x205.2.1).toNatClampNeg).toNatClampNeg = 0 then some (.inl (x205.1, x205.2.1 + 1, x205.2.2)) else (lt (mw x205.2.2 76 (x205.2.2.1 72 ((60 * x) + x205.2.1).toNatClampNeg).toNatClampNeg 1) fun M245 => some (.inl (1, x205.2.1 + 1, M245)))) else none) else some (.inl (x205.1, x205.2.1 + 1, x205.2.2)))) else (if ¬ x205.2.2.1 71 ((60 * x) + x205.2.1).toNatClampNeg = 48 then (lt (mw x205.2.2 78 (x205.2.2.1 72 ((60 * x) + x205.2.1).toNatClampNeg).toNatClampNeg 1) fun M248 => some (.inl (1, x205.2.1 + 1, M248))) else (lt (mw x205.2.2 78 0 1) fun M249 => some (.inl (1, x205.2.1 + 1, M249))))) else none)) else (if ¬ x205.2.2.1 71 ((60 * x) + x205.2.1).toNatClampNeg = 48 then (if ¬ x205.2.2.1 71 ((60 * x) + x205.2.1).toNatClampNeg = 26 then some (.inl (x205.1, x205.2.1 + 1, x205.2.2)) else (if f_M_isClass (x205.2.2.1 72 ((60 * x) + x205.2.1).toNatClampNeg) x205.2.2 = true then (if ixo (x205.2.2.1 72 ((60 * x) + x205.2.1).toNatClampNeg) 10 then (if ¬ x205.2.2.1 76 (x205.2.2.1 72 ((60 * x) + x205.2.1).toNatClampNeg).toNatClampNeg = 0 then some (.inl (x205.1, x205.2.1 + 1, x205.2.2)) else (lt (mw x205.2.2 76 (x205.2.2.1 72 ((60 * x) + x205.2.1).toNatClampNeg).toNatClampNeg 1) fun M257 => some (.inl (1, x205.2.1 + 1, M257)))) else none) else some (.inl (x205.1, x205.2.1 + 1, x205.2.2)))) else (((if ¬ x205.2.2.1 71 ((60 * x) + x205.2.1).toNatClampNeg = 48 then some (x205.2.2.1 72 ((60 * x) + x205.2.1).toNatClampNeg) else some 0) : Option (Int32)).bind fun x260 => (if ixo x260 8 then (if ¬ x205.2.2.1 78 x260.toNatClampNeg = 0 then (if ¬ x205.2.2.1 71 ((60 * x) + x205.2.1).toNatClampNeg = 26 then some (.inl (x205.1, x205.2.1 + 1, x205.2.2)) else (if f_M_isClass (x205.2.2.1 72 ((60 * x) + x205.2.1).toNatClampNeg) x205.2.2 = true then (if ixo (x205.2.2.1 72 ((60 * x) + x205.2.1).toNatClampNeg) 10 then (if ¬ x205.2.2.1 76 (x205.2.2.1 72 ((60 * x) + x205.2.1).toNatClampNeg).toNatClampNeg = 0 then some (.inl (x205.1, x205.2.1 + 1, x205.2.2)) else (lt (mw x205.2.2 76 (x205.2.2.1 72 ((60 * x) + x205.2.1).toNatClampNeg).toNatClampNeg 1) fun M268 => some (.inl (1, x205.2.1 + 1, M268)))) else none) else some (.inl (x205.1, x205.2.1 + 1, x205.2.2)))) else (if ¬ x205.2.2.1 71 ((60 * x) + x205.2.1).toNatClampNeg = 48 then (if ixo (x205.2.2.1 72 ((60 * x) + x205.2.1).toNatClampNeg) 8 then (lt (mw x205.2.2 78 (x205.2.2.1 72 ((60 * x) + x205.2.1).toNatClampNeg).toNatClampNeg 1) fun M272 => some (.inl (1, x205.2.1 + 1, M272))) else none) else (lt (mw x205.2.2 78 0 1) fun M273 => some (.inl (1, x205.2.1 + 1, M273))))) else none))))) else ((f_M_isStatic (x205.2.2.1 72 ((60 * x) + x205.2.1).toNatClampNeg) x205.2.2).bind fun x274 => (if x274 = true then (if ixo (x205.2.2.1 72 ((60 * x) + x205.2.1).toNatClampNeg) 24 then (if ¬ x205.2.2.1 75 (x205.2.2.1 72 ((60 * x) + x205.2.1).toNatClampNeg).toNatClampNeg = 0 then (if ¬ x205.2.2.1 71 ((60 * x) + x205.2.1).toNatClampNeg = 39 then (if ¬ x205.2.2.1 71 ((60 * x) + x205.2.1).toNatClampNeg = 48 then (if ¬ x205.2.2.1 71 ((60 * x) + x205.2.1).toNatClampNeg = 26 then some (.inl (x205.1, x205.2.1 + 1, x205.2.2)) else (if f_M_isClass (x205.2.2.1 72 ((60 * x) + x205.2.1).toNatClampNeg) x205.2.2 = true then (if ixo (x205.2.2.1 72 ((60 * x) + x205.2.1).toNatClampNeg) 10 then (if ¬ x205.2.2.1 76 (x205.2.2.1 72 ((60 * x) + x205.2.1).toNatClampNeg).toNatClampNeg = 0 then some (.inl (x205.1, x205.2.1 + 1, x205.2.2)) else (lt (mw x205.2.2 76 (x205.2.2.1 72 ((60 * x) + x205.2.1).toNatClampNeg).toNatClampNeg 1) fun M286 => some (.inl (1, x205.2.1 + 1, M286)))) else none) else some (.inl (x205.1, x205.2.1 + 1, x205.2.2)))) else (((if ¬ x205.2.2.1 71 ((60 * x) + x205.2.1).toNatClampNeg = 48 then some (x205.2.2.1 72 ((60 * x) + x205.2.1).toNatClampNeg) else some 0) : Option (Int32)).bind fun x289 => (if ixo x289 8 then (if ¬ x205.2.2.1 78 x289.toNatClampNeg = 0 then (if ¬ x205.2.2.1 71 ((60 * x) + x205.2.1).toNatClampNeg = 26 then some (.inl (x205.1, x205.2.1 + 1, x205.2.2)) else (if f_M_isClass (x205.2.2.1 72 ((60 * x) + x205.2.1).toNatClampNeg) x205.2.2 = true then (if ixo (x205.2.2.1 72 ((60 * x) + x205.2.1).toNatClampNeg) 10 then (if ¬ x205.2.2.1 76 (x205.2.2.1 72 ((60 * x) + x205.2.1).toNatClampNeg).toNatClampNeg = 0 then some (.inl (x205.1, x205.2.1 + 1, x205.2.2)) else (lt (mw x205.2.2 76 (x205.2.2.1 72 ((60 * x) + x205.2.1).toNatClampNeg).toNatClampNeg 1) fun M297 => some (.inl (1, x205.2.1 + 1, M297)))) else none) else some (.inl (x205.1, x205.2.1 + 1, x205.2.2)))) else (if ¬ x205.2.2.1 71 ((60 * x) + x205.2.1).toNatClampNeg = 48 then (if ixo (x205.2.2.1 72 ((60 * x) + x205.2.1).toNatClampNeg) 8 then (lt (mw x205.2.2 78 (x205.2.2.1 72 ((60 * x) + x205.2.1).toNatClampNeg).toNatClampNeg 1) fun M301 => some (.inl (1, x205.2.1 + 1, M301))) else none) else (lt (mw x205.2.2 78 0 1) fun M302 => some (.inl (1, x205.2.1 + 1, M302))))) else none))) else (if 0 ≤ x205.2.2.1 72 ((60 * x) + x205.2.1).toNatClampNeg ∧ x205.2.2.1 72 ((60 * x) + x205.2.1).toNatClampNeg ≤ 7 then (((if ¬ x205.2.2.1 71 ((60 * x) + x205.2.1).toNatClampNeg = 48 then some (x205.2.2.1 72 ((60 * x) + x205.2.1).toNatClampNeg) else some 0) : Option (Int32)).bind fun x306 => (if ixo x306 8 then (if ¬ x205.2.2.1 78 x306.toNatClampNeg = 0 then (if ¬ x205.2.2.1 71 ((60 * x) + x205.2.1).toNatClampNeg = 26 then some (.inl (x205.1, x205.2.1 + 1, x205.2.2)) else (if f_M_isClass (x205.2.2.1 72 ((60 * x) + x205.2.1).toNatClampNeg) x205.2.2 = true then (if ixo (x205.2.2.1 72 ((60 * x) + x205.2.1).toNatClampNeg) 10 then (if ¬ x205.2.2.1 76 (x205.2.2.1 72 ((60 * x) + x205.2.1).toNatClampNeg).toNatClampNeg = 0 then some (.inl (x205.1, x205.2.1 + 1, x205.2.2)) else (lt (mw x205.2.2 76 (x205.2.2.1 72 ((60 * x) + x205.2.1).toNatClampNeg).toNatClampNeg 1) fun M314 => some (.inl (1, x205.2.1 + 1, M314)))) else none) else some (.inl (x205.1, x205.2.1 + 1, x205.2.2)))) else (if ¬ x205.2.2.1 71 ((60 * x) + x205.2.1).toNatClampNeg = 48 then (lt (mw x205.2.2 78 (x205.2.2.1 72 ((60 * x) + x205.2.1).toNatClampNeg).toNatClampNeg 1) fun M317 => some (.inl (1, x205.2.1 + 1, M317))) else (lt (mw x205.2.2 78 0 1) fun M318 => some (.inl (1, x205.2.1 + 1, M318))))) else none)) else (if ¬ x205.2.2.1 71 ((60 * x) + x205.2.1).toNatClampNeg = 48 then (if ¬ x205.2.2.1 71 ((60 * x) + x205.2.1).toNatClampNeg = 26 then some (.inl (x205.1, x205.2.1 + 1, x205.2.2)) else (if f_M_isClass (x205.2.2.1 72 ((60 * x) + x205.2.1).toNatClampNeg) x205.2.2 = true then (if ixo (x205.2.2.1 72 ((60 * x) + x205.2.1).toNatClampNeg) 10 then (if ¬ x205.2.2.1 76 (x205.2.2.1 72 ((60 * x) + x205.2.1).toNatClampNeg).toNatClampNeg = 0 then some (.inl (x205.1, x205.2.1 + 1, x205.2.2)) else (lt (mw x205.2.2 76 (x205.2.2.1 72 ((60 * x) + x205.2.1).toNatClampNeg).toNatClampNeg 1) fun M326 => some (.inl (1, x205.2.1 + 1, M326)))) else none) else some (.inl (x205.1, x205.2.1 + 1, x205.2.2)))) else (((if ¬ x205.2.2.1 71 ((60 * x) + x205.2.1).toNatClampNeg = 48 then some (x205.2.2.1 72 ((60 * x) + x205.2.1).toNatClampNeg) else some 0) : Option (Int32)).bind fun x329 => (if ixo x329 8 then (if ¬ x205.2.2.1 78 x329.toNatClampNeg = 0 then (if ¬ x205.2.2.1 71 ((60 * x) + x205.2.1).toNatClampNeg = 26 then some (.inl (x205.1, x205.2.1 + 1, x205.2.2)) else (if f_M_isClass (x205.2.2.1 72 ((60 * x) + x205.2.1).toNatClampNeg) x205.2.2 = true then (if ixo (x205.2.2.1 72 ((60 * x) + x205.2.1).toNatClampNeg) 10 then (if ¬ x205.2.2.1 76 (x205.2.2.1 72 ((60 * x) + x205.2.1).toNatClampNeg).toNatClampNeg = 0 then some (.inl (x205.1, x205.2.1 + 1, x205.2.2)) else (lt (mw x205.2.2 76 (x205.2.2.1 72 ((60 * x) + x205.2.1).toNatClampNeg).toNatClampNeg 1) fun M337 => some (.inl (1, x205.2.1 + 1, M337)))) else none) else some (.inl (x205.1, x205.2.1 + 1, x205.2.2)))) else (if ¬ x205.2.2.1 71 ((60 * x) + x205.2.1).toNatClampNeg = 48 then (if ixo (x205.2.2.1 72 ((60 * x) + x205.2.1).toNatClampNeg) 8 then (lt (mw x205.2.2 78 (x205.2.2.1 72 ((60 * x) + x205.2.1).toNatClampNeg).toNatClampNeg 1) fun M341 => some (.inl (1, x205.2.1 + 1, M341))) else none) else (lt (mw x205.2.2 78 0 1) fun M342 => some (.inl (1, x205.2.1 + 1, M342))))) else none))))) else (lt (mw x205.2.2 75 (x205.2.2.1 72 ((60 * x) + x205.2.1).toNatClampNeg).toNatClampNeg 1) fun M343 => some (.inl (1, x205.2.1 + 1, M343)))) else none) else (if ¬ x205.2.2.1 71 ((60 * x) + x205.2.1).toNatClampNeg = 39 then (if ¬ x205.2.2.1 71 ((60 * x) + x205.2.1).toNatClampNeg = 48 then (if ¬ x205.2.2.1 71 ((60 * x) + x205.2.1).toNatClampNeg = 26 then some (.inl (x205.1, x205.2.1 + 1, x205.2.2)) else (if f_M_isClass (x205.2.2.1 72 ((60 * x) + x205.2.1).toNatClampNeg) x205.2.2 = true then (if ixo (x205.2.2.1 72 ((60 * x) + x205.2.1).toNatClampNeg) 10 then (if ¬ x205.2.2.1 76 (x205.2.2.1 72 ((60 * x) + x205.2.1).toNatClampNeg).toNatClampNeg = 0 then some (.inl (x205.1, x205.2.1 + 1, x205.2.2)) else (lt (mw x205.2.2 76 (x205.2.2.1 72 ((60 * x) + x205.2.1).toNatClampNeg).toNatClampNeg 1) fun M352 => some (.inl (1, x205.2.1 + 1, M352)))) else none) else some (.inl (x205.1, x205.2.1 + 1, x205.2.2)))) else (((if ¬ x205.2.2.1 71 ((60 * x) + x205.2.1).toNatClampNeg = 48 then some (x205.2.2.1 72 ((60 * x) + x205.2.1).toNatClampNeg) else some 0) : Option (Int32)).bind fun x355 => (if ixo x355 8 then (if ¬ x205.2.2.1 78 x355.toNatClampNeg = 0 then (if ¬ x205.2.2.1 71 ((60 * x) + x205.2.1).toNatClampNeg = 26 then some (.inl (x205.1, x205.2.1 + 1, x205.2.2)) else (if f_M_isClass (x205.2.2.1 72 ((60 * x) + x205.2.1).toNatClampNeg) x205.2.2 = true then (if ixo (x205.2.2.1 72 ((60 * x) + x205.2.1).toNatClampNeg) 10 then (if ¬ x205.2.2.1 76 (x205.2.2.1 72 ((60 * x) + x205.2.1).toNatClampNeg).toNatClampNeg = 0 then some (.inl (x205.1, x205.2.1 + 1, x205.2.2)) else (lt (mw x205.2.2 76 (x205.2.2.1 72 ((60 * x) + x205.2.1).toNatClampNeg).toNatClampNeg 1) fun M363 => some (.inl (1, x205.2.1 + 1, M363)))) else none) else some (.inl (x205.1, x205.2.1 + 1, x205.2.2)))) else (if ¬ x205.2.2.1 71 ((60 * x) + x205.2.1).toNatClampNeg = 48 then (if ixo (x205.2.2.1 72 ((60 * x) + x205.2.1).toNatClampNeg) 8 then (lt (mw x205.2.2 78 (x205.2.2.1 72 ((60 * x) + x205.2.1).toNatClampNeg).toNatClampNeg 1) fun M367 => some (.inl (1, x205.2.1 + 1, M367))) else none) else (lt (mw x205.2.2 78 0 1) fun M368 => some (.inl (1, x205.2.1 + 1, M368))))) else none))) else (if 0 ≤ x205.2.2.1 72 ((60 * x) + x205.2.1).toNatClampNeg ∧ x205.2.2.1 72 ((60 * x) + x205.2.1).toNatClampNeg ≤ 7 then (((if ¬ x205.2.2.1 71 ((60 * x) + x205.2.1).toNatClampNeg = 48 then some (x205.2.2.1 72 ((60 * x) + x205.2.1).toNatClampNeg) else some 0) : Option (Int32)).bind fun x372 => (if ixo x372 8 then (if ¬ x205.2.2.1 78 x372.toNatClampNeg = 0 then (if ¬ x205.2.2.1 71 ((60 * x) + x205.2.1).toNatClampNeg = 26 then some (.inl (x205.1, x205.2.1 + 1, x205.2.2)) else (if f_M_isClass (x205.2.2.1 72 ((60 * x) + x205.2.1).toNatClampNeg) x205.2.2 = true then (if ixo (x205.2.2.1 72 ((60 * x) + x205.2.1).toNatClampNeg) 10 then (if ¬ x205.2.2.1 76 (x205.2.2.1 72 ((60 * x) + x205.2.1).toNatClampNeg).toNatClampNeg = 0 then some (.inl (x205.1, x205.2.1 + 1, x205.2.2)) else (lt (mw x205.2.2 76 (x205.2.2.1 72 ((60 * x) + x205.2.1).toNatClampNeg).toNatClampNeg 1) fun M380 => some (.inl (1, x205.2.1 + 1, M380)))) else none) else some (.inl (x205.1, x205.2.1 + 1, x205.2.2)))) else (if ¬ x205.2.2.1 71 ((60 * x) + x205.2.1).toNatClampNeg = 48 then (lt (mw x205.2.2 78 (x205.2.2.1 72 ((60 * x) + x205.2.1).toNatClampNeg).toNatClampNeg 1) fun M383 => some (.inl (1, x205.2.1 + 1, M383))) else (lt (mw x205.2.2 78 0 1) fun M384 => some (.inl (1, x205.2.1 + 1, M384))))) else none)) else (if ¬ x205.2.2.1 71 ((60 * x) + x205.2.1).toNatClampNeg = 48 then (if ¬ x205.2.2.1 71 ((60 * x) + x205.2.1).toNatClampNeg = 26 then some (.inl (x205.1, x205.2.1 + 1, x205.2.2)) else (if f_M_isClass (x205.2.2.1 72 ((60 * x) + x205.2.1).toNatClampNeg) x205.2.2 = true then (if ixo (x205.2.2.1 72 ((60 * x) + x205.2.1).toNatClampNeg) 10 then (if ¬ x205.2.2.1 76 (x205.2.2.1 72 ((60 * x) + x205.2.1).toNatClampNeg).toNatClampNeg = 0 then some (.inl (x205.1, x205.2.1 + 1, x205.2.2)) else (lt (mw x205.2.2 76 (x205.2.2.1 72 ((60 * x) + x205.2.1).toNatClampNeg).toNatClampNeg 1) fun M392 => some (.inl (1, x205.2.1 + 1, M392)))) else none) else some (.inl (x205.1, x205.2.1 + 1, x205.2.2)))) else (((if ¬ x205.2.2.1 71 ((60 * x) + x205.2.1).toNatClampNeg = 48 then some (x205.2.2.1 72 ((60 * x) + x205.2.1).toNatClampNeg) else some 0) : Option (Int32)).bind fun x395 => (if ixo x395 8 then (if ¬ x205.2.2.1 78 x395.toNatClampNeg = 0 then (if ¬ x205.2.2.1 71 ((60 * x) + x205.2.1).toNatClampNeg = 26 then some (.inl (x205.1, x205.2.1 + 1, x205.2.2)) else (if f_M_isClass (x205.2.2.1 72 ((60 * x) + x205.2.1).toNatClampNeg) x205.2.2 = true then (if ixo (x205.2.2.1 72 ((60 * x) + x205.2.1).toNatClampNeg) 10 then (if ¬ x205.2.2.1 76 (x205.2.2.1 72 ((60 * x) + x205.2.1).toNatClampNeg).toNatClampNeg = 0 then some (.inl (x205.1, x205.2.1 + 1, x205.2.2)) else (lt (mw x205.2.2 76 (x205.2.2.1 72 ((60 * x) + x205.2.1).toNatClampNeg).toNatClampNeg 1) fun M403 => some (.inl (1, x205.2.1 + 1, M403)))) else none) else some (.inl (x205.1, x205.2.1 + 1, x205.2.2)))) else (if ¬ x205.2.2.1 71 ((60 * x) + x205.2.1).toNatClampNeg = 48 then (if ixo (x205.2.2.1 72 ((60 * x) + x205.2.1).toNatClampNeg) 8 then (lt (mw x205.2.2 78 (x205.2.2.1 72 ((60 * x) + x205.2.1).toNatClampNeg).toNatClampNeg 1) fun M407 => some (.inl (1, x205.2.1 + 1, M407))) else none) else (lt (mw x205.2.2 78 0 1) fun M408 => some (.inl (1, x205.2.1 + 1, M408))))) else none)))))))) else none)) else none)
def f_M_follow (x : Int32) (M : MS) : Option (Bool × MS) := ((lp (b4_M_follow x) 10000 ((0 : Int32), (0 : Int32), M)).bind fun x409 => (if x409.1 = 1 then some (true, x409.2.2) else (if x409.1 = 0 then some (false, x409.2.2) else none)))
set_option maxRecDepth 100000 in
set_option maxHeartbeats 4000000 in
theorem s_M_follow {L : Nat} {xs : Nat → Int32} {X : XS} {M : MS} {x : Int32} : Sp (mjOO L xs) 30 0 [some (.ref 60), some (.int x), none, none, none, none] [] (hS X M) (f_M_follow x M) (KBM X) := by
  unfold f_M_follow
  refine Sp.step rfl rfl rfl rfl ?_
  refine Sp.step rfl rfl rfl rfl ?_
  refine Sp.step rfl rfl rfl rfl ?_
  refine Sp.step rfl rfl rfl rfl ?_
  refine Sp.weak (l0 := [some (.ref 60), some (.int x), some (.int 0), some (.int 0), none, none]) ⟨rfl, rfl, rfl, rfl, trivial⟩ ?_
  refine Sp.loopX (pe := 191) (mf := (fun (x205 : (Int32 × Int32 × MS)) => [some (.ref 60), some (.int x), some (.int x205.1), some (.int x205.2.1), none, none])) (hf := (fun (x205 : (Int32 × Int32 × MS)) => hS X x205.2.2)) (fun x205 => ?_) (fun x409 => ?_) _ _
  · unfold b4_M_follow
    refine Sp.step rfl rfl rfl rfl ?_
    refine Sp.step rfl rfl rfl rfl ?_
    refine Sp.step rfl rfl rfl (mg_F (f := 10) rfl rfl rfl rfl) ?_
    refine Sp.step rfl rfl rfl rfl ?_
    refine Sp.guard (fun e206 => ?_)
    refine Sp.step rfl rfl rfl (mld rfl rfl (by decide) e206) ?_
    refine Sp.if2 rfl rfl rfl rfl (fun e207 => ?_) (fun e207 => ?_)
    · exact Sp.jmp (l0 := [some (.ref 60), some (.int x), some (.int x205.1), some (.int x205.2.1), none, none]) ⟨rfl, rfl, rfl, rfl, trivial⟩ (fun _ _ h => h)
    · refine Sp.step rfl rfl rfl rfl ?_
      refine Sp.step rfl rfl rfl (mg_F (f := 11) rfl rfl rfl rfl) ?_
      refine Sp.step rfl rfl rfl rfl ?_
      refine Sp.step rfl rfl rfl rfl ?_
      refine Sp.step rfl rfl rfl rfl ?_
      refine Sp.step rfl rfl rfl rfl ?_
      refine Sp.step rfl rfl rfl rfl ?_
      refine Sp.guard (fun e208 => ?_)
      refine Sp.step rfl rfl rfl (mld rfl rfl (by decide) e208) ?_
      refine Sp.step rfl rfl rfl rfl ?_
      refine Sp.step rfl rfl rfl rfl ?_
      refine Sp.step rfl rfl rfl (mg_F (f := 12) rfl rfl rfl rfl) ?_
      refine Sp.step rfl rfl rfl rfl ?_
      refine Sp.step rfl rfl rfl rfl ?_
      refine Sp.step rfl rfl rfl rfl ?_
      refine Sp.step rfl rfl rfl rfl ?_
      refine Sp.step rfl rfl rfl rfl ?_
      refine Sp.step rfl rfl rfl (mld rfl rfl (by decide) e208) ?_
      refine Sp.step rfl rfl rfl rfl ?_
      refine Sp.step rfl rfl rfl rfl ?_
      refine Sp.step rfl rfl rfl rfl ?_
      refine Sp.if2 rfl rfl rfl rfl (fun e209 => ?_) (fun e209 => ?_)
      · refine Sp.step rfl rfl rfl rfl ?_
        refine Sp.step rfl rfl rfl rfl ?_
        refine Sp.if2 rfl rfl rfl rfl (fun e210 => ?_) (fun e210 => ?_)
        · refine Sp.step rfl rfl rfl rfl ?_
          refine Sp.step rfl rfl rfl rfl ?_
          refine Sp.if2 rfl rfl rfl rfl (fun e211 => ?_) (fun e211 => ?_)
          · refine Sp.step rfl rfl rfl rfl ?_
            refine Sp.step rfl rfl rfl rfl ?_
            refine Sp.if2 rfl rfl rfl rfl (fun e212 => ?_) (fun e212 => ?_)
            · refine Sp.step rfl rfl rfl rfl ?_
              refine Sp.step rfl rfl rfl rfl ?_
              exact Sp.jmp (l0 := [some (.ref 60), some (.int x), some (.int x205.1), some (.int (x205.2.1 + 1)), none, none]) ⟨rfl, rfl, rfl, rfl, trivial⟩ (fun _ _ h => h)
            · refine Sp.step rfl rfl rfl rfl ?_
              refine Sp.step rfl rfl rfl rfl ?_
              refine Sp.callS rfl rfl rfl (mrecv (by decide) (by decide +kernel)) s_M_isClass ⟨rfl, rfl⟩ ?_
              refine Sp.bool (fun e213 => ?_) (fun e213 => ?_)
              · refine Sp.id (pc := 162) (l := [some (.ref 60), some (.int x), some (.int x205.1), some (.int x205.2.1), some (.int (x205.2.2.1 71 ((60 * x) + x205.2.1).toNatClampNeg)), some (.int (x205.2.2.1 72 ((60 * x) + x205.2.1).toNatClampNeg))]) (st := [.int 1]) (h := hS X x205.2.2) ?_
                refine Sp.step rfl rfl rfl rfl ?_
                refine Sp.step rfl rfl rfl rfl ?_
                refine Sp.step rfl rfl rfl (mg_F (f := 17) rfl rfl rfl rfl) ?_
                refine Sp.step rfl rfl rfl rfl ?_
                refine Sp.guard (fun e215 => ?_)
                refine Sp.step rfl rfl rfl (mld rfl rfl (by decide) e215) ?_
                refine Sp.if1 rfl rfl rfl rfl (fun e216 => ?_) (fun e216 => ?_)
                · refine Sp.step rfl rfl rfl rfl ?_
                  refine Sp.step rfl rfl rfl rfl ?_
                  exact Sp.jmp (l0 := [some (.ref 60), some (.int x), some (.int x205.1), some (.int (x205.2.1 + 1)), none, none]) ⟨rfl, rfl, rfl, rfl, trivial⟩ (fun _ _ h => h)
                · refine Sp.step rfl rfl rfl rfl ?_
                  refine Sp.step rfl rfl rfl (mg_F (f := 17) rfl rfl rfl rfl) ?_
                  refine Sp.step rfl rfl rfl rfl ?_
                  refine Sp.step rfl rfl rfl rfl ?_
                  refine Sp.step rfl rfl rfl (mst1 rfl rfl e215) ?_
                  refine Sp.step rfl rfl rfl rfl ?_
                  refine Sp.step rfl rfl rfl rfl ?_
                  refine Sp.step rfl rfl rfl rfl ?_
                  refine Sp.step rfl rfl rfl rfl ?_
                  exact Sp.jmp (l0 := [some (.ref 60), some (.int x), some (.int 1), some (.int (x205.2.1 + 1)), none, none]) ⟨rfl, rfl, rfl, rfl, trivial⟩ (fun _ _ h => h)
              · refine Sp.id (pc := 162) (l := [some (.ref 60), some (.int x), some (.int x205.1), some (.int x205.2.1), some (.int (x205.2.2.1 71 ((60 * x) + x205.2.1).toNatClampNeg)), some (.int (x205.2.2.1 72 ((60 * x) + x205.2.1).toNatClampNeg))]) (st := [.int 0]) (h := hS X x205.2.2) ?_
                refine Sp.step rfl rfl rfl rfl ?_
                refine Sp.step rfl rfl rfl rfl ?_
                refine Sp.step rfl rfl rfl rfl ?_
                exact Sp.jmp (l0 := [some (.ref 60), some (.int x), some (.int x205.1), some (.int (x205.2.1 + 1)), none, none]) ⟨rfl, rfl, rfl, rfl, trivial⟩ (fun _ _ h => h)
          · refine Sp.step rfl rfl rfl rfl ?_
            refine Sp.step rfl rfl rfl (mg_F (f := 19) rfl rfl rfl rfl) ?_
            refine Sp.step rfl rfl rfl rfl ?_
            refine Sp.step rfl rfl rfl rfl ?_
            refine Sp.piece (pe := 121) (mf := (fun (x220 : Int32) => [some (.ref 60), some (.int x), some (.int x205.1), some (.int x205.2.1), some (.int (x205.2.2.1 71 ((60 * x) + x205.2.1).toNatClampNeg)), some (.int (x205.2.2.1 72 ((60 * x) + x205.2.1).toNatClampNeg))])) (sf := (fun (x220 : Int32) => [.int x220, .ref 78])) (hf := (fun (x220 : Int32) => hS X x205.2.2)) ?_ (fun x220 => ?_)
            · refine Sp.if2 rfl rfl rfl rfl (fun e219 => ?_) (fun e219 => ?_)
              · refine Sp.step rfl rfl rfl rfl ?_
                exact Sp.jmp (l0 := [some (.ref 60), some (.int x), some (.int x205.1), some (.int x205.2.1), some (.int (x205.2.2.1 71 ((60 * x) + x205.2.1).toNatClampNeg)), some (.int (x205.2.2.1 72 ((60 * x) + x205.2.1).toNatClampNeg))]) ⟨rfl, rfl, rfl, rfl, rfl, rfl, trivial⟩ (fun _ _ h => h)
              · refine Sp.step rfl rfl rfl rfl ?_
                refine Sp.step rfl rfl rfl rfl ?_
                exact Sp.jmp (l0 := [some (.ref 60), some (.int x), some (.int x205.1), some (.int x205.2.1), some (.int (x205.2.2.1 71 ((60 * x) + x205.2.1).toNatClampNeg)), some (.int (x205.2.2.1 72 ((60 * x) + x205.2.1).toNatClampNeg))]) ⟨rfl, rfl, rfl, rfl, rfl, rfl, trivial⟩ (fun _ _ h => h)
            · refine Sp.guard (fun e221 => ?_)
              refine Sp.step rfl rfl rfl (mld rfl rfl (by decide) e221) ?_
              refine Sp.if1 rfl rfl rfl rfl (fun e222 => ?_) (fun e222 => ?_)
              · refine Sp.step rfl rfl rfl rfl ?_
                refine Sp.step rfl rfl rfl rfl ?_
                refine Sp.if2 rfl rfl rfl rfl (fun e223 => ?_) (fun e223 => ?_)
                · refine Sp.step rfl rfl rfl rfl ?_
                  refine Sp.step rfl rfl rfl rfl ?_
                  exact Sp.jmp (l0 := [some (.ref 60), some (.int x), some (.int x205.1), some (.int (x205.2.1 + 1)), none, none]) ⟨rfl, rfl, rfl, rfl, trivial⟩ (fun _ _ h => h)
                · refine Sp.step rfl rfl rfl rfl ?_
                  refine Sp.step rfl rfl rfl rfl ?_
                  refine Sp.callS rfl rfl rfl (mrecv (by decide) (by decide +kernel)) s_M_isClass ⟨rfl, rfl⟩ ?_
                  refine Sp.bool (fun e224 => ?_) (fun e224 => ?_)
                  · refine Sp.id (pc := 162) (l := [some (.ref 60), some (.int x), some (.int x205.1), some (.int x205.2.1), some (.int (x205.2.2.1 71 ((60 * x) + x205.2.1).toNatClampNeg)), some (.int (x205.2.2.1 72 ((60 * x) + x205.2.1).toNatClampNeg))]) (st := [.int 1]) (h := hS X x205.2.2) ?_
                    refine Sp.step rfl rfl rfl rfl ?_
                    refine Sp.step rfl rfl rfl rfl ?_
                    refine Sp.step rfl rfl rfl (mg_F (f := 17) rfl rfl rfl rfl) ?_
                    refine Sp.step rfl rfl rfl rfl ?_
                    refine Sp.guard (fun e226 => ?_)
                    refine Sp.step rfl rfl rfl (mld rfl rfl (by decide) e226) ?_
                    refine Sp.if1 rfl rfl rfl rfl (fun e227 => ?_) (fun e227 => ?_)
                    · refine Sp.step rfl rfl rfl rfl ?_
                      refine Sp.step rfl rfl rfl rfl ?_
                      exact Sp.jmp (l0 := [some (.ref 60), some (.int x), some (.int x205.1), some (.int (x205.2.1 + 1)), none, none]) ⟨rfl, rfl, rfl, rfl, trivial⟩ (fun _ _ h => h)
                    · refine Sp.step rfl rfl rfl rfl ?_
                      refine Sp.step rfl rfl rfl (mg_F (f := 17) rfl rfl rfl rfl) ?_
                      refine Sp.step rfl rfl rfl rfl ?_
                      refine Sp.step rfl rfl rfl rfl ?_
                      refine Sp.step rfl rfl rfl (mst1 rfl rfl e226) ?_
                      refine Sp.step rfl rfl rfl rfl ?_
                      refine Sp.step rfl rfl rfl rfl ?_
                      refine Sp.step rfl rfl rfl rfl ?_
                      refine Sp.step rfl rfl rfl rfl ?_
                      exact Sp.jmp (l0 := [some (.ref 60), some (.int x), some (.int 1), some (.int (x205.2.1 + 1)), none, none]) ⟨rfl, rfl, rfl, rfl, trivial⟩ (fun _ _ h => h)
                  · refine Sp.id (pc := 162) (l := [some (.ref 60), some (.int x), some (.int x205.1), some (.int x205.2.1), some (.int (x205.2.2.1 71 ((60 * x) + x205.2.1).toNatClampNeg)), some (.int (x205.2.2.1 72 ((60 * x) + x205.2.1).toNatClampNeg))]) (st := [.int 0]) (h := hS X x205.2.2) ?_
                    refine Sp.step rfl rfl rfl rfl ?_
                    refine Sp.step rfl rfl rfl rfl ?_
                    refine Sp.step rfl rfl rfl rfl ?_
                    exact Sp.jmp (l0 := [some (.ref 60), some (.int x), some (.int x205.1), some (.int (x205.2.1 + 1)), none, none]) ⟨rfl, rfl, rfl, rfl, trivial⟩ (fun _ _ h => h)
              · refine Sp.step rfl rfl rfl rfl ?_
                refine Sp.step rfl rfl rfl (mg_F (f := 19) rfl rfl rfl rfl) ?_
                refine Sp.step rfl rfl rfl rfl ?_
                refine Sp.step rfl rfl rfl rfl ?_
                refine Sp.if2 rfl rfl rfl rfl (fun e230 => ?_) (fun e230 => ?_)
                · refine Sp.step rfl rfl rfl rfl ?_
                  refine Sp.step rfl rfl rfl rfl ?_
                  refine Sp.guard (fun e231 => ?_)
                  refine Sp.step rfl rfl rfl (mst1 rfl rfl e231) ?_
                  refine Sp.step rfl rfl rfl rfl ?_
                  refine Sp.step rfl rfl rfl rfl ?_
                  refine Sp.step rfl rfl rfl rfl ?_
                  refine Sp.step rfl rfl rfl rfl ?_
                  refine Sp.step rfl rfl rfl rfl ?_
                  exact Sp.jmp (l0 := [some (.ref 60), some (.int x), some (.int 1), some (.int (x205.2.1 + 1)), none, none]) ⟨rfl, rfl, rfl, rfl, trivial⟩ (fun _ _ h => h)
                · refine Sp.step rfl rfl rfl rfl ?_
                  refine Sp.step rfl rfl rfl rfl ?_
                  refine Sp.step rfl rfl rfl rfl ?_
                  refine Sp.step rfl rfl rfl (mst1 rfl rfl (by decide)) ?_
                  refine Sp.step rfl rfl rfl rfl ?_
                  refine Sp.step rfl rfl rfl rfl ?_
                  refine Sp.step rfl rfl rfl rfl ?_
                  refine Sp.step rfl rfl rfl rfl ?_
                  refine Sp.step rfl rfl rfl rfl ?_
                  exact Sp.jmp (l0 := [some (.ref 60), some (.int x), some (.int 1), some (.int (x205.2.1 + 1)), none, none]) ⟨rfl, rfl, rfl, rfl, trivial⟩ (fun _ _ h => h)
        · refine Sp.step rfl rfl rfl rfl ?_
          refine Sp.step rfl rfl rfl rfl ?_
          refine Sp.step rfl rfl rfl rfl ?_
          refine Sp.callP rfl rfl rfl rfl s_isIn (fun e234 => ?_) (fun e234 => ?_)
          · refine Sp.id (pc := 94) (l := [some (.ref 60), some (.int x), some (.int x205.1), some (.int x205.2.1), some (.int (x205.2.2.1 71 ((60 * x) + x205.2.1).toNatClampNeg)), some (.int (x205.2.2.1 72 ((60 * x) + x205.2.1).toNatClampNeg))]) (st := [.int 1]) (h := hS X x205.2.2) ?_
            refine Sp.step rfl rfl rfl rfl ?_
            refine Sp.step rfl rfl rfl rfl ?_
            refine Sp.step rfl rfl rfl (mg_F (f := 19) rfl rfl rfl rfl) ?_
            refine Sp.step rfl rfl rfl rfl ?_
            refine Sp.step rfl rfl rfl rfl ?_
            refine Sp.piece (pe := 121) (mf := (fun (x237 : Int32) => [some (.ref 60), some (.int x), some (.int x205.1), some (.int x205.2.1), some (.int (x205.2.2.1 71 ((60 * x) + x205.2.1).toNatClampNeg)), some (.int (x205.2.2.1 72 ((60 * x) + x205.2.1).toNatClampNeg))])) (sf := (fun (x237 : Int32) => [.int x237, .ref 78])) (hf := (fun (x237 : Int32) => hS X x205.2.2)) ?_ (fun x237 => ?_)
            · refine Sp.if2 rfl rfl rfl rfl (fun e236 => ?_) (fun e236 => ?_)
              · refine Sp.step rfl rfl rfl rfl ?_
                exact Sp.jmp (l0 := [some (.ref 60), some (.int x), some (.int x205.1), some (.int x205.2.1), some (.int (x205.2.2.1 71 ((60 * x) + x205.2.1).toNatClampNeg)), some (.int (x205.2.2.1 72 ((60 * x) + x205.2.1).toNatClampNeg))]) ⟨rfl, rfl, rfl, rfl, rfl, rfl, trivial⟩ (fun _ _ h => h)
              · refine Sp.step rfl rfl rfl rfl ?_
                refine Sp.step rfl rfl rfl rfl ?_
                exact Sp.jmp (l0 := [some (.ref 60), some (.int x), some (.int x205.1), some (.int x205.2.1), some (.int (x205.2.2.1 71 ((60 * x) + x205.2.1).toNatClampNeg)), some (.int (x205.2.2.1 72 ((60 * x) + x205.2.1).toNatClampNeg))]) ⟨rfl, rfl, rfl, rfl, rfl, rfl, trivial⟩ (fun _ _ h => h)
            · refine Sp.guard (fun e238 => ?_)
              refine Sp.step rfl rfl rfl (mld rfl rfl (by decide) e238) ?_
              refine Sp.if1 rfl rfl rfl rfl (fun e239 => ?_) (fun e239 => ?_)
              · refine Sp.step rfl rfl rfl rfl ?_
                refine Sp.step rfl rfl rfl rfl ?_
                refine Sp.if2 rfl rfl rfl rfl (fun e240 => ?_) (fun e240 => ?_)
                · refine Sp.step rfl rfl rfl rfl ?_
                  refine Sp.step rfl rfl rfl rfl ?_
                  exact Sp.jmp (l0 := [some (.ref 60), some (.int x), some (.int x205.1), some (.int (x205.2.1 + 1)), none, none]) ⟨rfl, rfl, rfl, rfl, trivial⟩ (fun _ _ h => h)
                · refine Sp.step rfl rfl rfl rfl ?_
                  refine Sp.step rfl rfl rfl rfl ?_
                  refine Sp.callS rfl rfl rfl (mrecv (by decide) (by decide +kernel)) s_M_isClass ⟨rfl, rfl⟩ ?_
                  refine Sp.bool (fun e241 => ?_) (fun e241 => ?_)
                  · refine Sp.id (pc := 162) (l := [some (.ref 60), some (.int x), some (.int x205.1), some (.int x205.2.1), some (.int (x205.2.2.1 71 ((60 * x) + x205.2.1).toNatClampNeg)), some (.int (x205.2.2.1 72 ((60 * x) + x205.2.1).toNatClampNeg))]) (st := [.int 1]) (h := hS X x205.2.2) ?_
                    refine Sp.step rfl rfl rfl rfl ?_
                    refine Sp.step rfl rfl rfl rfl ?_
                    refine Sp.step rfl rfl rfl (mg_F (f := 17) rfl rfl rfl rfl) ?_
                    refine Sp.step rfl rfl rfl rfl ?_
                    refine Sp.guard (fun e243 => ?_)
                    refine Sp.step rfl rfl rfl (mld rfl rfl (by decide) e243) ?_
                    refine Sp.if1 rfl rfl rfl rfl (fun e244 => ?_) (fun e244 => ?_)
                    · refine Sp.step rfl rfl rfl rfl ?_
                      refine Sp.step rfl rfl rfl rfl ?_
                      exact Sp.jmp (l0 := [some (.ref 60), some (.int x), some (.int x205.1), some (.int (x205.2.1 + 1)), none, none]) ⟨rfl, rfl, rfl, rfl, trivial⟩ (fun _ _ h => h)
                    · refine Sp.step rfl rfl rfl rfl ?_
                      refine Sp.step rfl rfl rfl (mg_F (f := 17) rfl rfl rfl rfl) ?_
                      refine Sp.step rfl rfl rfl rfl ?_
                      refine Sp.step rfl rfl rfl rfl ?_
                      refine Sp.step rfl rfl rfl (mst1 rfl rfl e243) ?_
                      refine Sp.step rfl rfl rfl rfl ?_
                      refine Sp.step rfl rfl rfl rfl ?_
                      refine Sp.step rfl rfl rfl rfl ?_
                      refine Sp.step rfl rfl rfl rfl ?_
                      exact Sp.jmp (l0 := [some (.ref 60), some (.int x), some (.int 1), some (.int (x205.2.1 + 1)), none, none]) ⟨rfl, rfl, rfl, rfl, trivial⟩ (fun _ _ h => h)
                  · refine Sp.id (pc := 162) (l := [some (.ref 60), some (.int x), some (.int x205.1), some (.int x205.2.1), some (.int (x205.2.2.1 71 ((60 * x) + x205.2.1).toNatClampNeg)), some (.int (x205.2.2.1 72 ((60 * x) + x205.2.1).toNatClampNeg))]) (st := [.int 0]) (h := hS X x205.2.2) ?_
                    refine Sp.step rfl rfl rfl rfl ?_
                    refine Sp.step rfl rfl rfl rfl ?_
                    refine Sp.step rfl rfl rfl rfl ?_
                    exact Sp.jmp (l0 := [some (.ref 60), some (.int x), some (.int x205.1), some (.int (x205.2.1 + 1)), none, none]) ⟨rfl, rfl, rfl, rfl, trivial⟩ (fun _ _ h => h)
              · refine Sp.step rfl rfl rfl rfl ?_
                refine Sp.step rfl rfl rfl (mg_F (f := 19) rfl rfl rfl rfl) ?_
                refine Sp.step rfl rfl rfl rfl ?_
                refine Sp.step rfl rfl rfl rfl ?_
                refine Sp.if2 rfl rfl rfl rfl (fun e247 => ?_) (fun e247 => ?_)
                · refine Sp.step rfl rfl rfl rfl ?_
                  refine Sp.step rfl rfl rfl rfl ?_
                  refine Sp.step rfl rfl rfl (mst1 rfl rfl (ix_le (N := 7) rfl e234.1 e234.2)) ?_
                  refine Sp.step rfl rfl rfl rfl ?_
                  refine Sp.step rfl rfl rfl rfl ?_
                  refine Sp.step rfl rfl rfl rfl ?_
                  refine Sp.step rfl rfl rfl rfl ?_
                  refine Sp.step rfl rfl rfl rfl ?_
                  exact Sp.jmp (l0 := [some (.ref 60), some (.int x), some (.int 1), some (.int (x205.2.1 + 1)), none, none]) ⟨rfl, rfl, rfl, rfl, trivial⟩ (fun _ _ h => h)
                · refine Sp.step rfl rfl rfl rfl ?_
                  refine Sp.step rfl rfl rfl rfl ?_
                  refine Sp.step rfl rfl rfl rfl ?_
                  refine Sp.step rfl rfl rfl (mst1 rfl rfl (by decide)) ?_
                  refine Sp.step rfl rfl rfl rfl ?_
                  refine Sp.step rfl rfl rfl rfl ?_
                  refine Sp.step rfl rfl rfl rfl ?_
                  refine Sp.step rfl rfl rfl rfl ?_
                  refine Sp.step rfl rfl rfl rfl ?_
                  exact Sp.jmp (l0 := [some (.ref 60), some (.int x), some (.int 1), some (.int (x205.2.1 + 1)), none, none]) ⟨rfl, rfl, rfl, rfl, trivial⟩ (fun _ _ h => h)
          · refine Sp.id (pc := 94) (l := [some (.ref 60), some (.int x), some (.int x205.1), some (.int x205.2.1), some (.int (x205.2.2.1 71 ((60 * x) + x205.2.1).toNatClampNeg)), some (.int (x205.2.2.1 72 ((60 * x) + x205.2.1).toNatClampNeg))]) (st := [.int 0]) (h := hS X x205.2.2) ?_
            refine Sp.step rfl rfl rfl rfl ?_
            refine Sp.step rfl rfl rfl rfl ?_
            refine Sp.step rfl rfl rfl rfl ?_
            refine Sp.if2 rfl rfl rfl rfl (fun e251 => ?_) (fun e251 => ?_)
            · refine Sp.step rfl rfl rfl rfl ?_
              refine Sp.step rfl rfl rfl rfl ?_
              refine Sp.if2 rfl rfl rfl rfl (fun e252 => ?_) (fun e252 => ?_)
              · refine Sp.step rfl rfl rfl rfl ?_
                refine Sp.step rfl rfl rfl rfl ?_
                exact Sp.jmp (l0 := [some (.ref 60), some (.int x), some (.int x205.1), some (.int (x205.2.1 + 1)), none, none]) ⟨rfl, rfl, rfl, rfl, trivial⟩ (fun _ _ h => h)
              · refine Sp.step rfl rfl rfl rfl ?_
                refine Sp.step rfl rfl rfl rfl ?_
                refine Sp.callS rfl rfl rfl (mrecv (by decide) (by decide +kernel)) s_M_isClass ⟨rfl, rfl⟩ ?_
                refine Sp.bool (fun e253 => ?_) (fun e253 => ?_)
                · refine Sp.id (pc := 162) (l := [some (.ref 60), some (.int x), some (.int x205.1), some (.int x205.2.1), some (.int (x205.2.2.1 71 ((60 * x) + x205.2.1).toNatClampNeg)), some (.int (x205.2.2.1 72 ((60 * x) + x205.2.1).toNatClampNeg))]) (st := [.int 1]) (h := hS X x205.2.2) ?_
                  refine Sp.step rfl rfl rfl rfl ?_
                  refine Sp.step rfl rfl rfl rfl ?_
                  refine Sp.step rfl rfl rfl (mg_F (f := 17) rfl rfl rfl rfl) ?_
                  refine Sp.step rfl rfl rfl rfl ?_
                  refine Sp.guard (fun e255 => ?_)
                  refine Sp.step rfl rfl rfl (mld rfl rfl (by decide) e255) ?_
                  refine Sp.if1 rfl rfl rfl rfl (fun e256 => ?_) (fun e256 => ?_)
                  · refine Sp.step rfl rfl rfl rfl ?_
                    refine Sp.step rfl rfl rfl rfl ?_
                    exact Sp.jmp (l0 := [some (.ref 60), some (.int x), some (.int x205.1), some (.int (x205.2.1 + 1)), none, none]) ⟨rfl, rfl, rfl, rfl, trivial⟩ (fun _ _ h => h)
                  · refine Sp.step rfl rfl rfl rfl ?_
                    refine Sp.step rfl rfl rfl (mg_F (f := 17) rfl rfl rfl rfl) ?_
                    refine Sp.step rfl rfl rfl rfl ?_
                    refine Sp.step rfl rfl rfl rfl ?_
                    refine Sp.step rfl rfl rfl (mst1 rfl rfl e255) ?_
                    refine Sp.step rfl rfl rfl rfl ?_
                    refine Sp.step rfl rfl rfl rfl ?_
                    refine Sp.step rfl rfl rfl rfl ?_
                    refine Sp.step rfl rfl rfl rfl ?_
                    exact Sp.jmp (l0 := [some (.ref 60), some (.int x), some (.int 1), some (.int (x205.2.1 + 1)), none, none]) ⟨rfl, rfl, rfl, rfl, trivial⟩ (fun _ _ h => h)
                · refine Sp.id (pc := 162) (l := [some (.ref 60), some (.int x), some (.int x205.1), some (.int x205.2.1), some (.int (x205.2.2.1 71 ((60 * x) + x205.2.1).toNatClampNeg)), some (.int (x205.2.2.1 72 ((60 * x) + x205.2.1).toNatClampNeg))]) (st := [.int 0]) (h := hS X x205.2.2) ?_
                  refine Sp.step rfl rfl rfl rfl ?_
                  refine Sp.step rfl rfl rfl rfl ?_
                  refine Sp.step rfl rfl rfl rfl ?_
                  exact Sp.jmp (l0 := [some (.ref 60), some (.int x), some (.int x205.1), some (.int (x205.2.1 + 1)), none, none]) ⟨rfl, rfl, rfl, rfl, trivial⟩ (fun _ _ h => h)
            · refine Sp.step rfl rfl rfl rfl ?_
              refine Sp.step rfl rfl rfl (mg_F (f := 19) rfl rfl rfl rfl) ?_
              refine Sp.step rfl rfl rfl rfl ?_
              refine Sp.step rfl rfl rfl rfl ?_
              refine Sp.piece (pe := 121) (mf := (fun (x260 : Int32) => [some (.ref 60), some (.int x), some (.int x205.1), some (.int x205.2.1), some (.int (x205.2.2.1 71 ((60 * x) + x205.2.1).toNatClampNeg)), some (.int (x205.2.2.1 72 ((60 * x) + x205.2.1).toNatClampNeg))])) (sf := (fun (x260 : Int32) => [.int x260, .ref 78])) (hf := (fun (x260 : Int32) => hS X x205.2.2)) ?_ (fun x260 => ?_)
              · refine Sp.if2 rfl rfl rfl rfl (fun e259 => ?_) (fun e259 => ?_)
                · refine Sp.step rfl rfl rfl rfl ?_
                  exact Sp.jmp (l0 := [some (.ref 60), some (.int x), some (.int x205.1), some (.int x205.2.1), some (.int (x205.2.2.1 71 ((60 * x) + x205.2.1).toNatClampNeg)), some (.int (x205.2.2.1 72 ((60 * x) + x205.2.1).toNatClampNeg))]) ⟨rfl, rfl, rfl, rfl, rfl, rfl, trivial⟩ (fun _ _ h => h)
                · refine Sp.step rfl rfl rfl rfl ?_
                  refine Sp.step rfl rfl rfl rfl ?_
                  exact Sp.jmp (l0 := [some (.ref 60), some (.int x), some (.int x205.1), some (.int x205.2.1), some (.int (x205.2.2.1 71 ((60 * x) + x205.2.1).toNatClampNeg)), some (.int (x205.2.2.1 72 ((60 * x) + x205.2.1).toNatClampNeg))]) ⟨rfl, rfl, rfl, rfl, rfl, rfl, trivial⟩ (fun _ _ h => h)
              · refine Sp.guard (fun e261 => ?_)
                refine Sp.step rfl rfl rfl (mld rfl rfl (by decide) e261) ?_
                refine Sp.if1 rfl rfl rfl rfl (fun e262 => ?_) (fun e262 => ?_)
                · refine Sp.step rfl rfl rfl rfl ?_
                  refine Sp.step rfl rfl rfl rfl ?_
                  refine Sp.if2 rfl rfl rfl rfl (fun e263 => ?_) (fun e263 => ?_)
                  · refine Sp.step rfl rfl rfl rfl ?_
                    refine Sp.step rfl rfl rfl rfl ?_
                    exact Sp.jmp (l0 := [some (.ref 60), some (.int x), some (.int x205.1), some (.int (x205.2.1 + 1)), none, none]) ⟨rfl, rfl, rfl, rfl, trivial⟩ (fun _ _ h => h)
                  · refine Sp.step rfl rfl rfl rfl ?_
                    refine Sp.step rfl rfl rfl rfl ?_
                    refine Sp.callS rfl rfl rfl (mrecv (by decide) (by decide +kernel)) s_M_isClass ⟨rfl, rfl⟩ ?_
                    refine Sp.bool (fun e264 => ?_) (fun e264 => ?_)
                    · refine Sp.id (pc := 162) (l := [some (.ref 60), some (.int x), some (.int x205.1), some (.int x205.2.1), some (.int (x205.2.2.1 71 ((60 * x) + x205.2.1).toNatClampNeg)), some (.int (x205.2.2.1 72 ((60 * x) + x205.2.1).toNatClampNeg))]) (st := [.int 1]) (h := hS X x205.2.2) ?_
                      refine Sp.step rfl rfl rfl rfl ?_
                      refine Sp.step rfl rfl rfl rfl ?_
                      refine Sp.step rfl rfl rfl (mg_F (f := 17) rfl rfl rfl rfl) ?_
                      refine Sp.step rfl rfl rfl rfl ?_
                      refine Sp.guard (fun e266 => ?_)
                      refine Sp.step rfl rfl rfl (mld rfl rfl (by decide) e266) ?_
                      refine Sp.if1 rfl rfl rfl rfl (fun e267 => ?_) (fun e267 => ?_)
                      · refine Sp.step rfl rfl rfl rfl ?_
                        refine Sp.step rfl rfl rfl rfl ?_
                        exact Sp.jmp (l0 := [some (.ref 60), some (.int x), some (.int x205.1), some (.int (x205.2.1 + 1)), none, none]) ⟨rfl, rfl, rfl, rfl, trivial⟩ (fun _ _ h => h)
                      · refine Sp.step rfl rfl rfl rfl ?_
                        refine Sp.step rfl rfl rfl (mg_F (f := 17) rfl rfl rfl rfl) ?_
                        refine Sp.step rfl rfl rfl rfl ?_
                        refine Sp.step rfl rfl rfl rfl ?_
                        refine Sp.step rfl rfl rfl (mst1 rfl rfl e266) ?_
                        refine Sp.step rfl rfl rfl rfl ?_
                        refine Sp.step rfl rfl rfl rfl ?_
                        refine Sp.step rfl rfl rfl rfl ?_
                        refine Sp.step rfl rfl rfl rfl ?_
                        exact Sp.jmp (l0 := [some (.ref 60), some (.int x), some (.int 1), some (.int (x205.2.1 + 1)), none, none]) ⟨rfl, rfl, rfl, rfl, trivial⟩ (fun _ _ h => h)
                    · refine Sp.id (pc := 162) (l := [some (.ref 60), some (.int x), some (.int x205.1), some (.int x205.2.1), some (.int (x205.2.2.1 71 ((60 * x) + x205.2.1).toNatClampNeg)), some (.int (x205.2.2.1 72 ((60 * x) + x205.2.1).toNatClampNeg))]) (st := [.int 0]) (h := hS X x205.2.2) ?_
                      refine Sp.step rfl rfl rfl rfl ?_
                      refine Sp.step rfl rfl rfl rfl ?_
                      refine Sp.step rfl rfl rfl rfl ?_
                      exact Sp.jmp (l0 := [some (.ref 60), some (.int x), some (.int x205.1), some (.int (x205.2.1 + 1)), none, none]) ⟨rfl, rfl, rfl, rfl, trivial⟩ (fun _ _ h => h)
                · refine Sp.step rfl rfl rfl rfl ?_
                  refine Sp.step rfl rfl rfl (mg_F (f := 19) rfl rfl rfl rfl) ?_
                  refine Sp.step rfl rfl rfl rfl ?_
                  refine Sp.step rfl rfl rfl rfl ?_
                  refine Sp.if2 rfl rfl rfl rfl (fun e270 => ?_) (fun e270 => ?_)
                  · refine Sp.step rfl rfl rfl rfl ?_
                    refine Sp.step rfl rfl rfl rfl ?_
                    refine Sp.guard (fun e271 => ?_)
                    refine Sp.step rfl rfl rfl (mst1 rfl rfl e271) ?_
                    refine Sp.step rfl rfl rfl rfl ?_
                    refine Sp.step rfl rfl rfl rfl ?_
                    refine Sp.step rfl rfl rfl rfl ?_
                    refine Sp.step rfl rfl rfl rfl ?_
                    refine Sp.step rfl rfl rfl rfl ?_
                    exact Sp.jmp (l0 := [some (.ref 60), some (.int x), some (.int 1), some (.int (x205.2.1 + 1)), none, none]) ⟨rfl, rfl, rfl, rfl, trivial⟩ (fun _ _ h => h)
                  · refine Sp.step rfl rfl rfl rfl ?_
                    refine Sp.step rfl rfl rfl rfl ?_
                    refine Sp.step rfl rfl rfl rfl ?_
                    refine Sp.step rfl rfl rfl (mst1 rfl rfl (by decide)) ?_
                    refine Sp.step rfl rfl rfl rfl ?_
                    refine Sp.step rfl rfl rfl rfl ?_
                    refine Sp.step rfl rfl rfl rfl ?_
                    refine Sp.step rfl rfl rfl rfl ?_
                    refine Sp.step rfl rfl rfl rfl ?_
                    exact Sp.jmp (l0 := [some (.ref 60), some (.int x), some (.int 1), some (.int (x205.2.1 + 1)), none, none]) ⟨rfl, rfl, rfl, rfl, trivial⟩ (fun _ _ h => h)
      · refine Sp.step rfl rfl rfl rfl ?_
        refine Sp.step rfl rfl rfl rfl ?_
        refine Sp.call rfl rfl rfl (mrecv (by decide) (by decide +kernel)) s_M_isStatic (fun x274 => ⟨_, _, ⟨rfl, rfl⟩, ?_⟩)
        refine Sp.bool (fun e275 => ?_) (fun e275 => ?_)
        · refine Sp.id (pc := 53) (l := [some (.ref 60), some (.int x), some (.int x205.1), some (.int x205.2.1), some (.int (x205.2.2.1 71 ((60 * x) + x205.2.1).toNatClampNeg)), some (.int (x205.2.2.1 72 ((60 * x) + x205.2.1).toNatClampNeg))]) (st := [.int 1]) (h := hS X x205.2.2) ?_
          refine Sp.step rfl rfl rfl rfl ?_
          refine Sp.step rfl rfl rfl rfl ?_
          refine Sp.step rfl rfl rfl (mg_F (f := 16) rfl rfl rfl rfl) ?_
          refine Sp.step rfl rfl rfl rfl ?_
          refine Sp.guard (fun e277 => ?_)
          refine Sp.step rfl rfl rfl (mld rfl rfl (by decide) e277) ?_
          refine Sp.if1 rfl rfl rfl rfl (fun e278 => ?_) (fun e278 => ?_)
          · refine Sp.step rfl rfl rfl rfl ?_
            refine Sp.step rfl rfl rfl rfl ?_
            refine Sp.if2 rfl rfl rfl rfl (fun e279 => ?_) (fun e279 => ?_)
            · refine Sp.step rfl rfl rfl rfl ?_
              refine Sp.step rfl rfl rfl rfl ?_
              refine Sp.if2 rfl rfl rfl rfl (fun e280 => ?_) (fun e280 => ?_)
              · refine Sp.step rfl rfl rfl rfl ?_
                refine Sp.step rfl rfl rfl rfl ?_
                refine Sp.if2 rfl rfl rfl rfl (fun e281 => ?_) (fun e281 => ?_)
                · refine Sp.step rfl rfl rfl rfl ?_
                  refine Sp.step rfl rfl rfl rfl ?_
                  exact Sp.jmp (l0 := [some (.ref 60), some (.int x), some (.int x205.1), some (.int (x205.2.1 + 1)), none, none]) ⟨rfl, rfl, rfl, rfl, trivial⟩ (fun _ _ h => h)
                · refine Sp.step rfl rfl rfl rfl ?_
                  refine Sp.step rfl rfl rfl rfl ?_
                  refine Sp.callS rfl rfl rfl (mrecv (by decide) (by decide +kernel)) s_M_isClass ⟨rfl, rfl⟩ ?_
                  refine Sp.bool (fun e282 => ?_) (fun e282 => ?_)
                  · refine Sp.id (pc := 162) (l := [some (.ref 60), some (.int x), some (.int x205.1), some (.int x205.2.1), some (.int (x205.2.2.1 71 ((60 * x) + x205.2.1).toNatClampNeg)), some (.int (x205.2.2.1 72 ((60 * x) + x205.2.1).toNatClampNeg))]) (st := [.int 1]) (h := hS X x205.2.2) ?_
                    refine Sp.step rfl rfl rfl rfl ?_
                    refine Sp.step rfl rfl rfl rfl ?_
                    refine Sp.step rfl rfl rfl (mg_F (f := 17) rfl rfl rfl rfl) ?_
                    refine Sp.step rfl rfl rfl rfl ?_
                    refine Sp.guard (fun e284 => ?_)
                    refine Sp.step rfl rfl rfl (mld rfl rfl (by decide) e284) ?_
                    refine Sp.if1 rfl rfl rfl rfl (fun e285 => ?_) (fun e285 => ?_)
                    · refine Sp.step rfl rfl rfl rfl ?_
                      refine Sp.step rfl rfl rfl rfl ?_
                      exact Sp.jmp (l0 := [some (.ref 60), some (.int x), some (.int x205.1), some (.int (x205.2.1 + 1)), none, none]) ⟨rfl, rfl, rfl, rfl, trivial⟩ (fun _ _ h => h)
                    · refine Sp.step rfl rfl rfl rfl ?_
                      refine Sp.step rfl rfl rfl (mg_F (f := 17) rfl rfl rfl rfl) ?_
                      refine Sp.step rfl rfl rfl rfl ?_
                      refine Sp.step rfl rfl rfl rfl ?_
                      refine Sp.step rfl rfl rfl (mst1 rfl rfl e284) ?_
                      refine Sp.step rfl rfl rfl rfl ?_
                      refine Sp.step rfl rfl rfl rfl ?_
                      refine Sp.step rfl rfl rfl rfl ?_
                      refine Sp.step rfl rfl rfl rfl ?_
                      exact Sp.jmp (l0 := [some (.ref 60), some (.int x), some (.int 1), some (.int (x205.2.1 + 1)), none, none]) ⟨rfl, rfl, rfl, rfl, trivial⟩ (fun _ _ h => h)
                  · refine Sp.id (pc := 162) (l := [some (.ref 60), some (.int x), some (.int x205.1), some (.int x205.2.1), some (.int (x205.2.2.1 71 ((60 * x) + x205.2.1).toNatClampNeg)), some (.int (x205.2.2.1 72 ((60 * x) + x205.2.1).toNatClampNeg))]) (st := [.int 0]) (h := hS X x205.2.2) ?_
                    refine Sp.step rfl rfl rfl rfl ?_
                    refine Sp.step rfl rfl rfl rfl ?_
                    refine Sp.step rfl rfl rfl rfl ?_
                    exact Sp.jmp (l0 := [some (.ref 60), some (.int x), some (.int x205.1), some (.int (x205.2.1 + 1)), none, none]) ⟨rfl, rfl, rfl, rfl, trivial⟩ (fun _ _ h => h)
              · refine Sp.step rfl rfl rfl rfl ?_
                refine Sp.step rfl rfl rfl (mg_F (f := 19) rfl rfl rfl rfl) ?_
                refine Sp.step rfl rfl rfl rfl ?_
                refine Sp.step rfl rfl rfl rfl ?_
                refine Sp.piece (pe := 121) (mf := (fun (x289 : Int32) => [some (.ref 60), some (.int x), some (.int x205.1), some (.int x205.2.1), some (.int (x205.2.2.1 71 ((60 * x) + x205.2.1).toNatClampNeg)), some (.int (x205.2.2.1 72 ((60 * x) + x205.2.1).toNatClampNeg))])) (sf := (fun (x289 : Int32) => [.int x289, .ref 78])) (hf := (fun (x289 : Int32) => hS X x205.2.2)) ?_ (fun x289 => ?_)
                · refine Sp.if2 rfl rfl rfl rfl (fun e288 => ?_) (fun e288 => ?_)
                  · refine Sp.step rfl rfl rfl rfl ?_
                    exact Sp.jmp (l0 := [some (.ref 60), some (.int x), some (.int x205.1), some (.int x205.2.1), some (.int (x205.2.2.1 71 ((60 * x) + x205.2.1).toNatClampNeg)), some (.int (x205.2.2.1 72 ((60 * x) + x205.2.1).toNatClampNeg))]) ⟨rfl, rfl, rfl, rfl, rfl, rfl, trivial⟩ (fun _ _ h => h)
                  · refine Sp.step rfl rfl rfl rfl ?_
                    refine Sp.step rfl rfl rfl rfl ?_
                    exact Sp.jmp (l0 := [some (.ref 60), some (.int x), some (.int x205.1), some (.int x205.2.1), some (.int (x205.2.2.1 71 ((60 * x) + x205.2.1).toNatClampNeg)), some (.int (x205.2.2.1 72 ((60 * x) + x205.2.1).toNatClampNeg))]) ⟨rfl, rfl, rfl, rfl, rfl, rfl, trivial⟩ (fun _ _ h => h)
                · refine Sp.guard (fun e290 => ?_)
                  refine Sp.step rfl rfl rfl (mld rfl rfl (by decide) e290) ?_
                  refine Sp.if1 rfl rfl rfl rfl (fun e291 => ?_) (fun e291 => ?_)
                  · refine Sp.step rfl rfl rfl rfl ?_
                    refine Sp.step rfl rfl rfl rfl ?_
                    refine Sp.if2 rfl rfl rfl rfl (fun e292 => ?_) (fun e292 => ?_)
                    · refine Sp.step rfl rfl rfl rfl ?_
                      refine Sp.step rfl rfl rfl rfl ?_
                      exact Sp.jmp (l0 := [some (.ref 60), some (.int x), some (.int x205.1), some (.int (x205.2.1 + 1)), none, none]) ⟨rfl, rfl, rfl, rfl, trivial⟩ (fun _ _ h => h)
                    · refine Sp.step rfl rfl rfl rfl ?_
                      refine Sp.step rfl rfl rfl rfl ?_
                      refine Sp.callS rfl rfl rfl (mrecv (by decide) (by decide +kernel)) s_M_isClass ⟨rfl, rfl⟩ ?_
                      refine Sp.bool (fun e293 => ?_) (fun e293 => ?_)
                      · refine Sp.id (pc := 162) (l := [some (.ref 60), some (.int x), some (.int x205.1), some (.int x205.2.1), some (.int (x205.2.2.1 71 ((60 * x) + x205.2.1).toNatClampNeg)), some (.int (x205.2.2.1 72 ((60 * x) + x205.2.1).toNatClampNeg))]) (st := [.int 1]) (h := hS X x205.2.2) ?_
                        refine Sp.step rfl rfl rfl rfl ?_
                        refine Sp.step rfl rfl rfl rfl ?_
                        refine Sp.step rfl rfl rfl (mg_F (f := 17) rfl rfl rfl rfl) ?_
                        refine Sp.step rfl rfl rfl rfl ?_
                        refine Sp.guard (fun e295 => ?_)
                        refine Sp.step rfl rfl rfl (mld rfl rfl (by decide) e295) ?_
                        refine Sp.if1 rfl rfl rfl rfl (fun e296 => ?_) (fun e296 => ?_)
                        · refine Sp.step rfl rfl rfl rfl ?_
                          refine Sp.step rfl rfl rfl rfl ?_
                          exact Sp.jmp (l0 := [some (.ref 60), some (.int x), some (.int x205.1), some (.int (x205.2.1 + 1)), none, none]) ⟨rfl, rfl, rfl, rfl, trivial⟩ (fun _ _ h => h)
                        · refine Sp.step rfl rfl rfl rfl ?_
                          refine Sp.step rfl rfl rfl (mg_F (f := 17) rfl rfl rfl rfl) ?_
                          refine Sp.step rfl rfl rfl rfl ?_
                          refine Sp.step rfl rfl rfl rfl ?_
                          refine Sp.step rfl rfl rfl (mst1 rfl rfl e295) ?_
                          refine Sp.step rfl rfl rfl rfl ?_
                          refine Sp.step rfl rfl rfl rfl ?_
                          refine Sp.step rfl rfl rfl rfl ?_
                          refine Sp.step rfl rfl rfl rfl ?_
                          exact Sp.jmp (l0 := [some (.ref 60), some (.int x), some (.int 1), some (.int (x205.2.1 + 1)), none, none]) ⟨rfl, rfl, rfl, rfl, trivial⟩ (fun _ _ h => h)
                      · refine Sp.id (pc := 162) (l := [some (.ref 60), some (.int x), some (.int x205.1), some (.int x205.2.1), some (.int (x205.2.2.1 71 ((60 * x) + x205.2.1).toNatClampNeg)), some (.int (x205.2.2.1 72 ((60 * x) + x205.2.1).toNatClampNeg))]) (st := [.int 0]) (h := hS X x205.2.2) ?_
                        refine Sp.step rfl rfl rfl rfl ?_
                        refine Sp.step rfl rfl rfl rfl ?_
                        refine Sp.step rfl rfl rfl rfl ?_
                        exact Sp.jmp (l0 := [some (.ref 60), some (.int x), some (.int x205.1), some (.int (x205.2.1 + 1)), none, none]) ⟨rfl, rfl, rfl, rfl, trivial⟩ (fun _ _ h => h)
                  · refine Sp.step rfl rfl rfl rfl ?_
                    refine Sp.step rfl rfl rfl (mg_F (f := 19) rfl rfl rfl rfl) ?_
                    refine Sp.step rfl rfl rfl rfl ?_
                    refine Sp.step rfl rfl rfl rfl ?_
                    refine Sp.if2 rfl rfl rfl rfl (fun e299 => ?_) (fun e299 => ?_)
                    · refine Sp.step rfl rfl rfl rfl ?_
                      refine Sp.step rfl rfl rfl rfl ?_
                      refine Sp.guard (fun e300 => ?_)
                      refine Sp.step rfl rfl rfl (mst1 rfl rfl e300) ?_
                      refine Sp.step rfl rfl rfl rfl ?_
                      refine Sp.step rfl rfl rfl rfl ?_
                      refine Sp.step rfl rfl rfl rfl ?_
                      refine Sp.step rfl rfl rfl rfl ?_
                      refine Sp.step rfl rfl rfl rfl ?_
                      exact Sp.jmp (l0 := [some (.ref 60), some (.int x), some (.int 1), some (.int (x205.2.1 + 1)), none, none]) ⟨rfl, rfl, rfl, rfl, trivial⟩ (fun _ _ h => h)
                    · refine Sp.step rfl rfl rfl rfl ?_
                      refine Sp.step rfl rfl rfl rfl ?_
                      refine Sp.step rfl rfl rfl rfl ?_
                      refine Sp.step rfl rfl rfl (mst1 rfl rfl (by decide)) ?_
                      refine Sp.step rfl rfl rfl rfl ?_
                      refine Sp.step rfl rfl rfl rfl ?_
                      refine Sp.step rfl rfl rfl rfl ?_
                      refine Sp.step rfl rfl rfl rfl ?_
                      refine Sp.step rfl rfl rfl rfl ?_
                      exact Sp.jmp (l0 := [some (.ref 60), some (.int x), some (.int 1), some (.int (x205.2.1 + 1)), none, none]) ⟨rfl, rfl, rfl, rfl, trivial⟩ (fun _ _ h => h)
            · refine Sp.step rfl rfl rfl rfl ?_
              refine Sp.step rfl rfl rfl rfl ?_
              refine Sp.step rfl rfl rfl rfl ?_
              refine Sp.callP rfl rfl rfl rfl s_isIn (fun e303 => ?_) (fun e303 => ?_)
              · refine Sp.id (pc := 94) (l := [some (.ref 60), some (.int x), some (.int x205.1), some (.int x205.2.1), some (.int (x205.2.2.1 71 ((60 * x) + x205.2.1).toNatClampNeg)), some (.int (x205.2.2.1 72 ((60 * x) + x205.2.1).toNatClampNeg))]) (st := [.int 1]) (h := hS X x205.2.2) ?_
                refine Sp.step rfl rfl rfl rfl ?_
                refine Sp.step rfl rfl rfl rfl ?_
                refine Sp.step rfl rfl rfl (mg_F (f := 19) rfl rfl rfl rfl) ?_
                refine Sp.step rfl rfl rfl rfl ?_
                refine Sp.step rfl rfl rfl rfl ?_
                refine Sp.piece (pe := 121) (mf := (fun (x306 : Int32) => [some (.ref 60), some (.int x), some (.int x205.1), some (.int x205.2.1), some (.int (x205.2.2.1 71 ((60 * x) + x205.2.1).toNatClampNeg)), some (.int (x205.2.2.1 72 ((60 * x) + x205.2.1).toNatClampNeg))])) (sf := (fun (x306 : Int32) => [.int x306, .ref 78])) (hf := (fun (x306 : Int32) => hS X x205.2.2)) ?_ (fun x306 => ?_)
                · refine Sp.if2 rfl rfl rfl rfl (fun e305 => ?_) (fun e305 => ?_)
                  · refine Sp.step rfl rfl rfl rfl ?_
                    exact Sp.jmp (l0 := [some (.ref 60), some (.int x), some (.int x205.1), some (.int x205.2.1), some (.int (x205.2.2.1 71 ((60 * x) + x205.2.1).toNatClampNeg)), some (.int (x205.2.2.1 72 ((60 * x) + x205.2.1).toNatClampNeg))]) ⟨rfl, rfl, rfl, rfl, rfl, rfl, trivial⟩ (fun _ _ h => h)
                  · refine Sp.step rfl rfl rfl rfl ?_
                    refine Sp.step rfl rfl rfl rfl ?_
                    exact Sp.jmp (l0 := [some (.ref 60), some (.int x), some (.int x205.1), some (.int x205.2.1), some (.int (x205.2.2.1 71 ((60 * x) + x205.2.1).toNatClampNeg)), some (.int (x205.2.2.1 72 ((60 * x) + x205.2.1).toNatClampNeg))]) ⟨rfl, rfl, rfl, rfl, rfl, rfl, trivial⟩ (fun _ _ h => h)
                · refine Sp.guard (fun e307 => ?_)
                  refine Sp.step rfl rfl rfl (mld rfl rfl (by decide) e307) ?_
                  refine Sp.if1 rfl rfl rfl rfl (fun e308 => ?_) (fun e308 => ?_)
                  · refine Sp.step rfl rfl rfl rfl ?_
                    refine Sp.step rfl rfl rfl rfl ?_
                    refine Sp.if2 rfl rfl rfl rfl (fun e309 => ?_) (fun e309 => ?_)
                    · refine Sp.step rfl rfl rfl rfl ?_
                      refine Sp.step rfl rfl rfl rfl ?_
                      exact Sp.jmp (l0 := [some (.ref 60), some (.int x), some (.int x205.1), some (.int (x205.2.1 + 1)), none, none]) ⟨rfl, rfl, rfl, rfl, trivial⟩ (fun _ _ h => h)
                    · refine Sp.step rfl rfl rfl rfl ?_
                      refine Sp.step rfl rfl rfl rfl ?_
                      refine Sp.callS rfl rfl rfl (mrecv (by decide) (by decide +kernel)) s_M_isClass ⟨rfl, rfl⟩ ?_
                      refine Sp.bool (fun e310 => ?_) (fun e310 => ?_)
                      · refine Sp.id (pc := 162) (l := [some (.ref 60), some (.int x), some (.int x205.1), some (.int x205.2.1), some (.int (x205.2.2.1 71 ((60 * x) + x205.2.1).toNatClampNeg)), some (.int (x205.2.2.1 72 ((60 * x) + x205.2.1).toNatClampNeg))]) (st := [.int 1]) (h := hS X x205.2.2) ?_
                        refine Sp.step rfl rfl rfl rfl ?_
                        refine Sp.step rfl rfl rfl rfl ?_
                        refine Sp.step rfl rfl rfl (mg_F (f := 17) rfl rfl rfl rfl) ?_
                        refine Sp.step rfl rfl rfl rfl ?_
                        refine Sp.guard (fun e312 => ?_)
                        refine Sp.step rfl rfl rfl (mld rfl rfl (by decide) e312) ?_
                        refine Sp.if1 rfl rfl rfl rfl (fun e313 => ?_) (fun e313 => ?_)
                        · refine Sp.step rfl rfl rfl rfl ?_
                          refine Sp.step rfl rfl rfl rfl ?_
                          exact Sp.jmp (l0 := [some (.ref 60), some (.int x), some (.int x205.1), some (.int (x205.2.1 + 1)), none, none]) ⟨rfl, rfl, rfl, rfl, trivial⟩ (fun _ _ h => h)
                        · refine Sp.step rfl rfl rfl rfl ?_
                          refine Sp.step rfl rfl rfl (mg_F (f := 17) rfl rfl rfl rfl) ?_
                          refine Sp.step rfl rfl rfl rfl ?_
                          refine Sp.step rfl rfl rfl rfl ?_
                          refine Sp.step rfl rfl rfl (mst1 rfl rfl e312) ?_
                          refine Sp.step rfl rfl rfl rfl ?_
                          refine Sp.step rfl rfl rfl rfl ?_
                          refine Sp.step rfl rfl rfl rfl ?_
                          refine Sp.step rfl rfl rfl rfl ?_
                          exact Sp.jmp (l0 := [some (.ref 60), some (.int x), some (.int 1), some (.int (x205.2.1 + 1)), none, none]) ⟨rfl, rfl, rfl, rfl, trivial⟩ (fun _ _ h => h)
                      · refine Sp.id (pc := 162) (l := [some (.ref 60), some (.int x), some (.int x205.1), some (.int x205.2.1), some (.int (x205.2.2.1 71 ((60 * x) + x205.2.1).toNatClampNeg)), some (.int (x205.2.2.1 72 ((60 * x) + x205.2.1).toNatClampNeg))]) (st := [.int 0]) (h := hS X x205.2.2) ?_
                        refine Sp.step rfl rfl rfl rfl ?_
                        refine Sp.step rfl rfl rfl rfl ?_
                        refine Sp.step rfl rfl rfl rfl ?_
                        exact Sp.jmp (l0 := [some (.ref 60), some (.int x), some (.int x205.1), some (.int (x205.2.1 + 1)), none, none]) ⟨rfl, rfl, rfl, rfl, trivial⟩ (fun _ _ h => h)
                  · refine Sp.step rfl rfl rfl rfl ?_
                    refine Sp.step rfl rfl rfl (mg_F (f := 19) rfl rfl rfl rfl) ?_
                    refine Sp.step rfl rfl rfl rfl ?_
                    refine Sp.step rfl rfl rfl rfl ?_
                    refine Sp.if2 rfl rfl rfl rfl (fun e316 => ?_) (fun e316 => ?_)
                    · refine Sp.step rfl rfl rfl rfl ?_
                      refine Sp.step rfl rfl rfl rfl ?_
                      refine Sp.step rfl rfl rfl (mst1 rfl rfl (ix_le (N := 7) rfl e303.1 e303.2)) ?_
                      refine Sp.step rfl rfl rfl rfl ?_
                      refine Sp.step rfl rfl rfl rfl ?_
                      refine Sp.step rfl rfl rfl rfl ?_
                      refine Sp.step rfl rfl rfl rfl ?_
                      refine Sp.step rfl rfl rfl rfl ?_
                      exact Sp.jmp (l0 := [some (.ref 60), some (.int x), some (.int 1), some (.int (x205.2.1 + 1)), none, none]) ⟨rfl, rfl, rfl, rfl, trivial⟩ (fun _ _ h => h)
                    · refine Sp.step rfl rfl rfl rfl ?_
                      refine Sp.step rfl rfl rfl rfl ?_
                      refine Sp.step rfl rfl rfl rfl ?_
                      refine Sp.step rfl rfl rfl (mst1 rfl rfl (by decide)) ?_
                      refine Sp.step rfl rfl rfl rfl ?_
                      refine Sp.step rfl rfl rfl rfl ?_
                      refine Sp.step rfl rfl rfl rfl ?_
                      refine Sp.step rfl rfl rfl rfl ?_
                      refine Sp.step rfl rfl rfl rfl ?_
                      exact Sp.jmp (l0 := [some (.ref 60), some (.int x), some (.int 1), some (.int (x205.2.1 + 1)), none, none]) ⟨rfl, rfl, rfl, rfl, trivial⟩ (fun _ _ h => h)
              · refine Sp.id (pc := 94) (l := [some (.ref 60), some (.int x), some (.int x205.1), some (.int x205.2.1), some (.int (x205.2.2.1 71 ((60 * x) + x205.2.1).toNatClampNeg)), some (.int (x205.2.2.1 72 ((60 * x) + x205.2.1).toNatClampNeg))]) (st := [.int 0]) (h := hS X x205.2.2) ?_
                refine Sp.step rfl rfl rfl rfl ?_
                refine Sp.step rfl rfl rfl rfl ?_
                refine Sp.step rfl rfl rfl rfl ?_
                refine Sp.if2 rfl rfl rfl rfl (fun e320 => ?_) (fun e320 => ?_)
                · refine Sp.step rfl rfl rfl rfl ?_
                  refine Sp.step rfl rfl rfl rfl ?_
                  refine Sp.if2 rfl rfl rfl rfl (fun e321 => ?_) (fun e321 => ?_)
                  · refine Sp.step rfl rfl rfl rfl ?_
                    refine Sp.step rfl rfl rfl rfl ?_
                    exact Sp.jmp (l0 := [some (.ref 60), some (.int x), some (.int x205.1), some (.int (x205.2.1 + 1)), none, none]) ⟨rfl, rfl, rfl, rfl, trivial⟩ (fun _ _ h => h)
                  · refine Sp.step rfl rfl rfl rfl ?_
                    refine Sp.step rfl rfl rfl rfl ?_
                    refine Sp.callS rfl rfl rfl (mrecv (by decide) (by decide +kernel)) s_M_isClass ⟨rfl, rfl⟩ ?_
                    refine Sp.bool (fun e322 => ?_) (fun e322 => ?_)
                    · refine Sp.id (pc := 162) (l := [some (.ref 60), some (.int x), some (.int x205.1), some (.int x205.2.1), some (.int (x205.2.2.1 71 ((60 * x) + x205.2.1).toNatClampNeg)), some (.int (x205.2.2.1 72 ((60 * x) + x205.2.1).toNatClampNeg))]) (st := [.int 1]) (h := hS X x205.2.2) ?_
                      refine Sp.step rfl rfl rfl rfl ?_
                      refine Sp.step rfl rfl rfl rfl ?_
                      refine Sp.step rfl rfl rfl (mg_F (f := 17) rfl rfl rfl rfl) ?_
                      refine Sp.step rfl rfl rfl rfl ?_
                      refine Sp.guard (fun e324 => ?_)
                      refine Sp.step rfl rfl rfl (mld rfl rfl (by decide) e324) ?_
                      refine Sp.if1 rfl rfl rfl rfl (fun e325 => ?_) (fun e325 => ?_)
                      · refine Sp.step rfl rfl rfl rfl ?_
                        refine Sp.step rfl rfl rfl rfl ?_
                        exact Sp.jmp (l0 := [some (.ref 60), some (.int x), some (.int x205.1), some (.int (x205.2.1 + 1)), none, none]) ⟨rfl, rfl, rfl, rfl, trivial⟩ (fun _ _ h => h)
                      · refine Sp.step rfl rfl rfl rfl ?_
                        refine Sp.step rfl rfl rfl (mg_F (f := 17) rfl rfl rfl rfl) ?_
                        refine Sp.step rfl rfl rfl rfl ?_
                        refine Sp.step rfl rfl rfl rfl ?_
                        refine Sp.step rfl rfl rfl (mst1 rfl rfl e324) ?_
                        refine Sp.step rfl rfl rfl rfl ?_
                        refine Sp.step rfl rfl rfl rfl ?_
                        refine Sp.step rfl rfl rfl rfl ?_
                        refine Sp.step rfl rfl rfl rfl ?_
                        exact Sp.jmp (l0 := [some (.ref 60), some (.int x), some (.int 1), some (.int (x205.2.1 + 1)), none, none]) ⟨rfl, rfl, rfl, rfl, trivial⟩ (fun _ _ h => h)
                    · refine Sp.id (pc := 162) (l := [some (.ref 60), some (.int x), some (.int x205.1), some (.int x205.2.1), some (.int (x205.2.2.1 71 ((60 * x) + x205.2.1).toNatClampNeg)), some (.int (x205.2.2.1 72 ((60 * x) + x205.2.1).toNatClampNeg))]) (st := [.int 0]) (h := hS X x205.2.2) ?_
                      refine Sp.step rfl rfl rfl rfl ?_
                      refine Sp.step rfl rfl rfl rfl ?_
                      refine Sp.step rfl rfl rfl rfl ?_
                      exact Sp.jmp (l0 := [some (.ref 60), some (.int x), some (.int x205.1), some (.int (x205.2.1 + 1)), none, none]) ⟨rfl, rfl, rfl, rfl, trivial⟩ (fun _ _ h => h)
                · refine Sp.step rfl rfl rfl rfl ?_
                  refine Sp.step rfl rfl rfl (mg_F (f := 19) rfl rfl rfl rfl) ?_
                  refine Sp.step rfl rfl rfl rfl ?_
                  refine Sp.step rfl rfl rfl rfl ?_
                  refine Sp.piece (pe := 121) (mf := (fun (x329 : Int32) => [some (.ref 60), some (.int x), some (.int x205.1), some (.int x205.2.1), some (.int (x205.2.2.1 71 ((60 * x) + x205.2.1).toNatClampNeg)), some (.int (x205.2.2.1 72 ((60 * x) + x205.2.1).toNatClampNeg))])) (sf := (fun (x329 : Int32) => [.int x329, .ref 78])) (hf := (fun (x329 : Int32) => hS X x205.2.2)) ?_ (fun x329 => ?_)
                  · refine Sp.if2 rfl rfl rfl rfl (fun e328 => ?_) (fun e328 => ?_)
                    · refine Sp.step rfl rfl rfl rfl ?_
                      exact Sp.jmp (l0 := [some (.ref 60), some (.int x), some (.int x205.1), some (.int x205.2.1), some (.int (x205.2.2.1 71 ((60 * x) + x205.2.1).toNatClampNeg)), some (.int (x205.2.2.1 72 ((60 * x) + x205.2.1).toNatClampNeg))]) ⟨rfl, rfl, rfl, rfl, rfl, rfl, trivial⟩ (fun _ _ h => h)
                    · refine Sp.step rfl rfl rfl rfl ?_
                      refine Sp.step rfl rfl rfl rfl ?_
                      exact Sp.jmp (l0 := [some (.ref 60), some (.int x), some (.int x205.1), some (.int x205.2.1), some (.int (x205.2.2.1 71 ((60 * x) + x205.2.1).toNatClampNeg)), some (.int (x205.2.2.1 72 ((60 * x) + x205.2.1).toNatClampNeg))]) ⟨rfl, rfl, rfl, rfl, rfl, rfl, trivial⟩ (fun _ _ h => h)
                  · refine Sp.guard (fun e330 => ?_)
                    refine Sp.step rfl rfl rfl (mld rfl rfl (by decide) e330) ?_
                    refine Sp.if1 rfl rfl rfl rfl (fun e331 => ?_) (fun e331 => ?_)
                    · refine Sp.step rfl rfl rfl rfl ?_
                      refine Sp.step rfl rfl rfl rfl ?_
                      refine Sp.if2 rfl rfl rfl rfl (fun e332 => ?_) (fun e332 => ?_)
                      · refine Sp.step rfl rfl rfl rfl ?_
                        refine Sp.step rfl rfl rfl rfl ?_
                        exact Sp.jmp (l0 := [some (.ref 60), some (.int x), some (.int x205.1), some (.int (x205.2.1 + 1)), none, none]) ⟨rfl, rfl, rfl, rfl, trivial⟩ (fun _ _ h => h)
                      · refine Sp.step rfl rfl rfl rfl ?_
                        refine Sp.step rfl rfl rfl rfl ?_
                        refine Sp.callS rfl rfl rfl (mrecv (by decide) (by decide +kernel)) s_M_isClass ⟨rfl, rfl⟩ ?_
                        refine Sp.bool (fun e333 => ?_) (fun e333 => ?_)
                        · refine Sp.id (pc := 162) (l := [some (.ref 60), some (.int x), some (.int x205.1), some (.int x205.2.1), some (.int (x205.2.2.1 71 ((60 * x) + x205.2.1).toNatClampNeg)), some (.int (x205.2.2.1 72 ((60 * x) + x205.2.1).toNatClampNeg))]) (st := [.int 1]) (h := hS X x205.2.2) ?_
                          refine Sp.step rfl rfl rfl rfl ?_
                          refine Sp.step rfl rfl rfl rfl ?_
                          refine Sp.step rfl rfl rfl (mg_F (f := 17) rfl rfl rfl rfl) ?_
                          refine Sp.step rfl rfl rfl rfl ?_
                          refine Sp.guard (fun e335 => ?_)
                          refine Sp.step rfl rfl rfl (mld rfl rfl (by decide) e335) ?_
                          refine Sp.if1 rfl rfl rfl rfl (fun e336 => ?_) (fun e336 => ?_)
                          · refine Sp.step rfl rfl rfl rfl ?_
                            refine Sp.step rfl rfl rfl rfl ?_
                            exact Sp.jmp (l0 := [some (.ref 60), some (.int x), some (.int x205.1), some (.int (x205.2.1 + 1)), none, none]) ⟨rfl, rfl, rfl, rfl, trivial⟩ (fun _ _ h => h)
                          · refine Sp.step rfl rfl rfl rfl ?_
                            refine Sp.step rfl rfl rfl (mg_F (f := 17) rfl rfl rfl rfl) ?_
                            refine Sp.step rfl rfl rfl rfl ?_
                            refine Sp.step rfl rfl rfl rfl ?_
                            refine Sp.step rfl rfl rfl (mst1 rfl rfl e335) ?_
                            refine Sp.step rfl rfl rfl rfl ?_
                            refine Sp.step rfl rfl rfl rfl ?_
                            refine Sp.step rfl rfl rfl rfl ?_
                            refine Sp.step rfl rfl rfl rfl ?_
                            exact Sp.jmp (l0 := [some (.ref 60), some (.int x), some (.int 1), some (.int (x205.2.1 + 1)), none, none]) ⟨rfl, rfl, rfl, rfl, trivial⟩ (fun _ _ h => h)
                        · refine Sp.id (pc := 162) (l := [some (.ref 60), some (.int x), some (.int x205.1), some (.int x205.2.1), some (.int (x205.2.2.1 71 ((60 * x) + x205.2.1).toNatClampNeg)), some (.int (x205.2.2.1 72 ((60 * x) + x205.2.1).toNatClampNeg))]) (st := [.int 0]) (h := hS X x205.2.2) ?_
                          refine Sp.step rfl rfl rfl rfl ?_
                          refine Sp.step rfl rfl rfl rfl ?_
                          refine Sp.step rfl rfl rfl rfl ?_
                          exact Sp.jmp (l0 := [some (.ref 60), some (.int x), some (.int x205.1), some (.int (x205.2.1 + 1)), none, none]) ⟨rfl, rfl, rfl, rfl, trivial⟩ (fun _ _ h => h)
                    · refine Sp.step rfl rfl rfl rfl ?_
                      refine Sp.step rfl rfl rfl (mg_F (f := 19) rfl rfl rfl rfl) ?_
                      refine Sp.step rfl rfl rfl rfl ?_
                      refine Sp.step rfl rfl rfl rfl ?_
                      refine Sp.if2 rfl rfl rfl rfl (fun e339 => ?_) (fun e339 => ?_)
                      · refine Sp.step rfl rfl rfl rfl ?_
                        refine Sp.step rfl rfl rfl rfl ?_
                        refine Sp.guard (fun e340 => ?_)
                        refine Sp.step rfl rfl rfl (mst1 rfl rfl e340) ?_
                        refine Sp.step rfl rfl rfl rfl ?_
                        refine Sp.step rfl rfl rfl rfl ?_
                        refine Sp.step rfl rfl rfl rfl ?_
                        refine Sp.step rfl rfl rfl rfl ?_
                        refine Sp.step rfl rfl rfl rfl ?_
                        exact Sp.jmp (l0 := [some (.ref 60), some (.int x), some (.int 1), some (.int (x205.2.1 + 1)), none, none]) ⟨rfl, rfl, rfl, rfl, trivial⟩ (fun _ _ h => h)
                      · refine Sp.step rfl rfl rfl rfl ?_
                        refine Sp.step rfl rfl rfl rfl ?_
                        refine Sp.step rfl rfl rfl rfl ?_
                        refine Sp.step rfl rfl rfl (mst1 rfl rfl (by decide)) ?_
                        refine Sp.step rfl rfl rfl rfl ?_
                        refine Sp.step rfl rfl rfl rfl ?_
                        refine Sp.step rfl rfl rfl rfl ?_
                        refine Sp.step rfl rfl rfl rfl ?_
                        refine Sp.step rfl rfl rfl rfl ?_
                        exact Sp.jmp (l0 := [some (.ref 60), some (.int x), some (.int 1), some (.int (x205.2.1 + 1)), none, none]) ⟨rfl, rfl, rfl, rfl, trivial⟩ (fun _ _ h => h)
          · refine Sp.step rfl rfl rfl rfl ?_
            refine Sp.step rfl rfl rfl (mg_F (f := 16) rfl rfl rfl rfl) ?_
            refine Sp.step rfl rfl rfl rfl ?_
            refine Sp.step rfl rfl rfl rfl ?_
            refine Sp.step rfl rfl rfl (mst1 rfl rfl e277) ?_
            refine Sp.step rfl rfl rfl rfl ?_
            refine Sp.step rfl rfl rfl rfl ?_
            refine Sp.step rfl rfl rfl rfl ?_
            refine Sp.step rfl rfl rfl rfl ?_
            refine Sp.step rfl rfl rfl rfl ?_
            exact Sp.jmp (l0 := [some (.ref 60), some (.int x), some (.int 1), some (.int (x205.2.1 + 1)), none, none]) ⟨rfl, rfl, rfl, rfl, trivial⟩ (fun _ _ h => h)
        · refine Sp.id (pc := 53) (l := [some (.ref 60), some (.int x), some (.int x205.1), some (.int x205.2.1), some (.int (x205.2.2.1 71 ((60 * x) + x205.2.1).toNatClampNeg)), some (.int (x205.2.2.1 72 ((60 * x) + x205.2.1).toNatClampNeg))]) (st := [.int 0]) (h := hS X x205.2.2) ?_
          refine Sp.step rfl rfl rfl rfl ?_
          refine Sp.step rfl rfl rfl rfl ?_
          refine Sp.step rfl rfl rfl rfl ?_
          refine Sp.if2 rfl rfl rfl rfl (fun e345 => ?_) (fun e345 => ?_)
          · refine Sp.step rfl rfl rfl rfl ?_
            refine Sp.step rfl rfl rfl rfl ?_
            refine Sp.if2 rfl rfl rfl rfl (fun e346 => ?_) (fun e346 => ?_)
            · refine Sp.step rfl rfl rfl rfl ?_
              refine Sp.step rfl rfl rfl rfl ?_
              refine Sp.if2 rfl rfl rfl rfl (fun e347 => ?_) (fun e347 => ?_)
              · refine Sp.step rfl rfl rfl rfl ?_
                refine Sp.step rfl rfl rfl rfl ?_
                exact Sp.jmp (l0 := [some (.ref 60), some (.int x), some (.int x205.1), some (.int (x205.2.1 + 1)), none, none]) ⟨rfl, rfl, rfl, rfl, trivial⟩ (fun _ _ h => h)
              · refine Sp.step rfl rfl rfl rfl ?_
                refine Sp.step rfl rfl rfl rfl ?_
                refine Sp.callS rfl rfl rfl (mrecv (by decide) (by decide +kernel)) s_M_isClass ⟨rfl, rfl⟩ ?_
                refine Sp.bool (fun e348 => ?_) (fun e348 => ?_)
                · refine Sp.id (pc := 162) (l := [some (.ref 60), some (.int x), some (.int x205.1), some (.int x205.2.1), some (.int (x205.2.2.1 71 ((60 * x) + x205.2.1).toNatClampNeg)), some (.int (x205.2.2.1 72 ((60 * x) + x205.2.1).toNatClampNeg))]) (st := [.int 1]) (h := hS X x205.2.2) ?_
                  refine Sp.step rfl rfl rfl rfl ?_
                  refine Sp.step rfl rfl rfl rfl ?_
                  refine Sp.step rfl rfl rfl (mg_F (f := 17) rfl rfl rfl rfl) ?_
                  refine Sp.step rfl rfl rfl rfl ?_
                  refine Sp.guard (fun e350 => ?_)
                  refine Sp.step rfl rfl rfl (mld rfl rfl (by decide) e350) ?_
                  refine Sp.if1 rfl rfl rfl rfl (fun e351 => ?_) (fun e351 => ?_)
                  · refine Sp.step rfl rfl rfl rfl ?_
                    refine Sp.step rfl rfl rfl rfl ?_
                    exact Sp.jmp (l0 := [some (.ref 60), some (.int x), some (.int x205.1), some (.int (x205.2.1 + 1)), none, none]) ⟨rfl, rfl, rfl, rfl, trivial⟩ (fun _ _ h => h)
                  · refine Sp.step rfl rfl rfl rfl ?_
                    refine Sp.step rfl rfl rfl (mg_F (f := 17) rfl rfl rfl rfl) ?_
                    refine Sp.step rfl rfl rfl rfl ?_
                    refine Sp.step rfl rfl rfl rfl ?_
                    refine Sp.step rfl rfl rfl (mst1 rfl rfl e350) ?_
                    refine Sp.step rfl rfl rfl rfl ?_
                    refine Sp.step rfl rfl rfl rfl ?_
                    refine Sp.step rfl rfl rfl rfl ?_
                    refine Sp.step rfl rfl rfl rfl ?_
                    exact Sp.jmp (l0 := [some (.ref 60), some (.int x), some (.int 1), some (.int (x205.2.1 + 1)), none, none]) ⟨rfl, rfl, rfl, rfl, trivial⟩ (fun _ _ h => h)
                · refine Sp.id (pc := 162) (l := [some (.ref 60), some (.int x), some (.int x205.1), some (.int x205.2.1), some (.int (x205.2.2.1 71 ((60 * x) + x205.2.1).toNatClampNeg)), some (.int (x205.2.2.1 72 ((60 * x) + x205.2.1).toNatClampNeg))]) (st := [.int 0]) (h := hS X x205.2.2) ?_
                  refine Sp.step rfl rfl rfl rfl ?_
                  refine Sp.step rfl rfl rfl rfl ?_
                  refine Sp.step rfl rfl rfl rfl ?_
                  exact Sp.jmp (l0 := [some (.ref 60), some (.int x), some (.int x205.1), some (.int (x205.2.1 + 1)), none, none]) ⟨rfl, rfl, rfl, rfl, trivial⟩ (fun _ _ h => h)
            · refine Sp.step rfl rfl rfl rfl ?_
              refine Sp.step rfl rfl rfl (mg_F (f := 19) rfl rfl rfl rfl) ?_
              refine Sp.step rfl rfl rfl rfl ?_
              refine Sp.step rfl rfl rfl rfl ?_
              refine Sp.piece (pe := 121) (mf := (fun (x355 : Int32) => [some (.ref 60), some (.int x), some (.int x205.1), some (.int x205.2.1), some (.int (x205.2.2.1 71 ((60 * x) + x205.2.1).toNatClampNeg)), some (.int (x205.2.2.1 72 ((60 * x) + x205.2.1).toNatClampNeg))])) (sf := (fun (x355 : Int32) => [.int x355, .ref 78])) (hf := (fun (x355 : Int32) => hS X x205.2.2)) ?_ (fun x355 => ?_)
              · refine Sp.if2 rfl rfl rfl rfl (fun e354 => ?_) (fun e354 => ?_)
                · refine Sp.step rfl rfl rfl rfl ?_
                  exact Sp.jmp (l0 := [some (.ref 60), some (.int x), some (.int x205.1), some (.int x205.2.1), some (.int (x205.2.2.1 71 ((60 * x) + x205.2.1).toNatClampNeg)), some (.int (x205.2.2.1 72 ((60 * x) + x205.2.1).toNatClampNeg))]) ⟨rfl, rfl, rfl, rfl, rfl, rfl, trivial⟩ (fun _ _ h => h)
                · refine Sp.step rfl rfl rfl rfl ?_
                  refine Sp.step rfl rfl rfl rfl ?_
                  exact Sp.jmp (l0 := [some (.ref 60), some (.int x), some (.int x205.1), some (.int x205.2.1), some (.int (x205.2.2.1 71 ((60 * x) + x205.2.1).toNatClampNeg)), some (.int (x205.2.2.1 72 ((60 * x) + x205.2.1).toNatClampNeg))]) ⟨rfl, rfl, rfl, rfl, rfl, rfl, trivial⟩ (fun _ _ h => h)
              · refine Sp.guard (fun e356 => ?_)
                refine Sp.step rfl rfl rfl (mld rfl rfl (by decide) e356) ?_
                refine Sp.if1 rfl rfl rfl rfl (fun e357 => ?_) (fun e357 => ?_)
                · refine Sp.step rfl rfl rfl rfl ?_
                  refine Sp.step rfl rfl rfl rfl ?_
                  refine Sp.if2 rfl rfl rfl rfl (fun e358 => ?_) (fun e358 => ?_)
                  · refine Sp.step rfl rfl rfl rfl ?_
                    refine Sp.step rfl rfl rfl rfl ?_
                    exact Sp.jmp (l0 := [some (.ref 60), some (.int x), some (.int x205.1), some (.int (x205.2.1 + 1)), none, none]) ⟨rfl, rfl, rfl, rfl, trivial⟩ (fun _ _ h => h)
                  · refine Sp.step rfl rfl rfl rfl ?_
                    refine Sp.step rfl rfl rfl rfl ?_
                    refine Sp.callS rfl rfl rfl (mrecv (by decide) (by decide +kernel)) s_M_isClass ⟨rfl, rfl⟩ ?_
                    refine Sp.bool (fun e359 => ?_) (fun e359 => ?_)
                    · refine Sp.id (pc := 162) (l := [some (.ref 60), some (.int x), some (.int x205.1), some (.int x205.2.1), some (.int (x205.2.2.1 71 ((60 * x) + x205.2.1).toNatClampNeg)), some (.int (x205.2.2.1 72 ((60 * x) + x205.2.1).toNatClampNeg))]) (st := [.int 1]) (h := hS X x205.2.2) ?_
                      refine Sp.step rfl rfl rfl rfl ?_
                      refine Sp.step rfl rfl rfl rfl ?_
                      refine Sp.step rfl rfl rfl (mg_F (f := 17) rfl rfl rfl rfl) ?_
                      refine Sp.step rfl rfl rfl rfl ?_
                      refine Sp.guard (fun e361 => ?_)
                      refine Sp.step rfl rfl rfl (mld rfl rfl (by decide) e361) ?_
                      refine Sp.if1 rfl rfl rfl rfl (fun e362 => ?_) (fun e362 => ?_)
                      · refine Sp.step rfl rfl rfl rfl ?_
                        refine Sp.step rfl rfl rfl rfl ?_
                        exact Sp.jmp (l0 := [some (.ref 60), some (.int x), some (.int x205.1), some (.int (x205.2.1 + 1)), none, none]) ⟨rfl, rfl, rfl, rfl, trivial⟩ (fun _ _ h => h)
                      · refine Sp.step rfl rfl rfl rfl ?_
                        refine Sp.step rfl rfl rfl (mg_F (f := 17) rfl rfl rfl rfl) ?_
                        refine Sp.step rfl rfl rfl rfl ?_
                        refine Sp.step rfl rfl rfl rfl ?_
                        refine Sp.step rfl rfl rfl (mst1 rfl rfl e361) ?_
                        refine Sp.step rfl rfl rfl rfl ?_
                        refine Sp.step rfl rfl rfl rfl ?_
                        refine Sp.step rfl rfl rfl rfl ?_
                        refine Sp.step rfl rfl rfl rfl ?_
                        exact Sp.jmp (l0 := [some (.ref 60), some (.int x), some (.int 1), some (.int (x205.2.1 + 1)), none, none]) ⟨rfl, rfl, rfl, rfl, trivial⟩ (fun _ _ h => h)
                    · refine Sp.id (pc := 162) (l := [some (.ref 60), some (.int x), some (.int x205.1), some (.int x205.2.1), some (.int (x205.2.2.1 71 ((60 * x) + x205.2.1).toNatClampNeg)), some (.int (x205.2.2.1 72 ((60 * x) + x205.2.1).toNatClampNeg))]) (st := [.int 0]) (h := hS X x205.2.2) ?_
                      refine Sp.step rfl rfl rfl rfl ?_
                      refine Sp.step rfl rfl rfl rfl ?_
                      refine Sp.step rfl rfl rfl rfl ?_
                      exact Sp.jmp (l0 := [some (.ref 60), some (.int x), some (.int x205.1), some (.int (x205.2.1 + 1)), none, none]) ⟨rfl, rfl, rfl, rfl, trivial⟩ (fun _ _ h => h)
                · refine Sp.step rfl rfl rfl rfl ?_
                  refine Sp.step rfl rfl rfl (mg_F (f := 19) rfl rfl rfl rfl) ?_
                  refine Sp.step rfl rfl rfl rfl ?_
                  refine Sp.step rfl rfl rfl rfl ?_
                  refine Sp.if2 rfl rfl rfl rfl (fun e365 => ?_) (fun e365 => ?_)
                  · refine Sp.step rfl rfl rfl rfl ?_
                    refine Sp.step rfl rfl rfl rfl ?_
                    refine Sp.guard (fun e366 => ?_)
                    refine Sp.step rfl rfl rfl (mst1 rfl rfl e366) ?_
                    refine Sp.step rfl rfl rfl rfl ?_
                    refine Sp.step rfl rfl rfl rfl ?_
                    refine Sp.step rfl rfl rfl rfl ?_
                    refine Sp.step rfl rfl rfl rfl ?_
                    refine Sp.step rfl rfl rfl rfl ?_
                    exact Sp.jmp (l0 := [some (.ref 60), some (.int x), some (.int 1), some (.int (x205.2.1 + 1)), none, none]) ⟨rfl, rfl, rfl, rfl, trivial⟩ (fun _ _ h => h)
                  · refine Sp.step rfl rfl rfl rfl ?_
                    refine Sp.step rfl rfl rfl rfl ?_
                    refine Sp.step rfl rfl rfl rfl ?_
                    refine Sp.step rfl rfl rfl (mst1 rfl rfl (by decide)) ?_
                    refine Sp.step rfl rfl rfl rfl ?_
                    refine Sp.step rfl rfl rfl rfl ?_
                    refine Sp.step rfl rfl rfl rfl ?_
                    refine Sp.step rfl rfl rfl rfl ?_
                    refine Sp.step rfl rfl rfl rfl ?_
                    exact Sp.jmp (l0 := [some (.ref 60), some (.int x), some (.int 1), some (.int (x205.2.1 + 1)), none, none]) ⟨rfl, rfl, rfl, rfl, trivial⟩ (fun _ _ h => h)
          · refine Sp.step rfl rfl rfl rfl ?_
            refine Sp.step rfl rfl rfl rfl ?_
            refine Sp.step rfl rfl rfl rfl ?_
            refine Sp.callP rfl rfl rfl rfl s_isIn (fun e369 => ?_) (fun e369 => ?_)
            · refine Sp.id (pc := 94) (l := [some (.ref 60), some (.int x), some (.int x205.1), some (.int x205.2.1), some (.int (x205.2.2.1 71 ((60 * x) + x205.2.1).toNatClampNeg)), some (.int (x205.2.2.1 72 ((60 * x) + x205.2.1).toNatClampNeg))]) (st := [.int 1]) (h := hS X x205.2.2) ?_
              refine Sp.step rfl rfl rfl rfl ?_
              refine Sp.step rfl rfl rfl rfl ?_
              refine Sp.step rfl rfl rfl (mg_F (f := 19) rfl rfl rfl rfl) ?_
              refine Sp.step rfl rfl rfl rfl ?_
              refine Sp.step rfl rfl rfl rfl ?_
              refine Sp.piece (pe := 121) (mf := (fun (x372 : Int32) => [some (.ref 60), some (.int x), some (.int x205.1), some (.int x205.2.1), some (.int (x205.2.2.1 71 ((60 * x) + x205.2.1).toNatClampNeg)), some (.int (x205.2.2.1 72 ((60 * x) + x205.2.1).toNatClampNeg))])) (sf := (fun (x372 : Int32) => [.int x372, .ref 78])) (hf := (fun (x372 : Int32) => hS X x205.2.2)) ?_ (fun x372 => ?_)
              · refine Sp.if2 rfl rfl rfl rfl (fun e371 => ?_) (fun e371 => ?_)
                · refine Sp.step rfl rfl rfl rfl ?_
                  exact Sp.jmp (l0 := [some (.ref 60), some (.int x), some (.int x205.1), some (.int x205.2.1), some (.int (x205.2.2.1 71 ((60 * x) + x205.2.1).toNatClampNeg)), some (.int (x205.2.2.1 72 ((60 * x) + x205.2.1).toNatClampNeg))]) ⟨rfl, rfl, rfl, rfl, rfl, rfl, trivial⟩ (fun _ _ h => h)
                · refine Sp.step rfl rfl rfl rfl ?_
                  refine Sp.step rfl rfl rfl rfl ?_
                  exact Sp.jmp (l0 := [some (.ref 60), some (.int x), some (.int x205.1), some (.int x205.2.1), some (.int (x205.2.2.1 71 ((60 * x) + x205.2.1).toNatClampNeg)), some (.int (x205.2.2.1 72 ((60 * x) + x205.2.1).toNatClampNeg))]) ⟨rfl, rfl, rfl, rfl, rfl, rfl, trivial⟩ (fun _ _ h => h)
              · refine Sp.guard (fun e373 => ?_)
                refine Sp.step rfl rfl rfl (mld rfl rfl (by decide) e373) ?_
                refine Sp.if1 rfl rfl rfl rfl (fun e374 => ?_) (fun e374 => ?_)
                · refine Sp.step rfl rfl rfl rfl ?_
                  refine Sp.step rfl rfl rfl rfl ?_
                  refine Sp.if2 rfl rfl rfl rfl (fun e375 => ?_) (fun e375 => ?_)
                  · refine Sp.step rfl rfl rfl rfl ?_
                    refine Sp.step rfl rfl rfl rfl ?_
                    exact Sp.jmp (l0 := [some (.ref 60), some (.int x), some (.int x205.1), some (.int (x205.2.1 + 1)), none, none]) ⟨rfl, rfl, rfl, rfl, trivial⟩ (fun _ _ h => h)
                  · refine Sp.step rfl rfl rfl rfl ?_
                    refine Sp.step rfl rfl rfl rfl ?_
                    refine Sp.callS rfl rfl rfl (mrecv (by decide) (by decide +kernel)) s_M_isClass ⟨rfl, rfl⟩ ?_
                    refine Sp.bool (fun e376 => ?_) (fun e376 => ?_)
                    · refine Sp.id (pc := 162) (l := [some (.ref 60), some (.int x), some (.int x205.1), some (.int x205.2.1), some (.int (x205.2.2.1 71 ((60 * x) + x205.2.1).toNatClampNeg)), some (.int (x205.2.2.1 72 ((60 * x) + x205.2.1).toNatClampNeg))]) (st := [.int 1]) (h := hS X x205.2.2) ?_
                      refine Sp.step rfl rfl rfl rfl ?_
                      refine Sp.step rfl rfl rfl rfl ?_
                      refine Sp.step rfl rfl rfl (mg_F (f := 17) rfl rfl rfl rfl) ?_
                      refine Sp.step rfl rfl rfl rfl ?_
                      refine Sp.guard (fun e378 => ?_)
                      refine Sp.step rfl rfl rfl (mld rfl rfl (by decide) e378) ?_
                      refine Sp.if1 rfl rfl rfl rfl (fun e379 => ?_) (fun e379 => ?_)
                      · refine Sp.step rfl rfl rfl rfl ?_
                        refine Sp.step rfl rfl rfl rfl ?_
                        exact Sp.jmp (l0 := [some (.ref 60), some (.int x), some (.int x205.1), some (.int (x205.2.1 + 1)), none, none]) ⟨rfl, rfl, rfl, rfl, trivial⟩ (fun _ _ h => h)
                      · refine Sp.step rfl rfl rfl rfl ?_
                        refine Sp.step rfl rfl rfl (mg_F (f := 17) rfl rfl rfl rfl) ?_
                        refine Sp.step rfl rfl rfl rfl ?_
                        refine Sp.step rfl rfl rfl rfl ?_
                        refine Sp.step rfl rfl rfl (mst1 rfl rfl e378) ?_
                        refine Sp.step rfl rfl rfl rfl ?_
                        refine Sp.step rfl rfl rfl rfl ?_
                        refine Sp.step rfl rfl rfl rfl ?_
                        refine Sp.step rfl rfl rfl rfl ?_
                        exact Sp.jmp (l0 := [some (.ref 60), some (.int x), some (.int 1), some (.int (x205.2.1 + 1)), none, none]) ⟨rfl, rfl, rfl, rfl, trivial⟩ (fun _ _ h => h)
                    · refine Sp.id (pc := 162) (l := [some (.ref 60), some (.int x), some (.int x205.1), some (.int x205.2.1), some (.int (x205.2.2.1 71 ((60 * x) + x205.2.1).toNatClampNeg)), some (.int (x205.2.2.1 72 ((60 * x) + x205.2.1).toNatClampNeg))]) (st := [.int 0]) (h := hS X x205.2.2) ?_
                      refine Sp.step rfl rfl rfl rfl ?_
                      refine Sp.step rfl rfl rfl rfl ?_
                      refine Sp.step rfl rfl rfl rfl ?_
                      exact Sp.jmp (l0 := [some (.ref 60), some (.int x), some (.int x205.1), some (.int (x205.2.1 + 1)), none, none]) ⟨rfl, rfl, rfl, rfl, trivial⟩ (fun _ _ h => h)
                · refine Sp.step rfl rfl rfl rfl ?_
                  refine Sp.step rfl rfl rfl (mg_F (f := 19) rfl rfl rfl rfl) ?_
                  refine Sp.step rfl rfl rfl rfl ?_
                  refine Sp.step rfl rfl rfl rfl ?_
                  refine Sp.if2 rfl rfl rfl rfl (fun e382 => ?_) (fun e382 => ?_)
                  · refine Sp.step rfl rfl rfl rfl ?_
                    refine Sp.step rfl rfl rfl rfl ?_
                    refine Sp.step rfl rfl rfl (mst1 rfl rfl (ix_le (N := 7) rfl e369.1 e369.2)) ?_
                    refine Sp.step rfl rfl rfl rfl ?_
                    refine Sp.step rfl rfl rfl rfl ?_
                    refine Sp.step rfl rfl rfl rfl ?_
                    refine Sp.step rfl rfl rfl rfl ?_
                    refine Sp.step rfl rfl rfl rfl ?_
                    exact Sp.jmp (l0 := [some (.ref 60), some (.int x), some (.int 1), some (.int (x205.2.1 + 1)), none, none]) ⟨rfl, rfl, rfl, rfl, trivial⟩ (fun _ _ h => h)
                  · refine Sp.step rfl rfl rfl rfl ?_
                    refine Sp.step rfl rfl rfl rfl ?_
                    refine Sp.step rfl rfl rfl rfl ?_
                    refine Sp.step rfl rfl rfl (mst1 rfl rfl (by decide)) ?_
                    refine Sp.step rfl rfl rfl rfl ?_
                    refine Sp.step rfl rfl rfl rfl ?_
                    refine Sp.step rfl rfl rfl rfl ?_
                    refine Sp.step rfl rfl rfl rfl ?_
                    refine Sp.step rfl rfl rfl rfl ?_
                    exact Sp.jmp (l0 := [some (.ref 60), some (.int x), some (.int 1), some (.int (x205.2.1 + 1)), none, none]) ⟨rfl, rfl, rfl, rfl, trivial⟩ (fun _ _ h => h)
            · refine Sp.id (pc := 94) (l := [some (.ref 60), some (.int x), some (.int x205.1), some (.int x205.2.1), some (.int (x205.2.2.1 71 ((60 * x) + x205.2.1).toNatClampNeg)), some (.int (x205.2.2.1 72 ((60 * x) + x205.2.1).toNatClampNeg))]) (st := [.int 0]) (h := hS X x205.2.2) ?_
              refine Sp.step rfl rfl rfl rfl ?_
              refine Sp.step rfl rfl rfl rfl ?_
              refine Sp.step rfl rfl rfl rfl ?_
              refine Sp.if2 rfl rfl rfl rfl (fun e386 => ?_) (fun e386 => ?_)
              · refine Sp.step rfl rfl rfl rfl ?_
                refine Sp.step rfl rfl rfl rfl ?_
                refine Sp.if2 rfl rfl rfl rfl (fun e387 => ?_) (fun e387 => ?_)
                · refine Sp.step rfl rfl rfl rfl ?_
                  refine Sp.step rfl rfl rfl rfl ?_
                  exact Sp.jmp (l0 := [some (.ref 60), some (.int x), some (.int x205.1), some (.int (x205.2.1 + 1)), none, none]) ⟨rfl, rfl, rfl, rfl, trivial⟩ (fun _ _ h => h)
                · refine Sp.step rfl rfl rfl rfl ?_
                  refine Sp.step rfl rfl rfl rfl ?_
                  refine Sp.callS rfl rfl rfl (mrecv (by decide) (by decide +kernel)) s_M_isClass ⟨rfl, rfl⟩ ?_
                  refine Sp.bool (fun e388 => ?_) (fun e388 => ?_)
                  · refine Sp.id (pc := 162) (l := [some (.ref 60), some (.int x), some (.int x205.1), some (.int x205.2.1), some (.int (x205.2.2.1 71 ((60 * x) + x205.2.1).toNatClampNeg)), some (.int (x205.2.2.1 72 ((60 * x) + x205.2.1).toNatClampNeg))]) (st := [.int 1]) (h := hS X x205.2.2) ?_
                    refine Sp.step rfl rfl rfl rfl ?_
                    refine Sp.step rfl rfl rfl rfl ?_
                    refine Sp.step rfl rfl rfl (mg_F (f := 17) rfl rfl rfl rfl) ?_
                    refine Sp.step rfl rfl rfl rfl ?_
                    refine Sp.guard (fun e390 => ?_)
                    refine Sp.step rfl rfl rfl (mld rfl rfl (by decide) e390) ?_
                    refine Sp.if1 rfl rfl rfl rfl (fun e391 => ?_) (fun e391 => ?_)
                    · refine Sp.step rfl rfl rfl rfl ?_
                      refine Sp.step rfl rfl rfl rfl ?_
                      exact Sp.jmp (l0 := [some (.ref 60), some (.int x), some (.int x205.1), some (.int (x205.2.1 + 1)), none, none]) ⟨rfl, rfl, rfl, rfl, trivial⟩ (fun _ _ h => h)
                    · refine Sp.step rfl rfl rfl rfl ?_
                      refine Sp.step rfl rfl rfl (mg_F (f := 17) rfl rfl rfl rfl) ?_
                      refine Sp.step rfl rfl rfl rfl ?_
                      refine Sp.step rfl rfl rfl rfl ?_
                      refine Sp.step rfl rfl rfl (mst1 rfl rfl e390) ?_
                      refine Sp.step rfl rfl rfl rfl ?_
                      refine Sp.step rfl rfl rfl rfl ?_
                      refine Sp.step rfl rfl rfl rfl ?_
                      refine Sp.step rfl rfl rfl rfl ?_
                      exact Sp.jmp (l0 := [some (.ref 60), some (.int x), some (.int 1), some (.int (x205.2.1 + 1)), none, none]) ⟨rfl, rfl, rfl, rfl, trivial⟩ (fun _ _ h => h)
                  · refine Sp.id (pc := 162) (l := [some (.ref 60), some (.int x), some (.int x205.1), some (.int x205.2.1), some (.int (x205.2.2.1 71 ((60 * x) + x205.2.1).toNatClampNeg)), some (.int (x205.2.2.1 72 ((60 * x) + x205.2.1).toNatClampNeg))]) (st := [.int 0]) (h := hS X x205.2.2) ?_
                    refine Sp.step rfl rfl rfl rfl ?_
                    refine Sp.step rfl rfl rfl rfl ?_
                    refine Sp.step rfl rfl rfl rfl ?_
                    exact Sp.jmp (l0 := [some (.ref 60), some (.int x), some (.int x205.1), some (.int (x205.2.1 + 1)), none, none]) ⟨rfl, rfl, rfl, rfl, trivial⟩ (fun _ _ h => h)
              · refine Sp.step rfl rfl rfl rfl ?_
                refine Sp.step rfl rfl rfl (mg_F (f := 19) rfl rfl rfl rfl) ?_
                refine Sp.step rfl rfl rfl rfl ?_
                refine Sp.step rfl rfl rfl rfl ?_
                refine Sp.piece (pe := 121) (mf := (fun (x395 : Int32) => [some (.ref 60), some (.int x), some (.int x205.1), some (.int x205.2.1), some (.int (x205.2.2.1 71 ((60 * x) + x205.2.1).toNatClampNeg)), some (.int (x205.2.2.1 72 ((60 * x) + x205.2.1).toNatClampNeg))])) (sf := (fun (x395 : Int32) => [.int x395, .ref 78])) (hf := (fun (x395 : Int32) => hS X x205.2.2)) ?_ (fun x395 => ?_)
                · refine Sp.if2 rfl rfl rfl rfl (fun e394 => ?_) (fun e394 => ?_)
                  · refine Sp.step rfl rfl rfl rfl ?_
                    exact Sp.jmp (l0 := [some (.ref 60), some (.int x), some (.int x205.1), some (.int x205.2.1), some (.int (x205.2.2.1 71 ((60 * x) + x205.2.1).toNatClampNeg)), some (.int (x205.2.2.1 72 ((60 * x) + x205.2.1).toNatClampNeg))]) ⟨rfl, rfl, rfl, rfl, rfl, rfl, trivial⟩ (fun _ _ h => h)
                  · refine Sp.step rfl rfl rfl rfl ?_
                    refine Sp.step rfl rfl rfl rfl ?_
                    exact Sp.jmp (l0 := [some (.ref 60), some (.int x), some (.int x205.1), some (.int x205.2.1), some (.int (x205.2.2.1 71 ((60 * x) + x205.2.1).toNatClampNeg)), some (.int (x205.2.2.1 72 ((60 * x) + x205.2.1).toNatClampNeg))]) ⟨rfl, rfl, rfl, rfl, rfl, rfl, trivial⟩ (fun _ _ h => h)
                · refine Sp.guard (fun e396 => ?_)
                  refine Sp.step rfl rfl rfl (mld rfl rfl (by decide) e396) ?_
                  refine Sp.if1 rfl rfl rfl rfl (fun e397 => ?_) (fun e397 => ?_)
                  · refine Sp.step rfl rfl rfl rfl ?_
                    refine Sp.step rfl rfl rfl rfl ?_
                    refine Sp.if2 rfl rfl rfl rfl (fun e398 => ?_) (fun e398 => ?_)
                    · refine Sp.step rfl rfl rfl rfl ?_
                      refine Sp.step rfl rfl rfl rfl ?_
                      exact Sp.jmp (l0 := [some (.ref 60), some (.int x), some (.int x205.1), some (.int (x205.2.1 + 1)), none, none]) ⟨rfl, rfl, rfl, rfl, trivial⟩ (fun _ _ h => h)
                    · refine Sp.step rfl rfl rfl rfl ?_
                      refine Sp.step rfl rfl rfl rfl ?_
                      refine Sp.callS rfl rfl rfl (mrecv (by decide) (by decide +kernel)) s_M_isClass ⟨rfl, rfl⟩ ?_
                      refine Sp.bool (fun e399 => ?_) (fun e399 => ?_)
                      · refine Sp.id (pc := 162) (l := [some (.ref 60), some (.int x), some (.int x205.1), some (.int x205.2.1), some (.int (x205.2.2.1 71 ((60 * x) + x205.2.1).toNatClampNeg)), some (.int (x205.2.2.1 72 ((60 * x) + x205.2.1).toNatClampNeg))]) (st := [.int 1]) (h := hS X x205.2.2) ?_
                        refine Sp.step rfl rfl rfl rfl ?_
                        refine Sp.step rfl rfl rfl rfl ?_
                        refine Sp.step rfl rfl rfl (mg_F (f := 17) rfl rfl rfl rfl) ?_
                        refine Sp.step rfl rfl rfl rfl ?_
                        refine Sp.guard (fun e401 => ?_)
                        refine Sp.step rfl rfl rfl (mld rfl rfl (by decide) e401) ?_
                        refine Sp.if1 rfl rfl rfl rfl (fun e402 => ?_) (fun e402 => ?_)
                        · refine Sp.step rfl rfl rfl rfl ?_
                          refine Sp.step rfl rfl rfl rfl ?_
                          exact Sp.jmp (l0 := [some (.ref 60), some (.int x), some (.int x205.1), some (.int (x205.2.1 + 1)), none, none]) ⟨rfl, rfl, rfl, rfl, trivial⟩ (fun _ _ h => h)
                        · refine Sp.step rfl rfl rfl rfl ?_
                          refine Sp.step rfl rfl rfl (mg_F (f := 17) rfl rfl rfl rfl) ?_
                          refine Sp.step rfl rfl rfl rfl ?_
                          refine Sp.step rfl rfl rfl rfl ?_
                          refine Sp.step rfl rfl rfl (mst1 rfl rfl e401) ?_
                          refine Sp.step rfl rfl rfl rfl ?_
                          refine Sp.step rfl rfl rfl rfl ?_
                          refine Sp.step rfl rfl rfl rfl ?_
                          refine Sp.step rfl rfl rfl rfl ?_
                          exact Sp.jmp (l0 := [some (.ref 60), some (.int x), some (.int 1), some (.int (x205.2.1 + 1)), none, none]) ⟨rfl, rfl, rfl, rfl, trivial⟩ (fun _ _ h => h)
                      · refine Sp.id (pc := 162) (l := [some (.ref 60), some (.int x), some (.int x205.1), some (.int x205.2.1), some (.int (x205.2.2.1 71 ((60 * x) + x205.2.1).toNatClampNeg)), some (.int (x205.2.2.1 72 ((60 * x) + x205.2.1).toNatClampNeg))]) (st := [.int 0]) (h := hS X x205.2.2) ?_
                        refine Sp.step rfl rfl rfl rfl ?_
                        refine Sp.step rfl rfl rfl rfl ?_
                        refine Sp.step rfl rfl rfl rfl ?_
                        exact Sp.jmp (l0 := [some (.ref 60), some (.int x), some (.int x205.1), some (.int (x205.2.1 + 1)), none, none]) ⟨rfl, rfl, rfl, rfl, trivial⟩ (fun _ _ h => h)
                  · refine Sp.step rfl rfl rfl rfl ?_
                    refine Sp.step rfl rfl rfl (mg_F (f := 19) rfl rfl rfl rfl) ?_
                    refine Sp.step rfl rfl rfl rfl ?_
                    refine Sp.step rfl rfl rfl rfl ?_
                    refine Sp.if2 rfl rfl rfl rfl (fun e405 => ?_) (fun e405 => ?_)
                    · refine Sp.step rfl rfl rfl rfl ?_
                      refine Sp.step rfl rfl rfl rfl ?_
                      refine Sp.guard (fun e406 => ?_)
                      refine Sp.step rfl rfl rfl (mst1 rfl rfl e406) ?_
                      refine Sp.step rfl rfl rfl rfl ?_
                      refine Sp.step rfl rfl rfl rfl ?_
                      refine Sp.step rfl rfl rfl rfl ?_
                      refine Sp.step rfl rfl rfl rfl ?_
                      refine Sp.step rfl rfl rfl rfl ?_
                      exact Sp.jmp (l0 := [some (.ref 60), some (.int x), some (.int 1), some (.int (x205.2.1 + 1)), none, none]) ⟨rfl, rfl, rfl, rfl, trivial⟩ (fun _ _ h => h)
                    · refine Sp.step rfl rfl rfl rfl ?_
                      refine Sp.step rfl rfl rfl rfl ?_
                      refine Sp.step rfl rfl rfl rfl ?_
                      refine Sp.step rfl rfl rfl (mst1 rfl rfl (by decide)) ?_
                      refine Sp.step rfl rfl rfl rfl ?_
                      refine Sp.step rfl rfl rfl rfl ?_
                      refine Sp.step rfl rfl rfl rfl ?_
                      refine Sp.step rfl rfl rfl rfl ?_
                      refine Sp.step rfl rfl rfl rfl ?_
                      exact Sp.jmp (l0 := [some (.ref 60), some (.int x), some (.int 1), some (.int (x205.2.1 + 1)), none, none]) ⟨rfl, rfl, rfl, rfl, trivial⟩ (fun _ _ h => h)
  · refine Sp.step rfl rfl rfl rfl ?_
    refine Sp.ite (fun e410 => ?_) (fun _ => Sp.guard (fun e410 => ?_))
    · exact Sp.iret rfl rfl rfl (by rw [e410]; rfl) (fun _ _ h => by rw [e410]; exact h)
    · exact Sp.iret rfl rfl rfl (by rw [e410]; rfl) (fun _ _ h => by rw [e410]; exact h)
def b9_M_find (y : Int32) (M : MS) (x1 : Int32) (x3 : Int32) : Option (Int32 ⊕ (Int32 ⊕ Int32)) := (if M.1 60 15 ≤ x3 then (if ixo x1 10 then some (.inr (.inl (M.1 61 x1.toNatClampNeg))) else none) else (if ixo x3 24 then (if ¬ M.1 64 x3.toNatClampNeg = x1 then some (.inl (x3 + 1)) else (if ¬ M.1 65 x3.toNatClampNeg = y then some (.inl (x3 + 1)) else some (.inr (.inr x3)))) else none))
def b2_M_find (y : Int32) (M : MS) (x1 : Int32) : Option (Int32 ⊕ Int32) := (if x1 < 0 then some (.inr (-2)) else (lp (b9_M_find y M x1) 10000 (0 : Int32)))
def f_M_find (x : Int32) (y : Int32) (M : MS) : Option Int32 := (lp (b2_M_find y M) 10000 x)
set_option maxRecDepth 100000 in
set_option maxHeartbeats 4000000 in
theorem s_M_find {L : Nat} {xs : Nat → Int32} {X : XS} {M : MS} {x : Int32} {y : Int32} : Sp (mjOO L xs) 26 0 [some (.ref 60), some (.int x), some (.int y), none, none] [] (hS X M) (f_M_find x y M) (KQ (hS X M)) := by
  unfold f_M_find
  refine Sp.step rfl rfl rfl rfl ?_
  refine Sp.step rfl rfl rfl rfl ?_
  refine Sp.weak (l0 := [some (.ref 60), none, some (.int y), some (.int x), none]) ⟨rfl, rfl, rfl, trivial⟩ ?_
  refine Sp.loopL (mf := (fun (x1 : Int32) => [some (.ref 60), none, some (.int y), some (.int x1), none])) (hf := (fun (x1 : Int32) => hS X M)) (fun x1 => ?_) _ _
  unfold b2_M_find
  refine Sp.step rfl rfl rfl rfl ?_
  refine Sp.if1 rfl rfl rfl rfl (fun e2 => ?_) (fun e2 => ?_)
  · refine Sp.step rfl rfl rfl rfl ?_
    exact Sp.iret rfl rfl rfl rfl (fun _ _ h => h)
  · refine Sp.step rfl rfl rfl rfl ?_
    refine Sp.step rfl rfl rfl rfl ?_
    refine Sp.weak (l0 := [some (.ref 60), none, some (.int y), some (.int x1), some (.int 0)]) ⟨rfl, rfl, rfl, rfl, trivial⟩ ?_
    refine Sp.loopL (mf := (fun (x3 : Int32) => [some (.ref 60), none, some (.int y), some (.int x1), some (.int x3)])) (hf := (fun (x3 : Int32) => hS X M)) (fun x3 => ?_) _ _
    unfold b9_M_find
    refine Sp.step rfl rfl rfl rfl ?_
    refine Sp.step rfl rfl rfl rfl ?_
    refine Sp.step rfl rfl rfl (mg_I (f := 15) rfl rfl rfl) ?_
    refine Sp.if2 rfl rfl rfl rfl (fun e4 => ?_) (fun e4 => ?_)
    · refine Sp.step rfl rfl rfl rfl ?_
      refine Sp.step rfl rfl rfl (mg_F (f := 0) rfl rfl rfl rfl) ?_
      refine Sp.step rfl rfl rfl rfl ?_
      refine Sp.guard (fun e5 => ?_)
      refine Sp.step rfl rfl rfl (mld rfl rfl (by decide) e5) ?_
      refine Sp.step rfl rfl rfl rfl ?_
      refine Sp.step rfl rfl rfl rfl ?_
      exact Sp.jmp (l0 := [some (.ref 60), none, some (.int y), some (.int (M.1 61 x1.toNatClampNeg)), none]) ⟨rfl, rfl, rfl, trivial⟩ (fun _ _ h => h)
    · refine Sp.step rfl rfl rfl rfl ?_
      refine Sp.step rfl rfl rfl (mg_F (f := 4) rfl rfl rfl rfl) ?_
      refine Sp.step rfl rfl rfl rfl ?_
      refine Sp.guard (fun e6 => ?_)
      refine Sp.step rfl rfl rfl (mld rfl rfl (by decide) e6) ?_
      refine Sp.step rfl rfl rfl rfl ?_
      refine Sp.if2 rfl rfl rfl rfl (fun e7 => ?_) (fun e7 => ?_)
      · refine Sp.step rfl rfl rfl rfl ?_
        refine Sp.step rfl rfl rfl rfl ?_
        exact Sp.jmp (l0 := [some (.ref 60), none, some (.int y), some (.int x1), some (.int (x3 + 1))]) ⟨rfl, rfl, rfl, rfl, trivial⟩ (fun _ _ h => h)
      · refine Sp.step rfl rfl rfl rfl ?_
        refine Sp.step rfl rfl rfl (mg_F (f := 5) rfl rfl rfl rfl) ?_
        refine Sp.step rfl rfl rfl rfl ?_
        refine Sp.step rfl rfl rfl (mld rfl rfl (by decide) e6) ?_
        refine Sp.step rfl rfl rfl rfl ?_
        refine Sp.if2 rfl rfl rfl rfl (fun e8 => ?_) (fun e8 => ?_)
        · refine Sp.step rfl rfl rfl rfl ?_
          refine Sp.step rfl rfl rfl rfl ?_
          exact Sp.jmp (l0 := [some (.ref 60), none, some (.int y), some (.int x1), some (.int (x3 + 1))]) ⟨rfl, rfl, rfl, rfl, trivial⟩ (fun _ _ h => h)
        · refine Sp.step rfl rfl rfl rfl ?_
          exact Sp.iret rfl rfl rfl rfl (fun _ _ h => h)
def b2_M_wantClass (x8 : (Int32 × MS)) : Option ((Int32 × MS) ⊕ (Int32 × MS)) := (if x8.1 < 0 then some (.inr (x8.1, x8.2)) else (if f_M_isClass x8.1 x8.2 = true then (if ixo x8.1 10 then (lt (mw x8.2 77 x8.1.toNatClampNeg 1) fun M13 => some (.inl (M13.1 61 x8.1.toNatClampNeg, M13))) else none) else some (.inr (x8.1, x8.2))))
def f_M_wantClass (x : Int32) (M : MS) : Option MS := ((lp (b2_M_wantClass) 10000 (x, M)).bind fun x15 => some x15.2)
set_option maxRecDepth 100000 in
set_option maxHeartbeats 4000000 in
theorem s_M_wantClass {L : Nat} {xs : Nat → Int32} {X : XS} {M : MS} {x : Int32} : Sp (mjOO L xs) 29 0 [some (.ref 60), some (.int x), none] [] (hS X M) (f_M_wantClass x M) (KVM X) := by
  unfold f_M_wantClass
  refine Sp.step rfl rfl rfl rfl ?_
  refine Sp.step rfl rfl rfl rfl ?_
  refine Sp.weak (l0 := [some (.ref 60), none, some (.int x)]) ⟨rfl, rfl, trivial⟩ ?_
  refine Sp.loopX (pe := 31) (mf := (fun (x8 : (Int32 × MS)) => [some (.ref 60), none, some (.int x8.1)])) (hf := (fun (x8 : (Int32 × MS)) => hS X x8.2)) (fun x8 => ?_) (fun x15 => ?_) _ _
  · unfold b2_M_wantClass
    refine Sp.step rfl rfl rfl rfl ?_
    refine Sp.if1 rfl rfl rfl rfl (fun e9 => ?_) (fun e9 => ?_)
    · exact Sp.jmp (l0 := [some (.ref 60), none, some (.int x8.1)]) ⟨rfl, rfl, trivial⟩ (fun _ _ h => h)
    · refine Sp.step rfl rfl rfl rfl ?_
      refine Sp.step rfl rfl rfl rfl ?_
      refine Sp.callS rfl rfl rfl (mrecv (by decide) (by decide +kernel)) s_M_isClass ⟨rfl, rfl⟩ ?_
      refine Sp.bool (fun e10 => ?_) (fun e10 => ?_)
      · refine Sp.id (pc := 11) (l := [some (.ref 60), none, some (.int x8.1)]) (st := [.int 1]) (h := hS X x8.2) ?_
        refine Sp.step rfl rfl rfl rfl ?_
        refine Sp.step rfl rfl rfl rfl ?_
        refine Sp.step rfl rfl rfl (mg_F (f := 18) rfl rfl rfl rfl) ?_
        refine Sp.step rfl rfl rfl rfl ?_
        refine Sp.step rfl rfl rfl rfl ?_
        refine Sp.guard (fun e12 => ?_)
        refine Sp.step rfl rfl rfl (mst1 rfl rfl e12) ?_
        refine Sp.step rfl rfl rfl rfl ?_
        refine Sp.step rfl rfl rfl (mg_F (f := 0) rfl rfl rfl rfl) ?_
        refine Sp.step rfl rfl rfl rfl ?_
        refine Sp.step rfl rfl rfl (mld rfl rfl (by decide) e12) ?_
        refine Sp.step rfl rfl rfl rfl ?_
        refine Sp.step rfl rfl rfl rfl ?_
        exact Sp.jmp (l0 := [some (.ref 60), none, some (.int ((mw x8.2 77 x8.1.toNatClampNeg 1).1 61 x8.1.toNatClampNeg))]) ⟨rfl, rfl, trivial⟩ (fun _ _ h => h)
      · refine Sp.id (pc := 11) (l := [some (.ref 60), none, some (.int x8.1)]) (st := [.int 0]) (h := hS X x8.2) ?_
        refine Sp.step rfl rfl rfl rfl ?_
        exact Sp.jmp (l0 := [some (.ref 60), none, some (.int x8.1)]) ⟨rfl, rfl, trivial⟩ (fun _ _ h => h)
  · exact Sp.vret rfl rfl rfl (fun _ _ h => h)
def b2_M_wantAll (x : Int32) (x14 : (Int32 × MS)) : Option ((Int32 × MS) ⊕ (Int32 × MS)) := (if ixo x 24 then (if x14.2.1 70 x.toNatClampNeg ≤ x14.1 then some (.inr (x14.1, x14.2)) else (if ixo ((60 * x) + x14.1) 1440 then (if x14.2.1 71 ((60 * x) + x14.1).toNatClampNeg = 26 then ((f_M_wantClass (x14.2.1 72 ((60 * x) + x14.1).toNatClampNeg) x14.2).bind fun x19 => some (.inl (x14.1 + 1, x19))) else (if ¬ x14.2.1 71 ((60 * x) + x14.1).toNatClampNeg = 44 then (if 27 ≤ x14.2.1 71 ((60 * x) + x14.1).toNatClampNeg ∧ x14.2.1 71 ((60 * x) + x14.1).toNatClampNeg ≤ 30 then (if x14.2.1 72 ((60 * x) + x14.1).toNatClampNeg < 0 then some (.inl (x14.1 + 1, x14.2)) else ((f_M_wantClass ((x14.2.1 72 ((60 * x) + x14.1).toNatClampNeg) / 8) x14.2).bind fun x24 => some (.inl (x14.1 + 1, x24)))) else some (.inl (x14.1 + 1, x14.2))) else ((f_M_wantClass (x14.2.1 72 ((60 * x) + x14.1).toNatClampNeg) x14.2).bind fun x26 => some (.inl (x14.1 + 1, x26))))) else none)) else none)
def b91_M_wantAll (x : Int32) (x33 : (Int32 × MS)) : Option ((Int32 × MS) ⊕ (Int32 × MS)) := (if ixo x 24 then (if x33.2.1 73 x.toNatClampNeg ≤ x33.1 then some (.inr (x33.1, x33.2)) else (if ixo (((24 * x) + (4 * x33.1)) + 3) 576 then ((f_M_wantClass (x33.2.1 74 (((24 * x) + (4 * x33.1)) + 3).toNatClampNeg) x33.2).bind fun x37 => some (.inl (x33.1 + 1, x37))) else none)) else none)
def f_M_wantAll (x : Int32) (M : MS) : Option MS := ((lp (b2_M_wantAll x) 10000 ((0 : Int32), M)).bind fun x27 => ((lp (b91_M_wantAll x) 10000 ((0 : Int32), x27.2)).bind fun x38 => (if ixo x 24 then (if x38.2.1 65 x.toNatClampNeg = (-2) then some x38.2 else ((f_M_wantClass (x38.2.1 64 x.toNatClampNeg) x38.2).bind fun x41 => some x41)) else none)))
set_option maxRecDepth 100000 in
set_option maxHeartbeats 4000000 in
theorem s_M_wantAll {L : Nat} {xs : Nat → Int32} {X : XS} {M : MS} {x : Int32} : Sp (mjOO L xs) 32 0 [some (.ref 60), some (.int x), none, none, none] [] (hS X M) (f_M_wantAll x M) (KVM X) := by
  unfold f_M_wantAll
  refine Sp.step rfl rfl rfl rfl ?_
  refine Sp.step rfl rfl rfl rfl ?_
  refine Sp.weak (l0 := [some (.ref 60), some (.int x), some (.int 0), none, none]) ⟨rfl, rfl, rfl, trivial⟩ ?_
  refine Sp.loopX (pe := 89) (mf := (fun (x14 : (Int32 × MS)) => [some (.ref 60), some (.int x), some (.int x14.1), none, none])) (hf := (fun (x14 : (Int32 × MS)) => hS X x14.2)) (fun x14 => ?_) (fun x27 => ?_) _ _
  · unfold b2_M_wantAll
    refine Sp.step rfl rfl rfl rfl ?_
    refine Sp.step rfl rfl rfl rfl ?_
    refine Sp.step rfl rfl rfl (mg_F (f := 10) rfl rfl rfl rfl) ?_
    refine Sp.step rfl rfl rfl rfl ?_
    refine Sp.guard (fun e15 => ?_)
    refine Sp.step rfl rfl rfl (mld rfl rfl (by decide) e15) ?_
    refine Sp.if2 rfl rfl rfl rfl (fun e16 => ?_) (fun e16 => ?_)
    · exact Sp.jmp (l0 := [some (.ref 60), some (.int x), some (.int x14.1), none, none]) ⟨rfl, rfl, rfl, trivial⟩ (fun _ _ h => h)
    · refine Sp.step rfl rfl rfl rfl ?_
      refine Sp.step rfl rfl rfl (mg_F (f := 11) rfl rfl rfl rfl) ?_
      refine Sp.step rfl rfl rfl rfl ?_
      refine Sp.step rfl rfl rfl rfl ?_
      refine Sp.step rfl rfl rfl rfl ?_
      refine Sp.step rfl rfl rfl rfl ?_
      refine Sp.step rfl rfl rfl rfl ?_
      refine Sp.guard (fun e17 => ?_)
      refine Sp.step rfl rfl rfl (mld rfl rfl (by decide) e17) ?_
      refine Sp.step rfl rfl rfl rfl ?_
      refine Sp.step rfl rfl rfl rfl ?_
      refine Sp.step rfl rfl rfl (mg_F (f := 12) rfl rfl rfl rfl) ?_
      refine Sp.step rfl rfl rfl rfl ?_
      refine Sp.step rfl rfl rfl rfl ?_
      refine Sp.step rfl rfl rfl rfl ?_
      refine Sp.step rfl rfl rfl rfl ?_
      refine Sp.step rfl rfl rfl rfl ?_
      refine Sp.step rfl rfl rfl (mld rfl rfl (by decide) e17) ?_
      refine Sp.step rfl rfl rfl rfl ?_
      refine Sp.step rfl rfl rfl rfl ?_
      refine Sp.step rfl rfl rfl rfl ?_
      refine Sp.if2 rfl rfl rfl rfl (fun e18 => ?_) (fun e18 => ?_)
      · refine Sp.step rfl rfl rfl rfl ?_
        refine Sp.step rfl rfl rfl rfl ?_
        refine Sp.call rfl rfl rfl (mrecv (by decide) (by decide +kernel)) s_M_wantClass (fun x19 => ⟨_, _, ⟨rfl, rfl⟩, ?_⟩)
        refine Sp.id (pc := 55) (l := [some (.ref 60), some (.int x), some (.int x14.1), some (.int (x14.2.1 71 ((60 * x) + x14.1).toNatClampNeg)), some (.int (x14.2.1 72 ((60 * x) + x14.1).toNatClampNeg))]) (st := []) (h := hS X x19) ?_
        refine Sp.step rfl rfl rfl rfl ?_
        refine Sp.step rfl rfl rfl rfl ?_
        refine Sp.step rfl rfl rfl rfl ?_
        exact Sp.jmp (l0 := [some (.ref 60), some (.int x), some (.int (x14.1 + 1)), none, none]) ⟨rfl, rfl, rfl, trivial⟩ (fun _ _ h => h)
      · refine Sp.step rfl rfl rfl rfl ?_
        refine Sp.step rfl rfl rfl rfl ?_
        refine Sp.if2 rfl rfl rfl rfl (fun e20 => ?_) (fun e20 => ?_)
        · refine Sp.step rfl rfl rfl rfl ?_
          refine Sp.step rfl rfl rfl rfl ?_
          refine Sp.step rfl rfl rfl rfl ?_
          refine Sp.callP rfl rfl rfl rfl s_isIn (fun e21 => ?_) (fun e21 => ?_)
          · refine Sp.id (pc := 66) (l := [some (.ref 60), some (.int x), some (.int x14.1), some (.int (x14.2.1 71 ((60 * x) + x14.1).toNatClampNeg)), some (.int (x14.2.1 72 ((60 * x) + x14.1).toNatClampNeg))]) (st := [.int 1]) (h := hS X x14.2) ?_
            refine Sp.step rfl rfl rfl rfl ?_
            refine Sp.step rfl rfl rfl rfl ?_
            refine Sp.if1 rfl rfl rfl rfl (fun e23 => ?_) (fun e23 => ?_)
            · refine Sp.step rfl rfl rfl rfl ?_
              refine Sp.step rfl rfl rfl rfl ?_
              exact Sp.jmp (l0 := [some (.ref 60), some (.int x), some (.int (x14.1 + 1)), none, none]) ⟨rfl, rfl, rfl, trivial⟩ (fun _ _ h => h)
            · refine Sp.step rfl rfl rfl rfl ?_
              refine Sp.step rfl rfl rfl rfl ?_
              refine Sp.step rfl rfl rfl rfl ?_
              refine Sp.step rfl rfl rfl (go_div (by decide)) ?_
              refine Sp.call rfl rfl rfl (mrecv (by decide) (by decide +kernel)) s_M_wantClass (fun x24 => ⟨_, _, ⟨rfl, rfl⟩, ?_⟩)
              refine Sp.id (pc := 83) (l := [some (.ref 60), some (.int x), some (.int x14.1), some (.int (x14.2.1 71 ((60 * x) + x14.1).toNatClampNeg)), some (.int (x14.2.1 72 ((60 * x) + x14.1).toNatClampNeg))]) (st := []) (h := hS X x24) ?_
              refine Sp.step rfl rfl rfl rfl ?_
              refine Sp.step rfl rfl rfl rfl ?_
              exact Sp.jmp (l0 := [some (.ref 60), some (.int x), some (.int (x14.1 + 1)), none, none]) ⟨rfl, rfl, rfl, trivial⟩ (fun _ _ h => h)
          · refine Sp.id (pc := 66) (l := [some (.ref 60), some (.int x), some (.int x14.1), some (.int (x14.2.1 71 ((60 * x) + x14.1).toNatClampNeg)), some (.int (x14.2.1 72 ((60 * x) + x14.1).toNatClampNeg))]) (st := [.int 0]) (h := hS X x14.2) ?_
            refine Sp.step rfl rfl rfl rfl ?_
            refine Sp.step rfl rfl rfl rfl ?_
            refine Sp.step rfl rfl rfl rfl ?_
            exact Sp.jmp (l0 := [some (.ref 60), some (.int x), some (.int (x14.1 + 1)), none, none]) ⟨rfl, rfl, rfl, trivial⟩ (fun _ _ h => h)
        · refine Sp.step rfl rfl rfl rfl ?_
          refine Sp.step rfl rfl rfl rfl ?_
          refine Sp.call rfl rfl rfl (mrecv (by decide) (by decide +kernel)) s_M_wantClass (fun x26 => ⟨_, _, ⟨rfl, rfl⟩, ?_⟩)
          refine Sp.id (pc := 55) (l := [some (.ref 60), some (.int x), some (.int x14.1), some (.int (x14.2.1 71 ((60 * x) + x14.1).toNatClampNeg)), some (.int (x14.2.1 72 ((60 * x) + x14.1).toNatClampNeg))]) (st := []) (h := hS X x26) ?_
          refine Sp.step rfl rfl rfl rfl ?_
          refine Sp.step rfl rfl rfl rfl ?_
          refine Sp.step rfl rfl rfl rfl ?_
          exact Sp.jmp (l0 := [some (.ref 60), some (.int x), some (.int (x14.1 + 1)), none, none]) ⟨rfl, rfl, rfl, trivial⟩ (fun _ _ h => h)
  · refine Sp.step rfl rfl rfl rfl ?_
    refine Sp.step rfl rfl rfl rfl ?_
    refine Sp.weak (l0 := [some (.ref 60), some (.int x), some (.int 0), none, none]) ⟨rfl, rfl, rfl, trivial⟩ ?_
    refine Sp.loopX (pe := 126) (mf := (fun (x33 : (Int32 × MS)) => [some (.ref 60), some (.int x), some (.int x33.1), none, none])) (hf := (fun (x33 : (Int32 × MS)) => hS X x33.2)) (fun x33 => ?_) (fun x38 => ?_) _ _
    · unfold b91_M_wantAll
      refine Sp.step rfl rfl rfl rfl ?_
      refine Sp.step rfl rfl rfl rfl ?_
      refine Sp.step rfl rfl rfl (mg_F (f := 13) rfl rfl rfl rfl) ?_
      refine Sp.step rfl rfl rfl rfl ?_
      refine Sp.guard (fun e34 => ?_)
      refine Sp.step rfl rfl rfl (mld rfl rfl (by decide) e34) ?_
      refine Sp.if2 rfl rfl rfl rfl (fun e35 => ?_) (fun e35 => ?_)
      · exact Sp.jmp (l0 := [some (.ref 60), some (.int x), some (.int x33.1), none, none]) ⟨rfl, rfl, rfl, trivial⟩ (fun _ _ h => h)
      · refine Sp.step rfl rfl rfl rfl ?_
        refine Sp.step rfl rfl rfl rfl ?_
        refine Sp.step rfl rfl rfl (mg_F (f := 14) rfl rfl rfl rfl) ?_
        refine Sp.step rfl rfl rfl rfl ?_
        refine Sp.step rfl rfl rfl rfl ?_
        refine Sp.step rfl rfl rfl rfl ?_
        refine Sp.step rfl rfl rfl rfl ?_
        refine Sp.step rfl rfl rfl rfl ?_
        refine Sp.step rfl rfl rfl rfl ?_
        refine Sp.step rfl rfl rfl rfl ?_
        refine Sp.step rfl rfl rfl rfl ?_
        refine Sp.step rfl rfl rfl rfl ?_
        refine Sp.guard (fun e36 => ?_)
        refine Sp.step rfl rfl rfl (mld rfl rfl (by decide) e36) ?_
        refine Sp.call rfl rfl rfl (mrecv (by decide) (by decide +kernel)) s_M_wantClass (fun x37 => ⟨_, _, ⟨rfl, rfl⟩, ?_⟩)
        refine Sp.id (pc := 120) (l := [some (.ref 60), some (.int x), some (.int x33.1), none, none]) (st := []) (h := hS X x37) ?_
        refine Sp.step rfl rfl rfl rfl ?_
        refine Sp.step rfl rfl rfl rfl ?_
        exact Sp.jmp (l0 := [some (.ref 60), some (.int x), some (.int (x33.1 + 1)), none, none]) ⟨rfl, rfl, rfl, trivial⟩ (fun _ _ h => h)
    · refine Sp.step rfl rfl rfl rfl ?_
      refine Sp.step rfl rfl rfl (mg_F (f := 5) rfl rfl rfl rfl) ?_
      refine Sp.step rfl rfl rfl rfl ?_
      refine Sp.guard (fun e39 => ?_)
      refine Sp.step rfl rfl rfl (mld rfl rfl (by decide) e39) ?_
      refine Sp.step rfl rfl rfl rfl ?_
      refine Sp.if2 rfl rfl rfl rfl (fun e40 => ?_) (fun e40 => ?_)
      · exact Sp.vret rfl rfl rfl (fun _ _ h => h)
      · refine Sp.step rfl rfl rfl rfl ?_
        refine Sp.step rfl rfl rfl rfl ?_
        refine Sp.step rfl rfl rfl (mg_F (f := 4) rfl rfl rfl rfl) ?_
        refine Sp.step rfl rfl rfl rfl ?_
        refine Sp.step rfl rfl rfl (mld rfl rfl (by decide) e39) ?_
        refine Sp.call rfl rfl rfl (mrecv (by decide) (by decide +kernel)) s_M_wantClass (fun x41 => ⟨_, _, ⟨rfl, rfl⟩, ?_⟩)
        refine Sp.id (pc := 147) (l := [some (.ref 60), some (.int x), some (.int x38.1), none, none]) (st := []) (h := hS X x41) ?_
        exact Sp.vret rfl rfl rfl (fun _ _ h => h)
def b2_M_reach (x : Int32) (x8 : (Int32 × MS)) : Option ((Int32 × MS) ⊕ (Int32 × MS)) := (if 24 ≤ x8.1 then some (.inr (x8.1, x8.2)) else (if ¬ x8.1 = x then (if ixo x8.1 24 then (lt (mw x8.2 75 x8.1.toNatClampNeg 0) fun M12 => some (.inl (x8.1 + 1, M12))) else none) else (if ixo x8.1 24 then (lt (mw x8.2 75 x8.1.toNatClampNeg 1) fun M14 => some (.inl (x8.1 + 1, M14))) else none)))
def b32_M_reach (x21 : (Int32 × MS)) : Option ((Int32 × MS) ⊕ (Int32 × MS)) := (if 10 ≤ x21.1 then some (.inr (x21.1, x21.2)) else (if ixo x21.1 10 then (lt (mw x21.2 76 x21.1.toNatClampNeg 0) fun M24 => (lt (mw M24 77 x21.1.toNatClampNeg 0) fun M25 => some (.inl (x21.1 + 1, M25)))) else none))
def b60_M_reach (x31 : (Int32 × MS)) : Option ((Int32 × MS) ⊕ (Int32 × MS)) := (if 8 ≤ x31.1 then some (.inr (x31.1, x31.2)) else (if ixo x31.1 8 then (lt (mw x31.2 78 x31.1.toNatClampNeg 0) fun M34 => some (.inl (x31.1 + 1, M34))) else none))
def b89_M_reach (x126 : (Int32 × Int32 × MS)) : Option ((Int32 × Int32 × MS) ⊕ (Int32 × Int32 × MS)) := (if x126.2.2.1 60 15 ≤ x126.2.1 then some (.inr (x126.1, x126.2.1, x126.2.2)) else (if ixo x126.2.1 24 then (if x126.2.2.1 75 x126.2.1.toNatClampNeg = 0 then (if x126.1 = 0 then some (.inl (0, x126.2.1 + 1, x126.2.2)) else some (.inl (1, x126.2.1 + 1, x126.2.2))) else ((f_M_follow x126.2.1 x126.2.2).bind fun x131 => (if x131.1 = true then some (.inl (1, x126.2.1 + 1, x131.2)) else (if x126.1 = 0 then some (.inl (0, x126.2.1 + 1, x131.2)) else some (.inl (1, x126.2.1 + 1, x131.2)))))) else none))
def b143_M_reach (x164 : (Int32 × Int32 × MS)) (x178 : (Int32 × Int32 × MS)) : Option ((Int32 × Int32 × MS) ⊕ (Int32 × Int32 × MS)) := (if 8 ≤ x178.2.1 then some (.inr (x178.1, x178.2.1, x178.2.2)) else (if ixo x164.2.1 10 then (((if x178.2.2.1 76 x164.2.1.toNatClampNeg = 0 then some (-2) else (if ixo x178.2.1 8 then (if x178.2.2.1 78 x178.2.1.toNatClampNeg = 0 then some (-2) else ((f_M_find x164.2.1 x178.2.1 x178.2.2).bind fun x184 => some x184)) else none)) : Option (Int32)).bind fun x185 => (if x185 < 0 then some (.inl (x178.1, x178.2.1 + 1, x178.2.2)) else (if ixo x185 24 then (if ¬ x178.2.2.1 75 x185.toNatClampNeg = 0 then some (.inl (x178.1, x178.2.1 + 1, x178.2.2)) else (lt (mw x178.2.2 75 x185.toNatClampNeg 1) fun M189 => some (.inl (1, x178.2.1 + 1, M189)))) else none))) else none))
def b132_M_reach (x164 : (Int32 × Int32 × MS)) : Option ((Int32 × Int32 × MS) ⊕ (Int32 × Int32 × MS)) := (if x164.2.2.1 60 3 ≤ x164.2.1 then some (.inr (x164.1, x164.2.1, x164.2.2)) else ((lp (b143_M_reach x164) 10000 (x164.1, (0 : Int32), x164.2.2)).bind fun x190 => some (.inl (x190.1, x164.2.1 + 1, x190.2.2))))
def b81_M_reach (x114 : (Int32 × MS)) : Option ((Int32 × MS) ⊕ (Int32 × MS)) := (if x114.1 = 0 then some (.inr (x114.1, x114.2)) else ((lp (b89_M_reach) 10000 ((0 : Int32), (0 : Int32), x114.2)).bind fun x136 => ((lp (b132_M_reach) 10000 (x136.1, (0 : Int32), x136.2.2)).bind fun x191 => some (.inl (x191.1, x191.2.2)))))
def b225_M_reach (x198 : (Int32 × MS)) : Option ((Int32 × MS) ⊕ (Int32 × MS)) := (if x198.2.1 60 15 ≤ x198.1 then some (.inr (x198.1, x198.2)) else (if ixo x198.1 24 then (if x198.2.1 75 x198.1.toNatClampNeg = 0 then some (.inl (x198.1 + 1, x198.2)) else ((f_M_wantAll x198.1 x198.2).bind fun x202 => some (.inl (x198.1 + 1, x202)))) else none))
def b258_M_reach (x209 : (Int32 × Int32 × MS)) : Option ((Int32 × Int32 × MS) ⊕ (Int32 × Int32 × MS)) := (if x209.2.2.1 60 15 ≤ x209.2.1 then some (.inr (x209.1, x209.2.1, x209.2.2)) else (if ixo x209.2.1 24 then (lt (mw x209.2.2 79 x209.2.1.toNatClampNeg x209.1) fun M212 => (if M212.1 75 x209.2.1.toNatClampNeg = 0 then some (.inl (x209.1, x209.2.1 + 1, M212)) else some (.inl (x209.1 + 1, x209.2.1 + 1, M212)))) else none))
def b309_M_reach (x221 : (Int32 × Int32 × MS)) : Option ((Int32 × Int32 × MS) ⊕ (Int32 × Int32 × MS)) := (if x221.2.2.1 60 3 ≤ x221.2.1 then some (.inr (x221.1, x221.2.1, x221.2.2)) else (if ixo x221.2.1 10 then (lt (mw x221.2.2 80 x221.2.1.toNatClampNeg x221.1) fun M224 => (if M224.1 77 x221.2.1.toNatClampNeg = 0 then some (.inl (x221.1, x221.2.1 + 1, M224)) else some (.inl (x221.1 + 1, x221.2.1 + 1, M224)))) else none))
def f_M_reach (x : Int32) (M : MS) : Option MS := ((lp (b2_M_reach x) 10000 ((0 : Int32), M)).bind fun x15 => ((lp (b32_M_reach) 10000 ((0 : Int32), x15.2)).bind fun x26 => ((lp (b60_M_reach) 10000 ((0 : Int32), x26.2)).bind fun x35 => ((lp (b81_M_reach) 10000 ((1 : Int32), x35.2)).bind fun x192 => ((lp (b225_M_reach) 10000 ((0 : Int32), x192.2)).bind fun x203 => ((lp (b258_M_reach) 10000 ((0 : Int32), (0 : Int32), x203.2)).bind fun x214 => (lt (mw x214.2.2 60 22 x214.1) fun M215 => ((lp (b309_M_reach) 10000 ((0 : Int32), (0 : Int32), M215)).bind fun x226 => (lt (mw x226.2.2 60 23 x226.1) fun M227 => some M227)))))))))
set_option maxRecDepth 100000 in
set_option maxHeartbeats 4000000 in
theorem s_M_reach {L : Nat} {xs : Nat → Int32} {X : XS} {M : MS} {x : Int32} : Sp (mjOO L xs) 31 0 [some (.ref 60), some (.int x), none, none, none, none] [] (hS X M) (f_M_reach x M) (KVM X) := by
  unfold f_M_reach
  refine Sp.step rfl rfl rfl rfl ?_
  refine Sp.step rfl rfl rfl rfl ?_
  refine Sp.weak (l0 := [some (.ref 60), some (.int x), some (.int 0), none, none, none]) ⟨rfl, rfl, rfl, trivial⟩ ?_
  refine Sp.loopX (pe := 30) (mf := (fun (x8 : (Int32 × MS)) => [some (.ref 60), some (.int x), some (.int x8.1), none, none, none])) (hf := (fun (x8 : (Int32 × MS)) => hS X x8.2)) (fun x8 => ?_) (fun x15 => ?_) _ _
  · unfold b2_M_reach
    refine Sp.step rfl rfl rfl rfl ?_
    refine Sp.step rfl rfl rfl rfl ?_
    refine Sp.if2 rfl rfl rfl rfl (fun e9 => ?_) (fun e9 => ?_)
    · exact Sp.jmp (l0 := [some (.ref 60), some (.int x), some (.int x8.1), none, none, none]) ⟨rfl, rfl, rfl, trivial⟩ (fun _ _ h => h)
    · refine Sp.step rfl rfl rfl rfl ?_
      refine Sp.step rfl rfl rfl (mg_F (f := 16) rfl rfl rfl rfl) ?_
      refine Sp.step rfl rfl rfl rfl ?_
      refine Sp.step rfl rfl rfl rfl ?_
      refine Sp.step rfl rfl rfl rfl ?_
      refine Sp.if2 rfl rfl rfl rfl (fun e10 => ?_) (fun e10 => ?_)
      · refine Sp.step rfl rfl rfl rfl ?_
        refine Sp.guard (fun e11 => ?_)
        refine Sp.step rfl rfl rfl (mst0 rfl rfl e11) ?_
        refine Sp.step rfl rfl rfl rfl ?_
        refine Sp.step rfl rfl rfl rfl ?_
        exact Sp.jmp (l0 := [some (.ref 60), some (.int x), some (.int (x8.1 + 1)), none, none, none]) ⟨rfl, rfl, rfl, trivial⟩ (fun _ _ h => h)
      · refine Sp.step rfl rfl rfl rfl ?_
        refine Sp.step rfl rfl rfl rfl ?_
        refine Sp.guard (fun e13 => ?_)
        refine Sp.step rfl rfl rfl (mst1 rfl rfl e13) ?_
        refine Sp.step rfl rfl rfl rfl ?_
        refine Sp.step rfl rfl rfl rfl ?_
        exact Sp.jmp (l0 := [some (.ref 60), some (.int x), some (.int (x8.1 + 1)), none, none, none]) ⟨rfl, rfl, rfl, trivial⟩ (fun _ _ h => h)
  · refine Sp.step rfl rfl rfl rfl ?_
    refine Sp.step rfl rfl rfl rfl ?_
    refine Sp.weak (l0 := [some (.ref 60), none, some (.int 0), none, none, none]) ⟨rfl, rfl, trivial⟩ ?_
    refine Sp.loopX (pe := 58) (mf := (fun (x21 : (Int32 × MS)) => [some (.ref 60), none, some (.int x21.1), none, none, none])) (hf := (fun (x21 : (Int32 × MS)) => hS X x21.2)) (fun x21 => ?_) (fun x26 => ?_) _ _
    · unfold b32_M_reach
      refine Sp.step rfl rfl rfl rfl ?_
      refine Sp.step rfl rfl rfl rfl ?_
      refine Sp.if2 rfl rfl rfl rfl (fun e22 => ?_) (fun e22 => ?_)
      · exact Sp.jmp (l0 := [some (.ref 60), none, some (.int x21.1), none, none, none]) ⟨rfl, rfl, trivial⟩ (fun _ _ h => h)
      · refine Sp.step rfl rfl rfl rfl ?_
        refine Sp.step rfl rfl rfl (mg_F (f := 17) rfl rfl rfl rfl) ?_
        refine Sp.step rfl rfl rfl rfl ?_
        refine Sp.step rfl rfl rfl rfl ?_
        refine Sp.guard (fun e23 => ?_)
        refine Sp.step rfl rfl rfl (mst0 rfl rfl e23) ?_
        refine Sp.step rfl rfl rfl rfl ?_
        refine Sp.step rfl rfl rfl (mg_F (f := 18) rfl rfl rfl rfl) ?_
        refine Sp.step rfl rfl rfl rfl ?_
        refine Sp.step rfl rfl rfl rfl ?_
        refine Sp.step rfl rfl rfl (mst0 rfl rfl e23) ?_
        refine Sp.step rfl rfl rfl rfl ?_
        refine Sp.step rfl rfl rfl rfl ?_
        exact Sp.jmp (l0 := [some (.ref 60), none, some (.int (x21.1 + 1)), none, none, none]) ⟨rfl, rfl, trivial⟩ (fun _ _ h => h)
    · refine Sp.step rfl rfl rfl rfl ?_
      refine Sp.step rfl rfl rfl rfl ?_
      refine Sp.weak (l0 := [some (.ref 60), none, some (.int 0), none, none, none]) ⟨rfl, rfl, trivial⟩ ?_
      refine Sp.loopX (pe := 79) (mf := (fun (x31 : (Int32 × MS)) => [some (.ref 60), none, some (.int x31.1), none, none, none])) (hf := (fun (x31 : (Int32 × MS)) => hS X x31.2)) (fun x31 => ?_) (fun x35 => ?_) _ _
      · unfold b60_M_reach
        refine Sp.step rfl rfl rfl rfl ?_
        refine Sp.step rfl rfl rfl rfl ?_
        refine Sp.if2 rfl rfl rfl rfl (fun e32 => ?_) (fun e32 => ?_)
        · exact Sp.jmp (l0 := [some (.ref 60), none, some (.int x31.1), none, none, none]) ⟨rfl, rfl, trivial⟩ (fun _ _ h => h)
        · refine Sp.step rfl rfl rfl rfl ?_
          refine Sp.step rfl rfl rfl (mg_F (f := 19) rfl rfl rfl rfl) ?_
          refine Sp.step rfl rfl rfl rfl ?_
          refine Sp.step rfl rfl rfl rfl ?_
          refine Sp.guard (fun e33 => ?_)
          refine Sp.step rfl rfl rfl (mst0 rfl rfl e33) ?_
          refine Sp.step rfl rfl rfl rfl ?_
          refine Sp.step rfl rfl rfl rfl ?_
          exact Sp.jmp (l0 := [some (.ref 60), none, some (.int (x31.1 + 1)), none, none, none]) ⟨rfl, rfl, trivial⟩ (fun _ _ h => h)
      · refine Sp.step rfl rfl rfl rfl ?_
        refine Sp.step rfl rfl rfl rfl ?_
        refine Sp.weak (l0 := [some (.ref 60), none, some (.int 1), none, none, none]) ⟨rfl, rfl, trivial⟩ ?_
        refine Sp.loopX (pe := 223) (mf := (fun (x114 : (Int32 × MS)) => [some (.ref 60), none, some (.int x114.1), none, none, none])) (hf := (fun (x114 : (Int32 × MS)) => hS X x114.2)) (fun x114 => ?_) (fun x192 => ?_) _ _
        · unfold b81_M_reach
          refine Sp.step rfl rfl rfl rfl ?_
          refine Sp.if1 rfl rfl rfl rfl (fun e115 => ?_) (fun e115 => ?_)
          · exact Sp.jmp (l0 := [some (.ref 60), none, some (.int x114.1), none, none, none]) ⟨rfl, rfl, trivial⟩ (fun _ _ h => h)
          · refine Sp.step rfl rfl rfl rfl ?_
            refine Sp.step rfl rfl rfl rfl ?_
            refine Sp.step rfl rfl rfl rfl ?_
            refine Sp.step rfl rfl rfl rfl ?_
            refine Sp.weak (l0 := [some (.ref 60), none, some (.int 0), some (.int 0), none, none]) ⟨rfl, rfl, rfl, trivial⟩ ?_
            refine Sp.loopX (pe := 130) (mf := (fun (x126 : (Int32 × Int32 × MS)) => [some (.ref 60), none, some (.int x126.1), some (.int x126.2.1), none, none])) (hf := (fun (x126 : (Int32 × Int32 × MS)) => hS X x126.2.2)) (fun x126 => ?_) (fun x136 => ?_) _ _
            · unfold b89_M_reach
              refine Sp.step rfl rfl rfl rfl ?_
              refine Sp.step rfl rfl rfl rfl ?_
              refine Sp.step rfl rfl rfl (mg_I (f := 15) rfl rfl rfl) ?_
              refine Sp.if2 rfl rfl rfl rfl (fun e127 => ?_) (fun e127 => ?_)
              · exact Sp.jmp (l0 := [some (.ref 60), none, some (.int x126.1), some (.int x126.2.1), none, none]) ⟨rfl, rfl, rfl, trivial⟩ (fun _ _ h => h)
              · refine Sp.step rfl rfl rfl rfl ?_
                refine Sp.step rfl rfl rfl (mg_F (f := 16) rfl rfl rfl rfl) ?_
                refine Sp.step rfl rfl rfl rfl ?_
                refine Sp.guard (fun e128 => ?_)
                refine Sp.step rfl rfl rfl (mld rfl rfl (by decide) e128) ?_
                refine Sp.if1 rfl rfl rfl rfl (fun e129 => ?_) (fun e129 => ?_)
                · refine Sp.step rfl rfl rfl rfl ?_
                  refine Sp.if1 rfl rfl rfl rfl (fun e130 => ?_) (fun e130 => ?_)
                  · refine Sp.step rfl rfl rfl rfl ?_
                    refine Sp.step rfl rfl rfl rfl ?_
                    refine Sp.step rfl rfl rfl rfl ?_
                    refine Sp.step rfl rfl rfl rfl ?_
                    exact Sp.jmp (l0 := [some (.ref 60), none, some (.int 0), some (.int (x126.2.1 + 1)), none, none]) ⟨rfl, rfl, rfl, trivial⟩ (fun _ _ h => h)
                  · refine Sp.step rfl rfl rfl rfl ?_
                    refine Sp.step rfl rfl rfl rfl ?_
                    refine Sp.step rfl rfl rfl rfl ?_
                    refine Sp.step rfl rfl rfl rfl ?_
                    refine Sp.step rfl rfl rfl rfl ?_
                    exact Sp.jmp (l0 := [some (.ref 60), none, some (.int 1), some (.int (x126.2.1 + 1)), none, none]) ⟨rfl, rfl, rfl, trivial⟩ (fun _ _ h => h)
                · refine Sp.step rfl rfl rfl rfl ?_
                  refine Sp.step rfl rfl rfl rfl ?_
                  refine Sp.call rfl rfl rfl (mrecv (by decide) (by decide +kernel)) s_M_follow (fun x131 => ⟨_, _, ⟨rfl, rfl⟩, ?_⟩)
                  refine Sp.bool (fun e132 => ?_) (fun e132 => ?_)
                  · refine Sp.id (pc := 111) (l := [some (.ref 60), none, some (.int x126.1), some (.int x126.2.1), none, none]) (st := [.int 1]) (h := hS X x131.2) ?_
                    refine Sp.step rfl rfl rfl rfl ?_
                    refine Sp.step rfl rfl rfl rfl ?_
                    refine Sp.step rfl rfl rfl rfl ?_
                    refine Sp.step rfl rfl rfl rfl ?_
                    refine Sp.step rfl rfl rfl rfl ?_
                    refine Sp.step rfl rfl rfl rfl ?_
                    exact Sp.jmp (l0 := [some (.ref 60), none, some (.int 1), some (.int (x126.2.1 + 1)), none, none]) ⟨rfl, rfl, rfl, trivial⟩ (fun _ _ h => h)
                  · refine Sp.id (pc := 111) (l := [some (.ref 60), none, some (.int x126.1), some (.int x126.2.1), none, none]) (st := [.int 0]) (h := hS X x131.2) ?_
                    refine Sp.step rfl rfl rfl rfl ?_
                    refine Sp.step rfl rfl rfl rfl ?_
                    refine Sp.if1 rfl rfl rfl rfl (fun e135 => ?_) (fun e135 => ?_)
                    · refine Sp.step rfl rfl rfl rfl ?_
                      refine Sp.step rfl rfl rfl rfl ?_
                      refine Sp.step rfl rfl rfl rfl ?_
                      refine Sp.step rfl rfl rfl rfl ?_
                      exact Sp.jmp (l0 := [some (.ref 60), none, some (.int 0), some (.int (x126.2.1 + 1)), none, none]) ⟨rfl, rfl, rfl, trivial⟩ (fun _ _ h => h)
                    · refine Sp.step rfl rfl rfl rfl ?_
                      refine Sp.step rfl rfl rfl rfl ?_
                      refine Sp.step rfl rfl rfl rfl ?_
                      refine Sp.step rfl rfl rfl rfl ?_
                      refine Sp.step rfl rfl rfl rfl ?_
                      exact Sp.jmp (l0 := [some (.ref 60), none, some (.int 1), some (.int (x126.2.1 + 1)), none, none]) ⟨rfl, rfl, rfl, trivial⟩ (fun _ _ h => h)
            · refine Sp.step rfl rfl rfl rfl ?_
              refine Sp.step rfl rfl rfl rfl ?_
              refine Sp.weak (l0 := [some (.ref 60), none, some (.int x136.1), some (.int 0), none, none]) ⟨rfl, rfl, rfl, trivial⟩ ?_
              refine Sp.loopX (pe := 81) (mf := (fun (x164 : (Int32 × Int32 × MS)) => [some (.ref 60), none, some (.int x164.1), some (.int x164.2.1), none, none])) (hf := (fun (x164 : (Int32 × Int32 × MS)) => hS X x164.2.2)) (fun x164 => ?_) (fun x191 => ?_) _ _
              · unfold b132_M_reach
                refine Sp.step rfl rfl rfl rfl ?_
                refine Sp.step rfl rfl rfl rfl ?_
                refine Sp.step rfl rfl rfl (mg_I (f := 3) rfl rfl rfl) ?_
                refine Sp.if2 rfl rfl rfl rfl (fun e165 => ?_) (fun e165 => ?_)
                · refine Sp.step rfl rfl rfl rfl ?_
                  exact Sp.jmp (l0 := [some (.ref 60), none, some (.int x164.1), some (.int x164.2.1), none, none]) ⟨rfl, rfl, rfl, trivial⟩ (fun _ _ h => h)
                · refine Sp.step rfl rfl rfl rfl ?_
                  refine Sp.step rfl rfl rfl rfl ?_
                  refine Sp.weak (l0 := [some (.ref 60), none, some (.int x164.1), some (.int x164.2.1), some (.int 0), none]) ⟨rfl, rfl, rfl, rfl, trivial⟩ ?_
                  refine Sp.loopX (pe := 214) (mf := (fun (x178 : (Int32 × Int32 × MS)) => [some (.ref 60), none, some (.int x178.1), some (.int x164.2.1), some (.int x178.2.1), none])) (hf := (fun (x178 : (Int32 × Int32 × MS)) => hS X x178.2.2)) (fun x178 => ?_) (fun x190 => ?_) _ _
                  · unfold b143_M_reach
                    refine Sp.step rfl rfl rfl rfl ?_
                    refine Sp.step rfl rfl rfl rfl ?_
                    refine Sp.if2 rfl rfl rfl rfl (fun e179 => ?_) (fun e179 => ?_)
                    · exact Sp.jmp (l0 := [some (.ref 60), none, some (.int x178.1), some (.int x164.2.1), some (.int x178.2.1), none]) ⟨rfl, rfl, rfl, rfl, trivial⟩ (fun _ _ h => h)
                    · refine Sp.step rfl rfl rfl rfl ?_
                      refine Sp.step rfl rfl rfl (mg_F (f := 17) rfl rfl rfl rfl) ?_
                      refine Sp.step rfl rfl rfl rfl ?_
                      refine Sp.guard (fun e180 => ?_)
                      refine Sp.step rfl rfl rfl (mld rfl rfl (by decide) e180) ?_
                      refine Sp.piece (pe := 181) (mf := (fun (x185 : Int32) => [some (.ref 60), none, some (.int x178.1), some (.int x164.2.1), some (.int x178.2.1), none])) (sf := (fun (x185 : Int32) => [.int x185])) (hf := (fun (x185 : Int32) => hS X x178.2.2)) ?_ (fun x185 => ?_)
                      · refine Sp.if1 rfl rfl rfl rfl (fun e181 => ?_) (fun e181 => ?_)
                        · refine Sp.step rfl rfl rfl rfl ?_
                          exact Sp.jmp (l0 := [some (.ref 60), none, some (.int x178.1), some (.int x164.2.1), some (.int x178.2.1), none]) ⟨rfl, rfl, rfl, rfl, trivial⟩ (fun _ _ h => h)
                        · refine Sp.step rfl rfl rfl rfl ?_
                          refine Sp.step rfl rfl rfl (mg_F (f := 19) rfl rfl rfl rfl) ?_
                          refine Sp.step rfl rfl rfl rfl ?_
                          refine Sp.guard (fun e182 => ?_)
                          refine Sp.step rfl rfl rfl (mld rfl rfl (by decide) e182) ?_
                          refine Sp.if1 rfl rfl rfl rfl (fun e183 => ?_) (fun e183 => ?_)
                          · refine Sp.step rfl rfl rfl rfl ?_
                            exact Sp.jmp (l0 := [some (.ref 60), none, some (.int x178.1), some (.int x164.2.1), some (.int x178.2.1), none]) ⟨rfl, rfl, rfl, rfl, trivial⟩ (fun _ _ h => h)
                          · refine Sp.step rfl rfl rfl rfl ?_
                            refine Sp.step rfl rfl rfl rfl ?_
                            refine Sp.step rfl rfl rfl rfl ?_
                            refine Sp.call rfl rfl rfl (mrecv (by decide) (by decide +kernel)) s_M_find (fun x184 => ⟨_, _, ⟨rfl, rfl⟩, ?_⟩)
                            refine Sp.id (pc := 176) (l := [some (.ref 60), none, some (.int x178.1), some (.int x164.2.1), some (.int x178.2.1), none]) (st := [.int x184]) (h := hS X x178.2.2) ?_
                            refine Sp.step rfl rfl rfl rfl ?_
                            exact Sp.jmp (l0 := [some (.ref 60), none, some (.int x178.1), some (.int x164.2.1), some (.int x178.2.1), none]) ⟨rfl, rfl, rfl, rfl, trivial⟩ (fun _ _ h => h)
                      · refine Sp.step rfl rfl rfl rfl ?_
                        refine Sp.step rfl rfl rfl rfl ?_
                        refine Sp.if1 rfl rfl rfl rfl (fun e186 => ?_) (fun e186 => ?_)
                        · refine Sp.step rfl rfl rfl rfl ?_
                          refine Sp.step rfl rfl rfl rfl ?_
                          exact Sp.jmp (l0 := [some (.ref 60), none, some (.int x178.1), some (.int x164.2.1), some (.int (x178.2.1 + 1)), none]) ⟨rfl, rfl, rfl, rfl, trivial⟩ (fun _ _ h => h)
                        · refine Sp.step rfl rfl rfl rfl ?_
                          refine Sp.step rfl rfl rfl (mg_F (f := 16) rfl rfl rfl rfl) ?_
                          refine Sp.step rfl rfl rfl rfl ?_
                          refine Sp.guard (fun e187 => ?_)
                          refine Sp.step rfl rfl rfl (mld rfl rfl (by decide) e187) ?_
                          refine Sp.if1 rfl rfl rfl rfl (fun e188 => ?_) (fun e188 => ?_)
                          · refine Sp.step rfl rfl rfl rfl ?_
                            refine Sp.step rfl rfl rfl rfl ?_
                            exact Sp.jmp (l0 := [some (.ref 60), none, some (.int x178.1), some (.int x164.2.1), some (.int (x178.2.1 + 1)), none]) ⟨rfl, rfl, rfl, rfl, trivial⟩ (fun _ _ h => h)
                          · refine Sp.step rfl rfl rfl rfl ?_
                            refine Sp.step rfl rfl rfl (mg_F (f := 16) rfl rfl rfl rfl) ?_
                            refine Sp.step rfl rfl rfl rfl ?_
                            refine Sp.step rfl rfl rfl rfl ?_
                            refine Sp.step rfl rfl rfl (mst1 rfl rfl e187) ?_
                            refine Sp.step rfl rfl rfl rfl ?_
                            refine Sp.step rfl rfl rfl rfl ?_
                            refine Sp.step rfl rfl rfl rfl ?_
                            refine Sp.step rfl rfl rfl rfl ?_
                            exact Sp.jmp (l0 := [some (.ref 60), none, some (.int 1), some (.int x164.2.1), some (.int (x178.2.1 + 1)), none]) ⟨rfl, rfl, rfl, rfl, trivial⟩ (fun _ _ h => h)
                  · refine Sp.step rfl rfl rfl rfl ?_
                    refine Sp.step rfl rfl rfl rfl ?_
                    exact Sp.jmp (l0 := [some (.ref 60), none, some (.int x190.1), some (.int (x164.2.1 + 1)), none, none]) ⟨rfl, rfl, rfl, trivial⟩ (fun _ _ h => h)
              · exact Sp.jmp (l0 := [some (.ref 60), none, some (.int x191.1), none, none, none]) ⟨rfl, rfl, trivial⟩ (fun _ _ h => h)
        · refine Sp.step rfl rfl rfl rfl ?_
          refine Sp.step rfl rfl rfl rfl ?_
          refine Sp.weak (l0 := [some (.ref 60), none, none, some (.int 0), none, none]) ⟨rfl, rfl, trivial⟩ ?_
          refine Sp.loopX (pe := 253) (mf := (fun (x198 : (Int32 × MS)) => [some (.ref 60), none, none, some (.int x198.1), none, none])) (hf := (fun (x198 : (Int32 × MS)) => hS X x198.2)) (fun x198 => ?_) (fun x203 => ?_) _ _
          · unfold b225_M_reach
            refine Sp.step rfl rfl rfl rfl ?_
            refine Sp.step rfl rfl rfl rfl ?_
            refine Sp.step rfl rfl rfl (mg_I (f := 15) rfl rfl rfl) ?_
            refine Sp.if2 rfl rfl rfl rfl (fun e199 => ?_) (fun e199 => ?_)
            · exact Sp.jmp (l0 := [some (.ref 60), none, none, some (.int x198.1), none, none]) ⟨rfl, rfl, trivial⟩ (fun _ _ h => h)
            · refine Sp.step rfl rfl rfl rfl ?_
              refine Sp.step rfl rfl rfl (mg_F (f := 16) rfl rfl rfl rfl) ?_
              refine Sp.step rfl rfl rfl rfl ?_
              refine Sp.guard (fun e200 => ?_)
              refine Sp.step rfl rfl rfl (mld rfl rfl (by decide) e200) ?_
              refine Sp.if1 rfl rfl rfl rfl (fun e201 => ?_) (fun e201 => ?_)
              · refine Sp.step rfl rfl rfl rfl ?_
                refine Sp.step rfl rfl rfl rfl ?_
                exact Sp.jmp (l0 := [some (.ref 60), none, none, some (.int (x198.1 + 1)), none, none]) ⟨rfl, rfl, trivial⟩ (fun _ _ h => h)
              · refine Sp.step rfl rfl rfl rfl ?_
                refine Sp.step rfl rfl rfl rfl ?_
                refine Sp.call rfl rfl rfl (mrecv (by decide) (by decide +kernel)) s_M_wantAll (fun x202 => ⟨_, _, ⟨rfl, rfl⟩, ?_⟩)
                refine Sp.id (pc := 247) (l := [some (.ref 60), none, none, some (.int x198.1), none, none]) (st := []) (h := hS X x202) ?_
                refine Sp.step rfl rfl rfl rfl ?_
                refine Sp.step rfl rfl rfl rfl ?_
                exact Sp.jmp (l0 := [some (.ref 60), none, none, some (.int (x198.1 + 1)), none, none]) ⟨rfl, rfl, trivial⟩ (fun _ _ h => h)
          · refine Sp.step rfl rfl rfl rfl ?_
            refine Sp.step rfl rfl rfl rfl ?_
            refine Sp.step rfl rfl rfl rfl ?_
            refine Sp.step rfl rfl rfl rfl ?_
            refine Sp.weak (l0 := [some (.ref 60), none, none, some (.int 0), some (.int 0), none]) ⟨rfl, rfl, rfl, trivial⟩ ?_
            refine Sp.loopX (pe := 299) (mf := (fun (x209 : (Int32 × Int32 × MS)) => [some (.ref 60), none, none, some (.int x209.1), some (.int x209.2.1), none])) (hf := (fun (x209 : (Int32 × Int32 × MS)) => hS X x209.2.2)) (fun x209 => ?_) (fun x214 => ?_) _ _
            · unfold b258_M_reach
              refine Sp.step rfl rfl rfl rfl ?_
              refine Sp.step rfl rfl rfl rfl ?_
              refine Sp.step rfl rfl rfl (mg_I (f := 15) rfl rfl rfl) ?_
              refine Sp.if2 rfl rfl rfl rfl (fun e210 => ?_) (fun e210 => ?_)
              · exact Sp.jmp (l0 := [some (.ref 60), none, none, some (.int x209.1), some (.int x209.2.1), none]) ⟨rfl, rfl, rfl, trivial⟩ (fun _ _ h => h)
              · refine Sp.step rfl rfl rfl rfl ?_
                refine Sp.step rfl rfl rfl (mg_F (f := 20) rfl rfl rfl rfl) ?_
                refine Sp.step rfl rfl rfl rfl ?_
                refine Sp.step rfl rfl rfl rfl ?_
                refine Sp.guard (fun e211 => ?_)
                refine Sp.step rfl rfl rfl (mst rfl rfl (by decide) e211) ?_
                refine Sp.step rfl rfl rfl rfl ?_
                refine Sp.step rfl rfl rfl (mg_F (f := 16) rfl rfl rfl rfl) ?_
                refine Sp.step rfl rfl rfl rfl ?_
                refine Sp.step rfl rfl rfl (mld rfl rfl (by decide) e211) ?_
                refine Sp.if1 rfl rfl rfl rfl (fun e213 => ?_) (fun e213 => ?_)
                · refine Sp.step rfl rfl rfl rfl ?_
                  refine Sp.step rfl rfl rfl rfl ?_
                  refine Sp.step rfl rfl rfl rfl ?_
                  refine Sp.step rfl rfl rfl rfl ?_
                  exact Sp.jmp (l0 := [some (.ref 60), none, none, some (.int x209.1), some (.int (x209.2.1 + 1)), none]) ⟨rfl, rfl, rfl, trivial⟩ (fun _ _ h => h)
                · refine Sp.step rfl rfl rfl rfl ?_
                  refine Sp.step rfl rfl rfl rfl ?_
                  refine Sp.step rfl rfl rfl rfl ?_
                  refine Sp.step rfl rfl rfl rfl ?_
                  refine Sp.step rfl rfl rfl rfl ?_
                  refine Sp.step rfl rfl rfl rfl ?_
                  refine Sp.step rfl rfl rfl rfl ?_
                  exact Sp.jmp (l0 := [some (.ref 60), none, none, some (.int (x209.1 + 1)), some (.int (x209.2.1 + 1)), none]) ⟨rfl, rfl, rfl, trivial⟩ (fun _ _ h => h)
            · refine Sp.step rfl rfl rfl rfl ?_
              refine Sp.step rfl rfl rfl rfl ?_
              refine Sp.step rfl rfl rfl (mp_I (f := 22) rfl rfl rfl rfl) ?_
              refine Sp.step rfl rfl rfl rfl ?_
              refine Sp.step rfl rfl rfl rfl ?_
              refine Sp.step rfl rfl rfl rfl ?_
              refine Sp.step rfl rfl rfl rfl ?_
              refine Sp.weak (l0 := [some (.ref 60), none, none, some (.int 0), some (.int 0), none]) ⟨rfl, rfl, rfl, trivial⟩ ?_
              refine Sp.loopX (pe := 350) (mf := (fun (x221 : (Int32 × Int32 × MS)) => [some (.ref 60), none, none, some (.int x221.1), some (.int x221.2.1), none])) (hf := (fun (x221 : (Int32 × Int32 × MS)) => hS X x221.2.2)) (fun x221 => ?_) (fun x226 => ?_) _ _
              · unfold b309_M_reach
                refine Sp.step rfl rfl rfl rfl ?_
                refine Sp.step rfl rfl rfl rfl ?_
                refine Sp.step rfl rfl rfl (mg_I (f := 3) rfl rfl rfl) ?_
                refine Sp.if2 rfl rfl rfl rfl (fun e222 => ?_) (fun e222 => ?_)
                · exact Sp.jmp (l0 := [some (.ref 60), none, none, some (.int x221.1), some (.int x221.2.1), none]) ⟨rfl, rfl, rfl, trivial⟩ (fun _ _ h => h)
                · refine Sp.step rfl rfl rfl rfl ?_
                  refine Sp.step rfl rfl rfl (mg_F (f := 21) rfl rfl rfl rfl) ?_
                  refine Sp.step rfl rfl rfl rfl ?_
                  refine Sp.step rfl rfl rfl rfl ?_
                  refine Sp.guard (fun e223 => ?_)
                  refine Sp.step rfl rfl rfl (mst rfl rfl (by decide) e223) ?_
                  refine Sp.step rfl rfl rfl rfl ?_
                  refine Sp.step rfl rfl rfl (mg_F (f := 18) rfl rfl rfl rfl) ?_
                  refine Sp.step rfl rfl rfl rfl ?_
                  refine Sp.step rfl rfl rfl (mld rfl rfl (by decide) e223) ?_
                  refine Sp.if1 rfl rfl rfl rfl (fun e225 => ?_) (fun e225 => ?_)
                  · refine Sp.step rfl rfl rfl rfl ?_
                    refine Sp.step rfl rfl rfl rfl ?_
                    refine Sp.step rfl rfl rfl rfl ?_
                    refine Sp.step rfl rfl rfl rfl ?_
                    exact Sp.jmp (l0 := [some (.ref 60), none, none, some (.int x221.1), some (.int (x221.2.1 + 1)), none]) ⟨rfl, rfl, rfl, trivial⟩ (fun _ _ h => h)
                  · refine Sp.step rfl rfl rfl rfl ?_
                    refine Sp.step rfl rfl rfl rfl ?_
                    refine Sp.step rfl rfl rfl rfl ?_
                    refine Sp.step rfl rfl rfl rfl ?_
                    refine Sp.step rfl rfl rfl rfl ?_
                    refine Sp.step rfl rfl rfl rfl ?_
                    refine Sp.step rfl rfl rfl rfl ?_
                    exact Sp.jmp (l0 := [some (.ref 60), none, none, some (.int (x221.1 + 1)), some (.int (x221.2.1 + 1)), none]) ⟨rfl, rfl, rfl, trivial⟩ (fun _ _ h => h)
              · refine Sp.step rfl rfl rfl rfl ?_
                refine Sp.step rfl rfl rfl rfl ?_
                refine Sp.step rfl rfl rfl (mp_I (f := 23) rfl rfl rfl rfl) ?_
                exact Sp.vret rfl rfl rfl (fun _ _ h => h)
