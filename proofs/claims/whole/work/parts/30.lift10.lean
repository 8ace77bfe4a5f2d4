/-! methods as functions, by program -/
def f_M_put (x : Int32) (M : MS) : Option MS := (if ixo (M.1 60 39) 8000 then (lt (mw M 92 (M.1 60 39).toNatClampNeg (x &&& 255)) fun M2 => (lt (mw M2 60 39 ((M2.1 60 39) + 1)) fun M3 => some M3)) else none)
set_option maxRecDepth 100000 in
set_option maxHeartbeats 4000000 in
theorem s_M_put {L : Nat} {xs : Nat → Int32} {X : XS} {M : MS} {x : Int32} : Sp (mjOO L xs) 44 0 [some (.ref 60), some (.int x)] [] (hS X M) (f_M_put x M) (KVM X) := by
  unfold f_M_put
  refine Sp.step rfl rfl rfl rfl ?_
  refine Sp.step rfl rfl rfl (mg_F (f := 38) rfl rfl rfl rfl) ?_
  refine Sp.step rfl rfl rfl rfl ?_
  refine Sp.step rfl rfl rfl (mg_I (f := 39) rfl rfl rfl) ?_
  refine Sp.step rfl rfl rfl rfl ?_
  refine Sp.step rfl rfl rfl rfl ?_
  refine Sp.step rfl rfl rfl rfl ?_
  refine Sp.guard (fun e1 => ?_)
  refine Sp.step rfl rfl rfl (mst rfl rfl (by decide) e1) ?_
  refine Sp.step rfl rfl rfl rfl ?_
  refine Sp.step rfl rfl rfl rfl ?_
  refine Sp.step rfl rfl rfl (mg_I (f := 39) rfl rfl rfl) ?_
  refine Sp.step rfl rfl rfl rfl ?_
  refine Sp.step rfl rfl rfl rfl ?_
  refine Sp.step rfl rfl rfl (mp_I (f := 39) rfl rfl rfl rfl) ?_
  exact Sp.vret rfl rfl rfl (fun _ _ h => h)
def f_M_putTwo (x : Int32) (M : MS) : Option MS := ((f_M_put ((x : Int32) >>> ((8 : Int32) &&& 31)) M).bind fun x1 => ((f_M_put x x1).bind fun x2 => some x2))
set_option maxRecDepth 100000 in
set_option maxHeartbeats 4000000 in
theorem s_M_putTwo {L : Nat} {xs : Nat → Int32} {X : XS} {M : MS} {x : Int32} : Sp (mjOO L xs) 45 0 [some (.ref 60), some (.int x)] [] (hS X M) (f_M_putTwo x M) (KVM X) := by
  unfold f_M_putTwo
  refine Sp.step rfl rfl rfl rfl ?_
  refine Sp.step rfl rfl rfl rfl ?_
  refine Sp.step rfl rfl rfl rfl ?_
  refine Sp.step rfl rfl rfl rfl ?_
  refine Sp.call rfl rfl rfl (mrecv (by decide) (by decide +kernel)) s_M_put (fun x1 => ⟨_, _, ⟨rfl, rfl⟩, ?_⟩)
  refine Sp.id (pc := 8) (l := [some (.ref 60), some (.int x)]) (st := []) (h := hS X x1) ?_
  refine Sp.step rfl rfl rfl rfl ?_
  refine Sp.step rfl rfl rfl rfl ?_
  refine Sp.call rfl rfl rfl (mrecv (by decide) (by decide +kernel)) s_M_put (fun x2 => ⟨_, _, ⟨rfl, rfl⟩, ?_⟩)
  refine Sp.id (pc := 13) (l := [some (.ref 60), some (.int x)]) (st := []) (h := hS X x2) ?_
  exact Sp.vret rfl rfl rfl (fun _ _ h => h)
def b5_M_allOf_62 (M : MS) (x1 : (Int32 × Int32)) : Option ((Int32 × Int32) ⊕ (Int32 × Int32)) := (if x1.2 < 0 then some (.inr (x1.1, x1.2)) else (if ixo x1.2 10 then some (.inl (x1.1 + (M.1 62 x1.2.toNatClampNeg), M.1 61 x1.2.toNatClampNeg)) else none))
def f_M_allOf_62 (x : Int32) (M : MS) : Option Int32 := ((lp (b5_M_allOf_62 M) 10000 ((0 : Int32), x)).bind fun x4 => some x4.1)
set_option maxRecDepth 100000 in
set_option maxHeartbeats 4000000 in
theorem s_M_allOf_62 {L : Nat} {xs : Nat → Int32} {X : XS} {M : MS} {x : Int32} : Sp (mjOO L xs) 46 0 [some (.ref 60), some (.ref 62), some (.int x), none, none] [] (hS X M) (f_M_allOf_62 x M) (KQ (hS X M)) := by
  unfold f_M_allOf_62
  refine Sp.step rfl rfl rfl rfl ?_
  refine Sp.step rfl rfl rfl rfl ?_
  refine Sp.step rfl rfl rfl rfl ?_
  refine Sp.step rfl rfl rfl rfl ?_
  refine Sp.weak (l0 := [some (.ref 60), some (.ref 62), none, some (.int 0), some (.int x)]) ⟨rfl, rfl, rfl, rfl, trivial⟩ ?_
  refine Sp.loopX (pe := 29) (mf := (fun (x1 : (Int32 × Int32)) => [some (.ref 60), some (.ref 62), none, some (.int x1.1), some (.int x1.2)])) (hf := (fun (x1 : (Int32 × Int32)) => hS X M)) (fun x1 => ?_) (fun x4 => ?_) _ _
  · unfold b5_M_allOf_62
    refine Sp.step rfl rfl rfl rfl ?_
    refine Sp.if1 rfl rfl rfl rfl (fun e2 => ?_) (fun e2 => ?_)
    · exact Sp.jmp (l0 := [some (.ref 60), some (.ref 62), none, some (.int x1.1), some (.int x1.2)]) ⟨rfl, rfl, rfl, rfl, trivial⟩ (fun _ _ h => h)
    · refine Sp.step rfl rfl rfl rfl ?_
      refine Sp.step rfl rfl rfl rfl ?_
      refine Sp.step rfl rfl rfl rfl ?_
      refine Sp.guard (fun e3 => ?_)
      refine Sp.step rfl rfl rfl (mld rfl rfl (by decide) e3) ?_
      refine Sp.step rfl rfl rfl rfl ?_
      refine Sp.step rfl rfl rfl rfl ?_
      refine Sp.step rfl rfl rfl rfl ?_
      refine Sp.step rfl rfl rfl (mg_F (f := 0) rfl rfl rfl rfl) ?_
      refine Sp.step rfl rfl rfl rfl ?_
      refine Sp.step rfl rfl rfl (mld rfl rfl (by decide) e3) ?_
      refine Sp.step rfl rfl rfl rfl ?_
      refine Sp.step rfl rfl rfl rfl ?_
      exact Sp.jmp (l0 := [some (.ref 60), some (.ref 62), none, some (.int (x1.1 + (M.1 62 x1.2.toNatClampNeg))), some (.int (M.1 61 x1.2.toNatClampNeg))]) ⟨rfl, rfl, rfl, rfl, trivial⟩ (fun _ _ h => h)
  · refine Sp.step rfl rfl rfl rfl ?_
    exact Sp.iret rfl rfl rfl rfl (fun _ _ h => h)
def b5_M_allOf_63 (M : MS) (x1 : (Int32 × Int32)) : Option ((Int32 × Int32) ⊕ (Int32 × Int32)) := (if x1.2 < 0 then some (.inr (x1.1, x1.2)) else (if ixo x1.2 10 then some (.inl (x1.1 + (M.1 63 x1.2.toNatClampNeg), M.1 61 x1.2.toNatClampNeg)) else none))
def f_M_allOf_63 (x : Int32) (M : MS) : Option Int32 := ((lp (b5_M_allOf_63 M) 10000 ((0 : Int32), x)).bind fun x4 => some x4.1)
set_option maxRecDepth 100000 in
set_option maxHeartbeats 4000000 in
theorem s_M_allOf_63 {L : Nat} {xs : Nat → Int32} {X : XS} {M : MS} {x : Int32} : Sp (mjOO L xs) 46 0 [some (.ref 60), some (.ref 63), some (.int x), none, none] [] (hS X M) (f_M_allOf_63 x M) (KQ (hS X M)) := by
  unfold f_M_allOf_63
  refine Sp.step rfl rfl rfl rfl ?_
  refine Sp.step rfl rfl rfl rfl ?_
  refine Sp.step rfl rfl rfl rfl ?_
  refine Sp.step rfl rfl rfl rfl ?_
  refine Sp.weak (l0 := [some (.ref 60), some (.ref 63), none, some (.int 0), some (.int x)]) ⟨rfl, rfl, rfl, rfl, trivial⟩ ?_
  refine Sp.loopX (pe := 29) (mf := (fun (x1 : (Int32 × Int32)) => [some (.ref 60), some (.ref 63), none, some (.int x1.1), some (.int x1.2)])) (hf := (fun (x1 : (Int32 × Int32)) => hS X M)) (fun x1 => ?_) (fun x4 => ?_) _ _
  · unfold b5_M_allOf_63
    refine Sp.step rfl rfl rfl rfl ?_
    refine Sp.if1 rfl rfl rfl rfl (fun e2 => ?_) (fun e2 => ?_)
    · exact Sp.jmp (l0 := [some (.ref 60), some (.ref 63), none, some (.int x1.1), some (.int x1.2)]) ⟨rfl, rfl, rfl, rfl, trivial⟩ (fun _ _ h => h)
    · refine Sp.step rfl rfl rfl rfl ?_
      refine Sp.step rfl rfl rfl rfl ?_
      refine Sp.step rfl rfl rfl rfl ?_
      refine Sp.guard (fun e3 => ?_)
      refine Sp.step rfl rfl rfl (mld rfl rfl (by decide) e3) ?_
      refine Sp.step rfl rfl rfl rfl ?_
      refine Sp.step rfl rfl rfl rfl ?_
      refine Sp.step rfl rfl rfl rfl ?_
      refine Sp.step rfl rfl rfl (mg_F (f := 0) rfl rfl rfl rfl) ?_
      refine Sp.step rfl rfl rfl rfl ?_
      refine Sp.step rfl rfl rfl (mld rfl rfl (by decide) e3) ?_
      refine Sp.step rfl rfl rfl rfl ?_
      refine Sp.step rfl rfl rfl rfl ?_
      exact Sp.jmp (l0 := [some (.ref 60), some (.ref 63), none, some (.int (x1.1 + (M.1 63 x1.2.toNatClampNeg))), some (.int (M.1 61 x1.2.toNatClampNeg))]) ⟨rfl, rfl, rfl, rfl, trivial⟩ (fun _ _ h => h)
  · refine Sp.step rfl rfl rfl rfl ?_
    exact Sp.iret rfl rfl rfl rfl (fun _ _ h => h)
def f_M_lengthOf (x : Int32) (y : Int32) (M : MS) : Option Int32 := (if ixo ((60 * x) + y) 1440 then (if ¬ M.1 88 ((60 * x) + y).toNatClampNeg = 0 then (if M.1 71 ((60 * x) + y).toNatClampNeg = 1 then (if (-128) ≤ M.1 72 ((60 * x) + y).toNatClampNeg ∧ M.1 72 ((60 * x) + y).toNatClampNeg ≤ 127 then some 2 else some 3) else (if (M.1 71 ((60 * x) + y).toNatClampNeg = 2 ∨ M.1 71 ((60 * x) + y).toNatClampNeg = 3 ∨ M.1 71 ((60 * x) + y).toNatClampNeg = 26 ∨ M.1 71 ((60 * x) + y).toNatClampNeg = 38 ∨ M.1 71 ((60 * x) + y).toNatClampNeg = 39 ∨ M.1 71 ((60 * x) + y).toNatClampNeg = 44 ∨ M.1 71 ((60 * x) + y).toNatClampNeg = 52 ∨ M.1 71 ((60 * x) + y).toNatClampNeg = 53 ∨ M.1 71 ((60 * x) + y).toNatClampNeg = 54 ∨ M.1 71 ((60 * x) + y).toNatClampNeg = 55) then some 2 else (if (M.1 71 ((60 * x) + y).toNatClampNeg = 19 ∨ M.1 71 ((60 * x) + y).toNatClampNeg = 20 ∨ M.1 71 ((60 * x) + y).toNatClampNeg = 21 ∨ M.1 71 ((60 * x) + y).toNatClampNeg = 22 ∨ M.1 71 ((60 * x) + y).toNatClampNeg = 23 ∨ M.1 71 ((60 * x) + y).toNatClampNeg = 24 ∨ M.1 71 ((60 * x) + y).toNatClampNeg = 25 ∨ M.1 71 ((60 * x) + y).toNatClampNeg = 27 ∨ M.1 71 ((60 * x) + y).toNatClampNeg = 28 ∨ M.1 71 ((60 * x) + y).toNatClampNeg = 29 ∨ M.1 71 ((60 * x) + y).toNatClampNeg = 30) then some 3 else some 1))) else some 1) else none)
set_option maxRecDepth 100000 in
set_option maxHeartbeats 4000000 in
theorem s_M_lengthOf {L : Nat} {xs : Nat → Int32} {X : XS} {M : MS} {x : Int32} {y : Int32} : Sp (mjOO L xs) 47 0 [some (.ref 60), some (.int x), some (.int y), none] [] (hS X M) (f_M_lengthOf x y M) (KQ (hS X M)) := by
  unfold f_M_lengthOf
  refine Sp.step rfl rfl rfl rfl ?_
  refine Sp.step rfl rfl rfl (mg_F (f := 11) rfl rfl rfl rfl) ?_
  refine Sp.step rfl rfl rfl rfl ?_
  refine Sp.step rfl rfl rfl rfl ?_
  refine Sp.step rfl rfl rfl rfl ?_
  refine Sp.step rfl rfl rfl rfl ?_
  refine Sp.step rfl rfl rfl rfl ?_
  refine Sp.guard (fun e1 => ?_)
  refine Sp.step rfl rfl rfl (mld rfl rfl (by decide) e1) ?_
  refine Sp.step rfl rfl rfl rfl ?_
  refine Sp.step rfl rfl rfl rfl ?_
  refine Sp.step rfl rfl rfl (mg_F (f := 33) rfl rfl rfl rfl) ?_
  refine Sp.step rfl rfl rfl rfl ?_
  refine Sp.step rfl rfl rfl rfl ?_
  refine Sp.step rfl rfl rfl rfl ?_
  refine Sp.step rfl rfl rfl rfl ?_
  refine Sp.step rfl rfl rfl rfl ?_
  refine Sp.step rfl rfl rfl (mld rfl rfl (by decide) e1) ?_
  refine Sp.if1 rfl rfl rfl rfl (fun e2 => ?_) (fun e2 => ?_)
  · refine Sp.step rfl rfl rfl rfl ?_
    refine Sp.ite (fun e3 => ?_) (fun e3 => ?_)
    · refine Sp.step rfl rfl rfl (go_sw (t := 264) (sw_of e3 rfl)) ?_
      refine Sp.step rfl rfl rfl rfl ?_
      refine Sp.step rfl rfl rfl (mg_F (f := 12) rfl rfl rfl rfl) ?_
      refine Sp.step rfl rfl rfl rfl ?_
      refine Sp.step rfl rfl rfl rfl ?_
      refine Sp.step rfl rfl rfl rfl ?_
      refine Sp.step rfl rfl rfl rfl ?_
      refine Sp.step rfl rfl rfl rfl ?_
      refine Sp.step rfl rfl rfl (mld rfl rfl (by decide) e1) ?_
      refine Sp.step rfl rfl rfl rfl ?_
      refine Sp.step rfl rfl rfl rfl ?_
      refine Sp.callP rfl rfl rfl rfl s_isIn (fun e4 => ?_) (fun e4 => ?_)
      · refine Sp.id (pc := 282) (l := [some (.ref 60), some (.int x), some (.int y), some (.int (M.1 71 ((60 * x) + y).toNatClampNeg))]) (st := [.int 1]) (h := hS X M) ?_
        refine Sp.step rfl rfl rfl rfl ?_
        refine Sp.step rfl rfl rfl rfl ?_
        refine Sp.step rfl rfl rfl rfl ?_
        exact Sp.iret rfl rfl rfl rfl (fun _ _ h => h)
      · refine Sp.id (pc := 282) (l := [some (.ref 60), some (.int x), some (.int y), some (.int (M.1 71 ((60 * x) + y).toNatClampNeg))]) (st := [.int 0]) (h := hS X M) ?_
        refine Sp.step rfl rfl rfl rfl ?_
        refine Sp.step rfl rfl rfl rfl ?_
        exact Sp.iret rfl rfl rfl rfl (fun _ _ h => h)
    · refine Sp.ite (fun e7 => ?_) (fun e7 => ?_)
      · refine Sp.step rfl rfl rfl (go_sw (t := 291) (by rcases e7 with e | e | e | e | e | e | e | e | e | e <;> exact sw_of e rfl)) ?_
        refine Sp.step rfl rfl rfl rfl ?_
        exact Sp.iret rfl rfl rfl rfl (fun _ _ h => h)
      · refine Sp.ite (fun e8 => ?_) (fun e8 => ?_)
        · refine Sp.step rfl rfl rfl (go_sw (t := 293) (by rcases e8 with e | e | e | e | e | e | e | e | e | e | e <;> exact sw_of e rfl)) ?_
          refine Sp.step rfl rfl rfl rfl ?_
          exact Sp.iret rfl rfl rfl rfl (fun _ _ h => h)
        · refine Sp.step rfl rfl rfl (go_sw (t := 295) (mjSw_dflt _ (by
            intro q hq
            simp only [List.mem_cons, List.not_mem_nil, or_false] at hq
            rcases hq with rfl | rfl | rfl | rfl | rfl | rfl | rfl | rfl | rfl | rfl | rfl | rfl | rfl | rfl | rfl | rfl | rfl | rfl | rfl | rfl | rfl | rfl | rfl | rfl | rfl | rfl | rfl | rfl | rfl | rfl | rfl | rfl | rfl | rfl | rfl | rfl | rfl | rfl | rfl | rfl | rfl | rfl | rfl | rfl | rfl | rfl | rfl | rfl | rfl | rfl | rfl | rfl | rfl | rfl | rfl
            · exact fun h => absurd h (fun h => e3 h)
            · exact fun h => absurd h (fun h => e7 (Or.inl h))
            · exact fun h => absurd h (fun h => e7 (Or.inr (Or.inl h)))
            · exact fun h => rfl
            · exact fun h => rfl
            · exact fun h => rfl
            · exact fun h => rfl
            · exact fun h => rfl
            · exact fun h => rfl
            · exact fun h => rfl
            · exact fun h => rfl
            · exact fun h => rfl
            · exact fun h => rfl
            · exact fun h => rfl
            · exact fun h => rfl
            · exact fun h => rfl
            · exact fun h => rfl
            · exact fun h => rfl
            · exact fun h => absurd h (fun h => e8 (Or.inl h))
            · exact fun h => absurd h (fun h => e8 (Or.inr (Or.inl h)))
            · exact fun h => absurd h (fun h => e8 (Or.inr (Or.inr (Or.inl h))))
            · exact fun h => absurd h (fun h => e8 (Or.inr (Or.inr (Or.inr (Or.inl h)))))
            · exact fun h => absurd h (fun h => e8 (Or.inr (Or.inr (Or.inr (Or.inr (Or.inl h))))))
            · exact fun h => absurd h (fun h => e8 (Or.inr (Or.inr (Or.inr (Or.inr (Or.inr (Or.inl h)))))))
            · exact fun h => absurd h (fun h => e8 (Or.inr (Or.inr (Or.inr (Or.inr (Or.inr (Or.inr (Or.inl h))))))))
            · exact fun h => absurd h (fun h => e7 (Or.inr (Or.inr (Or.inl h))))
            · exact fun h => absurd h (fun h => e8 (Or.inr (Or.inr (Or.inr (Or.inr (Or.inr (Or.inr (Or.inr (Or.inl h)))))))))
            · exact fun h => absurd h (fun h => e8 (Or.inr (Or.inr (Or.inr (Or.inr (Or.inr (Or.inr (Or.inr (Or.inr (Or.inl h))))))))))
            · exact fun h => absurd h (fun h => e8 (Or.inr (Or.inr (Or.inr (Or.inr (Or.inr (Or.inr (Or.inr (Or.inr (Or.inr (Or.inl h)))))))))))
            · exact fun h => absurd h (fun h => e8 (Or.inr (Or.inr (Or.inr (Or.inr (Or.inr (Or.inr (Or.inr (Or.inr (Or.inr (Or.inr h)))))))))))
            · exact fun h => rfl
            · exact fun h => rfl
            · exact fun h => rfl
            · exact fun h => rfl
            · exact fun h => rfl
            · exact fun h => rfl
            · exact fun h => rfl
            · exact fun h => absurd h (fun h => e7 (Or.inr (Or.inr (Or.inr (Or.inl h)))))
            · exact fun h => absurd h (fun h => e7 (Or.inr (Or.inr (Or.inr (Or.inr (Or.inl h))))))
            · exact fun h => rfl
            · exact fun h => rfl
            · exact fun h => rfl
            · exact fun h => rfl
            · exact fun h => absurd h (fun h => e7 (Or.inr (Or.inr (Or.inr (Or.inr (Or.inr (Or.inl h)))))))
            · exact fun h => rfl
            · exact fun h => rfl
            · exact fun h => rfl
            · exact fun h => rfl
            · exact fun h => rfl
            · exact fun h => rfl
            · exact fun h => rfl
            · exact fun h => absurd h (fun h => e7 (Or.inr (Or.inr (Or.inr (Or.inr (Or.inr (Or.inr (Or.inl h))))))))
            · exact fun h => absurd h (fun h => e7 (Or.inr (Or.inr (Or.inr (Or.inr (Or.inr (Or.inr (Or.inr (Or.inl h)))))))))
            · exact fun h => absurd h (fun h => e7 (Or.inr (Or.inr (Or.inr (Or.inr (Or.inr (Or.inr (Or.inr (Or.inr (Or.inl h))))))))))
            · exact fun h => absurd h (fun h => e7 (Or.inr (Or.inr (Or.inr (Or.inr (Or.inr (Or.inr (Or.inr (Or.inr (Or.inr h))))))))))))) ?_
          refine Sp.step rfl rfl rfl rfl ?_
          exact Sp.iret rfl rfl rfl rfl (fun _ _ h => h)
  · refine Sp.step rfl rfl rfl rfl ?_
    exact Sp.iret rfl rfl rfl rfl (fun _ _ h => h)
def b9_M_measure (x : Int32) (x9 : (Int32 × MS)) : Option ((Int32 × MS) ⊕ (Int32 × MS)) := (if ixo x 24 then (if x9.2.1 70 x.toNatClampNeg ≤ x9.1 then some (.inr (x9.1, x9.2)) else (if ixo x9.1 61 then ((f_M_lengthOf x x9.1 x9.2).bind fun x13 => (if ixo (x9.1 + 1) 61 then (lt (mw x9.2 93 (x9.1 + 1).toNatClampNeg ((x9.2.1 93 x9.1.toNatClampNeg) + x13)) fun M15 => some (.inl (x9.1 + 1, M15))) else none)) else none)) else none)
def f_M_measure (x : Int32) (M : MS) : Option MS := (lt (mw M 93 0 0) fun M1 => ((lp (b9_M_measure x) 10000 ((0 : Int32), M1)).bind fun x16 => some x16.2))
set_option maxRecDepth 100000 in
set_option maxHeartbeats 4000000 in
theorem s_M_measure {L : Nat} {xs : Nat → Int32} {X : XS} {M : MS} {x : Int32} : Sp (mjOO L xs) 48 0 [some (.ref 60), some (.int x), none] [] (hS X M) (f_M_measure x M) (KVM X) := by
  unfold f_M_measure
  refine Sp.step rfl rfl rfl rfl ?_
  refine Sp.step rfl rfl rfl (mg_F (f := 40) rfl rfl rfl rfl) ?_
  refine Sp.step rfl rfl rfl rfl ?_
  refine Sp.step rfl rfl rfl rfl ?_
  refine Sp.step rfl rfl rfl (mst rfl rfl (by decide) (by decide)) ?_
  refine Sp.step rfl rfl rfl rfl ?_
  refine Sp.step rfl rfl rfl rfl ?_
  refine Sp.weak (l0 := [some (.ref 60), some (.int x), some (.int 0)]) ⟨rfl, rfl, rfl, trivial⟩ ?_
  refine Sp.loopX (pe := 46) (mf := (fun (x9 : (Int32 × MS)) => [some (.ref 60), some (.int x), some (.int x9.1)])) (hf := (fun (x9 : (Int32 × MS)) => hS X x9.2)) (fun x9 => ?_) (fun x16 => ?_) _ _
  · unfold b9_M_measure
    refine Sp.step rfl rfl rfl rfl ?_
    refine Sp.step rfl rfl rfl rfl ?_
    refine Sp.step rfl rfl rfl (mg_F (f := 10) rfl rfl rfl rfl) ?_
    refine Sp.step rfl rfl rfl rfl ?_
    refine Sp.guard (fun e10 => ?_)
    refine Sp.step rfl rfl rfl (mld rfl rfl (by decide) e10) ?_
    refine Sp.if2 rfl rfl rfl rfl (fun e11 => ?_) (fun e11 => ?_)
    · exact Sp.jmp (l0 := [some (.ref 60), some (.int x), some (.int x9.1)]) ⟨rfl, rfl, rfl, trivial⟩ (fun _ _ h => h)
    · refine Sp.step rfl rfl rfl rfl ?_
      refine Sp.step rfl rfl rfl (mg_F (f := 40) rfl rfl rfl rfl) ?_
      refine Sp.step rfl rfl rfl rfl ?_
      refine Sp.step rfl rfl rfl rfl ?_
      refine Sp.step rfl rfl rfl rfl ?_
      refine Sp.step rfl rfl rfl rfl ?_
      refine Sp.step rfl rfl rfl (mg_F (f := 40) rfl rfl rfl rfl) ?_
      refine Sp.step rfl rfl rfl rfl ?_
      refine Sp.guard (fun e12 => ?_)
      refine Sp.step rfl rfl rfl (mld rfl rfl (by decide) e12) ?_
      refine Sp.step rfl rfl rfl rfl ?_
      refine Sp.step rfl rfl rfl rfl ?_
      refine Sp.step rfl rfl rfl rfl ?_
      refine Sp.call rfl rfl rfl (mrecv (by decide) (by decide +kernel)) s_M_lengthOf (fun x13 => ⟨_, _, ⟨rfl, rfl⟩, ?_⟩)
      refine Sp.id (pc := 38) (l := [some (.ref 60), some (.int x), some (.int x9.1)]) (st := [.int x13, .int (x9.2.1 93 x9.1.toNatClampNeg), .int (x9.1 + 1), .ref 93]) (h := hS X x9.2) ?_
      refine Sp.step rfl rfl rfl rfl ?_
      refine Sp.guard (fun e14 => ?_)
      refine Sp.step rfl rfl rfl (mst rfl rfl (by decide) e14) ?_
      refine Sp.step rfl rfl rfl rfl ?_
      refine Sp.step rfl rfl rfl rfl ?_
      exact Sp.jmp (l0 := [some (.ref 60), some (.int x), some (.int (x9.1 + 1))]) ⟨rfl, rfl, rfl, trivial⟩ (fun _ _ h => h)
  · exact Sp.vret rfl rfl rfl (fun _ _ h => h)
def b89_M_writeHead (x : Int32) (x33 : (Int32 × MS)) : Option ((Int32 × MS) ⊕ (Int32 × MS)) := (if ixo x 24 then (if x33.2.1 73 x.toNatClampNeg ≤ x33.1 then some (.inr (x33.1, x33.2)) else (if ixo ((24 * x) + (4 * x33.1)) 576 then (if ixo (x33.2.1 74 ((24 * x) + (4 * x33.1)).toNatClampNeg) 61 then ((f_M_putTwo (x33.2.1 93 (x33.2.1 74 ((24 * x) + (4 * x33.1)).toNatClampNeg).toNatClampNeg) x33.2).bind fun x38 => (if ixo (((24 * x) + (4 * x33.1)) + 1) 576 then (if ixo (x38.1 74 (((24 * x) + (4 * x33.1)) + 1).toNatClampNeg) 61 then ((f_M_putTwo (x38.1 93 (x38.1 74 (((24 * x) + (4 * x33.1)) + 1).toNatClampNeg).toNatClampNeg) x38).bind fun x41 => (if ixo (((24 * x) + (4 * x33.1)) + 2) 576 then (if ixo (x41.1 74 (((24 * x) + (4 * x33.1)) + 2).toNatClampNeg) 61 then ((f_M_putTwo (x41.1 93 (x41.1 74 (((24 * x) + (4 * x33.1)) + 2).toNatClampNeg).toNatClampNeg) x41).bind fun x44 => (if ixo (((24 * x) + (4 * x33.1)) + 3) 576 then (if 0 ≤ x44.1 74 (((24 * x) + (4 * x33.1)) + 3).toNatClampNeg then (if ixo (x44.1 74 (((24 * x) + (4 * x33.1)) + 3).toNatClampNeg) 10 then ((f_M_put (x44.1 80 (x44.1 74 (((24 * x) + (4 * x33.1)) + 3).toNatClampNeg).toNatClampNeg) x44).bind fun x48 => some (.inl (x33.1 + 1, x48))) else none) else ((f_M_put (256 + (x44.1 74 (((24 * x) + (4 * x33.1)) + 3).toNatClampNeg)) x44).bind fun x49 => some (.inl (x33.1 + 1, x49)))) else none)) else none) else none)) else none) else none)) else none) else none)) else none)
def f_M_writeHead (x : Int32) (y : Int32) (M : MS) : Option MS := ((f_M_putTwo y M).bind fun x1 => (if ixo x 24 then (if ixo (x1.1 70 x.toNatClampNeg) 61 then ((f_M_putTwo (x1.1 93 (x1.1 70 x.toNatClampNeg).toNatClampNeg) x1).bind fun x4 => (if ixo x 24 then (if ¬ x4.1 65 x.toNatClampNeg = (-2) then ((f_M_put ((x4.1 66 x.toNatClampNeg) + 1) x4).bind fun x7 => (if ixo x 24 then ((f_M_put (x7.1 69 x.toNatClampNeg) x7).bind fun x9 => (if ixo x 24 then ((f_M_put (x9.1 89 x.toNatClampNeg) x9).bind fun x11 => (if ixo x 24 then ((f_M_put (x11.1 68 x.toNatClampNeg) x11).bind fun x13 => (if ixo x 24 then ((f_M_put (x13.1 73 x.toNatClampNeg) x13).bind fun x15 => ((lp (b89_M_writeHead x) 10000 ((0 : Int32), x15)).bind fun x50 => some x50.2)) else none)) else none)) else none)) else none)) else ((f_M_put ((x4.1 66 x.toNatClampNeg) + 0) x4).bind fun x51 => (if ixo x 24 then ((f_M_put (x51.1 69 x.toNatClampNeg) x51).bind fun x53 => (if ixo x 24 then ((f_M_put (x53.1 89 x.toNatClampNeg) x53).bind fun x55 => (if ixo x 24 then ((f_M_put (x55.1 68 x.toNatClampNeg) x55).bind fun x57 => (if ixo x 24 then ((f_M_put (x57.1 73 x.toNatClampNeg) x57).bind fun x59 => ((lp (b89_M_writeHead x) 10000 ((0 : Int32), x59)).bind fun x94 => some x94.2)) else none)) else none)) else none)) else none))) else none)) else none) else none))
set_option maxRecDepth 100000 in
set_option maxHeartbeats 4000000 in
theorem s_M_writeHead {L : Nat} {xs : Nat → Int32} {X : XS} {M : MS} {x : Int32} {y : Int32} : Sp (mjOO L xs) 50 0 [some (.ref 60), some (.int x), some (.int y), none, none] [] (hS X M) (f_M_writeHead x y M) (KVM X) := by
  unfold f_M_writeHead
  refine Sp.step rfl rfl rfl rfl ?_
  refine Sp.step rfl rfl rfl rfl ?_
  refine Sp.call rfl rfl rfl (mrecv (by decide) (by decide +kernel)) s_M_putTwo (fun x1 => ⟨_, _, ⟨rfl, rfl⟩, ?_⟩)
  refine Sp.id (pc := 5) (l := [some (.ref 60), some (.int x), some (.int y), none, none]) (st := []) (h := hS X x1) ?_
  refine Sp.step rfl rfl rfl rfl ?_
  refine Sp.step rfl rfl rfl rfl ?_
  refine Sp.step rfl rfl rfl (mg_F (f := 40) rfl rfl rfl rfl) ?_
  refine Sp.step rfl rfl rfl rfl ?_
  refine Sp.step rfl rfl rfl (mg_F (f := 10) rfl rfl rfl rfl) ?_
  refine Sp.step rfl rfl rfl rfl ?_
  refine Sp.guard (fun e2 => ?_)
  refine Sp.step rfl rfl rfl (mld rfl rfl (by decide) e2) ?_
  refine Sp.guard (fun e3 => ?_)
  refine Sp.step rfl rfl rfl (mld rfl rfl (by decide) e3) ?_
  refine Sp.call rfl rfl rfl (mrecv (by decide) (by decide +kernel)) s_M_putTwo (fun x4 => ⟨_, _, ⟨rfl, rfl⟩, ?_⟩)
  refine Sp.id (pc := 20) (l := [some (.ref 60), some (.int x), some (.int y), none, none]) (st := []) (h := hS X x4) ?_
  refine Sp.step rfl rfl rfl rfl ?_
  refine Sp.step rfl rfl rfl rfl ?_
  refine Sp.step rfl rfl rfl (mg_F (f := 6) rfl rfl rfl rfl) ?_
  refine Sp.step rfl rfl rfl rfl ?_
  refine Sp.guard (fun e5 => ?_)
  refine Sp.step rfl rfl rfl (mld rfl rfl (by decide) e5) ?_
  refine Sp.step rfl rfl rfl rfl ?_
  refine Sp.step rfl rfl rfl (mg_F (f := 5) rfl rfl rfl rfl) ?_
  refine Sp.step rfl rfl rfl rfl ?_
  refine Sp.step rfl rfl rfl (mld rfl rfl (by decide) e5) ?_
  refine Sp.step rfl rfl rfl rfl ?_
  refine Sp.if2 rfl rfl rfl rfl (fun e6 => ?_) (fun e6 => ?_)
  · refine Sp.step rfl rfl rfl rfl ?_
    refine Sp.step rfl rfl rfl rfl ?_
    refine Sp.call rfl rfl rfl (mrecv (by decide) (by decide +kernel)) s_M_put (fun x7 => ⟨_, _, ⟨rfl, rfl⟩, ?_⟩)
    refine Sp.id (pc := 47) (l := [some (.ref 60), some (.int x), some (.int y), none, none]) (st := []) (h := hS X x7) ?_
    refine Sp.step rfl rfl rfl rfl ?_
    refine Sp.step rfl rfl rfl rfl ?_
    refine Sp.step rfl rfl rfl (mg_F (f := 9) rfl rfl rfl rfl) ?_
    refine Sp.step rfl rfl rfl rfl ?_
    refine Sp.guard (fun e8 => ?_)
    refine Sp.step rfl rfl rfl (mld rfl rfl (by decide) e8) ?_
    refine Sp.call rfl rfl rfl (mrecv (by decide) (by decide +kernel)) s_M_put (fun x9 => ⟨_, _, ⟨rfl, rfl⟩, ?_⟩)
    refine Sp.id (pc := 57) (l := [some (.ref 60), some (.int x), some (.int y), none, none]) (st := []) (h := hS X x9) ?_
    refine Sp.step rfl rfl rfl rfl ?_
    refine Sp.step rfl rfl rfl rfl ?_
    refine Sp.step rfl rfl rfl (mg_F (f := 34) rfl rfl rfl rfl) ?_
    refine Sp.step rfl rfl rfl rfl ?_
    refine Sp.guard (fun e10 => ?_)
    refine Sp.step rfl rfl rfl (mld rfl rfl (by decide) e10) ?_
    refine Sp.call rfl rfl rfl (mrecv (by decide) (by decide +kernel)) s_M_put (fun x11 => ⟨_, _, ⟨rfl, rfl⟩, ?_⟩)
    refine Sp.id (pc := 67) (l := [some (.ref 60), some (.int x), some (.int y), none, none]) (st := []) (h := hS X x11) ?_
    refine Sp.step rfl rfl rfl rfl ?_
    refine Sp.step rfl rfl rfl rfl ?_
    refine Sp.step rfl rfl rfl (mg_F (f := 8) rfl rfl rfl rfl) ?_
    refine Sp.step rfl rfl rfl rfl ?_
    refine Sp.guard (fun e12 => ?_)
    refine Sp.step rfl rfl rfl (mld rfl rfl (by decide) e12) ?_
    refine Sp.call rfl rfl rfl (mrecv (by decide) (by decide +kernel)) s_M_put (fun x13 => ⟨_, _, ⟨rfl, rfl⟩, ?_⟩)
    refine Sp.id (pc := 77) (l := [some (.ref 60), some (.int x), some (.int y), none, none]) (st := []) (h := hS X x13) ?_
    refine Sp.step rfl rfl rfl rfl ?_
    refine Sp.step rfl rfl rfl rfl ?_
    refine Sp.step rfl rfl rfl (mg_F (f := 13) rfl rfl rfl rfl) ?_
    refine Sp.step rfl rfl rfl rfl ?_
    refine Sp.guard (fun e14 => ?_)
    refine Sp.step rfl rfl rfl (mld rfl rfl (by decide) e14) ?_
    refine Sp.call rfl rfl rfl (mrecv (by decide) (by decide +kernel)) s_M_put (fun x15 => ⟨_, _, ⟨rfl, rfl⟩, ?_⟩)
    refine Sp.id (pc := 87) (l := [some (.ref 60), some (.int x), some (.int y), none, none]) (st := []) (h := hS X x15) ?_
    refine Sp.step rfl rfl rfl rfl ?_
    refine Sp.step rfl rfl rfl rfl ?_
    refine Sp.weak (l0 := [some (.ref 60), some (.int x), none, some (.int 0), none]) ⟨rfl, rfl, rfl, trivial⟩ ?_
    refine Sp.loopX (pe := 213) (mf := (fun (x33 : (Int32 × MS)) => [some (.ref 60), some (.int x), none, some (.int x33.1), none])) (hf := (fun (x33 : (Int32 × MS)) => hS X x33.2)) (fun x33 => ?_) (fun x50 => ?_) _ _
    · unfold b89_M_writeHead
      refine Sp.step rfl rfl rfl rfl ?_
      refine Sp.step rfl rfl rfl rfl ?_
      refine Sp.step rfl rfl rfl (mg_F (f := 13) rfl rfl rfl rfl) ?_
      refine Sp.step rfl rfl rfl rfl ?_
      refine Sp.guard (fun e34 => ?_)
      refine Sp.step rfl rfl rfl (mld rfl rfl (by decide) e34) ?_
      refine Sp.if2 rfl rfl rfl rfl (fun e35 => ?_) (fun e35 => ?_)
      · exact Sp.jmp (l0 := [some (.ref 60), some (.int x), none, some (.int x33.1), none]) ⟨rfl, rfl, rfl, trivial⟩ (fun _ _ h => h)
      · refine Sp.step rfl rfl rfl rfl ?_
        refine Sp.step rfl rfl rfl rfl ?_
        refine Sp.step rfl rfl rfl rfl ?_
        refine Sp.step rfl rfl rfl rfl ?_
        refine Sp.step rfl rfl rfl rfl ?_
        refine Sp.step rfl rfl rfl rfl ?_
        refine Sp.step rfl rfl rfl rfl ?_
        refine Sp.step rfl rfl rfl rfl ?_
        refine Sp.step rfl rfl rfl rfl ?_
        refine Sp.step rfl rfl rfl rfl ?_
        refine Sp.step rfl rfl rfl (mg_F (f := 40) rfl rfl rfl rfl) ?_
        refine Sp.step rfl rfl rfl rfl ?_
        refine Sp.step rfl rfl rfl (mg_F (f := 14) rfl rfl rfl rfl) ?_
        refine Sp.step rfl rfl rfl rfl ?_
        refine Sp.guard (fun e36 => ?_)
        refine Sp.step rfl rfl rfl (mld rfl rfl (by decide) e36) ?_
        refine Sp.guard (fun e37 => ?_)
        refine Sp.step rfl rfl rfl (mld rfl rfl (by decide) e37) ?_
        refine Sp.call rfl rfl rfl (mrecv (by decide) (by decide +kernel)) s_M_putTwo (fun x38 => ⟨_, _, ⟨rfl, rfl⟩, ?_⟩)
        refine Sp.id (pc := 125) (l := [some (.ref 60), some (.int x), none, some (.int x33.1), some (.int ((24 * x) + (4 * x33.1)))]) (st := []) (h := hS X x38) ?_
        refine Sp.step rfl rfl rfl rfl ?_
        refine Sp.step rfl rfl rfl rfl ?_
        refine Sp.step rfl rfl rfl (mg_F (f := 40) rfl rfl rfl rfl) ?_
        refine Sp.step rfl rfl rfl rfl ?_
        refine Sp.step rfl rfl rfl (mg_F (f := 14) rfl rfl rfl rfl) ?_
        refine Sp.step rfl rfl rfl rfl ?_
        refine Sp.step rfl rfl rfl rfl ?_
        refine Sp.step rfl rfl rfl rfl ?_
        refine Sp.guard (fun e39 => ?_)
        refine Sp.step rfl rfl rfl (mld rfl rfl (by decide) e39) ?_
        refine Sp.guard (fun e40 => ?_)
        refine Sp.step rfl rfl rfl (mld rfl rfl (by decide) e40) ?_
        refine Sp.call rfl rfl rfl (mrecv (by decide) (by decide +kernel)) s_M_putTwo (fun x41 => ⟨_, _, ⟨rfl, rfl⟩, ?_⟩)
        refine Sp.id (pc := 143) (l := [some (.ref 60), some (.int x), none, some (.int x33.1), some (.int ((24 * x) + (4 * x33.1)))]) (st := []) (h := hS X x41) ?_
        refine Sp.step rfl rfl rfl rfl ?_
        refine Sp.step rfl rfl rfl rfl ?_
        refine Sp.step rfl rfl rfl (mg_F (f := 40) rfl rfl rfl rfl) ?_
        refine Sp.step rfl rfl rfl rfl ?_
        refine Sp.step rfl rfl rfl (mg_F (f := 14) rfl rfl rfl rfl) ?_
        refine Sp.step rfl rfl rfl rfl ?_
        refine Sp.step rfl rfl rfl rfl ?_
        refine Sp.step rfl rfl rfl rfl ?_
        refine Sp.guard (fun e42 => ?_)
        refine Sp.step rfl rfl rfl (mld rfl rfl (by decide) e42) ?_
        refine Sp.guard (fun e43 => ?_)
        refine Sp.step rfl rfl rfl (mld rfl rfl (by decide) e43) ?_
        refine Sp.call rfl rfl rfl (mrecv (by decide) (by decide +kernel)) s_M_putTwo (fun x44 => ⟨_, _, ⟨rfl, rfl⟩, ?_⟩)
        refine Sp.id (pc := 161) (l := [some (.ref 60), some (.int x), none, some (.int x33.1), some (.int ((24 * x) + (4 * x33.1)))]) (st := []) (h := hS X x44) ?_
        refine Sp.step rfl rfl rfl rfl ?_
        refine Sp.step rfl rfl rfl rfl ?_
        refine Sp.step rfl rfl rfl (mg_F (f := 14) rfl rfl rfl rfl) ?_
        refine Sp.step rfl rfl rfl rfl ?_
        refine Sp.step rfl rfl rfl rfl ?_
        refine Sp.step rfl rfl rfl rfl ?_
        refine Sp.guard (fun e45 => ?_)
        refine Sp.step rfl rfl rfl (mld rfl rfl (by decide) e45) ?_
        refine Sp.if1 rfl rfl rfl rfl (fun e46 => ?_) (fun e46 => ?_)
        · refine Sp.step rfl rfl rfl rfl ?_
          refine Sp.step rfl rfl rfl (mg_F (f := 21) rfl rfl rfl rfl) ?_
          refine Sp.step rfl rfl rfl rfl ?_
          refine Sp.step rfl rfl rfl (mg_F (f := 14) rfl rfl rfl rfl) ?_
          refine Sp.step rfl rfl rfl rfl ?_
          refine Sp.step rfl rfl rfl rfl ?_
          refine Sp.step rfl rfl rfl rfl ?_
          refine Sp.step rfl rfl rfl (mld rfl rfl (by decide) e45) ?_
          refine Sp.guard (fun e47 => ?_)
          refine Sp.step rfl rfl rfl (mld rfl rfl (by decide) e47) ?_
          refine Sp.call rfl rfl rfl (mrecv (by decide) (by decide +kernel)) s_M_put (fun x48 => ⟨_, _, ⟨rfl, rfl⟩, ?_⟩)
          refine Sp.id (pc := 207) (l := [some (.ref 60), some (.int x), none, some (.int x33.1), some (.int ((24 * x) + (4 * x33.1)))]) (st := []) (h := hS X x48) ?_
          refine Sp.step rfl rfl rfl rfl ?_
          refine Sp.step rfl rfl rfl rfl ?_
          exact Sp.jmp (l0 := [some (.ref 60), some (.int x), none, some (.int (x33.1 + 1)), none]) ⟨rfl, rfl, rfl, trivial⟩ (fun _ _ h => h)
        · refine Sp.step rfl rfl rfl rfl ?_
          refine Sp.step rfl rfl rfl rfl ?_
          refine Sp.step rfl rfl rfl (mg_F (f := 14) rfl rfl rfl rfl) ?_
          refine Sp.step rfl rfl rfl rfl ?_
          refine Sp.step rfl rfl rfl rfl ?_
          refine Sp.step rfl rfl rfl rfl ?_
          refine Sp.step rfl rfl rfl (mld rfl rfl (by decide) e45) ?_
          refine Sp.step rfl rfl rfl rfl ?_
          refine Sp.step rfl rfl rfl rfl ?_
          refine Sp.call rfl rfl rfl (mrecv (by decide) (by decide +kernel)) s_M_put (fun x49 => ⟨_, _, ⟨rfl, rfl⟩, ?_⟩)
          refine Sp.id (pc := 207) (l := [some (.ref 60), some (.int x), none, some (.int x33.1), some (.int ((24 * x) + (4 * x33.1)))]) (st := []) (h := hS X x49) ?_
          refine Sp.step rfl rfl rfl rfl ?_
          refine Sp.step rfl rfl rfl rfl ?_
          exact Sp.jmp (l0 := [some (.ref 60), some (.int x), none, some (.int (x33.1 + 1)), none]) ⟨rfl, rfl, rfl, trivial⟩ (fun _ _ h => h)
    · exact Sp.vret rfl rfl rfl (fun _ _ h => h)
  · refine Sp.step rfl rfl rfl rfl ?_
    refine Sp.step rfl rfl rfl rfl ?_
    refine Sp.step rfl rfl rfl rfl ?_
    refine Sp.call rfl rfl rfl (mrecv (by decide) (by decide +kernel)) s_M_put (fun x51 => ⟨_, _, ⟨rfl, rfl⟩, ?_⟩)
    refine Sp.id (pc := 47) (l := [some (.ref 60), some (.int x), some (.int y), none, none]) (st := []) (h := hS X x51) ?_
    refine Sp.step rfl rfl rfl rfl ?_
    refine Sp.step rfl rfl rfl rfl ?_
    refine Sp.step rfl rfl rfl (mg_F (f := 9) rfl rfl rfl rfl) ?_
    refine Sp.step rfl rfl rfl rfl ?_
    refine Sp.guard (fun e52 => ?_)
    refine Sp.step rfl rfl rfl (mld rfl rfl (by decide) e52) ?_
    refine Sp.call rfl rfl rfl (mrecv (by decide) (by decide +kernel)) s_M_put (fun x53 => ⟨_, _, ⟨rfl, rfl⟩, ?_⟩)
    refine Sp.id (pc := 57) (l := [some (.ref 60), some (.int x), some (.int y), none, none]) (st := []) (h := hS X x53) ?_
    refine Sp.step rfl rfl rfl rfl ?_
    refine Sp.step rfl rfl rfl rfl ?_
    refine Sp.step rfl rfl rfl (mg_F (f := 34) rfl rfl rfl rfl) ?_
    refine Sp.step rfl rfl rfl rfl ?_
    refine Sp.guard (fun e54 => ?_)
    refine Sp.step rfl rfl rfl (mld rfl rfl (by decide) e54) ?_
    refine Sp.call rfl rfl rfl (mrecv (by decide) (by decide +kernel)) s_M_put (fun x55 => ⟨_, _, ⟨rfl, rfl⟩, ?_⟩)
    refine Sp.id (pc := 67) (l := [some (.ref 60), some (.int x), some (.int y), none, none]) (st := []) (h := hS X x55) ?_
    refine Sp.step rfl rfl rfl rfl ?_
    refine Sp.step rfl rfl rfl rfl ?_
    refine Sp.step rfl rfl rfl (mg_F (f := 8) rfl rfl rfl rfl) ?_
    refine Sp.step rfl rfl rfl rfl ?_
    refine Sp.guard (fun e56 => ?_)
    refine Sp.step rfl rfl rfl (mld rfl rfl (by decide) e56) ?_
    refine Sp.call rfl rfl rfl (mrecv (by decide) (by decide +kernel)) s_M_put (fun x57 => ⟨_, _, ⟨rfl, rfl⟩, ?_⟩)
    refine Sp.id (pc := 77) (l := [some (.ref 60), some (.int x), some (.int y), none, none]) (st := []) (h := hS X x57) ?_
    refine Sp.step rfl rfl rfl rfl ?_
    refine Sp.step rfl rfl rfl rfl ?_
    refine Sp.step rfl rfl rfl (mg_F (f := 13) rfl rfl rfl rfl) ?_
    refine Sp.step rfl rfl rfl rfl ?_
    refine Sp.guard (fun e58 => ?_)
    refine Sp.step rfl rfl rfl (mld rfl rfl (by decide) e58) ?_
    refine Sp.call rfl rfl rfl (mrecv (by decide) (by decide +kernel)) s_M_put (fun x59 => ⟨_, _, ⟨rfl, rfl⟩, ?_⟩)
    refine Sp.id (pc := 87) (l := [some (.ref 60), some (.int x), some (.int y), none, none]) (st := []) (h := hS X x59) ?_
    refine Sp.step rfl rfl rfl rfl ?_
    refine Sp.step rfl rfl rfl rfl ?_
    refine Sp.weak (l0 := [some (.ref 60), some (.int x), none, some (.int 0), none]) ⟨rfl, rfl, rfl, trivial⟩ ?_
    refine Sp.loopX (pe := 213) (mf := (fun (x77 : (Int32 × MS)) => [some (.ref 60), some (.int x), none, some (.int x77.1), none])) (hf := (fun (x77 : (Int32 × MS)) => hS X x77.2)) (fun x77 => ?_) (fun x94 => ?_) _ _
    · unfold b89_M_writeHead
      refine Sp.step rfl rfl rfl rfl ?_
      refine Sp.step rfl rfl rfl rfl ?_
      refine Sp.step rfl rfl rfl (mg_F (f := 13) rfl rfl rfl rfl) ?_
      refine Sp.step rfl rfl rfl rfl ?_
      refine Sp.guard (fun e78 => ?_)
      refine Sp.step rfl rfl rfl (mld rfl rfl (by decide) e78) ?_
      refine Sp.if2 rfl rfl rfl rfl (fun e79 => ?_) (fun e79 => ?_)
      · exact Sp.jmp (l0 := [some (.ref 60), some (.int x), none, some (.int x77.1), none]) ⟨rfl, rfl, rfl, trivial⟩ (fun _ _ h => h)
      · refine Sp.step rfl rfl rfl rfl ?_
        refine Sp.step rfl rfl rfl rfl ?_
        refine Sp.step rfl rfl rfl rfl ?_
        refine Sp.step rfl rfl rfl rfl ?_
        refine Sp.step rfl rfl rfl rfl ?_
        refine Sp.step rfl rfl rfl rfl ?_
        refine Sp.step rfl rfl rfl rfl ?_
        refine Sp.step rfl rfl rfl rfl ?_
        refine Sp.step rfl rfl rfl rfl ?_
        refine Sp.step rfl rfl rfl rfl ?_
        refine Sp.step rfl rfl rfl (mg_F (f := 40) rfl rfl rfl rfl) ?_
        refine Sp.step rfl rfl rfl rfl ?_
        refine Sp.step rfl rfl rfl (mg_F (f := 14) rfl rfl rfl rfl) ?_
        refine Sp.step rfl rfl rfl rfl ?_
        refine Sp.guard (fun e80 => ?_)
        refine Sp.step rfl rfl rfl (mld rfl rfl (by decide) e80) ?_
        refine Sp.guard (fun e81 => ?_)
        refine Sp.step rfl rfl rfl (mld rfl rfl (by decide) e81) ?_
        refine Sp.call rfl rfl rfl (mrecv (by decide) (by decide +kernel)) s_M_putTwo (fun x82 => ⟨_, _, ⟨rfl, rfl⟩, ?_⟩)
        refine Sp.id (pc := 125) (l := [some (.ref 60), some (.int x), none, some (.int x77.1), some (.int ((24 * x) + (4 * x77.1)))]) (st := []) (h := hS X x82) ?_
        refine Sp.step rfl rfl rfl rfl ?_
        refine Sp.step rfl rfl rfl rfl ?_
        refine Sp.step rfl rfl rfl (mg_F (f := 40) rfl rfl rfl rfl) ?_
        refine Sp.step rfl rfl rfl rfl ?_
        refine Sp.step rfl rfl rfl (mg_F (f := 14) rfl rfl rfl rfl) ?_
        refine Sp.step rfl rfl rfl rfl ?_
        refine Sp.step rfl rfl rfl rfl ?_
        refine Sp.step rfl rfl rfl rfl ?_
        refine Sp.guard (fun e83 => ?_)
        refine Sp.step rfl rfl rfl (mld rfl rfl (by decide) e83) ?_
        refine Sp.guard (fun e84 => ?_)
        refine Sp.step rfl rfl rfl (mld rfl rfl (by decide) e84) ?_
        refine Sp.call rfl rfl rfl (mrecv (by decide) (by decide +kernel)) s_M_putTwo (fun x85 => ⟨_, _, ⟨rfl, rfl⟩, ?_⟩)
        refine Sp.id (pc := 143) (l := [some (.ref 60), some (.int x), none, some (.int x77.1), some (.int ((24 * x) + (4 * x77.1)))]) (st := []) (h := hS X x85) ?_
        refine Sp.step rfl rfl rfl rfl ?_
        refine Sp.step rfl rfl rfl rfl ?_
        refine Sp.step rfl rfl rfl (mg_F (f := 40) rfl rfl rfl rfl) ?_
        refine Sp.step rfl rfl rfl rfl ?_
        refine Sp.step rfl rfl rfl (mg_F (f := 14) rfl rfl rfl rfl) ?_
        refine Sp.step rfl rfl rfl rfl ?_
        refine Sp.step rfl rfl rfl rfl ?_
        refine Sp.step rfl rfl rfl rfl ?_
        refine Sp.guard (fun e86 => ?_)
        refine Sp.step rfl rfl rfl (mld rfl rfl (by decide) e86) ?_
        refine Sp.guard (fun e87 => ?_)
        refine Sp.step rfl rfl rfl (mld rfl rfl (by decide) e87) ?_
        refine Sp.call rfl rfl rfl (mrecv (by decide) (by decide +kernel)) s_M_putTwo (fun x88 => ⟨_, _, ⟨rfl, rfl⟩, ?_⟩)
        refine Sp.id (pc := 161) (l := [some (.ref 60), some (.int x), none, some (.int x77.1), some (.int ((24 * x) + (4 * x77.1)))]) (st := []) (h := hS X x88) ?_
        refine Sp.step rfl rfl rfl rfl ?_
        refine Sp.step rfl rfl rfl rfl ?_
        refine Sp.step rfl rfl rfl (mg_F (f := 14) rfl rfl rfl rfl) ?_
        refine Sp.step rfl rfl rfl rfl ?_
        refine Sp.step rfl rfl rfl rfl ?_
        refine Sp.step rfl rfl rfl rfl ?_
        refine Sp.guard (fun e89 => ?_)
        refine Sp.step rfl rfl rfl (mld rfl rfl (by decide) e89) ?_
        refine Sp.if1 rfl rfl rfl rfl (fun e90 => ?_) (fun e90 => ?_)
        · refine Sp.step rfl rfl rfl rfl ?_
          refine Sp.step rfl rfl rfl (mg_F (f := 21) rfl rfl rfl rfl) ?_
          refine Sp.step rfl rfl rfl rfl ?_
          refine Sp.step rfl rfl rfl (mg_F (f := 14) rfl rfl rfl rfl) ?_
          refine Sp.step rfl rfl rfl rfl ?_
          refine Sp.step rfl rfl rfl rfl ?_
          refine Sp.step rfl rfl rfl rfl ?_
          refine Sp.step rfl rfl rfl (mld rfl rfl (by decide) e89) ?_
          refine Sp.guard (fun e91 => ?_)
          refine Sp.step rfl rfl rfl (mld rfl rfl (by decide) e91) ?_
          refine Sp.call rfl rfl rfl (mrecv (by decide) (by decide +kernel)) s_M_put (fun x92 => ⟨_, _, ⟨rfl, rfl⟩, ?_⟩)
          refine Sp.id (pc := 207) (l := [some (.ref 60), some (.int x), none, some (.int x77.1), some (.int ((24 * x) + (4 * x77.1)))]) (st := []) (h := hS X x92) ?_
          refine Sp.step rfl rfl rfl rfl ?_
          refine Sp.step rfl rfl rfl rfl ?_
          exact Sp.jmp (l0 := [some (.ref 60), some (.int x), none, some (.int (x77.1 + 1)), none]) ⟨rfl, rfl, rfl, trivial⟩ (fun _ _ h => h)
        · refine Sp.step rfl rfl rfl rfl ?_
          refine Sp.step rfl rfl rfl rfl ?_
          refine Sp.step rfl rfl rfl (mg_F (f := 14) rfl rfl rfl rfl) ?_
          refine Sp.step rfl rfl rfl rfl ?_
          refine Sp.step rfl rfl rfl rfl ?_
          refine Sp.step rfl rfl rfl rfl ?_
          refine Sp.step rfl rfl rfl (mld rfl rfl (by decide) e89) ?_
          refine Sp.step rfl rfl rfl rfl ?_
          refine Sp.step rfl rfl rfl rfl ?_
          refine Sp.call rfl rfl rfl (mrecv (by decide) (by decide +kernel)) s_M_put (fun x93 => ⟨_, _, ⟨rfl, rfl⟩, ?_⟩)
          refine Sp.id (pc := 207) (l := [some (.ref 60), some (.int x), none, some (.int x77.1), some (.int ((24 * x) + (4 * x77.1)))]) (st := []) (h := hS X x93) ?_
          refine Sp.step rfl rfl rfl rfl ?_
          refine Sp.step rfl rfl rfl rfl ?_
          exact Sp.jmp (l0 := [some (.ref 60), some (.int x), none, some (.int (x77.1 + 1)), none]) ⟨rfl, rfl, rfl, trivial⟩ (fun _ _ h => h)
    · exact Sp.vret rfl rfl rfl (fun _ _ h => h)
def f_M_writeCode (x : Int32) (y : Int32) (M : MS) : Option MS := (if ixo ((60 * x) + y) 1440 then (if ¬ M.1 88 ((60 * x) + y).toNatClampNeg = 0 then (((if ¬ M.1 71 ((60 * x) + y).toNatClampNeg = 1 then some (M.1 71 ((60 * x) + y).toNatClampNeg) else (if (-128) ≤ M.1 72 ((60 * x) + y).toNatClampNeg ∧ M.1 72 ((60 * x) + y).toNatClampNeg ≤ 127 then some (M.1 71 ((60 * x) + y).toNatClampNeg) else some 61)) : Option (Int32)).bind fun x7 => ((f_M_put x7 M).bind fun x8 => (if M.1 71 ((60 * x) + y).toNatClampNeg = 1 then (if (-128) ≤ M.1 72 ((60 * x) + y).toNatClampNeg ∧ M.1 72 ((60 * x) + y).toNatClampNeg ≤ 127 then ((f_M_put (M.1 72 ((60 * x) + y).toNatClampNeg) x8).bind fun x12 => some x12) else ((f_M_putTwo (M.1 72 ((60 * x) + y).toNatClampNeg) x8).bind fun x14 => some x14)) else (if (M.1 71 ((60 * x) + y).toNatClampNeg = 2 ∨ M.1 71 ((60 * x) + y).toNatClampNeg = 3 ∨ M.1 71 ((60 * x) + y).toNatClampNeg = 39 ∨ M.1 71 ((60 * x) + y).toNatClampNeg = 52 ∨ M.1 71 ((60 * x) + y).toNatClampNeg = 53 ∨ M.1 71 ((60 * x) + y).toNatClampNeg = 54 ∨ M.1 71 ((60 * x) + y).toNatClampNeg = 55) then ((f_M_put (M.1 72 ((60 * x) + y).toNatClampNeg) x8).bind fun x16 => some x16) else (if (M.1 71 ((60 * x) + y).toNatClampNeg = 19 ∨ M.1 71 ((60 * x) + y).toNatClampNeg = 20 ∨ M.1 71 ((60 * x) + y).toNatClampNeg = 21 ∨ M.1 71 ((60 * x) + y).toNatClampNeg = 22 ∨ M.1 71 ((60 * x) + y).toNatClampNeg = 23 ∨ M.1 71 ((60 * x) + y).toNatClampNeg = 24 ∨ M.1 71 ((60 * x) + y).toNatClampNeg = 25) then (if ixo (M.1 72 ((60 * x) + y).toNatClampNeg) 61 then ((f_M_putTwo (x8.1 93 (M.1 72 ((60 * x) + y).toNatClampNeg).toNatClampNeg) x8).bind fun x19 => some x19) else none) else (if (M.1 71 ((60 * x) + y).toNatClampNeg = 26 ∨ M.1 71 ((60 * x) + y).toNatClampNeg = 44) then (if ixo (M.1 72 ((60 * x) + y).toNatClampNeg) 10 then ((f_M_put (x8.1 80 (M.1 72 ((60 * x) + y).toNatClampNeg).toNatClampNeg) x8).bind fun x22 => some x22) else none) else (if (M.1 71 ((60 * x) + y).toNatClampNeg = 27 ∨ M.1 71 ((60 * x) + y).toNatClampNeg = 28) then (if ixo ((M.1 72 ((60 * x) + y).toNatClampNeg) / 8) 10 then ((f_M_put (x8.1 80 ((M.1 72 ((60 * x) + y).toNatClampNeg) / 8).toNatClampNeg) x8).bind fun x25 => ((f_M_allOf_62 ((M.1 72 ((60 * x) + y).toNatClampNeg) / 8) x25).bind fun x26 => (if ixo ((M.1 72 ((60 * x) + y).toNatClampNeg) / 8) 10 then ((f_M_put ((x26 - (x25.1 62 ((M.1 72 ((60 * x) + y).toNatClampNeg) / 8).toNatClampNeg)) + ((M.1 72 ((60 * x) + y).toNatClampNeg) - (M.1 72 ((60 * x) + y).toNatClampNeg) / 8 * 8)) x25).bind fun x28 => some x28) else none))) else none) else (if (M.1 71 ((60 * x) + y).toNatClampNeg = 29 ∨ M.1 71 ((60 * x) + y).toNatClampNeg = 30) then (if ixo ((M.1 72 ((60 * x) + y).toNatClampNeg) / 8) 10 then ((f_M_put (x8.1 80 ((M.1 72 ((60 * x) + y).toNatClampNeg) / 8).toNatClampNeg) x8).bind fun x31 => ((f_M_allOf_63 ((M.1 72 ((60 * x) + y).toNatClampNeg) / 8) x31).bind fun x32 => (if ixo ((M.1 72 ((60 * x) + y).toNatClampNeg) / 8) 10 then ((f_M_put ((x32 - (x31.1 63 ((M.1 72 ((60 * x) + y).toNatClampNeg) / 8).toNatClampNeg)) + ((M.1 72 ((60 * x) + y).toNatClampNeg) - (M.1 72 ((60 * x) + y).toNatClampNeg) / 8 * 8)) x31).bind fun x34 => some x34) else none))) else none) else (if M.1 71 ((60 * x) + y).toNatClampNeg = 38 then (if ixo (M.1 72 ((60 * x) + y).toNatClampNeg) 24 then ((f_M_put (x8.1 79 (M.1 72 ((60 * x) + y).toNatClampNeg).toNatClampNeg) x8).bind fun x37 => some x37) else none) else some x8))))))))) else ((f_M_put 0 M).bind fun x38 => some x38)) else none)
set_option maxRecDepth 100000 in
set_option maxHeartbeats 4000000 in
theorem s_M_writeCode {L : Nat} {xs : Nat → Int32} {X : XS} {M : MS} {x : Int32} {y : Int32} : Sp (mjOO L xs) 51 0 [some (.ref 60), some (.int x), some (.int y), none, none] [] (hS X M) (f_M_writeCode x y M) (KVM X) := by
  unfold f_M_writeCode
  refine Sp.step rfl rfl rfl rfl ?_
  refine Sp.step rfl rfl rfl (mg_F (f := 11) rfl rfl rfl rfl) ?_
  refine Sp.step rfl rfl rfl rfl ?_
  refine Sp.step rfl rfl rfl rfl ?_
  refine Sp.step rfl rfl rfl rfl ?_
  refine Sp.step rfl rfl rfl rfl ?_
  refine Sp.step rfl rfl rfl rfl ?_
  refine Sp.guard (fun e1 => ?_)
  refine Sp.step rfl rfl rfl (mld rfl rfl (by decide) e1) ?_
  refine Sp.step rfl rfl rfl rfl ?_
  refine Sp.step rfl rfl rfl rfl ?_
  refine Sp.step rfl rfl rfl (mg_F (f := 12) rfl rfl rfl rfl) ?_
  refine Sp.step rfl rfl rfl rfl ?_
  refine Sp.step rfl rfl rfl rfl ?_
  refine Sp.step rfl rfl rfl rfl ?_
  refine Sp.step rfl rfl rfl rfl ?_
  refine Sp.step rfl rfl rfl rfl ?_
  refine Sp.step rfl rfl rfl (mld rfl rfl (by decide) e1) ?_
  refine Sp.step rfl rfl rfl rfl ?_
  refine Sp.step rfl rfl rfl rfl ?_
  refine Sp.step rfl rfl rfl (mg_F (f := 33) rfl rfl rfl rfl) ?_
  refine Sp.step rfl rfl rfl rfl ?_
  refine Sp.step rfl rfl rfl rfl ?_
  refine Sp.step rfl rfl rfl rfl ?_
  refine Sp.step rfl rfl rfl rfl ?_
  refine Sp.step rfl rfl rfl rfl ?_
  refine Sp.step rfl rfl rfl (mld rfl rfl (by decide) e1) ?_
  refine Sp.if1 rfl rfl rfl rfl (fun e2 => ?_) (fun e2 => ?_)
  · refine Sp.step rfl rfl rfl rfl ?_
    refine Sp.step rfl rfl rfl rfl ?_
    refine Sp.step rfl rfl rfl rfl ?_
    refine Sp.piece (pe := 69) (mf := (fun (x7 : Int32) => [some (.ref 60), none, none, some (.int (M.1 71 ((60 * x) + y).toNatClampNeg)), some (.int (M.1 72 ((60 * x) + y).toNatClampNeg))])) (sf := (fun (x7 : Int32) => [.int x7, .ref 60])) (hf := (fun (x7 : Int32) => hS X M)) ?_ (fun x7 => ?_)
    · refine Sp.if2 rfl rfl rfl rfl (fun e3 => ?_) (fun e3 => ?_)
      · refine Sp.step rfl rfl rfl rfl ?_
        exact Sp.jmp (l0 := [some (.ref 60), none, none, some (.int (M.1 71 ((60 * x) + y).toNatClampNeg)), some (.int (M.1 72 ((60 * x) + y).toNatClampNeg))]) ⟨rfl, rfl, rfl, trivial⟩ (fun _ _ h => h)
      · refine Sp.step rfl rfl rfl rfl ?_
        refine Sp.step rfl rfl rfl rfl ?_
        refine Sp.step rfl rfl rfl rfl ?_
        refine Sp.callP rfl rfl rfl rfl s_isIn (fun e4 => ?_) (fun e4 => ?_)
        · refine Sp.id (pc := 60) (l := [some (.ref 60), some (.int x), some (.int y), some (.int (M.1 71 ((60 * x) + y).toNatClampNeg)), some (.int (M.1 72 ((60 * x) + y).toNatClampNeg))]) (st := [.int 1, .ref 60]) (h := hS X M) ?_
          refine Sp.step rfl rfl rfl rfl ?_
          refine Sp.step rfl rfl rfl rfl ?_
          exact Sp.jmp (l0 := [some (.ref 60), none, none, some (.int (M.1 71 ((60 * x) + y).toNatClampNeg)), some (.int (M.1 72 ((60 * x) + y).toNatClampNeg))]) ⟨rfl, rfl, rfl, trivial⟩ (fun _ _ h => h)
        · refine Sp.id (pc := 60) (l := [some (.ref 60), some (.int x), some (.int y), some (.int (M.1 71 ((60 * x) + y).toNatClampNeg)), some (.int (M.1 72 ((60 * x) + y).toNatClampNeg))]) (st := [.int 0, .ref 60]) (h := hS X M) ?_
          refine Sp.step rfl rfl rfl rfl ?_
          refine Sp.step rfl rfl rfl rfl ?_
          refine Sp.step rfl rfl rfl rfl ?_
          exact Sp.jmp (l0 := [some (.ref 60), none, none, some (.int (M.1 71 ((60 * x) + y).toNatClampNeg)), some (.int (M.1 72 ((60 * x) + y).toNatClampNeg))]) ⟨rfl, rfl, rfl, trivial⟩ (fun _ _ h => h)
    · refine Sp.call rfl rfl rfl (mrecv (by decide) (by decide +kernel)) s_M_put (fun x8 => ⟨_, _, ⟨rfl, rfl⟩, ?_⟩)
      refine Sp.id (pc := 72) (l := [some (.ref 60), none, none, some (.int (M.1 71 ((60 * x) + y).toNatClampNeg)), some (.int (M.1 72 ((60 * x) + y).toNatClampNeg))]) (st := []) (h := hS X x8) ?_
      refine Sp.step rfl rfl rfl rfl ?_
      refine Sp.ite (fun e9 => ?_) (fun e9 => ?_)
      · refine Sp.step rfl rfl rfl (go_sw (t := 308) (sw_of e9 rfl)) ?_
        refine Sp.step rfl rfl rfl rfl ?_
        refine Sp.step rfl rfl rfl rfl ?_
        refine Sp.step rfl rfl rfl rfl ?_
        refine Sp.callP rfl rfl rfl rfl s_isIn (fun e10 => ?_) (fun e10 => ?_)
        · refine Sp.id (pc := 317) (l := [some (.ref 60), none, none, some (.int (M.1 71 ((60 * x) + y).toNatClampNeg)), some (.int (M.1 72 ((60 * x) + y).toNatClampNeg))]) (st := [.int 1]) (h := hS X x8) ?_
          refine Sp.step rfl rfl rfl rfl ?_
          refine Sp.step rfl rfl rfl rfl ?_
          refine Sp.step rfl rfl rfl rfl ?_
          refine Sp.call rfl rfl rfl (mrecv (by decide) (by decide +kernel)) s_M_put (fun x12 => ⟨_, _, ⟨rfl, rfl⟩, ?_⟩)
          refine Sp.id (pc := 326) (l := [some (.ref 60), none, none, some (.int (M.1 71 ((60 * x) + y).toNatClampNeg)), some (.int (M.1 72 ((60 * x) + y).toNatClampNeg))]) (st := []) (h := hS X x12) ?_
          refine Sp.step rfl rfl rfl rfl ?_
          exact Sp.vret rfl rfl rfl (fun _ _ h => h)
        · refine Sp.id (pc := 317) (l := [some (.ref 60), none, none, some (.int (M.1 71 ((60 * x) + y).toNatClampNeg)), some (.int (M.1 72 ((60 * x) + y).toNatClampNeg))]) (st := [.int 0]) (h := hS X x8) ?_
          refine Sp.step rfl rfl rfl rfl ?_
          refine Sp.step rfl rfl rfl rfl ?_
          refine Sp.step rfl rfl rfl rfl ?_
          refine Sp.call rfl rfl rfl (mrecv (by decide) (by decide +kernel)) s_M_putTwo (fun x14 => ⟨_, _, ⟨rfl, rfl⟩, ?_⟩)
          refine Sp.id (pc := 335) (l := [some (.ref 60), none, none, some (.int (M.1 71 ((60 * x) + y).toNatClampNeg)), some (.int (M.1 72 ((60 * x) + y).toNatClampNeg))]) (st := []) (h := hS X x14) ?_
          refine Sp.step rfl rfl rfl rfl ?_
          exact Sp.vret rfl rfl rfl (fun _ _ h => h)
      · refine Sp.ite (fun e15 => ?_) (fun e15 => ?_)
        · refine Sp.step rfl rfl rfl (go_sw (t := 338) (by rcases e15 with e | e | e | e | e | e | e <;> exact sw_of e rfl)) ?_
          refine Sp.step rfl rfl rfl rfl ?_
          refine Sp.step rfl rfl rfl rfl ?_
          refine Sp.call rfl rfl rfl (mrecv (by decide) (by decide +kernel)) s_M_put (fun x16 => ⟨_, _, ⟨rfl, rfl⟩, ?_⟩)
          refine Sp.id (pc := 344) (l := [some (.ref 60), none, none, some (.int (M.1 71 ((60 * x) + y).toNatClampNeg)), some (.int (M.1 72 ((60 * x) + y).toNatClampNeg))]) (st := []) (h := hS X x16) ?_
          refine Sp.step rfl rfl rfl rfl ?_
          exact Sp.vret rfl rfl rfl (fun _ _ h => h)
        · refine Sp.ite (fun e17 => ?_) (fun e17 => ?_)
          · refine Sp.step rfl rfl rfl (go_sw (t := 375) (by rcases e17 with e | e | e | e | e | e | e <;> exact sw_of e rfl)) ?_
            refine Sp.step rfl rfl rfl rfl ?_
            refine Sp.step rfl rfl rfl rfl ?_
            refine Sp.step rfl rfl rfl (mg_F (f := 40) rfl rfl rfl rfl) ?_
            refine Sp.step rfl rfl rfl rfl ?_
            refine Sp.guard (fun e18 => ?_)
            refine Sp.step rfl rfl rfl (mld rfl rfl (by decide) e18) ?_
            refine Sp.call rfl rfl rfl (mrecv (by decide) (by decide +kernel)) s_M_putTwo (fun x19 => ⟨_, _, ⟨rfl, rfl⟩, ?_⟩)
            refine Sp.id (pc := 386) (l := [some (.ref 60), none, none, some (.int (M.1 71 ((60 * x) + y).toNatClampNeg)), some (.int (M.1 72 ((60 * x) + y).toNatClampNeg))]) (st := []) (h := hS X x19) ?_
            refine Sp.step rfl rfl rfl rfl ?_
            exact Sp.vret rfl rfl rfl (fun _ _ h => h)
          · refine Sp.ite (fun e20 => ?_) (fun e20 => ?_)
            · refine Sp.step rfl rfl rfl (go_sw (t := 347) (by rcases e20 with e | e <;> exact sw_of e rfl)) ?_
              refine Sp.step rfl rfl rfl rfl ?_
              refine Sp.step rfl rfl rfl rfl ?_
              refine Sp.step rfl rfl rfl (mg_F (f := 21) rfl rfl rfl rfl) ?_
              refine Sp.step rfl rfl rfl rfl ?_
              refine Sp.guard (fun e21 => ?_)
              refine Sp.step rfl rfl rfl (mld rfl rfl (by decide) e21) ?_
              refine Sp.call rfl rfl rfl (mrecv (by decide) (by decide +kernel)) s_M_put (fun x22 => ⟨_, _, ⟨rfl, rfl⟩, ?_⟩)
              refine Sp.id (pc := 358) (l := [some (.ref 60), none, none, some (.int (M.1 71 ((60 * x) + y).toNatClampNeg)), some (.int (M.1 72 ((60 * x) + y).toNatClampNeg))]) (st := []) (h := hS X x22) ?_
              refine Sp.step rfl rfl rfl rfl ?_
              exact Sp.vret rfl rfl rfl (fun _ _ h => h)
            · refine Sp.ite (fun e23 => ?_) (fun e23 => ?_)
              · refine Sp.step rfl rfl rfl (go_sw (t := 389) (by rcases e23 with e | e <;> exact sw_of e rfl)) ?_
                refine Sp.step rfl rfl rfl rfl ?_
                refine Sp.step rfl rfl rfl rfl ?_
                refine Sp.step rfl rfl rfl (mg_F (f := 21) rfl rfl rfl rfl) ?_
                refine Sp.step rfl rfl rfl rfl ?_
                refine Sp.step rfl rfl rfl rfl ?_
                refine Sp.step rfl rfl rfl (go_div (by decide)) ?_
                refine Sp.guard (fun e24 => ?_)
                refine Sp.step rfl rfl rfl (mld rfl rfl (by decide) e24) ?_
                refine Sp.call rfl rfl rfl (mrecv (by decide) (by decide +kernel)) s_M_put (fun x25 => ⟨_, _, ⟨rfl, rfl⟩, ?_⟩)
                refine Sp.id (pc := 403) (l := [some (.ref 60), none, none, some (.int (M.1 71 ((60 * x) + y).toNatClampNeg)), some (.int (M.1 72 ((60 * x) + y).toNatClampNeg))]) (st := []) (h := hS X x25) ?_
                refine Sp.step rfl rfl rfl rfl ?_
                refine Sp.step rfl rfl rfl rfl ?_
                refine Sp.step rfl rfl rfl rfl ?_
                refine Sp.step rfl rfl rfl (mg_F (f := 1) rfl rfl rfl rfl) ?_
                refine Sp.step rfl rfl rfl rfl ?_
                refine Sp.step rfl rfl rfl rfl ?_
                refine Sp.step rfl rfl rfl (go_div (by decide)) ?_
                refine Sp.call rfl rfl rfl (mrecv (by decide) (by decide +kernel)) s_M_allOf_62 (fun x26 => ⟨_, _, ⟨rfl, rfl⟩, ?_⟩)
                refine Sp.id (pc := 417) (l := [some (.ref 60), none, none, some (.int (M.1 71 ((60 * x) + y).toNatClampNeg)), some (.int (M.1 72 ((60 * x) + y).toNatClampNeg))]) (st := [.int x26, .ref 60]) (h := hS X x25) ?_
                refine Sp.step rfl rfl rfl rfl ?_
                refine Sp.step rfl rfl rfl (mg_F (f := 1) rfl rfl rfl rfl) ?_
                refine Sp.step rfl rfl rfl rfl ?_
                refine Sp.step rfl rfl rfl rfl ?_
                refine Sp.step rfl rfl rfl (go_div (by decide)) ?_
                refine Sp.guard (fun e27 => ?_)
                refine Sp.step rfl rfl rfl (mld rfl rfl (by decide) e27) ?_
                refine Sp.step rfl rfl rfl rfl ?_
                refine Sp.step rfl rfl rfl rfl ?_
                refine Sp.step rfl rfl rfl rfl ?_
                refine Sp.step rfl rfl rfl (go_div (by decide)) ?_
                refine Sp.step rfl rfl rfl rfl ?_
                refine Sp.call rfl rfl rfl (mrecv (by decide) (by decide +kernel)) s_M_put (fun x28 => ⟨_, _, ⟨rfl, rfl⟩, ?_⟩)
                refine Sp.id (pc := 437) (l := [some (.ref 60), none, none, some (.int (M.1 71 ((60 * x) + y).toNatClampNeg)), some (.int (M.1 72 ((60 * x) + y).toNatClampNeg))]) (st := []) (h := hS X x28) ?_
                refine Sp.step rfl rfl rfl rfl ?_
                exact Sp.vret rfl rfl rfl (fun _ _ h => h)
              · refine Sp.ite (fun e29 => ?_) (fun e29 => ?_)
                · refine Sp.step rfl rfl rfl (go_sw (t := 440) (by rcases e29 with e | e <;> exact sw_of e rfl)) ?_
                  refine Sp.step rfl rfl rfl rfl ?_
                  refine Sp.step rfl rfl rfl rfl ?_
                  refine Sp.step rfl rfl rfl (mg_F (f := 21) rfl rfl rfl rfl) ?_
                  refine Sp.step rfl rfl rfl rfl ?_
                  refine Sp.step rfl rfl rfl rfl ?_
                  refine Sp.step rfl rfl rfl (go_div (by decide)) ?_
                  refine Sp.guard (fun e30 => ?_)
                  refine Sp.step rfl rfl rfl (mld rfl rfl (by decide) e30) ?_
                  refine Sp.call rfl rfl rfl (mrecv (by decide) (by decide +kernel)) s_M_put (fun x31 => ⟨_, _, ⟨rfl, rfl⟩, ?_⟩)
                  refine Sp.id (pc := 454) (l := [some (.ref 60), none, none, some (.int (M.1 71 ((60 * x) + y).toNatClampNeg)), some (.int (M.1 72 ((60 * x) + y).toNatClampNeg))]) (st := []) (h := hS X x31) ?_
                  refine Sp.step rfl rfl rfl rfl ?_
                  refine Sp.step rfl rfl rfl rfl ?_
                  refine Sp.step rfl rfl rfl rfl ?_
                  refine Sp.step rfl rfl rfl (mg_F (f := 2) rfl rfl rfl rfl) ?_
                  refine Sp.step rfl rfl rfl rfl ?_
                  refine Sp.step rfl rfl rfl rfl ?_
                  refine Sp.step rfl rfl rfl (go_div (by decide)) ?_
                  refine Sp.call rfl rfl rfl (mrecv (by decide) (by decide +kernel)) s_M_allOf_63 (fun x32 => ⟨_, _, ⟨rfl, rfl⟩, ?_⟩)
                  refine Sp.id (pc := 468) (l := [some (.ref 60), none, none, some (.int (M.1 71 ((60 * x) + y).toNatClampNeg)), some (.int (M.1 72 ((60 * x) + y).toNatClampNeg))]) (st := [.int x32, .ref 60]) (h := hS X x31) ?_
                  refine Sp.step rfl rfl rfl rfl ?_
                  refine Sp.step rfl rfl rfl (mg_F (f := 2) rfl rfl rfl rfl) ?_
                  refine Sp.step rfl rfl rfl rfl ?_
                  refine Sp.step rfl rfl rfl rfl ?_
                  refine Sp.step rfl rfl rfl (go_div (by decide)) ?_
                  refine Sp.guard (fun e33 => ?_)
                  refine Sp.step rfl rfl rfl (mld rfl rfl (by decide) e33) ?_
                  refine Sp.step rfl rfl rfl rfl ?_
                  refine Sp.step rfl rfl rfl rfl ?_
                  refine Sp.step rfl rfl rfl rfl ?_
                  refine Sp.step rfl rfl rfl (go_div (by decide)) ?_
                  refine Sp.step rfl rfl rfl rfl ?_
                  refine Sp.call rfl rfl rfl (mrecv (by decide) (by decide +kernel)) s_M_put (fun x34 => ⟨_, _, ⟨rfl, rfl⟩, ?_⟩)
                  refine Sp.id (pc := 488) (l := [some (.ref 60), none, none, some (.int (M.1 71 ((60 * x) + y).toNatClampNeg)), some (.int (M.1 72 ((60 * x) + y).toNatClampNeg))]) (st := []) (h := hS X x34) ?_
                  refine Sp.step rfl rfl rfl rfl ?_
                  exact Sp.vret rfl rfl rfl (fun _ _ h => h)
                · refine Sp.ite (fun e35 => ?_) (fun e35 => ?_)
                  · refine Sp.step rfl rfl rfl (go_sw (t := 361) (sw_of e35 rfl)) ?_
                    refine Sp.step rfl rfl rfl rfl ?_
                    refine Sp.step rfl rfl rfl rfl ?_
                    refine Sp.step rfl rfl rfl (mg_F (f := 20) rfl rfl rfl rfl) ?_
                    refine Sp.step rfl rfl rfl rfl ?_
                    refine Sp.guard (fun e36 => ?_)
                    refine Sp.step rfl rfl rfl (mld rfl rfl (by decide) e36) ?_
                    refine Sp.call rfl rfl rfl (mrecv (by decide) (by decide +kernel)) s_M_put (fun x37 => ⟨_, _, ⟨rfl, rfl⟩, ?_⟩)
                    refine Sp.id (pc := 372) (l := [some (.ref 60), none, none, some (.int (M.1 71 ((60 * x) + y).toNatClampNeg)), some (.int (M.1 72 ((60 * x) + y).toNatClampNeg))]) (st := []) (h := hS X x37) ?_
                    refine Sp.step rfl rfl rfl rfl ?_
                    exact Sp.vret rfl rfl rfl (fun _ _ h => h)
                  · refine Sp.step rfl rfl rfl (go_sw (t := 491) (mjSw_dflt _ (by
                      intro q hq
                      simp only [List.mem_cons, List.not_mem_nil, or_false] at hq
                      rcases hq with rfl | rfl | rfl | rfl | rfl | rfl | rfl | rfl | rfl | rfl | rfl | rfl | rfl | rfl | rfl | rfl | rfl | rfl | rfl | rfl | rfl | rfl | rfl | rfl | rfl | rfl | rfl | rfl | rfl | rfl | rfl | rfl | rfl | rfl | rfl | rfl | rfl | rfl | rfl | rfl | rfl | rfl | rfl | rfl | rfl | rfl | rfl | rfl | rfl | rfl | rfl | rfl | rfl | rfl | rfl
                      · exact fun h => absurd h (fun h => e9 h)
                      · exact fun h => absurd h (fun h => e15 (Or.inl h))
                      · exact fun h => absurd h (fun h => e15 (Or.inr (Or.inl h)))
                      · exact fun h => rfl
                      · exact fun h => rfl
                      · exact fun h => rfl
                      · exact fun h => rfl
                      · exact fun h => rfl
                      · exact fun h => rfl
                      · exact fun h => rfl
                      · exact fun h => rfl
                      · exact fun h => rfl
                      · exact fun h => rfl
                      · exact fun h => rfl
                      · exact fun h => rfl
                      · exact fun h => rfl
                      · exact fun h => rfl
                      · exact fun h => rfl
                      · exact fun h => absurd h (fun h => e17 (Or.inl h))
                      · exact fun h => absurd h (fun h => e17 (Or.inr (Or.inl h)))
                      · exact fun h => absurd h (fun h => e17 (Or.inr (Or.inr (Or.inl h))))
                      · exact fun h => absurd h (fun h => e17 (Or.inr (Or.inr (Or.inr (Or.inl h)))))
                      · exact fun h => absurd h (fun h => e17 (Or.inr (Or.inr (Or.inr (Or.inr (Or.inl h))))))
                      · exact fun h => absurd h (fun h => e17 (Or.inr (Or.inr (Or.inr (Or.inr (Or.inr (Or.inl h)))))))
                      · exact fun h => absurd h (fun h => e17 (Or.inr (Or.inr (Or.inr (Or.inr (Or.inr (Or.inr h)))))))
                      · exact fun h => absurd h (fun h => e20 (Or.inl h))
                      · exact fun h => absurd h (fun h => e23 (Or.inl h))
                      · exact fun h => absurd h (fun h => e23 (Or.inr h))
                      · exact fun h => absurd h (fun h => e29 (Or.inl h))
                      · exact fun h => absurd h (fun h => e29 (Or.inr h))
                      · exact fun h => rfl
                      · exact fun h => rfl
                      · exact fun h => rfl
                      · exact fun h => rfl
                      · exact fun h => rfl
                      · exact fun h => rfl
                      · exact fun h => rfl
                      · exact fun h => absurd h (fun h => e35 h)
                      · exact fun h => absurd h (fun h => e15 (Or.inr (Or.inr (Or.inl h))))
                      · exact fun h => rfl
                      · exact fun h => rfl
                      · exact fun h => rfl
                      · exact fun h => rfl
                      · exact fun h => absurd h (fun h => e20 (Or.inr h))
                      · exact fun h => rfl
                      · exact fun h => rfl
                      · exact fun h => rfl
                      · exact fun h => rfl
                      · exact fun h => rfl
                      · exact fun h => rfl
                      · exact fun h => rfl
                      · exact fun h => absurd h (fun h => e15 (Or.inr (Or.inr (Or.inr (Or.inl h)))))
                      · exact fun h => absurd h (fun h => e15 (Or.inr (Or.inr (Or.inr (Or.inr (Or.inl h))))))
                      · exact fun h => absurd h (fun h => e15 (Or.inr (Or.inr (Or.inr (Or.inr (Or.inr (Or.inl h)))))))
                      · exact fun h => absurd h (fun h => e15 (Or.inr (Or.inr (Or.inr (Or.inr (Or.inr (Or.inr h)))))))))) ?_
                    exact Sp.vret rfl rfl rfl (fun _ _ h => h)
  · refine Sp.step rfl rfl rfl rfl ?_
    refine Sp.step rfl rfl rfl rfl ?_
    refine Sp.call rfl rfl rfl (mrecv (by decide) (by decide +kernel)) s_M_put (fun x38 => ⟨_, _, ⟨rfl, rfl⟩, ?_⟩)
    refine Sp.id (pc := 44) (l := [some (.ref 60), some (.int x), some (.int y), some (.int (M.1 71 ((60 * x) + y).toNatClampNeg)), some (.int (M.1 72 ((60 * x) + y).toNatClampNeg))]) (st := []) (h := hS X x38) ?_
    exact Sp.vret rfl rfl rfl (fun _ _ h => h)
def b130_M_write (x41 : (Int32 × MS)) (x62 : (Int32 × MS)) : Option ((Int32 × MS) ⊕ (Int32 × MS)) := (if 8 ≤ x62.1 then some (.inr (x62.1, x62.2)) else ((f_M_find x41.1 x62.1 x62.2).bind fun x64 => (if x64 < 0 then ((f_M_put 255 x62.2).bind fun x66 => some (.inl (x62.1 + 1, x66))) else (if ixo x64 24 then (if ¬ x62.2.1 75 x64.toNatClampNeg = 0 then ((f_M_put (x62.2.1 79 x64.toNatClampNeg) x62.2).bind fun x69 => some (.inl (x62.1 + 1, x69))) else ((f_M_put 255 x62.2).bind fun x70 => some (.inl (x62.1 + 1, x70)))) else none))))
def b55_M_write (x41 : (Int32 × MS)) : Option ((Int32 × MS) ⊕ (Int32 × MS)) := (if x41.2.1 60 3 ≤ x41.1 then some (.inr (x41.1, x41.2)) else (if ixo x41.1 10 then (if x41.2.1 77 x41.1.toNatClampNeg = 0 then some (.inl (x41.1 + 1, x41.2)) else (((if 0 ≤ x41.2.1 61 x41.1.toNatClampNeg then (if ixo (x41.2.1 61 x41.1.toNatClampNeg) 10 then some (x41.2.1 80 (x41.2.1 61 x41.1.toNatClampNeg).toNatClampNeg) else none) else some 255) : Option (Int32)).bind fun x47 => ((f_M_put x47 x41.2).bind fun x48 => ((f_M_allOf_62 x41.1 x48).bind fun x49 => ((f_M_put x49 x48).bind fun x50 => ((f_M_allOf_63 x41.1 x50).bind fun x51 => ((f_M_put x51 x50).bind fun x52 => ((lp (b130_M_write x41) 10000 ((0 : Int32), x52)).bind fun x71 => some (.inl (x41.1 + 1, x71.2)))))))))) else none))
def b195_M_write (x72 : (Int32 × MS)) (x73 : (Int32 × Int32)) : Option ((Int32 × Int32) ⊕ (Int32 × Int32)) := (if x72.2.1 60 15 ≤ x73.2 then some (.inr (x73.1, x73.2)) else (if ixo x73.2 24 then (if x72.2.1 75 x73.2.toNatClampNeg = 0 then some (.inl (x73.1 + 0, x73.2 + 1)) else some (.inl (x73.1 + (9 + (7 * (x72.2.1 73 x73.2.toNatClampNeg))), x73.2 + 1))) else none))
def b239_M_write (x86 : (Int32 × Int32 × MS)) : Option ((Int32 × Int32 × MS) ⊕ (Int32 × Int32 × MS)) := (if x86.2.2.1 60 15 ≤ x86.2.1 then some (.inr (x86.1, x86.2.1, x86.2.2)) else (if ixo x86.2.1 24 then (if x86.2.2.1 75 x86.2.1.toNatClampNeg = 0 then some (.inl (x86.1, x86.2.1 + 1, x86.2.2)) else ((f_M_measure x86.2.1 x86.2.2).bind fun x90 => ((f_M_writeHead x86.2.1 x86.1 x90).bind fun x91 => (if ixo x86.2.1 24 then (if ixo (x91.1 70 x86.2.1.toNatClampNeg) 61 then some (.inl (x86.1 + (x91.1 93 (x91.1 70 x86.2.1.toNatClampNeg).toNatClampNeg), x86.2.1 + 1, x91)) else none) else none)))) else none))
def b314_M_write (x109 : (Int32 × MS)) (x118 : (Int32 × MS)) : Option ((Int32 × MS) ⊕ (Int32 × MS)) := (if ixo x109.1 24 then (if x118.2.1 70 x109.1.toNatClampNeg ≤ x118.1 then some (.inr (x118.1, x118.2)) else ((f_M_writeCode x109.1 x118.1 x118.2).bind fun x121 => some (.inl (x118.1 + 1, x121)))) else none)
def b289_M_write (x109 : (Int32 × MS)) : Option ((Int32 × MS) ⊕ (Int32 × MS)) := (if x109.2.1 60 15 ≤ x109.1 then some (.inr (x109.1, x109.2)) else (if ixo x109.1 24 then (if x109.2.1 75 x109.1.toNatClampNeg = 0 then some (.inl (x109.1 + 1, x109.2)) else ((f_M_measure x109.1 x109.2).bind fun x113 => ((lp (b314_M_write x109) 10000 ((0 : Int32), x113)).bind fun x122 => some (.inl (x109.1 + 1, x122.2))))) else none))
def b381_M_write (M125 : MS) (x126 : (Int32 × Int32)) : Option ((Int32 × Int32) ⊕ (Int32 × Int32)) := (if M125.1 60 39 ≤ x126.2 then some (.inr (x126.1, x126.2)) else (if x126.2 = 7 then some (.inl (x126.1 + 0, x126.2 + 1)) else (if ¬ x126.2 = 8 then (if ixo x126.2 8000 then some (.inl (x126.1 + (M125.1 92 x126.2.toNatClampNeg), x126.2 + 1)) else none) else some (.inl (x126.1 + 0, x126.2 + 1)))))
def f_M_write (x : Int32) (M : MS) : Option MS := (lt (mw M 60 39 0) fun M1 => ((f_M_put 80 M1).bind fun x2 => ((f_M_put 77 x2).bind fun x3 => ((f_M_put (x3.1 60 23) x3).bind fun x4 => ((f_M_put (x4.1 60 22) x4).bind fun x5 => (if ixo x 24 then ((f_M_put (x5.1 79 x.toNatClampNeg) x5).bind fun x7 => ((f_M_putTwo 0 x7).bind fun x8 => ((f_M_putTwo 0 x8).bind fun x9 => ((lp (b55_M_write) 10000 ((0 : Int32), x9)).bind fun x72 => ((lp (b195_M_write x72) 10000 (x72.2.1 60 39, (0 : Int32))).bind fun x77 => ((lp (b239_M_write) 10000 (x77.1, (0 : Int32), x72.2)).bind fun x94 => ((lp (b289_M_write) 10000 ((0 : Int32), x94.2.2)).bind fun x123 => (lt (mw x123.2 92 5 (((x123.2.1 60 39 : Int32) >>> ((8 : Int32) &&& 31)) &&& 255)) fun M124 => (lt (mw M124 92 6 ((M124.1 60 39) &&& 255)) fun M125 => ((lp (b381_M_write M125) 10000 ((0 : Int32), (0 : Int32))).bind fun x131 => (lt (mw M125 92 7 (((x131.1 : Int32) >>> ((8 : Int32) &&& 31)) &&& 255)) fun M132 => (lt (mw M132 92 8 (x131.1 &&& 255)) fun M133 => some M133)))))))))))) else none))))))
set_option maxRecDepth 100000 in
set_option maxHeartbeats 4000000 in
theorem s_M_write {L : Nat} {xs : Nat → Int32} {X : XS} {M : MS} {x : Int32} : Sp (mjOO L xs) 49 0 [some (.ref 60), some (.int x), none, none, none] [] (hS X M) (f_M_write x M) (KVM X) := by
  unfold f_M_write
  refine Sp.step rfl rfl rfl rfl ?_
  refine Sp.step rfl rfl rfl rfl ?_
  refine Sp.step rfl rfl rfl (mp_I (f := 39) rfl rfl rfl rfl) ?_
  refine Sp.step rfl rfl rfl rfl ?_
  refine Sp.step rfl rfl rfl rfl ?_
  refine Sp.call rfl rfl rfl (mrecv (by decide) (by decide +kernel)) s_M_put (fun x2 => ⟨_, _, ⟨rfl, rfl⟩, ?_⟩)
  refine Sp.id (pc := 11) (l := [some (.ref 60), some (.int x), none, none, none]) (st := []) (h := hS X x2) ?_
  refine Sp.step rfl rfl rfl rfl ?_
  refine Sp.step rfl rfl rfl rfl ?_
  refine Sp.call rfl rfl rfl (mrecv (by decide) (by decide +kernel)) s_M_put (fun x3 => ⟨_, _, ⟨rfl, rfl⟩, ?_⟩)
  refine Sp.id (pc := 17) (l := [some (.ref 60), some (.int x), none, none, none]) (st := []) (h := hS X x3) ?_
  refine Sp.step rfl rfl rfl rfl ?_
  refine Sp.step rfl rfl rfl rfl ?_
  refine Sp.step rfl rfl rfl (mg_I (f := 23) rfl rfl rfl) ?_
  refine Sp.call rfl rfl rfl (mrecv (by decide) (by decide +kernel)) s_M_put (fun x4 => ⟨_, _, ⟨rfl, rfl⟩, ?_⟩)
  refine Sp.id (pc := 25) (l := [some (.ref 60), some (.int x), none, none, none]) (st := []) (h := hS X x4) ?_
  refine Sp.step rfl rfl rfl rfl ?_
  refine Sp.step rfl rfl rfl rfl ?_
  refine Sp.step rfl rfl rfl (mg_I (f := 22) rfl rfl rfl) ?_
  refine Sp.call rfl rfl rfl (mrecv (by decide) (by decide +kernel)) s_M_put (fun x5 => ⟨_, _, ⟨rfl, rfl⟩, ?_⟩)
  refine Sp.id (pc := 33) (l := [some (.ref 60), some (.int x), none, none, none]) (st := []) (h := hS X x5) ?_
  refine Sp.step rfl rfl rfl rfl ?_
  refine Sp.step rfl rfl rfl rfl ?_
  refine Sp.step rfl rfl rfl (mg_F (f := 20) rfl rfl rfl rfl) ?_
  refine Sp.step rfl rfl rfl rfl ?_
  refine Sp.guard (fun e6 => ?_)
  refine Sp.step rfl rfl rfl (mld rfl rfl (by decide) e6) ?_
  refine Sp.call rfl rfl rfl (mrecv (by decide) (by decide +kernel)) s_M_put (fun x7 => ⟨_, _, ⟨rfl, rfl⟩, ?_⟩)
  refine Sp.id (pc := 43) (l := [some (.ref 60), some (.int x), none, none, none]) (st := []) (h := hS X x7) ?_
  refine Sp.step rfl rfl rfl rfl ?_
  refine Sp.step rfl rfl rfl rfl ?_
  refine Sp.call rfl rfl rfl (mrecv (by decide) (by decide +kernel)) s_M_putTwo (fun x8 => ⟨_, _, ⟨rfl, rfl⟩, ?_⟩)
  refine Sp.id (pc := 48) (l := [some (.ref 60), some (.int x), none, none, none]) (st := []) (h := hS X x8) ?_
  refine Sp.step rfl rfl rfl rfl ?_
  refine Sp.step rfl rfl rfl rfl ?_
  refine Sp.call rfl rfl rfl (mrecv (by decide) (by decide +kernel)) s_M_putTwo (fun x9 => ⟨_, _, ⟨rfl, rfl⟩, ?_⟩)
  refine Sp.id (pc := 53) (l := [some (.ref 60), some (.int x), none, none, none]) (st := []) (h := hS X x9) ?_
  refine Sp.step rfl rfl rfl rfl ?_
  refine Sp.step rfl rfl rfl rfl ?_
  refine Sp.weak (l0 := [some (.ref 60), none, some (.int 0), none, none]) ⟨rfl, rfl, trivial⟩ ?_
  refine Sp.loopX (pe := 188) (mf := (fun (x41 : (Int32 × MS)) => [some (.ref 60), none, some (.int x41.1), none, none])) (hf := (fun (x41 : (Int32 × MS)) => hS X x41.2)) (fun x41 => ?_) (fun x72 => ?_) _ _
  · unfold b55_M_write
    refine Sp.step rfl rfl rfl rfl ?_
    refine Sp.step rfl rfl rfl rfl ?_
    refine Sp.step rfl rfl rfl (mg_I (f := 3) rfl rfl rfl) ?_
    refine Sp.if2 rfl rfl rfl rfl (fun e42 => ?_) (fun e42 => ?_)
    · exact Sp.jmp (l0 := [some (.ref 60), none, some (.int x41.1), none, none]) ⟨rfl, rfl, trivial⟩ (fun _ _ h => h)
    · refine Sp.step rfl rfl rfl rfl ?_
      refine Sp.step rfl rfl rfl (mg_F (f := 18) rfl rfl rfl rfl) ?_
      refine Sp.step rfl rfl rfl rfl ?_
      refine Sp.guard (fun e43 => ?_)
      refine Sp.step rfl rfl rfl (mld rfl rfl (by decide) e43) ?_
      refine Sp.if1 rfl rfl rfl rfl (fun e44 => ?_) (fun e44 => ?_)
      · refine Sp.step rfl rfl rfl rfl ?_
        refine Sp.step rfl rfl rfl rfl ?_
        exact Sp.jmp (l0 := [some (.ref 60), none, some (.int (x41.1 + 1)), none, none]) ⟨rfl, rfl, trivial⟩ (fun _ _ h => h)
      · refine Sp.step rfl rfl rfl rfl ?_
        refine Sp.step rfl rfl rfl rfl ?_
        refine Sp.step rfl rfl rfl (mg_F (f := 0) rfl rfl rfl rfl) ?_
        refine Sp.step rfl rfl rfl rfl ?_
        refine Sp.step rfl rfl rfl (mld rfl rfl (by decide) e43) ?_
        refine Sp.piece (pe := 99) (mf := (fun (x47 : Int32) => [some (.ref 60), none, some (.int x41.1), none, none])) (sf := (fun (x47 : Int32) => [.int x47, .ref 60])) (hf := (fun (x47 : Int32) => hS X x41.2)) ?_ (fun x47 => ?_)
        · refine Sp.if1 rfl rfl rfl rfl (fun e45 => ?_) (fun e45 => ?_)
          · refine Sp.step rfl rfl rfl rfl ?_
            refine Sp.step rfl rfl rfl (mg_F (f := 21) rfl rfl rfl rfl) ?_
            refine Sp.step rfl rfl rfl rfl ?_
            refine Sp.step rfl rfl rfl (mg_F (f := 0) rfl rfl rfl rfl) ?_
            refine Sp.step rfl rfl rfl rfl ?_
            refine Sp.step rfl rfl rfl (mld rfl rfl (by decide) e43) ?_
            refine Sp.guard (fun e46 => ?_)
            refine Sp.step rfl rfl rfl (mld rfl rfl (by decide) e46) ?_
            exact Sp.jmp (l0 := [some (.ref 60), none, some (.int x41.1), none, none]) ⟨rfl, rfl, trivial⟩ (fun _ _ h => h)
          · refine Sp.step rfl rfl rfl rfl ?_
            refine Sp.step rfl rfl rfl rfl ?_
            exact Sp.jmp (l0 := [some (.ref 60), none, some (.int x41.1), none, none]) ⟨rfl, rfl, trivial⟩ (fun _ _ h => h)
        · refine Sp.call rfl rfl rfl (mrecv (by decide) (by decide +kernel)) s_M_put (fun x48 => ⟨_, _, ⟨rfl, rfl⟩, ?_⟩)
          refine Sp.id (pc := 102) (l := [some (.ref 60), none, some (.int x41.1), none, none]) (st := []) (h := hS X x48) ?_
          refine Sp.step rfl rfl rfl rfl ?_
          refine Sp.step rfl rfl rfl rfl ?_
          refine Sp.step rfl rfl rfl rfl ?_
          refine Sp.step rfl rfl rfl (mg_F (f := 1) rfl rfl rfl rfl) ?_
          refine Sp.step rfl rfl rfl rfl ?_
          refine Sp.call rfl rfl rfl (mrecv (by decide) (by decide +kernel)) s_M_allOf_62 (fun x49 => ⟨_, _, ⟨rfl, rfl⟩, ?_⟩)
          refine Sp.id (pc := 112) (l := [some (.ref 60), none, some (.int x41.1), none, none]) (st := [.int x49, .ref 60]) (h := hS X x48) ?_
          refine Sp.call rfl rfl rfl (mrecv (by decide) (by decide +kernel)) s_M_put (fun x50 => ⟨_, _, ⟨rfl, rfl⟩, ?_⟩)
          refine Sp.id (pc := 115) (l := [some (.ref 60), none, some (.int x41.1), none, none]) (st := []) (h := hS X x50) ?_
          refine Sp.step rfl rfl rfl rfl ?_
          refine Sp.step rfl rfl rfl rfl ?_
          refine Sp.step rfl rfl rfl rfl ?_
          refine Sp.step rfl rfl rfl (mg_F (f := 2) rfl rfl rfl rfl) ?_
          refine Sp.step rfl rfl rfl rfl ?_
          refine Sp.call rfl rfl rfl (mrecv (by decide) (by decide +kernel)) s_M_allOf_63 (fun x51 => ⟨_, _, ⟨rfl, rfl⟩, ?_⟩)
          refine Sp.id (pc := 125) (l := [some (.ref 60), none, some (.int x41.1), none, none]) (st := [.int x51, .ref 60]) (h := hS X x50) ?_
          refine Sp.call rfl rfl rfl (mrecv (by decide) (by decide +kernel)) s_M_put (fun x52 => ⟨_, _, ⟨rfl, rfl⟩, ?_⟩)
          refine Sp.id (pc := 128) (l := [some (.ref 60), none, some (.int x41.1), none, none]) (st := []) (h := hS X x52) ?_
          refine Sp.step rfl rfl rfl rfl ?_
          refine Sp.step rfl rfl rfl rfl ?_
          refine Sp.weak (l0 := [some (.ref 60), none, some (.int x41.1), some (.int 0), none]) ⟨rfl, rfl, rfl, trivial⟩ ?_
          refine Sp.loopX (pe := 182) (mf := (fun (x62 : (Int32 × MS)) => [some (.ref 60), none, some (.int x41.1), some (.int x62.1), none])) (hf := (fun (x62 : (Int32 × MS)) => hS X x62.2)) (fun x62 => ?_) (fun x71 => ?_) _ _
          · unfold b130_M_write
            refine Sp.step rfl rfl rfl rfl ?_
            refine Sp.step rfl rfl rfl rfl ?_
            refine Sp.if2 rfl rfl rfl rfl (fun e63 => ?_) (fun e63 => ?_)
            · exact Sp.jmp (l0 := [some (.ref 60), none, some (.int x41.1), some (.int x62.1), none]) ⟨rfl, rfl, rfl, trivial⟩ (fun _ _ h => h)
            · refine Sp.step rfl rfl rfl rfl ?_
              refine Sp.step rfl rfl rfl rfl ?_
              refine Sp.step rfl rfl rfl rfl ?_
              refine Sp.call rfl rfl rfl (mrecv (by decide) (by decide +kernel)) s_M_find (fun x64 => ⟨_, _, ⟨rfl, rfl⟩, ?_⟩)
              refine Sp.id (pc := 142) (l := [some (.ref 60), none, some (.int x41.1), some (.int x62.1), none]) (st := [.int x64]) (h := hS X x62.2) ?_
              refine Sp.step rfl rfl rfl rfl ?_
              refine Sp.step rfl rfl rfl rfl ?_
              refine Sp.step rfl rfl rfl rfl ?_
              refine Sp.if1 rfl rfl rfl rfl (fun e65 => ?_) (fun e65 => ?_)
              · refine Sp.step rfl rfl rfl rfl ?_
                refine Sp.step rfl rfl rfl rfl ?_
                refine Sp.call rfl rfl rfl (mrecv (by decide) (by decide +kernel)) s_M_put (fun x66 => ⟨_, _, ⟨rfl, rfl⟩, ?_⟩)
                refine Sp.id (pc := 176) (l := [some (.ref 60), none, some (.int x41.1), some (.int x62.1), some (.int x64)]) (st := []) (h := hS X x66) ?_
                refine Sp.step rfl rfl rfl rfl ?_
                refine Sp.step rfl rfl rfl rfl ?_
                exact Sp.jmp (l0 := [some (.ref 60), none, some (.int x41.1), some (.int (x62.1 + 1)), none]) ⟨rfl, rfl, rfl, trivial⟩ (fun _ _ h => h)
              · refine Sp.step rfl rfl rfl rfl ?_
                refine Sp.step rfl rfl rfl (mg_F (f := 16) rfl rfl rfl rfl) ?_
                refine Sp.step rfl rfl rfl rfl ?_
                refine Sp.guard (fun e67 => ?_)
                refine Sp.step rfl rfl rfl (mld rfl rfl (by decide) e67) ?_
                refine Sp.if1 rfl rfl rfl rfl (fun e68 => ?_) (fun e68 => ?_)
                · refine Sp.step rfl rfl rfl rfl ?_
                  refine Sp.step rfl rfl rfl (mg_F (f := 20) rfl rfl rfl rfl) ?_
                  refine Sp.step rfl rfl rfl rfl ?_
                  refine Sp.step rfl rfl rfl (mld rfl rfl (by decide) e67) ?_
                  refine Sp.call rfl rfl rfl (mrecv (by decide) (by decide +kernel)) s_M_put (fun x69 => ⟨_, _, ⟨rfl, rfl⟩, ?_⟩)
                  refine Sp.id (pc := 176) (l := [some (.ref 60), none, some (.int x41.1), some (.int x62.1), some (.int x64)]) (st := []) (h := hS X x69) ?_
                  refine Sp.step rfl rfl rfl rfl ?_
                  refine Sp.step rfl rfl rfl rfl ?_
                  exact Sp.jmp (l0 := [some (.ref 60), none, some (.int x41.1), some (.int (x62.1 + 1)), none]) ⟨rfl, rfl, rfl, trivial⟩ (fun _ _ h => h)
                · refine Sp.step rfl rfl rfl rfl ?_
                  refine Sp.step rfl rfl rfl rfl ?_
                  refine Sp.call rfl rfl rfl (mrecv (by decide) (by decide +kernel)) s_M_put (fun x70 => ⟨_, _, ⟨rfl, rfl⟩, ?_⟩)
                  refine Sp.id (pc := 176) (l := [some (.ref 60), none, some (.int x41.1), some (.int x62.1), some (.int x64)]) (st := []) (h := hS X x70) ?_
                  refine Sp.step rfl rfl rfl rfl ?_
                  refine Sp.step rfl rfl rfl rfl ?_
                  exact Sp.jmp (l0 := [some (.ref 60), none, some (.int x41.1), some (.int (x62.1 + 1)), none]) ⟨rfl, rfl, rfl, trivial⟩ (fun _ _ h => h)
          · refine Sp.step rfl rfl rfl rfl ?_
            refine Sp.step rfl rfl rfl rfl ?_
            exact Sp.jmp (l0 := [some (.ref 60), none, some (.int (x41.1 + 1)), none, none]) ⟨rfl, rfl, trivial⟩ (fun _ _ h => h)
  · refine Sp.step rfl rfl rfl rfl ?_
    refine Sp.step rfl rfl rfl (mg_I (f := 39) rfl rfl rfl) ?_
    refine Sp.step rfl rfl rfl rfl ?_
    refine Sp.step rfl rfl rfl rfl ?_
    refine Sp.step rfl rfl rfl rfl ?_
    refine Sp.weak (l0 := [some (.ref 60), none, some (.int (x72.2.1 60 39)), some (.int 0), none]) ⟨rfl, rfl, rfl, trivial⟩ ?_
    refine Sp.loopX (pe := 237) (mf := (fun (x73 : (Int32 × Int32)) => [some (.ref 60), none, some (.int x73.1), some (.int x73.2), none])) (hf := (fun (x73 : (Int32 × Int32)) => hS X x72.2)) (fun x73 => ?_) (fun x77 => ?_) _ _
    · unfold b195_M_write
      refine Sp.step rfl rfl rfl rfl ?_
      refine Sp.step rfl rfl rfl rfl ?_
      refine Sp.step rfl rfl rfl (mg_I (f := 15) rfl rfl rfl) ?_
      refine Sp.if2 rfl rfl rfl rfl (fun e74 => ?_) (fun e74 => ?_)
      · exact Sp.jmp (l0 := [some (.ref 60), none, some (.int x73.1), some (.int x73.2), none]) ⟨rfl, rfl, rfl, trivial⟩ (fun _ _ h => h)
      · refine Sp.step rfl rfl rfl rfl ?_
        refine Sp.step rfl rfl rfl rfl ?_
        refine Sp.step rfl rfl rfl (mg_F (f := 16) rfl rfl rfl rfl) ?_
        refine Sp.step rfl rfl rfl rfl ?_
        refine Sp.guard (fun e75 => ?_)
        refine Sp.step rfl rfl rfl (mld rfl rfl (by decide) e75) ?_
        refine Sp.if1 rfl rfl rfl rfl (fun e76 => ?_) (fun e76 => ?_)
        · refine Sp.step rfl rfl rfl rfl ?_
          refine Sp.step rfl rfl rfl rfl ?_
          refine Sp.step rfl rfl rfl rfl ?_
          refine Sp.step rfl rfl rfl rfl ?_
          refine Sp.step rfl rfl rfl rfl ?_
          exact Sp.jmp (l0 := [some (.ref 60), none, some (.int (x73.1 + 0)), some (.int (x73.2 + 1)), none]) ⟨rfl, rfl, rfl, trivial⟩ (fun _ _ h => h)
        · refine Sp.step rfl rfl rfl rfl ?_
          refine Sp.step rfl rfl rfl rfl ?_
          refine Sp.step rfl rfl rfl rfl ?_
          refine Sp.step rfl rfl rfl (mg_F (f := 13) rfl rfl rfl rfl) ?_
          refine Sp.step rfl rfl rfl rfl ?_
          refine Sp.step rfl rfl rfl (mld rfl rfl (by decide) e75) ?_
          refine Sp.step rfl rfl rfl rfl ?_
          refine Sp.step rfl rfl rfl rfl ?_
          refine Sp.step rfl rfl rfl rfl ?_
          refine Sp.step rfl rfl rfl rfl ?_
          refine Sp.step rfl rfl rfl rfl ?_
          refine Sp.step rfl rfl rfl rfl ?_
          refine Sp.step rfl rfl rfl rfl ?_
          exact Sp.jmp (l0 := [some (.ref 60), none, some (.int (x73.1 + (9 + (7 * (x72.2.1 73 x73.2.toNatClampNeg))))), some (.int (x73.2 + 1)), none]) ⟨rfl, rfl, rfl, trivial⟩ (fun _ _ h => h)
    · refine Sp.step rfl rfl rfl rfl ?_
      refine Sp.step rfl rfl rfl rfl ?_
      refine Sp.weak (l0 := [some (.ref 60), none, some (.int x77.1), some (.int 0), none]) ⟨rfl, rfl, rfl, trivial⟩ ?_
      refine Sp.loopX (pe := 287) (mf := (fun (x86 : (Int32 × Int32 × MS)) => [some (.ref 60), none, some (.int x86.1), some (.int x86.2.1), none])) (hf := (fun (x86 : (Int32 × Int32 × MS)) => hS X x86.2.2)) (fun x86 => ?_) (fun x94 => ?_) _ _
      · unfold b239_M_write
        refine Sp.step rfl rfl rfl rfl ?_
        refine Sp.step rfl rfl rfl rfl ?_
        refine Sp.step rfl rfl rfl (mg_I (f := 15) rfl rfl rfl) ?_
        refine Sp.if2 rfl rfl rfl rfl (fun e87 => ?_) (fun e87 => ?_)
        · exact Sp.jmp (l0 := [some (.ref 60), none, some (.int x86.1), some (.int x86.2.1), none]) ⟨rfl, rfl, rfl, trivial⟩ (fun _ _ h => h)
        · refine Sp.step rfl rfl rfl rfl ?_
          refine Sp.step rfl rfl rfl (mg_F (f := 16) rfl rfl rfl rfl) ?_
          refine Sp.step rfl rfl rfl rfl ?_
          refine Sp.guard (fun e88 => ?_)
          refine Sp.step rfl rfl rfl (mld rfl rfl (by decide) e88) ?_
          refine Sp.if1 rfl rfl rfl rfl (fun e89 => ?_) (fun e89 => ?_)
          · refine Sp.step rfl rfl rfl rfl ?_
            refine Sp.step rfl rfl rfl rfl ?_
            exact Sp.jmp (l0 := [some (.ref 60), none, some (.int x86.1), some (.int (x86.2.1 + 1)), none]) ⟨rfl, rfl, rfl, trivial⟩ (fun _ _ h => h)
          · refine Sp.step rfl rfl rfl rfl ?_
            refine Sp.step rfl rfl rfl rfl ?_
            refine Sp.call rfl rfl rfl (mrecv (by decide) (by decide +kernel)) s_M_measure (fun x90 => ⟨_, _, ⟨rfl, rfl⟩, ?_⟩)
            refine Sp.id (pc := 261) (l := [some (.ref 60), none, some (.int x86.1), some (.int x86.2.1), none]) (st := []) (h := hS X x90) ?_
            refine Sp.step rfl rfl rfl rfl ?_
            refine Sp.step rfl rfl rfl rfl ?_
            refine Sp.step rfl rfl rfl rfl ?_
            refine Sp.call rfl rfl rfl (mrecv (by decide) (by decide +kernel)) s_M_writeHead (fun x91 => ⟨_, _, ⟨rfl, rfl⟩, ?_⟩)
            refine Sp.id (pc := 267) (l := [some (.ref 60), none, some (.int x86.1), some (.int x86.2.1), none]) (st := []) (h := hS X x91) ?_
            refine Sp.step rfl rfl rfl rfl ?_
            refine Sp.step rfl rfl rfl rfl ?_
            refine Sp.step rfl rfl rfl (mg_F (f := 40) rfl rfl rfl rfl) ?_
            refine Sp.step rfl rfl rfl rfl ?_
            refine Sp.step rfl rfl rfl (mg_F (f := 10) rfl rfl rfl rfl) ?_
            refine Sp.step rfl rfl rfl rfl ?_
            refine Sp.guard (fun e92 => ?_)
            refine Sp.step rfl rfl rfl (mld rfl rfl (by decide) e92) ?_
            refine Sp.guard (fun e93 => ?_)
            refine Sp.step rfl rfl rfl (mld rfl rfl (by decide) e93) ?_
            refine Sp.step rfl rfl rfl rfl ?_
            refine Sp.step rfl rfl rfl rfl ?_
            refine Sp.step rfl rfl rfl rfl ?_
            refine Sp.step rfl rfl rfl rfl ?_
            exact Sp.jmp (l0 := [some (.ref 60), none, some (.int (x86.1 + (x91.1 93 (x91.1 70 x86.2.1.toNatClampNeg).toNatClampNeg))), some (.int (x86.2.1 + 1)), none]) ⟨rfl, rfl, rfl, trivial⟩ (fun _ _ h => h)
      · refine Sp.step rfl rfl rfl rfl ?_
        refine Sp.step rfl rfl rfl rfl ?_
        refine Sp.weak (l0 := [some (.ref 60), none, none, some (.int 0), none]) ⟨rfl, rfl, trivial⟩ ?_
        refine Sp.loopX (pe := 344) (mf := (fun (x109 : (Int32 × MS)) => [some (.ref 60), none, none, some (.int x109.1), none])) (hf := (fun (x109 : (Int32 × MS)) => hS X x109.2)) (fun x109 => ?_) (fun x123 => ?_) _ _
        · unfold b289_M_write
          refine Sp.step rfl rfl rfl rfl ?_
          refine Sp.step rfl rfl rfl rfl ?_
          refine Sp.step rfl rfl rfl (mg_I (f := 15) rfl rfl rfl) ?_
          refine Sp.if2 rfl rfl rfl rfl (fun e110 => ?_) (fun e110 => ?_)
          · exact Sp.jmp (l0 := [some (.ref 60), none, none, some (.int x109.1), none]) ⟨rfl, rfl, trivial⟩ (fun _ _ h => h)
          · refine Sp.step rfl rfl rfl rfl ?_
            refine Sp.step rfl rfl rfl (mg_F (f := 16) rfl rfl rfl rfl) ?_
            refine Sp.step rfl rfl rfl rfl ?_
            refine Sp.guard (fun e111 => ?_)
            refine Sp.step rfl rfl rfl (mld rfl rfl (by decide) e111) ?_
            refine Sp.if1 rfl rfl rfl rfl (fun e112 => ?_) (fun e112 => ?_)
            · refine Sp.step rfl rfl rfl rfl ?_
              refine Sp.step rfl rfl rfl rfl ?_
              exact Sp.jmp (l0 := [some (.ref 60), none, none, some (.int (x109.1 + 1)), none]) ⟨rfl, rfl, trivial⟩ (fun _ _ h => h)
            · refine Sp.step rfl rfl rfl rfl ?_
              refine Sp.step rfl rfl rfl rfl ?_
              refine Sp.call rfl rfl rfl (mrecv (by decide) (by decide +kernel)) s_M_measure (fun x113 => ⟨_, _, ⟨rfl, rfl⟩, ?_⟩)
              refine Sp.id (pc := 311) (l := [some (.ref 60), none, none, some (.int x109.1), none]) (st := []) (h := hS X x113) ?_
              refine Sp.step rfl rfl rfl rfl ?_
              refine Sp.step rfl rfl rfl rfl ?_
              refine Sp.weak (l0 := [some (.ref 60), none, none, some (.int x109.1), some (.int 0)]) ⟨rfl, rfl, rfl, trivial⟩ ?_
              refine Sp.loopX (pe := 338) (mf := (fun (x118 : (Int32 × MS)) => [some (.ref 60), none, none, some (.int x109.1), some (.int x118.1)])) (hf := (fun (x118 : (Int32 × MS)) => hS X x118.2)) (fun x118 => ?_) (fun x122 => ?_) _ _
              · unfold b314_M_write
                refine Sp.step rfl rfl rfl rfl ?_
                refine Sp.step rfl rfl rfl rfl ?_
                refine Sp.step rfl rfl rfl (mg_F (f := 10) rfl rfl rfl rfl) ?_
                refine Sp.step rfl rfl rfl rfl ?_
                refine Sp.guard (fun e119 => ?_)
                refine Sp.step rfl rfl rfl (mld rfl rfl (by decide) e119) ?_
                refine Sp.if2 rfl rfl rfl rfl (fun e120 => ?_) (fun e120 => ?_)
                · exact Sp.jmp (l0 := [some (.ref 60), none, none, some (.int x109.1), some (.int x118.1)]) ⟨rfl, rfl, rfl, trivial⟩ (fun _ _ h => h)
                · refine Sp.step rfl rfl rfl rfl ?_
                  refine Sp.step rfl rfl rfl rfl ?_
                  refine Sp.step rfl rfl rfl rfl ?_
                  refine Sp.call rfl rfl rfl (mrecv (by decide) (by decide +kernel)) s_M_writeCode (fun x121 => ⟨_, _, ⟨rfl, rfl⟩, ?_⟩)
                  refine Sp.id (pc := 332) (l := [some (.ref 60), none, none, some (.int x109.1), some (.int x118.1)]) (st := []) (h := hS X x121) ?_
                  refine Sp.step rfl rfl rfl rfl ?_
                  refine Sp.step rfl rfl rfl rfl ?_
                  exact Sp.jmp (l0 := [some (.ref 60), none, none, some (.int x109.1), some (.int (x118.1 + 1))]) ⟨rfl, rfl, rfl, trivial⟩ (fun _ _ h => h)
              · refine Sp.step rfl rfl rfl rfl ?_
                refine Sp.step rfl rfl rfl rfl ?_
                exact Sp.jmp (l0 := [some (.ref 60), none, none, some (.int (x109.1 + 1)), none]) ⟨rfl, rfl, trivial⟩ (fun _ _ h => h)
        · refine Sp.step rfl rfl rfl rfl ?_
          refine Sp.step rfl rfl rfl (mg_F (f := 38) rfl rfl rfl rfl) ?_
          refine Sp.step rfl rfl rfl rfl ?_
          refine Sp.step rfl rfl rfl rfl ?_
          refine Sp.step rfl rfl rfl (mg_I (f := 39) rfl rfl rfl) ?_
          refine Sp.step rfl rfl rfl rfl ?_
          refine Sp.step rfl rfl rfl rfl ?_
          refine Sp.step rfl rfl rfl rfl ?_
          refine Sp.step rfl rfl rfl rfl ?_
          refine Sp.step rfl rfl rfl (mst rfl rfl (by decide) (by decide)) ?_
          refine Sp.step rfl rfl rfl rfl ?_
          refine Sp.step rfl rfl rfl (mg_F (f := 38) rfl rfl rfl rfl) ?_
          refine Sp.step rfl rfl rfl rfl ?_
          refine Sp.step rfl rfl rfl rfl ?_
          refine Sp.step rfl rfl rfl (mg_I (f := 39) rfl rfl rfl) ?_
          refine Sp.step rfl rfl rfl rfl ?_
          refine Sp.step rfl rfl rfl rfl ?_
          refine Sp.step rfl rfl rfl (mst rfl rfl (by decide) (by decide)) ?_
          refine Sp.step rfl rfl rfl rfl ?_
          refine Sp.step rfl rfl rfl rfl ?_
          refine Sp.step rfl rfl rfl rfl ?_
          refine Sp.step rfl rfl rfl rfl ?_
          refine Sp.weak (l0 := [some (.ref 60), none, none, some (.int 0), some (.int 0)]) ⟨rfl, rfl, rfl, trivial⟩ ?_
          refine Sp.loopX (pe := 424) (mf := (fun (x126 : (Int32 × Int32)) => [some (.ref 60), none, none, some (.int x126.1), some (.int x126.2)])) (hf := (fun (x126 : (Int32 × Int32)) => hS X (mw (mw x123.2 92 5 (((x123.2.1 60 39 : Int32) >>> ((8 : Int32) &&& 31)) &&& 255)) 92 6 (((mw x123.2 92 5 (((x123.2.1 60 39 : Int32) >>> ((8 : Int32) &&& 31)) &&& 255)).1 60 39) &&& 255)))) (fun x126 => ?_) (fun x131 => ?_) _ _
          · unfold b381_M_write
            refine Sp.step rfl rfl rfl rfl ?_
            refine Sp.step rfl rfl rfl rfl ?_
            refine Sp.step rfl rfl rfl (mg_I (f := 39) rfl rfl rfl) ?_
            refine Sp.if2 rfl rfl rfl rfl (fun e127 => ?_) (fun e127 => ?_)
            · exact Sp.jmp (l0 := [some (.ref 60), none, none, some (.int x126.1), some (.int x126.2)]) ⟨rfl, rfl, rfl, trivial⟩ (fun _ _ h => h)
            · refine Sp.step rfl rfl rfl rfl ?_
              refine Sp.step rfl rfl rfl rfl ?_
              refine Sp.step rfl rfl rfl rfl ?_
              refine Sp.if2 rfl rfl rfl rfl (fun e128 => ?_) (fun e128 => ?_)
              · refine Sp.step rfl rfl rfl rfl ?_
                refine Sp.step rfl rfl rfl rfl ?_
                refine Sp.step rfl rfl rfl rfl ?_
                refine Sp.step rfl rfl rfl rfl ?_
                refine Sp.step rfl rfl rfl rfl ?_
                refine Sp.step rfl rfl rfl rfl ?_
                exact Sp.jmp (l0 := [some (.ref 60), none, none, some (.int (x126.1 + 0)), some (.int (x126.2 + 1))]) ⟨rfl, rfl, rfl, trivial⟩ (fun _ _ h => h)
              · refine Sp.step rfl rfl rfl rfl ?_
                refine Sp.step rfl rfl rfl rfl ?_
                refine Sp.if2 rfl rfl rfl rfl (fun e129 => ?_) (fun e129 => ?_)
                · refine Sp.step rfl rfl rfl rfl ?_
                  refine Sp.step rfl rfl rfl (mg_F (f := 38) rfl rfl rfl rfl) ?_
                  refine Sp.step rfl rfl rfl rfl ?_
                  refine Sp.guard (fun e130 => ?_)
                  refine Sp.step rfl rfl rfl (mld rfl rfl (by decide) e130) ?_
                  refine Sp.step rfl rfl rfl rfl ?_
                  refine Sp.step rfl rfl rfl rfl ?_
                  refine Sp.step rfl rfl rfl rfl ?_
                  refine Sp.step rfl rfl rfl rfl ?_
                  exact Sp.jmp (l0 := [some (.ref 60), none, none, some (.int (x126.1 + ((mw (mw x123.2 92 5 (((x123.2.1 60 39 : Int32) >>> ((8 : Int32) &&& 31)) &&& 255)) 92 6 (((mw x123.2 92 5 (((x123.2.1 60 39 : Int32) >>> ((8 : Int32) &&& 31)) &&& 255)).1 60 39) &&& 255)).1 92 x126.2.toNatClampNeg))), some (.int (x126.2 + 1))]) ⟨rfl, rfl, rfl, trivial⟩ (fun _ _ h => h)
                · refine Sp.step rfl rfl rfl rfl ?_
                  refine Sp.step rfl rfl rfl rfl ?_
                  refine Sp.step rfl rfl rfl rfl ?_
                  refine Sp.step rfl rfl rfl rfl ?_
                  refine Sp.step rfl rfl rfl rfl ?_
                  refine Sp.step rfl rfl rfl rfl ?_
                  exact Sp.jmp (l0 := [some (.ref 60), none, none, some (.int (x126.1 + 0)), some (.int (x126.2 + 1))]) ⟨rfl, rfl, rfl, trivial⟩ (fun _ _ h => h)
          · refine Sp.step rfl rfl rfl rfl ?_
            refine Sp.step rfl rfl rfl (mg_F (f := 38) rfl rfl rfl rfl) ?_
            refine Sp.step rfl rfl rfl rfl ?_
            refine Sp.step rfl rfl rfl rfl ?_
            refine Sp.step rfl rfl rfl rfl ?_
            refine Sp.step rfl rfl rfl rfl ?_
            refine Sp.step rfl rfl rfl rfl ?_
            refine Sp.step rfl rfl rfl rfl ?_
            refine Sp.step rfl rfl rfl (mst rfl rfl (by decide) (by decide)) ?_
            refine Sp.step rfl rfl rfl rfl ?_
            refine Sp.step rfl rfl rfl (mg_F (f := 38) rfl rfl rfl rfl) ?_
            refine Sp.step rfl rfl rfl rfl ?_
            refine Sp.step rfl rfl rfl rfl ?_
            refine Sp.step rfl rfl rfl rfl ?_
            refine Sp.step rfl rfl rfl rfl ?_
            refine Sp.step rfl rfl rfl (mst rfl rfl (by decide) (by decide)) ?_
            exact Sp.vret rfl rfl rfl (fun _ _ h => h)
def b54_M_keep (x21 : (Int32 × MS)) (x35 : (Int32 × MS)) : Option ((Int32 × MS) ⊕ (Int32 × MS)) := (if 8 ≤ x35.1 then some (.inr (x35.1, x35.2)) else ((f_M_find x21.1 x35.1 x35.2).bind fun x37 => (if ixo ((8 * x21.1) + x35.1) 160 then (lt (mw x35.2 98 ((8 * x21.1) + x35.1).toNatClampNeg x37) fun M39 => some (.inl (x35.1 + 1, M39))) else none)))
def b2_M_keep (x21 : (Int32 × MS)) : Option ((Int32 × MS) ⊕ (Int32 × MS)) := (if x21.2.1 60 3 ≤ x21.1 then some (.inr (x21.1, x21.2)) else (if ixo x21.1 10 then (if ixo x21.1 20 then (lt (mw x21.2 95 x21.1.toNatClampNeg (x21.2.1 61 x21.1.toNatClampNeg)) fun M25 => ((f_M_allOf_62 x21.1 M25).bind fun x26 => (lt (mw M25 96 x21.1.toNatClampNeg x26) fun M27 => ((f_M_allOf_63 x21.1 M27).bind fun x28 => (lt (mw M27 97 x21.1.toNatClampNeg x28) fun M29 => ((lp (b54_M_keep x21) 10000 ((0 : Int32), M29)).bind fun x40 => some (.inl (x21.1 + 1, x40.2)))))))) else none) else none))
def b91_M_keep (x51 : (Int32 × MS)) : Option ((Int32 × MS) ⊕ (Int32 × MS)) := (if x51.2.1 60 15 ≤ x51.1 then some (.inr (x51.1, x51.2)) else (if ixo x51.1 24 then (if ixo x51.1 48 then (lt (mw x51.2 99 x51.1.toNatClampNeg (x51.2.1 66 x51.1.toNatClampNeg)) fun M55 => (lt (mw M55 100 x51.1.toNatClampNeg (M55.1 65 x51.1.toNatClampNeg)) fun M56 => (lt (mw M56 101 x51.1.toNatClampNeg (M56.1 67 x51.1.toNatClampNeg)) fun M57 => (lt (mw M57 102 x51.1.toNatClampNeg (M57.1 68 x51.1.toNatClampNeg)) fun M58 => (lt (mw M58 105 x51.1.toNatClampNeg (M58.1 73 x51.1.toNatClampNeg)) fun M59 => some (.inl (x51.1 + 1, M59))))))) else none) else none))
def b167_M_keep (x66 : (Int32 × MS)) : Option ((Int32 × MS) ⊕ (Int32 × MS)) := (if 576 ≤ x66.1 then some (.inr (x66.1, x66.2)) else (if ixo x66.1 576 then (if ixo x66.1 1152 then (lt (mw x66.2 106 x66.1.toNatClampNeg (x66.2.1 74 x66.1.toNatClampNeg)) fun M70 => some (.inl (x66.1 + 1, M70))) else none) else none))
def b194_M_keep (x99 : (Int32 × MS)) : Option ((Int32 × MS) ⊕ (Int32 × MS)) := (if 1440 ≤ x99.1 then some (.inr (x99.1, x99.2)) else (if ixo x99.1 1440 then (if ixo x99.1 2880 then (lt (mw x99.2 103 x99.1.toNatClampNeg (x99.2.1 71 x99.1.toNatClampNeg)) fun M103 => (lt (mw M103 104 x99.1.toNatClampNeg (M103.1 72 x99.1.toNatClampNeg)) fun M104 => (if 27 ≤ M104.1 71 x99.1.toNatClampNeg ∧ M104.1 71 x99.1.toNatClampNeg ≤ 30 then (if M104.1 72 x99.1.toNatClampNeg < 0 then (lt (mw M104 108 x99.1.toNatClampNeg 0) fun M109 => some (.inl (x99.1 + 1, M109))) else (if f_M_isClass ((M104.1 72 x99.1.toNatClampNeg) / 8) M104 = true then (if 29 ≤ M104.1 71 x99.1.toNatClampNeg then ((f_M_allOf_63 ((M104.1 72 x99.1.toNatClampNeg) / 8) M104).bind fun x114 => (if ixo ((M104.1 72 x99.1.toNatClampNeg) / 8) 10 then (lt (mw M104 108 x99.1.toNatClampNeg ((x114 - (M104.1 63 ((M104.1 72 x99.1.toNatClampNeg) / 8).toNatClampNeg)) + ((M104.1 72 x99.1.toNatClampNeg) - (M104.1 72 x99.1.toNatClampNeg) / 8 * 8))) fun M116 => some (.inl (x99.1 + 1, M116))) else none)) else ((f_M_allOf_62 ((M104.1 72 x99.1.toNatClampNeg) / 8) M104).bind fun x117 => (if ixo ((M104.1 72 x99.1.toNatClampNeg) / 8) 10 then (lt (mw M104 108 x99.1.toNatClampNeg ((x117 - (M104.1 62 ((M104.1 72 x99.1.toNatClampNeg) / 8).toNatClampNeg)) + ((M104.1 72 x99.1.toNatClampNeg) - (M104.1 72 x99.1.toNatClampNeg) / 8 * 8))) fun M119 => some (.inl (x99.1 + 1, M119))) else none))) else (lt (mw M104 108 x99.1.toNatClampNeg 0) fun M122 => some (.inl (x99.1 + 1, M122))))) else (lt (mw M104 108 x99.1.toNatClampNeg 0) fun M125 => some (.inl (x99.1 + 1, M125)))))) else none) else none))
def f_M_keep (x : Int32) (M : MS) : Option MS := ((lp (b2_M_keep) 10000 ((0 : Int32), M)).bind fun x41 => ((lp (b91_M_keep) 10000 ((0 : Int32), x41.2)).bind fun x60 => ((lp (b167_M_keep) 10000 ((0 : Int32), x60.2)).bind fun x71 => ((lp (b194_M_keep) 10000 ((0 : Int32), x71.2)).bind fun x126 => (lt (mw x126.2 107 0 x) fun M127 => some M127)))))
set_option maxRecDepth 100000 in
set_option maxHeartbeats 4000000 in
theorem s_M_keep {L : Nat} {xs : Nat → Int32} {X : XS} {M : MS} {x : Int32} : Sp (mjOO L xs) 56 0 [some (.ref 60), some (.int x), none, none] [] (hS X M) (f_M_keep x M) (KVM X) := by
  unfold f_M_keep
  refine Sp.step rfl rfl rfl rfl ?_
  refine Sp.step rfl rfl rfl rfl ?_
  refine Sp.weak (l0 := [some (.ref 60), some (.int x), some (.int 0), none]) ⟨rfl, rfl, rfl, trivial⟩ ?_
  refine Sp.loopX (pe := 89) (mf := (fun (x21 : (Int32 × MS)) => [some (.ref 60), some (.int x), some (.int x21.1), none])) (hf := (fun (x21 : (Int32 × MS)) => hS X x21.2)) (fun x21 => ?_) (fun x41 => ?_) _ _
  · unfold b2_M_keep
    refine Sp.step rfl rfl rfl rfl ?_
    refine Sp.step rfl rfl rfl rfl ?_
    refine Sp.step rfl rfl rfl (mg_I (f := 3) rfl rfl rfl) ?_
    refine Sp.if2 rfl rfl rfl rfl (fun e22 => ?_) (fun e22 => ?_)
    · exact Sp.jmp (l0 := [some (.ref 60), some (.int x), some (.int x21.1), none]) ⟨rfl, rfl, rfl, trivial⟩ (fun _ _ h => h)
    · refine Sp.step rfl rfl rfl rfl ?_
      refine Sp.step rfl rfl rfl (mg_F (f := 43) rfl rfl rfl rfl) ?_
      refine Sp.step rfl rfl rfl rfl ?_
      refine Sp.step rfl rfl rfl rfl ?_
      refine Sp.step rfl rfl rfl (mg_F (f := 0) rfl rfl rfl rfl) ?_
      refine Sp.step rfl rfl rfl rfl ?_
      refine Sp.guard (fun e23 => ?_)
      refine Sp.step rfl rfl rfl (mld rfl rfl (by decide) e23) ?_
      refine Sp.guard (fun e24 => ?_)
      refine Sp.step rfl rfl rfl (mst rfl rfl (by decide) e24) ?_
      refine Sp.step rfl rfl rfl rfl ?_
      refine Sp.step rfl rfl rfl (mg_F (f := 44) rfl rfl rfl rfl) ?_
      refine Sp.step rfl rfl rfl rfl ?_
      refine Sp.step rfl rfl rfl rfl ?_
      refine Sp.step rfl rfl rfl rfl ?_
      refine Sp.step rfl rfl rfl (mg_F (f := 1) rfl rfl rfl rfl) ?_
      refine Sp.step rfl rfl rfl rfl ?_
      refine Sp.call rfl rfl rfl (mrecv (by decide) (by decide +kernel)) s_M_allOf_62 (fun x26 => ⟨_, _, ⟨rfl, rfl⟩, ?_⟩)
      refine Sp.id (pc := 36) (l := [some (.ref 60), some (.int x), some (.int x21.1), none]) (st := [.int x26, .int x21.1, .ref 96]) (h := hS X (mw x21.2 95 x21.1.toNatClampNeg (x21.2.1 61 x21.1.toNatClampNeg))) ?_
      refine Sp.step rfl rfl rfl (mst rfl rfl (by decide) e24) ?_
      refine Sp.step rfl rfl rfl rfl ?_
      refine Sp.step rfl rfl rfl (mg_F (f := 45) rfl rfl rfl rfl) ?_
      refine Sp.step rfl rfl rfl rfl ?_
      refine Sp.step rfl rfl rfl rfl ?_
      refine Sp.step rfl rfl rfl rfl ?_
      refine Sp.step rfl rfl rfl (mg_F (f := 2) rfl rfl rfl rfl) ?_
      refine Sp.step rfl rfl rfl rfl ?_
      refine Sp.call rfl rfl rfl (mrecv (by decide) (by decide +kernel)) s_M_allOf_63 (fun x28 => ⟨_, _, ⟨rfl, rfl⟩, ?_⟩)
      refine Sp.id (pc := 51) (l := [some (.ref 60), some (.int x), some (.int x21.1), none]) (st := [.int x28, .int x21.1, .ref 97]) (h := hS X (mw (mw x21.2 95 x21.1.toNatClampNeg (x21.2.1 61 x21.1.toNatClampNeg)) 96 x21.1.toNatClampNeg x26)) ?_
      refine Sp.step rfl rfl rfl (mst rfl rfl (by decide) e24) ?_
      refine Sp.step rfl rfl rfl rfl ?_
      refine Sp.step rfl rfl rfl rfl ?_
      refine Sp.weak (l0 := [some (.ref 60), some (.int x), some (.int x21.1), some (.int 0)]) ⟨rfl, rfl, rfl, rfl, trivial⟩ ?_
      refine Sp.loopX (pe := 83) (mf := (fun (x35 : (Int32 × MS)) => [some (.ref 60), some (.int x), some (.int x21.1), some (.int x35.1)])) (hf := (fun (x35 : (Int32 × MS)) => hS X x35.2)) (fun x35 => ?_) (fun x40 => ?_) _ _
      · unfold b54_M_keep
        refine Sp.step rfl rfl rfl rfl ?_
        refine Sp.step rfl rfl rfl rfl ?_
        refine Sp.if2 rfl rfl rfl rfl (fun e36 => ?_) (fun e36 => ?_)
        · exact Sp.jmp (l0 := [some (.ref 60), some (.int x), some (.int x21.1), some (.int x35.1)]) ⟨rfl, rfl, rfl, rfl, trivial⟩ (fun _ _ h => h)
        · refine Sp.step rfl rfl rfl rfl ?_
          refine Sp.step rfl rfl rfl (mg_F (f := 46) rfl rfl rfl rfl) ?_
          refine Sp.step rfl rfl rfl rfl ?_
          refine Sp.step rfl rfl rfl rfl ?_
          refine Sp.step rfl rfl rfl rfl ?_
          refine Sp.step rfl rfl rfl rfl ?_
          refine Sp.step rfl rfl rfl rfl ?_
          refine Sp.step rfl rfl rfl rfl ?_
          refine Sp.step rfl rfl rfl rfl ?_
          refine Sp.step rfl rfl rfl rfl ?_
          refine Sp.call rfl rfl rfl (mrecv (by decide) (by decide +kernel)) s_M_find (fun x37 => ⟨_, _, ⟨rfl, rfl⟩, ?_⟩)
          refine Sp.id (pc := 76) (l := [some (.ref 60), some (.int x), some (.int x21.1), some (.int x35.1)]) (st := [.int x37, .int ((8 * x21.1) + x35.1), .ref 98]) (h := hS X x35.2) ?_
          refine Sp.guard (fun e38 => ?_)
          refine Sp.step rfl rfl rfl (mst rfl rfl (by decide) e38) ?_
          refine Sp.step rfl rfl rfl rfl ?_
          refine Sp.step rfl rfl rfl rfl ?_
          exact Sp.jmp (l0 := [some (.ref 60), some (.int x), some (.int x21.1), some (.int (x35.1 + 1))]) ⟨rfl, rfl, rfl, rfl, trivial⟩ (fun _ _ h => h)
      · refine Sp.step rfl rfl rfl rfl ?_
        refine Sp.step rfl rfl rfl rfl ?_
        exact Sp.jmp (l0 := [some (.ref 60), some (.int x), some (.int (x21.1 + 1)), none]) ⟨rfl, rfl, rfl, trivial⟩ (fun _ _ h => h)
  · refine Sp.step rfl rfl rfl rfl ?_
    refine Sp.step rfl rfl rfl rfl ?_
    refine Sp.weak (l0 := [some (.ref 60), some (.int x), some (.int 0), none]) ⟨rfl, rfl, rfl, trivial⟩ ?_
    refine Sp.loopX (pe := 165) (mf := (fun (x51 : (Int32 × MS)) => [some (.ref 60), some (.int x), some (.int x51.1), none])) (hf := (fun (x51 : (Int32 × MS)) => hS X x51.2)) (fun x51 => ?_) (fun x60 => ?_) _ _
    · unfold b91_M_keep
      refine Sp.step rfl rfl rfl rfl ?_
      refine Sp.step rfl rfl rfl rfl ?_
      refine Sp.step rfl rfl rfl (mg_I (f := 15) rfl rfl rfl) ?_
      refine Sp.if2 rfl rfl rfl rfl (fun e52 => ?_) (fun e52 => ?_)
      · exact Sp.jmp (l0 := [some (.ref 60), some (.int x), some (.int x51.1), none]) ⟨rfl, rfl, rfl, trivial⟩ (fun _ _ h => h)
      · refine Sp.step rfl rfl rfl rfl ?_
        refine Sp.step rfl rfl rfl (mg_F (f := 47) rfl rfl rfl rfl) ?_
        refine Sp.step rfl rfl rfl rfl ?_
        refine Sp.step rfl rfl rfl rfl ?_
        refine Sp.step rfl rfl rfl (mg_F (f := 6) rfl rfl rfl rfl) ?_
        refine Sp.step rfl rfl rfl rfl ?_
        refine Sp.guard (fun e53 => ?_)
        refine Sp.step rfl rfl rfl (mld rfl rfl (by decide) e53) ?_
        refine Sp.guard (fun e54 => ?_)
        refine Sp.step rfl rfl rfl (mst rfl rfl (by decide) e54) ?_
        refine Sp.step rfl rfl rfl rfl ?_
        refine Sp.step rfl rfl rfl (mg_F (f := 48) rfl rfl rfl rfl) ?_
        refine Sp.step rfl rfl rfl rfl ?_
        refine Sp.step rfl rfl rfl rfl ?_
        refine Sp.step rfl rfl rfl (mg_F (f := 5) rfl rfl rfl rfl) ?_
        refine Sp.step rfl rfl rfl rfl ?_
        refine Sp.step rfl rfl rfl (mld rfl rfl (by decide) e53) ?_
        refine Sp.step rfl rfl rfl (mst rfl rfl (by decide) e54) ?_
        refine Sp.step rfl rfl rfl rfl ?_
        refine Sp.step rfl rfl rfl (mg_F (f := 49) rfl rfl rfl rfl) ?_
        refine Sp.step rfl rfl rfl rfl ?_
        refine Sp.step rfl rfl rfl rfl ?_
        refine Sp.step rfl rfl rfl (mg_F (f := 7) rfl rfl rfl rfl) ?_
        refine Sp.step rfl rfl rfl rfl ?_
        refine Sp.step rfl rfl rfl (mld rfl rfl (by decide) e53) ?_
        refine Sp.step rfl rfl rfl (mst rfl rfl (by decide) e54) ?_
        refine Sp.step rfl rfl rfl rfl ?_
        refine Sp.step rfl rfl rfl (mg_F (f := 50) rfl rfl rfl rfl) ?_
        refine Sp.step rfl rfl rfl rfl ?_
        refine Sp.step rfl rfl rfl rfl ?_
        refine Sp.step rfl rfl rfl (mg_F (f := 8) rfl rfl rfl rfl) ?_
        refine Sp.step rfl rfl rfl rfl ?_
        refine Sp.step rfl rfl rfl (mld rfl rfl (by decide) e53) ?_
        refine Sp.step rfl rfl rfl (mst rfl rfl (by decide) e54) ?_
        refine Sp.step rfl rfl rfl rfl ?_
        refine Sp.step rfl rfl rfl (mg_F (f := 53) rfl rfl rfl rfl) ?_
        refine Sp.step rfl rfl rfl rfl ?_
        refine Sp.step rfl rfl rfl rfl ?_
        refine Sp.step rfl rfl rfl (mg_F (f := 13) rfl rfl rfl rfl) ?_
        refine Sp.step rfl rfl rfl rfl ?_
        refine Sp.step rfl rfl rfl (mld rfl rfl (by decide) e53) ?_
        refine Sp.step rfl rfl rfl (mst rfl rfl (by decide) e54) ?_
        refine Sp.step rfl rfl rfl rfl ?_
        refine Sp.step rfl rfl rfl rfl ?_
        exact Sp.jmp (l0 := [some (.ref 60), some (.int x), some (.int (x51.1 + 1)), none]) ⟨rfl, rfl, rfl, trivial⟩ (fun _ _ h => h)
    · refine Sp.step rfl rfl rfl rfl ?_
      refine Sp.step rfl rfl rfl rfl ?_
      refine Sp.weak (l0 := [some (.ref 60), some (.int x), some (.int 0), none]) ⟨rfl, rfl, rfl, trivial⟩ ?_
      refine Sp.loopX (pe := 192) (mf := (fun (x66 : (Int32 × MS)) => [some (.ref 60), some (.int x), some (.int x66.1), none])) (hf := (fun (x66 : (Int32 × MS)) => hS X x66.2)) (fun x66 => ?_) (fun x71 => ?_) _ _
      · unfold b167_M_keep
        refine Sp.step rfl rfl rfl rfl ?_
        refine Sp.step rfl rfl rfl rfl ?_
        refine Sp.if2 rfl rfl rfl rfl (fun e67 => ?_) (fun e67 => ?_)
        · exact Sp.jmp (l0 := [some (.ref 60), some (.int x), some (.int x66.1), none]) ⟨rfl, rfl, rfl, trivial⟩ (fun _ _ h => h)
        · refine Sp.step rfl rfl rfl rfl ?_
          refine Sp.step rfl rfl rfl (mg_F (f := 54) rfl rfl rfl rfl) ?_
          refine Sp.step rfl rfl rfl rfl ?_
          refine Sp.step rfl rfl rfl rfl ?_
          refine Sp.step rfl rfl rfl (mg_F (f := 14) rfl rfl rfl rfl) ?_
          refine Sp.step rfl rfl rfl rfl ?_
          refine Sp.guard (fun e68 => ?_)
          refine Sp.step rfl rfl rfl (mld rfl rfl (by decide) e68) ?_
          refine Sp.guard (fun e69 => ?_)
          refine Sp.step rfl rfl rfl (mst rfl rfl (by decide) e69) ?_
          refine Sp.step rfl rfl rfl rfl ?_
          refine Sp.step rfl rfl rfl rfl ?_
          exact Sp.jmp (l0 := [some (.ref 60), some (.int x), some (.int (x66.1 + 1)), none]) ⟨rfl, rfl, rfl, trivial⟩ (fun _ _ h => h)
      · refine Sp.step rfl rfl rfl rfl ?_
        refine Sp.step rfl rfl rfl rfl ?_
        refine Sp.weak (l0 := [some (.ref 60), some (.int x), some (.int 0), none]) ⟨rfl, rfl, rfl, trivial⟩ ?_
        refine Sp.loopX (pe := 390) (mf := (fun (x99 : (Int32 × MS)) => [some (.ref 60), some (.int x), some (.int x99.1), none])) (hf := (fun (x99 : (Int32 × MS)) => hS X x99.2)) (fun x99 => ?_) (fun x126 => ?_) _ _
        · unfold b194_M_keep
          refine Sp.step rfl rfl rfl rfl ?_
          refine Sp.step rfl rfl rfl rfl ?_
          refine Sp.if2 rfl rfl rfl rfl (fun e100 => ?_) (fun e100 => ?_)
          · exact Sp.jmp (l0 := [some (.ref 60), some (.int x), some (.int x99.1), none]) ⟨rfl, rfl, rfl, trivial⟩ (fun _ _ h => h)
          · refine Sp.step rfl rfl rfl rfl ?_
            refine Sp.step rfl rfl rfl (mg_F (f := 51) rfl rfl rfl rfl) ?_
            refine Sp.step rfl rfl rfl rfl ?_
            refine Sp.step rfl rfl rfl rfl ?_
            refine Sp.step rfl rfl rfl (mg_F (f := 11) rfl rfl rfl rfl) ?_
            refine Sp.step rfl rfl rfl rfl ?_
            refine Sp.guard (fun e101 => ?_)
            refine Sp.step rfl rfl rfl (mld rfl rfl (by decide) e101) ?_
            refine Sp.guard (fun e102 => ?_)
            refine Sp.step rfl rfl rfl (mst rfl rfl (by decide) e102) ?_
            refine Sp.step rfl rfl rfl rfl ?_
            refine Sp.step rfl rfl rfl (mg_F (f := 52) rfl rfl rfl rfl) ?_
            refine Sp.step rfl rfl rfl rfl ?_
            refine Sp.step rfl rfl rfl rfl ?_
            refine Sp.step rfl rfl rfl (mg_F (f := 12) rfl rfl rfl rfl) ?_
            refine Sp.step rfl rfl rfl rfl ?_
            refine Sp.step rfl rfl rfl (mld rfl rfl (by decide) e101) ?_
            refine Sp.step rfl rfl rfl (mst rfl rfl (by decide) e102) ?_
            refine Sp.step rfl rfl rfl rfl ?_
            refine Sp.step rfl rfl rfl (mg_F (f := 11) rfl rfl rfl rfl) ?_
            refine Sp.step rfl rfl rfl rfl ?_
            refine Sp.step rfl rfl rfl (mld rfl rfl (by decide) e101) ?_
            refine Sp.step rfl rfl rfl rfl ?_
            refine Sp.step rfl rfl rfl rfl ?_
            refine Sp.callP rfl rfl rfl rfl s_isIn (fun e105 => ?_) (fun e105 => ?_)
            · refine Sp.id (pc := 238) (l := [some (.ref 60), some (.int x), some (.int x99.1), none]) (st := [.int 1]) (h := hS X (mw (mw x99.2 103 x99.1.toNatClampNeg (x99.2.1 71 x99.1.toNatClampNeg)) 104 x99.1.toNatClampNeg ((mw x99.2 103 x99.1.toNatClampNeg (x99.2.1 71 x99.1.toNatClampNeg)).1 72 x99.1.toNatClampNeg))) ?_
              refine Sp.step rfl rfl rfl rfl ?_
              refine Sp.step rfl rfl rfl rfl ?_
              refine Sp.step rfl rfl rfl (mg_F (f := 12) rfl rfl rfl rfl) ?_
              refine Sp.step rfl rfl rfl rfl ?_
              refine Sp.step rfl rfl rfl (mld rfl rfl (by decide) e101) ?_
              refine Sp.if1 rfl rfl rfl rfl (fun e107 => ?_) (fun e107 => ?_)
              · refine Sp.step rfl rfl rfl rfl ?_
                refine Sp.step rfl rfl rfl rfl ?_
                refine Sp.step rfl rfl rfl rfl ?_
                refine Sp.step rfl rfl rfl (mg_F (f := 56) rfl rfl rfl rfl) ?_
                refine Sp.step rfl rfl rfl rfl ?_
                refine Sp.step rfl rfl rfl rfl ?_
                refine Sp.step rfl rfl rfl rfl ?_
                refine Sp.step rfl rfl rfl rfl ?_
                refine Sp.step rfl rfl rfl rfl ?_
                refine Sp.step rfl rfl rfl (mst rfl rfl (by decide) e102) ?_
                refine Sp.step rfl rfl rfl rfl ?_
                refine Sp.step rfl rfl rfl rfl ?_
                exact Sp.jmp (l0 := [some (.ref 60), some (.int x), some (.int (x99.1 + 1)), none]) ⟨rfl, rfl, rfl, trivial⟩ (fun _ _ h => h)
              · refine Sp.step rfl rfl rfl rfl ?_
                refine Sp.step rfl rfl rfl rfl ?_
                refine Sp.step rfl rfl rfl (mg_F (f := 12) rfl rfl rfl rfl) ?_
                refine Sp.step rfl rfl rfl rfl ?_
                refine Sp.step rfl rfl rfl (mld rfl rfl (by decide) e101) ?_
                refine Sp.step rfl rfl rfl rfl ?_
                refine Sp.step rfl rfl rfl (go_div (by decide)) ?_
                refine Sp.callS rfl rfl rfl (mrecv (by decide) (by decide +kernel)) s_M_isClass ⟨rfl, rfl⟩ ?_
                refine Sp.bool (fun e110 => ?_) (fun e110 => ?_)
                · refine Sp.id (pc := 263) (l := [some (.ref 60), some (.int x), some (.int x99.1), none]) (st := [.int 1]) (h := hS X (mw (mw x99.2 103 x99.1.toNatClampNeg (x99.2.1 71 x99.1.toNatClampNeg)) 104 x99.1.toNatClampNeg ((mw x99.2 103 x99.1.toNatClampNeg (x99.2.1 71 x99.1.toNatClampNeg)).1 72 x99.1.toNatClampNeg))) ?_
                  refine Sp.step rfl rfl rfl rfl ?_
                  refine Sp.step rfl rfl rfl rfl ?_
                  refine Sp.step rfl rfl rfl rfl ?_
                  refine Sp.step rfl rfl rfl rfl ?_
                  refine Sp.step rfl rfl rfl rfl ?_
                  refine Sp.step rfl rfl rfl (mg_F (f := 56) rfl rfl rfl rfl) ?_
                  refine Sp.step rfl rfl rfl rfl ?_
                  refine Sp.step rfl rfl rfl rfl ?_
                  refine Sp.step rfl rfl rfl rfl ?_
                  refine Sp.step rfl rfl rfl rfl ?_
                  refine Sp.step rfl rfl rfl (mg_F (f := 11) rfl rfl rfl rfl) ?_
                  refine Sp.step rfl rfl rfl rfl ?_
                  refine Sp.step rfl rfl rfl (mld rfl rfl (by decide) e101) ?_
                  refine Sp.step rfl rfl rfl rfl ?_
                  refine Sp.if2 rfl rfl rfl rfl (fun e113 => ?_) (fun e113 => ?_)
                  · refine Sp.step rfl rfl rfl rfl ?_
                    refine Sp.step rfl rfl rfl rfl ?_
                    refine Sp.step rfl rfl rfl (mg_F (f := 2) rfl rfl rfl rfl) ?_
                    refine Sp.step rfl rfl rfl rfl ?_
                    refine Sp.step rfl rfl rfl (mg_F (f := 12) rfl rfl rfl rfl) ?_
                    refine Sp.step rfl rfl rfl rfl ?_
                    refine Sp.step rfl rfl rfl (mld rfl rfl (by decide) e101) ?_
                    refine Sp.step rfl rfl rfl rfl ?_
                    refine Sp.step rfl rfl rfl (go_div (by decide)) ?_
                    refine Sp.call rfl rfl rfl (mrecv (by decide) (by decide +kernel)) s_M_allOf_63 (fun x114 => ⟨_, _, ⟨rfl, rfl⟩, ?_⟩)
                    refine Sp.id (pc := 358) (l := [some (.ref 60), some (.int x), some (.int x99.1), some (.int 1)]) (st := [.int x114, .int x99.1, .ref 108]) (h := hS X (mw (mw x99.2 103 x99.1.toNatClampNeg (x99.2.1 71 x99.1.toNatClampNeg)) 104 x99.1.toNatClampNeg ((mw x99.2 103 x99.1.toNatClampNeg (x99.2.1 71 x99.1.toNatClampNeg)).1 72 x99.1.toNatClampNeg))) ?_
                    refine Sp.step rfl rfl rfl rfl ?_
                    refine Sp.step rfl rfl rfl (mg_F (f := 2) rfl rfl rfl rfl) ?_
                    refine Sp.step rfl rfl rfl rfl ?_
                    refine Sp.step rfl rfl rfl (mg_F (f := 12) rfl rfl rfl rfl) ?_
                    refine Sp.step rfl rfl rfl rfl ?_
                    refine Sp.step rfl rfl rfl (mld rfl rfl (by decide) e101) ?_
                    refine Sp.step rfl rfl rfl rfl ?_
                    refine Sp.step rfl rfl rfl (go_div (by decide)) ?_
                    refine Sp.guard (fun e115 => ?_)
                    refine Sp.step rfl rfl rfl (mld rfl rfl (by decide) e115) ?_
                    refine Sp.step rfl rfl rfl rfl ?_
                    refine Sp.step rfl rfl rfl rfl ?_
                    refine Sp.step rfl rfl rfl (mg_F (f := 12) rfl rfl rfl rfl) ?_
                    refine Sp.step rfl rfl rfl rfl ?_
                    refine Sp.step rfl rfl rfl (mld rfl rfl (by decide) e101) ?_
                    refine Sp.step rfl rfl rfl rfl ?_
                    refine Sp.step rfl rfl rfl (go_div (by decide)) ?_
                    refine Sp.step rfl rfl rfl rfl ?_
                    refine Sp.step rfl rfl rfl (mst rfl rfl (by decide) e102) ?_
                    refine Sp.step rfl rfl rfl rfl ?_
                    refine Sp.step rfl rfl rfl rfl ?_
                    exact Sp.jmp (l0 := [some (.ref 60), some (.int x), some (.int (x99.1 + 1)), none]) ⟨rfl, rfl, rfl, trivial⟩ (fun _ _ h => h)
                  · refine Sp.step rfl rfl rfl rfl ?_
                    refine Sp.step rfl rfl rfl rfl ?_
                    refine Sp.step rfl rfl rfl (mg_F (f := 1) rfl rfl rfl rfl) ?_
                    refine Sp.step rfl rfl rfl rfl ?_
                    refine Sp.step rfl rfl rfl (mg_F (f := 12) rfl rfl rfl rfl) ?_
                    refine Sp.step rfl rfl rfl rfl ?_
                    refine Sp.step rfl rfl rfl (mld rfl rfl (by decide) e101) ?_
                    refine Sp.step rfl rfl rfl rfl ?_
                    refine Sp.step rfl rfl rfl (go_div (by decide)) ?_
                    refine Sp.call rfl rfl rfl (mrecv (by decide) (by decide +kernel)) s_M_allOf_62 (fun x117 => ⟨_, _, ⟨rfl, rfl⟩, ?_⟩)
                    refine Sp.id (pc := 313) (l := [some (.ref 60), some (.int x), some (.int x99.1), some (.int 1)]) (st := [.int x117, .int x99.1, .ref 108]) (h := hS X (mw (mw x99.2 103 x99.1.toNatClampNeg (x99.2.1 71 x99.1.toNatClampNeg)) 104 x99.1.toNatClampNeg ((mw x99.2 103 x99.1.toNatClampNeg (x99.2.1 71 x99.1.toNatClampNeg)).1 72 x99.1.toNatClampNeg))) ?_
                    refine Sp.step rfl rfl rfl rfl ?_
                    refine Sp.step rfl rfl rfl (mg_F (f := 1) rfl rfl rfl rfl) ?_
                    refine Sp.step rfl rfl rfl rfl ?_
                    refine Sp.step rfl rfl rfl (mg_F (f := 12) rfl rfl rfl rfl) ?_
                    refine Sp.step rfl rfl rfl rfl ?_
                    refine Sp.step rfl rfl rfl (mld rfl rfl (by decide) e101) ?_
                    refine Sp.step rfl rfl rfl rfl ?_
                    refine Sp.step rfl rfl rfl (go_div (by decide)) ?_
                    refine Sp.guard (fun e118 => ?_)
                    refine Sp.step rfl rfl rfl (mld rfl rfl (by decide) e118) ?_
                    refine Sp.step rfl rfl rfl rfl ?_
                    refine Sp.step rfl rfl rfl rfl ?_
                    refine Sp.step rfl rfl rfl (mg_F (f := 12) rfl rfl rfl rfl) ?_
                    refine Sp.step rfl rfl rfl rfl ?_
                    refine Sp.step rfl rfl rfl (mld rfl rfl (by decide) e101) ?_
                    refine Sp.step rfl rfl rfl rfl ?_
                    refine Sp.step rfl rfl rfl (go_div (by decide)) ?_
                    refine Sp.step rfl rfl rfl rfl ?_
                    refine Sp.step rfl rfl rfl rfl ?_
                    refine Sp.step rfl rfl rfl (mst rfl rfl (by decide) e102) ?_
                    refine Sp.step rfl rfl rfl rfl ?_
                    refine Sp.step rfl rfl rfl rfl ?_
                    exact Sp.jmp (l0 := [some (.ref 60), some (.int x), some (.int (x99.1 + 1)), none]) ⟨rfl, rfl, rfl, trivial⟩ (fun _ _ h => h)
                · refine Sp.id (pc := 263) (l := [some (.ref 60), some (.int x), some (.int x99.1), none]) (st := [.int 0]) (h := hS X (mw (mw x99.2 103 x99.1.toNatClampNeg (x99.2.1 71 x99.1.toNatClampNeg)) 104 x99.1.toNatClampNeg ((mw x99.2 103 x99.1.toNatClampNeg (x99.2.1 71 x99.1.toNatClampNeg)).1 72 x99.1.toNatClampNeg))) ?_
                  refine Sp.step rfl rfl rfl rfl ?_
                  refine Sp.step rfl rfl rfl rfl ?_
                  refine Sp.step rfl rfl rfl rfl ?_
                  refine Sp.step rfl rfl rfl rfl ?_
                  refine Sp.step rfl rfl rfl (mg_F (f := 56) rfl rfl rfl rfl) ?_
                  refine Sp.step rfl rfl rfl rfl ?_
                  refine Sp.step rfl rfl rfl rfl ?_
                  refine Sp.step rfl rfl rfl rfl ?_
                  refine Sp.step rfl rfl rfl rfl ?_
                  refine Sp.step rfl rfl rfl rfl ?_
                  refine Sp.step rfl rfl rfl (mst rfl rfl (by decide) e102) ?_
                  refine Sp.step rfl rfl rfl rfl ?_
                  refine Sp.step rfl rfl rfl rfl ?_
                  exact Sp.jmp (l0 := [some (.ref 60), some (.int x), some (.int (x99.1 + 1)), none]) ⟨rfl, rfl, rfl, trivial⟩ (fun _ _ h => h)
            · refine Sp.id (pc := 238) (l := [some (.ref 60), some (.int x), some (.int x99.1), none]) (st := [.int 0]) (h := hS X (mw (mw x99.2 103 x99.1.toNatClampNeg (x99.2.1 71 x99.1.toNatClampNeg)) 104 x99.1.toNatClampNeg ((mw x99.2 103 x99.1.toNatClampNeg (x99.2.1 71 x99.1.toNatClampNeg)).1 72 x99.1.toNatClampNeg))) ?_
              refine Sp.step rfl rfl rfl rfl ?_
              refine Sp.step rfl rfl rfl rfl ?_
              refine Sp.step rfl rfl rfl rfl ?_
              refine Sp.step rfl rfl rfl rfl ?_
              refine Sp.step rfl rfl rfl (mg_F (f := 56) rfl rfl rfl rfl) ?_
              refine Sp.step rfl rfl rfl rfl ?_
              refine Sp.step rfl rfl rfl rfl ?_
              refine Sp.step rfl rfl rfl rfl ?_
              refine Sp.step rfl rfl rfl rfl ?_
              refine Sp.step rfl rfl rfl rfl ?_
              refine Sp.step rfl rfl rfl (mst rfl rfl (by decide) e102) ?_
              refine Sp.step rfl rfl rfl rfl ?_
              refine Sp.step rfl rfl rfl rfl ?_
              exact Sp.jmp (l0 := [some (.ref 60), some (.int x), some (.int (x99.1 + 1)), none]) ⟨rfl, rfl, rfl, trivial⟩ (fun _ _ h => h)
        · refine Sp.step rfl rfl rfl rfl ?_
          refine Sp.step rfl rfl rfl (mg_F (f := 55) rfl rfl rfl rfl) ?_
          refine Sp.step rfl rfl rfl rfl ?_
          refine Sp.step rfl rfl rfl rfl ?_
          refine Sp.step rfl rfl rfl (mst rfl rfl (by decide) (by decide)) ?_
          exact Sp.vret rfl rfl rfl (fun _ _ h => h)
