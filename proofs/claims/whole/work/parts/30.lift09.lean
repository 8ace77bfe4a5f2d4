/-! methods as functions, by program -/
def b2_M_anyOf (x : Int32) (M : MS) (x1 : Int32) : Option (Int32 ⊕ Int32) := (if M.1 60 15 ≤ x1 then some (.inr (-2)) else (if ixo x1 24 then (if ¬ M.1 65 x1.toNatClampNeg = x then some (.inl (x1 + 1)) else some (.inr x1)) else none))
def f_M_anyOf (x : Int32) (M : MS) : Option Int32 := (lp (b2_M_anyOf x M) 10000 (0 : Int32))
set_option maxRecDepth 100000 in
set_option maxHeartbeats 4000000 in
theorem s_M_anyOf {L : Nat} {xs : Nat → Int32} {X : XS} {M : MS} {x : Int32} : Sp (mjOO L xs) 37 0 [some (.ref 60), some (.int x), none] [] (hS X M) (f_M_anyOf x M) (KQ (hS X M)) := by
  unfold f_M_anyOf
  refine Sp.step rfl rfl rfl rfl ?_
  refine Sp.step rfl rfl rfl rfl ?_
  refine Sp.weak (l0 := [some (.ref 60), some (.int x), some (.int 0)]) ⟨rfl, rfl, rfl, trivial⟩ ?_
  refine Sp.loopL (mf := (fun (x1 : Int32) => [some (.ref 60), some (.int x), some (.int x1)])) (hf := (fun (x1 : Int32) => hS X M)) (fun x1 => ?_) _ _
  unfold b2_M_anyOf
  refine Sp.step rfl rfl rfl rfl ?_
  refine Sp.step rfl rfl rfl rfl ?_
  refine Sp.step rfl rfl rfl (mg_I (f := 15) rfl rfl rfl) ?_
  refine Sp.if2 rfl rfl rfl rfl (fun e2 => ?_) (fun e2 => ?_)
  · refine Sp.step rfl rfl rfl rfl ?_
    exact Sp.iret rfl rfl rfl rfl (fun _ _ h => h)
  · refine Sp.step rfl rfl rfl rfl ?_
    refine Sp.step rfl rfl rfl (mg_F (f := 5) rfl rfl rfl rfl) ?_
    refine Sp.step rfl rfl rfl rfl ?_
    refine Sp.guard (fun e3 => ?_)
    refine Sp.step rfl rfl rfl (mld rfl rfl (by decide) e3) ?_
    refine Sp.step rfl rfl rfl rfl ?_
    refine Sp.if2 rfl rfl rfl rfl (fun e4 => ?_) (fun e4 => ?_)
    · refine Sp.step rfl rfl rfl rfl ?_
      refine Sp.step rfl rfl rfl rfl ?_
      exact Sp.jmp (l0 := [some (.ref 60), some (.int x), some (.int (x1 + 1))]) ⟨rfl, rfl, rfl, trivial⟩ (fun _ _ h => h)
    · refine Sp.step rfl rfl rfl rfl ?_
      exact Sp.iret rfl rfl rfl rfl (fun _ _ h => h)
def f_M_hasOperand (x : Int32) (y : Int32) (z : Int32) (M : MS) : Option Bool := (if y = 1 then (if (-32768) ≤ z ∧ z ≤ 32767 then some true else some false) else (if (y = 2 ∨ y = 3) then (if ixo x 24 then (if 0 ≤ z ∧ z ≤ (M.1 69 x.toNatClampNeg) - 1 then some true else some false) else none) else (if (y = 19 ∨ y = 20 ∨ y = 21 ∨ y = 22 ∨ y = 23 ∨ y = 24 ∨ y = 25) then (if ixo x 24 then (if 0 ≤ z ∧ z ≤ (M.1 70 x.toNatClampNeg) - 1 then some true else some false) else none) else (if (y = 26 ∨ y = 44) then (if f_M_isClass z M = true then some true else some false) else (if (y = 27 ∨ y = 28) then (if z < 0 then some false else (if f_M_isClass (z / 8) M = true then (if ixo (z / 8) 10 then (if M.1 62 (z / 8).toNatClampNeg ≤ z - z / 8 * 8 then some false else some true) else none) else some false)) else (if (y = 29 ∨ y = 30) then (if z < 0 then some false else (if f_M_isClass (z / 8) M = true then (if ixo (z / 8) 10 then (if M.1 63 (z / 8).toNatClampNeg ≤ z - z / 8 * 8 then some false else some true) else none) else some false)) else (if y = 38 then ((f_M_isStatic z M).bind fun x26 => (if x26 = true then some true else some false)) else (if y = 39 then (if 0 ≤ z ∧ z ≤ 7 then ((f_M_anyOf z M).bind fun x31 => (if x31 < 0 then some false else some true)) else some false) else (if (y = 40 ∨ y = 41 ∨ y = 42) then (if ixo x 24 then (if ¬ M.1 68 x.toNatClampNeg = y - 40 then some false else some true) else none) else (if y = 48 then ((f_M_anyOf 0 M).bind fun x38 => (if x38 < 0 then some false else ((f_M_anyOf 0 M).bind fun x40 => (if ixo x40 24 then (if ¬ M.1 66 x40.toNatClampNeg = 0 then some false else some true) else none)))) else (if (y = 52 ∨ y = 53 ∨ y = 54 ∨ y = 55) then (if 0 ≤ z ∧ z ≤ 7 then some true else some false) else some true)))))))))))
set_option maxRecDepth 100000 in
set_option maxHeartbeats 4000000 in
theorem s_M_hasOperand {L : Nat} {xs : Nat → Int32} {X : XS} {M : MS} {x : Int32} {y : Int32} {z : Int32} : Sp (mjOO L xs) 36 0 [some (.ref 60), some (.int x), some (.int y), some (.int z)] [] (hS X M) (f_M_hasOperand x y z M) (KB (hS X M)) := by
  unfold f_M_hasOperand
  refine Sp.step rfl rfl rfl rfl ?_
  refine Sp.ite (fun e1 => ?_) (fun e1 => ?_)
  · refine Sp.step rfl rfl rfl (go_sw (t := 236) (sw_of e1 rfl)) ?_
    refine Sp.step rfl rfl rfl rfl ?_
    refine Sp.step rfl rfl rfl rfl ?_
    refine Sp.step rfl rfl rfl rfl ?_
    refine Sp.callP rfl rfl rfl rfl s_isIn (fun e2 => ?_) (fun e2 => ?_)
    · refine Sp.id (pc := 246) (l := [some (.ref 60), some (.int x), some (.int y), some (.int z)]) (st := [.int 1]) (h := hS X M) ?_
      exact Sp.iret rfl rfl rfl rfl (fun _ _ h => h)
    · refine Sp.id (pc := 246) (l := [some (.ref 60), some (.int x), some (.int y), some (.int z)]) (st := [.int 0]) (h := hS X M) ?_
      exact Sp.iret rfl rfl rfl rfl (fun _ _ h => h)
  · refine Sp.ite (fun e3 => ?_) (fun e3 => ?_)
    · refine Sp.step rfl rfl rfl (go_sw (t := 247) (by rcases e3 with e | e <;> exact sw_of e rfl)) ?_
      refine Sp.step rfl rfl rfl rfl ?_
      refine Sp.step rfl rfl rfl rfl ?_
      refine Sp.step rfl rfl rfl rfl ?_
      refine Sp.step rfl rfl rfl (mg_F (f := 9) rfl rfl rfl rfl) ?_
      refine Sp.step rfl rfl rfl rfl ?_
      refine Sp.guard (fun e4 => ?_)
      refine Sp.step rfl rfl rfl (mld rfl rfl (by decide) e4) ?_
      refine Sp.step rfl rfl rfl rfl ?_
      refine Sp.step rfl rfl rfl rfl ?_
      refine Sp.callP rfl rfl rfl rfl s_isIn (fun e5 => ?_) (fun e5 => ?_)
      · refine Sp.id (pc := 260) (l := [some (.ref 60), some (.int x), some (.int y), some (.int z)]) (st := [.int 1]) (h := hS X M) ?_
        exact Sp.iret rfl rfl rfl rfl (fun _ _ h => h)
      · refine Sp.id (pc := 260) (l := [some (.ref 60), some (.int x), some (.int y), some (.int z)]) (st := [.int 0]) (h := hS X M) ?_
        exact Sp.iret rfl rfl rfl rfl (fun _ _ h => h)
    · refine Sp.ite (fun e6 => ?_) (fun e6 => ?_)
      · refine Sp.step rfl rfl rfl (go_sw (t := 261) (by rcases e6 with e | e | e | e | e | e | e <;> exact sw_of e rfl)) ?_
        refine Sp.step rfl rfl rfl rfl ?_
        refine Sp.step rfl rfl rfl rfl ?_
        refine Sp.step rfl rfl rfl rfl ?_
        refine Sp.step rfl rfl rfl (mg_F (f := 10) rfl rfl rfl rfl) ?_
        refine Sp.step rfl rfl rfl rfl ?_
        refine Sp.guard (fun e7 => ?_)
        refine Sp.step rfl rfl rfl (mld rfl rfl (by decide) e7) ?_
        refine Sp.step rfl rfl rfl rfl ?_
        refine Sp.step rfl rfl rfl rfl ?_
        refine Sp.callP rfl rfl rfl rfl s_isIn (fun e8 => ?_) (fun e8 => ?_)
        · refine Sp.id (pc := 274) (l := [some (.ref 60), some (.int x), some (.int y), some (.int z)]) (st := [.int 1]) (h := hS X M) ?_
          exact Sp.iret rfl rfl rfl rfl (fun _ _ h => h)
        · refine Sp.id (pc := 274) (l := [some (.ref 60), some (.int x), some (.int y), some (.int z)]) (st := [.int 0]) (h := hS X M) ?_
          exact Sp.iret rfl rfl rfl rfl (fun _ _ h => h)
      · refine Sp.ite (fun e9 => ?_) (fun e9 => ?_)
        · refine Sp.step rfl rfl rfl (go_sw (t := 275) (by rcases e9 with e | e <;> exact sw_of e rfl)) ?_
          refine Sp.step rfl rfl rfl rfl ?_
          refine Sp.step rfl rfl rfl rfl ?_
          refine Sp.callS rfl rfl rfl (mrecv (by decide) (by decide +kernel)) s_M_isClass ⟨rfl, rfl⟩ ?_
          refine Sp.bool (fun e10 => ?_) (fun e10 => ?_)
          · refine Sp.id (pc := 280) (l := [some (.ref 60), some (.int x), some (.int y), some (.int z)]) (st := [.int 1]) (h := hS X M) ?_
            exact Sp.iret rfl rfl rfl rfl (fun _ _ h => h)
          · refine Sp.id (pc := 280) (l := [some (.ref 60), some (.int x), some (.int y), some (.int z)]) (st := [.int 0]) (h := hS X M) ?_
            exact Sp.iret rfl rfl rfl rfl (fun _ _ h => h)
        · refine Sp.ite (fun e11 => ?_) (fun e11 => ?_)
          · refine Sp.step rfl rfl rfl (go_sw (t := 281) (by rcases e11 with e | e <;> exact sw_of e rfl)) ?_
            refine Sp.step rfl rfl rfl rfl ?_
            refine Sp.if1 rfl rfl rfl rfl (fun e12 => ?_) (fun e12 => ?_)
            · refine Sp.step rfl rfl rfl rfl ?_
              exact Sp.iret rfl rfl rfl rfl (fun _ _ h => h)
            · refine Sp.step rfl rfl rfl rfl ?_
              refine Sp.step rfl rfl rfl rfl ?_
              refine Sp.step rfl rfl rfl rfl ?_
              refine Sp.step rfl rfl rfl (go_div (by decide)) ?_
              refine Sp.callS rfl rfl rfl (mrecv (by decide) (by decide +kernel)) s_M_isClass ⟨rfl, rfl⟩ ?_
              refine Sp.bool (fun e13 => ?_) (fun e13 => ?_)
              · refine Sp.id (pc := 293) (l := [some (.ref 60), some (.int x), some (.int y), some (.int z)]) (st := [.int 1]) (h := hS X M) ?_
                refine Sp.step rfl rfl rfl rfl ?_
                refine Sp.step rfl rfl rfl rfl ?_
                refine Sp.step rfl rfl rfl rfl ?_
                refine Sp.step rfl rfl rfl (go_div (by decide)) ?_
                refine Sp.step rfl rfl rfl rfl ?_
                refine Sp.step rfl rfl rfl (mg_F (f := 1) rfl rfl rfl rfl) ?_
                refine Sp.step rfl rfl rfl rfl ?_
                refine Sp.step rfl rfl rfl rfl ?_
                refine Sp.step rfl rfl rfl (go_div (by decide)) ?_
                refine Sp.guard (fun e15 => ?_)
                refine Sp.step rfl rfl rfl (mld rfl rfl (by decide) e15) ?_
                refine Sp.if2 rfl rfl rfl rfl (fun e16 => ?_) (fun e16 => ?_)
                · refine Sp.step rfl rfl rfl rfl ?_
                  exact Sp.iret rfl rfl rfl rfl (fun _ _ h => h)
                · refine Sp.step rfl rfl rfl rfl ?_
                  refine Sp.step rfl rfl rfl rfl ?_
                  exact Sp.iret rfl rfl rfl rfl (fun _ _ h => h)
              · refine Sp.id (pc := 293) (l := [some (.ref 60), some (.int x), some (.int y), some (.int z)]) (st := [.int 0]) (h := hS X M) ?_
                refine Sp.step rfl rfl rfl rfl ?_
                refine Sp.step rfl rfl rfl rfl ?_
                exact Sp.iret rfl rfl rfl rfl (fun _ _ h => h)
          · refine Sp.ite (fun e18 => ?_) (fun e18 => ?_)
            · refine Sp.step rfl rfl rfl (go_sw (t := 318) (by rcases e18 with e | e <;> exact sw_of e rfl)) ?_
              refine Sp.step rfl rfl rfl rfl ?_
              refine Sp.if1 rfl rfl rfl rfl (fun e19 => ?_) (fun e19 => ?_)
              · refine Sp.step rfl rfl rfl rfl ?_
                exact Sp.iret rfl rfl rfl rfl (fun _ _ h => h)
              · refine Sp.step rfl rfl rfl rfl ?_
                refine Sp.step rfl rfl rfl rfl ?_
                refine Sp.step rfl rfl rfl rfl ?_
                refine Sp.step rfl rfl rfl (go_div (by decide)) ?_
                refine Sp.callS rfl rfl rfl (mrecv (by decide) (by decide +kernel)) s_M_isClass ⟨rfl, rfl⟩ ?_
                refine Sp.bool (fun e20 => ?_) (fun e20 => ?_)
                · refine Sp.id (pc := 330) (l := [some (.ref 60), some (.int x), some (.int y), some (.int z)]) (st := [.int 1]) (h := hS X M) ?_
                  refine Sp.step rfl rfl rfl rfl ?_
                  refine Sp.step rfl rfl rfl rfl ?_
                  refine Sp.step rfl rfl rfl rfl ?_
                  refine Sp.step rfl rfl rfl (go_div (by decide)) ?_
                  refine Sp.step rfl rfl rfl rfl ?_
                  refine Sp.step rfl rfl rfl (mg_F (f := 2) rfl rfl rfl rfl) ?_
                  refine Sp.step rfl rfl rfl rfl ?_
                  refine Sp.step rfl rfl rfl rfl ?_
                  refine Sp.step rfl rfl rfl (go_div (by decide)) ?_
                  refine Sp.guard (fun e22 => ?_)
                  refine Sp.step rfl rfl rfl (mld rfl rfl (by decide) e22) ?_
                  refine Sp.if2 rfl rfl rfl rfl (fun e23 => ?_) (fun e23 => ?_)
                  · refine Sp.step rfl rfl rfl rfl ?_
                    exact Sp.iret rfl rfl rfl rfl (fun _ _ h => h)
                  · refine Sp.step rfl rfl rfl rfl ?_
                    refine Sp.step rfl rfl rfl rfl ?_
                    exact Sp.iret rfl rfl rfl rfl (fun _ _ h => h)
                · refine Sp.id (pc := 330) (l := [some (.ref 60), some (.int x), some (.int y), some (.int z)]) (st := [.int 0]) (h := hS X M) ?_
                  refine Sp.step rfl rfl rfl rfl ?_
                  refine Sp.step rfl rfl rfl rfl ?_
                  exact Sp.iret rfl rfl rfl rfl (fun _ _ h => h)
            · refine Sp.ite (fun e25 => ?_) (fun e25 => ?_)
              · refine Sp.step rfl rfl rfl (go_sw (t := 355) (sw_of e25 rfl)) ?_
                refine Sp.step rfl rfl rfl rfl ?_
                refine Sp.step rfl rfl rfl rfl ?_
                refine Sp.call rfl rfl rfl (mrecv (by decide) (by decide +kernel)) s_M_isStatic (fun x26 => ⟨_, _, ⟨rfl, rfl⟩, ?_⟩)
                refine Sp.bool (fun e27 => ?_) (fun e27 => ?_)
                · refine Sp.id (pc := 360) (l := [some (.ref 60), some (.int x), some (.int y), some (.int z)]) (st := [.int 1]) (h := hS X M) ?_
                  exact Sp.iret rfl rfl rfl rfl (fun _ _ h => h)
                · refine Sp.id (pc := 360) (l := [some (.ref 60), some (.int x), some (.int y), some (.int z)]) (st := [.int 0]) (h := hS X M) ?_
                  exact Sp.iret rfl rfl rfl rfl (fun _ _ h => h)
              · refine Sp.ite (fun e28 => ?_) (fun e28 => ?_)
                · refine Sp.step rfl rfl rfl (go_sw (t := 361) (sw_of e28 rfl)) ?_
                  refine Sp.step rfl rfl rfl rfl ?_
                  refine Sp.step rfl rfl rfl rfl ?_
                  refine Sp.step rfl rfl rfl rfl ?_
                  refine Sp.callP rfl rfl rfl rfl s_isIn (fun e29 => ?_) (fun e29 => ?_)
                  · refine Sp.id (pc := 368) (l := [some (.ref 60), some (.int x), some (.int y), some (.int z)]) (st := [.int 1]) (h := hS X M) ?_
                    refine Sp.step rfl rfl rfl rfl ?_
                    refine Sp.step rfl rfl rfl rfl ?_
                    refine Sp.step rfl rfl rfl rfl ?_
                    refine Sp.call rfl rfl rfl (mrecv (by decide) (by decide +kernel)) s_M_anyOf (fun x31 => ⟨_, _, ⟨rfl, rfl⟩, ?_⟩)
                    refine Sp.id (pc := 376) (l := [some (.ref 60), some (.int x), some (.int y), some (.int z)]) (st := [.int x31]) (h := hS X M) ?_
                    refine Sp.if1 rfl rfl rfl rfl (fun e32 => ?_) (fun e32 => ?_)
                    · refine Sp.step rfl rfl rfl rfl ?_
                      exact Sp.iret rfl rfl rfl rfl (fun _ _ h => h)
                    · refine Sp.step rfl rfl rfl rfl ?_
                      refine Sp.step rfl rfl rfl rfl ?_
                      exact Sp.iret rfl rfl rfl rfl (fun _ _ h => h)
                  · refine Sp.id (pc := 368) (l := [some (.ref 60), some (.int x), some (.int y), some (.int z)]) (st := [.int 0]) (h := hS X M) ?_
                    refine Sp.step rfl rfl rfl rfl ?_
                    refine Sp.step rfl rfl rfl rfl ?_
                    exact Sp.iret rfl rfl rfl rfl (fun _ _ h => h)
                · refine Sp.ite (fun e34 => ?_) (fun e34 => ?_)
                  · refine Sp.step rfl rfl rfl (go_sw (t := 385) (by rcases e34 with e | e | e <;> exact sw_of e rfl)) ?_
                    refine Sp.step rfl rfl rfl rfl ?_
                    refine Sp.step rfl rfl rfl (mg_F (f := 8) rfl rfl rfl rfl) ?_
                    refine Sp.step rfl rfl rfl rfl ?_
                    refine Sp.guard (fun e35 => ?_)
                    refine Sp.step rfl rfl rfl (mld rfl rfl (by decide) e35) ?_
                    refine Sp.step rfl rfl rfl rfl ?_
                    refine Sp.step rfl rfl rfl rfl ?_
                    refine Sp.step rfl rfl rfl rfl ?_
                    refine Sp.if2 rfl rfl rfl rfl (fun e36 => ?_) (fun e36 => ?_)
                    · refine Sp.step rfl rfl rfl rfl ?_
                      exact Sp.iret rfl rfl rfl rfl (fun _ _ h => h)
                    · refine Sp.step rfl rfl rfl rfl ?_
                      refine Sp.step rfl rfl rfl rfl ?_
                      exact Sp.iret rfl rfl rfl rfl (fun _ _ h => h)
                  · refine Sp.ite (fun e37 => ?_) (fun e37 => ?_)
                    · refine Sp.step rfl rfl rfl (go_sw (t := 404) (sw_of e37 rfl)) ?_
                      refine Sp.step rfl rfl rfl rfl ?_
                      refine Sp.step rfl rfl rfl rfl ?_
                      refine Sp.call rfl rfl rfl (mrecv (by decide) (by decide +kernel)) s_M_anyOf (fun x38 => ⟨_, _, ⟨rfl, rfl⟩, ?_⟩)
                      refine Sp.id (pc := 409) (l := [some (.ref 60), some (.int x), some (.int y), some (.int z)]) (st := [.int x38]) (h := hS X M) ?_
                      refine Sp.if1 rfl rfl rfl rfl (fun e39 => ?_) (fun e39 => ?_)
                      · refine Sp.step rfl rfl rfl rfl ?_
                        exact Sp.iret rfl rfl rfl rfl (fun _ _ h => h)
                      · refine Sp.step rfl rfl rfl rfl ?_
                        refine Sp.step rfl rfl rfl (mg_F (f := 6) rfl rfl rfl rfl) ?_
                        refine Sp.step rfl rfl rfl rfl ?_
                        refine Sp.step rfl rfl rfl rfl ?_
                        refine Sp.call rfl rfl rfl (mrecv (by decide) (by decide +kernel)) s_M_anyOf (fun x40 => ⟨_, _, ⟨rfl, rfl⟩, ?_⟩)
                        refine Sp.id (pc := 421) (l := [some (.ref 60), some (.int x), some (.int y), some (.int z)]) (st := [.int x40, .ref 66]) (h := hS X M) ?_
                        refine Sp.guard (fun e41 => ?_)
                        refine Sp.step rfl rfl rfl (mld rfl rfl (by decide) e41) ?_
                        refine Sp.if1 rfl rfl rfl rfl (fun e42 => ?_) (fun e42 => ?_)
                        · refine Sp.step rfl rfl rfl rfl ?_
                          exact Sp.iret rfl rfl rfl rfl (fun _ _ h => h)
                        · refine Sp.step rfl rfl rfl rfl ?_
                          refine Sp.step rfl rfl rfl rfl ?_
                          exact Sp.iret rfl rfl rfl rfl (fun _ _ h => h)
                    · refine Sp.ite (fun e43 => ?_) (fun e43 => ?_)
                      · refine Sp.step rfl rfl rfl (go_sw (t := 431) (by rcases e43 with e | e | e | e <;> exact sw_of e rfl)) ?_
                        refine Sp.step rfl rfl rfl rfl ?_
                        refine Sp.step rfl rfl rfl rfl ?_
                        refine Sp.step rfl rfl rfl rfl ?_
                        refine Sp.callP rfl rfl rfl rfl s_isIn (fun e44 => ?_) (fun e44 => ?_)
                        · refine Sp.id (pc := 438) (l := [some (.ref 60), some (.int x), some (.int y), some (.int z)]) (st := [.int 1]) (h := hS X M) ?_
                          exact Sp.iret rfl rfl rfl rfl (fun _ _ h => h)
                        · refine Sp.id (pc := 438) (l := [some (.ref 60), some (.int x), some (.int y), some (.int z)]) (st := [.int 0]) (h := hS X M) ?_
                          exact Sp.iret rfl rfl rfl rfl (fun _ _ h => h)
                      · refine Sp.step rfl rfl rfl (go_sw (t := 439) (mjSw_dflt _ (by
                          intro q hq
                          simp only [List.mem_cons, List.not_mem_nil, or_false] at hq
                          rcases hq with rfl | rfl | rfl | rfl | rfl | rfl | rfl | rfl | rfl | rfl | rfl | rfl | rfl | rfl | rfl | rfl | rfl | rfl | rfl | rfl | rfl | rfl | rfl | rfl | rfl | rfl | rfl | rfl | rfl | rfl | rfl | rfl | rfl | rfl | rfl | rfl | rfl | rfl | rfl | rfl | rfl | rfl | rfl | rfl | rfl | rfl | rfl | rfl | rfl | rfl | rfl | rfl | rfl | rfl | rfl
                          · exact fun h => absurd h (fun h => e1 h)
                          · exact fun h => absurd h (fun h => e3 (Or.inl h))
                          · exact fun h => absurd h (fun h => e3 (Or.inr h))
                          · exact fun h => rfl
                          · exact fun h => rfl
                          · exact fun h => rfl
                          · exact fun h => rfl
                          · exact fun h => rfl
                          · exact fun h => rfl
                          · exact fun h => rfl
                          · exact fun h => rfl
                          · exact fun h => rfl
                          · exact fun h => rfl
                          · exact fun h => rfl
                          · exact fun h => rfl
                          · exact fun h => rfl
                          · exact fun h => rfl
                          · exact fun h => rfl
                          · exact fun h => absurd h (fun h => e6 (Or.inl h))
                          · exact fun h => absurd h (fun h => e6 (Or.inr (Or.inl h)))
                          · exact fun h => absurd h (fun h => e6 (Or.inr (Or.inr (Or.inl h))))
                          · exact fun h => absurd h (fun h => e6 (Or.inr (Or.inr (Or.inr (Or.inl h)))))
                          · exact fun h => absurd h (fun h => e6 (Or.inr (Or.inr (Or.inr (Or.inr (Or.inl h))))))
                          · exact fun h => absurd h (fun h => e6 (Or.inr (Or.inr (Or.inr (Or.inr (Or.inr (Or.inl h)))))))
                          · exact fun h => absurd h (fun h => e6 (Or.inr (Or.inr (Or.inr (Or.inr (Or.inr (Or.inr h)))))))
                          · exact fun h => absurd h (fun h => e9 (Or.inl h))
                          · exact fun h => absurd h (fun h => e11 (Or.inl h))
                          · exact fun h => absurd h (fun h => e11 (Or.inr h))
                          · exact fun h => absurd h (fun h => e18 (Or.inl h))
                          · exact fun h => absurd h (fun h => e18 (Or.inr h))
                          · exact fun h => rfl
                          · exact fun h => rfl
                          · exact fun h => rfl
                          · exact fun h => rfl
                          · exact fun h => rfl
                          · exact fun h => rfl
                          · exact fun h => rfl
                          · exact fun h => absurd h (fun h => e25 h)
                          · exact fun h => absurd h (fun h => e28 h)
                          · exact fun h => absurd h (fun h => e34 (Or.inl h))
                          · exact fun h => absurd h (fun h => e34 (Or.inr (Or.inl h)))
                          · exact fun h => absurd h (fun h => e34 (Or.inr (Or.inr h)))
                          · exact fun h => rfl
                          · exact fun h => absurd h (fun h => e9 (Or.inr h))
                          · exact fun h => rfl
                          · exact fun h => rfl
                          · exact fun h => rfl
                          · exact fun h => absurd h (fun h => e37 h)
                          · exact fun h => rfl
                          · exact fun h => rfl
                          · exact fun h => rfl
                          · exact fun h => absurd h (fun h => e43 (Or.inl h))
                          · exact fun h => absurd h (fun h => e43 (Or.inr (Or.inl h)))
                          · exact fun h => absurd h (fun h => e43 (Or.inr (Or.inr (Or.inl h))))
                          · exact fun h => absurd h (fun h => e43 (Or.inr (Or.inr (Or.inr h))))))) ?_
                        refine Sp.step rfl rfl rfl rfl ?_
                        exact Sp.iret rfl rfl rfl rfl (fun _ _ h => h)
def f_M_push (x : Int32) (M : MS) : Option MS := (if M.1 60 32 = 0 then (if ¬ M.1 60 30 = 10 then (lt (mw M 60 32 0) fun M3 => (if ¬ M3.1 60 32 = 0 then some M3 else (if ixo (M3.1 60 30) 16 then (lt (mw M3 86 (M3.1 60 30).toNatClampNeg x) fun M6 => (lt (mw M6 60 30 ((M6.1 60 30) + 1)) fun M7 => some M7)) else none))) else (lt (mw M 60 32 1) fun M8 => (if ¬ M8.1 60 32 = 0 then some M8 else (if ixo (M8.1 60 30) 16 then (lt (mw M8 86 (M8.1 60 30).toNatClampNeg x) fun M11 => (lt (mw M11 60 30 ((M11.1 60 30) + 1)) fun M12 => some M12)) else none)))) else some M)
set_option maxRecDepth 100000 in
set_option maxHeartbeats 4000000 in
theorem s_M_push {L : Nat} {xs : Nat → Int32} {X : XS} {M : MS} {x : Int32} : Sp (mjOO L xs) 35 0 [some (.ref 60), some (.int x)] [] (hS X M) (f_M_push x M) (KVM X) := by
  unfold f_M_push
  refine Sp.step rfl rfl rfl rfl ?_
  refine Sp.step rfl rfl rfl (mg_I (f := 32) rfl rfl rfl) ?_
  refine Sp.if1 rfl rfl rfl rfl (fun e1 => ?_) (fun e1 => ?_)
  · refine Sp.step rfl rfl rfl rfl ?_
    refine Sp.step rfl rfl rfl rfl ?_
    refine Sp.step rfl rfl rfl (mg_I (f := 30) rfl rfl rfl) ?_
    refine Sp.step rfl rfl rfl rfl ?_
    refine Sp.if2 rfl rfl rfl rfl (fun e2 => ?_) (fun e2 => ?_)
    · refine Sp.step rfl rfl rfl rfl ?_
      refine Sp.step rfl rfl rfl (mp_I (f := 32) rfl rfl rfl rfl) ?_
      refine Sp.step rfl rfl rfl rfl ?_
      refine Sp.step rfl rfl rfl (mg_I (f := 32) rfl rfl rfl) ?_
      refine Sp.if1 rfl rfl rfl rfl (fun e4 => ?_) (fun e4 => ?_)
      · exact Sp.vret rfl rfl rfl (fun _ _ h => h)
      · refine Sp.step rfl rfl rfl rfl ?_
        refine Sp.step rfl rfl rfl (mg_F (f := 29) rfl rfl rfl rfl) ?_
        refine Sp.step rfl rfl rfl rfl ?_
        refine Sp.step rfl rfl rfl (mg_I (f := 30) rfl rfl rfl) ?_
        refine Sp.step rfl rfl rfl rfl ?_
        refine Sp.guard (fun e5 => ?_)
        refine Sp.step rfl rfl rfl (mst rfl rfl (by decide) e5) ?_
        refine Sp.step rfl rfl rfl rfl ?_
        refine Sp.step rfl rfl rfl rfl ?_
        refine Sp.step rfl rfl rfl (mg_I (f := 30) rfl rfl rfl) ?_
        refine Sp.step rfl rfl rfl rfl ?_
        refine Sp.step rfl rfl rfl rfl ?_
        refine Sp.step rfl rfl rfl (mp_I (f := 30) rfl rfl rfl rfl) ?_
        exact Sp.vret rfl rfl rfl (fun _ _ h => h)
    · refine Sp.step rfl rfl rfl rfl ?_
      refine Sp.step rfl rfl rfl rfl ?_
      refine Sp.step rfl rfl rfl (mp_I (f := 32) rfl rfl rfl rfl) ?_
      refine Sp.step rfl rfl rfl rfl ?_
      refine Sp.step rfl rfl rfl (mg_I (f := 32) rfl rfl rfl) ?_
      refine Sp.if1 rfl rfl rfl rfl (fun e9 => ?_) (fun e9 => ?_)
      · exact Sp.vret rfl rfl rfl (fun _ _ h => h)
      · refine Sp.step rfl rfl rfl rfl ?_
        refine Sp.step rfl rfl rfl (mg_F (f := 29) rfl rfl rfl rfl) ?_
        refine Sp.step rfl rfl rfl rfl ?_
        refine Sp.step rfl rfl rfl (mg_I (f := 30) rfl rfl rfl) ?_
        refine Sp.step rfl rfl rfl rfl ?_
        refine Sp.guard (fun e10 => ?_)
        refine Sp.step rfl rfl rfl (mst rfl rfl (by decide) e10) ?_
        refine Sp.step rfl rfl rfl rfl ?_
        refine Sp.step rfl rfl rfl rfl ?_
        refine Sp.step rfl rfl rfl (mg_I (f := 30) rfl rfl rfl) ?_
        refine Sp.step rfl rfl rfl rfl ?_
        refine Sp.step rfl rfl rfl rfl ?_
        refine Sp.step rfl rfl rfl (mp_I (f := 30) rfl rfl rfl rfl) ?_
        exact Sp.vret rfl rfl rfl (fun _ _ h => h)
  · exact Sp.vret rfl rfl rfl (fun _ _ h => h)
def f_M_pop (x : Int32) (M : MS) : Option (Int32 × MS) := (if M.1 60 30 = 0 then (lt (mw M 60 32 1) fun M2 => some (1, M2)) else (if x = 0 then (lt (mw M 60 30 ((M.1 60 30) - 1)) fun M4 => (if ixo (M4.1 60 30) 16 then some (M4.1 86 (M4.1 60 30).toNatClampNeg, M4) else none)) else (if ixo ((M.1 60 30) - 1) 16 then (if M.1 86 ((M.1 60 30) - 1).toNatClampNeg = x then (lt (mw M 60 30 ((M.1 60 30) - 1)) fun M8 => (if ixo (M8.1 60 30) 16 then some (M8.1 86 (M8.1 60 30).toNatClampNeg, M8) else none)) else (lt (mw M 60 32 1) fun M10 => some (1, M10))) else none)))
set_option maxRecDepth 100000 in
set_option maxHeartbeats 4000000 in
theorem s_M_pop {L : Nat} {xs : Nat → Int32} {X : XS} {M : MS} {x : Int32} : Sp (mjOO L xs) 34 0 [some (.ref 60), some (.int x)] [] (hS X M) (f_M_pop x M) (KEM X) := by
  unfold f_M_pop
  refine Sp.step rfl rfl rfl rfl ?_
  refine Sp.step rfl rfl rfl (mg_I (f := 30) rfl rfl rfl) ?_
  refine Sp.if1 rfl rfl rfl rfl (fun e1 => ?_) (fun e1 => ?_)
  · refine Sp.step rfl rfl rfl rfl ?_
    refine Sp.step rfl rfl rfl rfl ?_
    refine Sp.step rfl rfl rfl (mp_I (f := 32) rfl rfl rfl rfl) ?_
    refine Sp.step rfl rfl rfl rfl ?_
    exact Sp.iret rfl rfl rfl rfl (fun _ _ h => h)
  · refine Sp.step rfl rfl rfl rfl ?_
    refine Sp.if1 rfl rfl rfl rfl (fun e3 => ?_) (fun e3 => ?_)
    · refine Sp.step rfl rfl rfl rfl ?_
      refine Sp.step rfl rfl rfl rfl ?_
      refine Sp.step rfl rfl rfl (mg_I (f := 30) rfl rfl rfl) ?_
      refine Sp.step rfl rfl rfl rfl ?_
      refine Sp.step rfl rfl rfl rfl ?_
      refine Sp.step rfl rfl rfl (mp_I (f := 30) rfl rfl rfl rfl) ?_
      refine Sp.step rfl rfl rfl rfl ?_
      refine Sp.step rfl rfl rfl (mg_F (f := 29) rfl rfl rfl rfl) ?_
      refine Sp.step rfl rfl rfl rfl ?_
      refine Sp.step rfl rfl rfl (mg_I (f := 30) rfl rfl rfl) ?_
      refine Sp.guard (fun e5 => ?_)
      refine Sp.step rfl rfl rfl (mld rfl rfl (by decide) e5) ?_
      exact Sp.iret rfl rfl rfl rfl (fun _ _ h => h)
    · refine Sp.step rfl rfl rfl rfl ?_
      refine Sp.step rfl rfl rfl (mg_F (f := 29) rfl rfl rfl rfl) ?_
      refine Sp.step rfl rfl rfl rfl ?_
      refine Sp.step rfl rfl rfl (mg_I (f := 30) rfl rfl rfl) ?_
      refine Sp.step rfl rfl rfl rfl ?_
      refine Sp.step rfl rfl rfl rfl ?_
      refine Sp.guard (fun e6 => ?_)
      refine Sp.step rfl rfl rfl (mld rfl rfl (by decide) e6) ?_
      refine Sp.step rfl rfl rfl rfl ?_
      refine Sp.if2 rfl rfl rfl rfl (fun e7 => ?_) (fun e7 => ?_)
      · refine Sp.step rfl rfl rfl rfl ?_
        refine Sp.step rfl rfl rfl rfl ?_
        refine Sp.step rfl rfl rfl (mg_I (f := 30) rfl rfl rfl) ?_
        refine Sp.step rfl rfl rfl rfl ?_
        refine Sp.step rfl rfl rfl rfl ?_
        refine Sp.step rfl rfl rfl (mp_I (f := 30) rfl rfl rfl rfl) ?_
        refine Sp.step rfl rfl rfl rfl ?_
        refine Sp.step rfl rfl rfl (mg_F (f := 29) rfl rfl rfl rfl) ?_
        refine Sp.step rfl rfl rfl rfl ?_
        refine Sp.step rfl rfl rfl (mg_I (f := 30) rfl rfl rfl) ?_
        refine Sp.guard (fun e9 => ?_)
        refine Sp.step rfl rfl rfl (mld rfl rfl (by decide) e9) ?_
        exact Sp.iret rfl rfl rfl rfl (fun _ _ h => h)
      · refine Sp.step rfl rfl rfl rfl ?_
        refine Sp.step rfl rfl rfl rfl ?_
        refine Sp.step rfl rfl rfl (mp_I (f := 32) rfl rfl rfl rfl) ?_
        refine Sp.step rfl rfl rfl rfl ?_
        exact Sp.iret rfl rfl rfl rfl (fun _ _ h => h)
def b9_M_popArguments (x : Int32) (x7 : (Int32 × MS)) : Option ((Int32 × MS) ⊕ (Int32 × MS)) := (if x7.1 < 0 then some (.inr (x7.1, x7.2)) else (if ixo x 24 then (if ¬ ((x7.2.1 67 x.toNatClampNeg : Int32) >>> ((x7.1 : Int32) &&& 31)) &&& 1 = 1 then ((f_M_pop 1 x7.2).bind fun x11 => some (.inl (x7.1 + (-1), x11.2))) else ((f_M_pop 2 x7.2).bind fun x12 => some (.inl (x7.1 + (-1), x12.2)))) else none))
def f_M_popArguments (x : Int32) (M : MS) : Option MS := (if ixo x 24 then ((lp (b9_M_popArguments x) 10000 ((M.1 66 x.toNatClampNeg) - 1, M)).bind fun x13 => some x13.2) else none)
set_option maxRecDepth 100000 in
set_option maxHeartbeats 4000000 in
theorem s_M_popArguments {L : Nat} {xs : Nat → Int32} {X : XS} {M : MS} {x : Int32} : Sp (mjOO L xs) 38 0 [some (.ref 60), some (.int x), none, none] [] (hS X M) (f_M_popArguments x M) (KVM X) := by
  unfold f_M_popArguments
  refine Sp.step rfl rfl rfl rfl ?_
  refine Sp.step rfl rfl rfl (mg_F (f := 6) rfl rfl rfl rfl) ?_
  refine Sp.step rfl rfl rfl rfl ?_
  refine Sp.guard (fun e1 => ?_)
  refine Sp.step rfl rfl rfl (mld rfl rfl (by decide) e1) ?_
  refine Sp.step rfl rfl rfl rfl ?_
  refine Sp.step rfl rfl rfl rfl ?_
  refine Sp.step rfl rfl rfl rfl ?_
  refine Sp.weak (l0 := [some (.ref 60), some (.int x), some (.int ((M.1 66 x.toNatClampNeg) - 1)), none]) ⟨rfl, rfl, rfl, trivial⟩ ?_
  refine Sp.loopX (pe := 43) (mf := (fun (x7 : (Int32 × MS)) => [some (.ref 60), some (.int x), some (.int x7.1), none])) (hf := (fun (x7 : (Int32 × MS)) => hS X x7.2)) (fun x7 => ?_) (fun x13 => ?_) _ _
  · unfold b9_M_popArguments
    refine Sp.step rfl rfl rfl rfl ?_
    refine Sp.if1 rfl rfl rfl rfl (fun e8 => ?_) (fun e8 => ?_)
    · exact Sp.jmp (l0 := [some (.ref 60), some (.int x), some (.int x7.1), none]) ⟨rfl, rfl, rfl, trivial⟩ (fun _ _ h => h)
    · refine Sp.step rfl rfl rfl rfl ?_
      refine Sp.step rfl rfl rfl rfl ?_
      refine Sp.step rfl rfl rfl (mg_F (f := 7) rfl rfl rfl rfl) ?_
      refine Sp.step rfl rfl rfl rfl ?_
      refine Sp.guard (fun e9 => ?_)
      refine Sp.step rfl rfl rfl (mld rfl rfl (by decide) e9) ?_
      refine Sp.step rfl rfl rfl rfl ?_
      refine Sp.step rfl rfl rfl rfl ?_
      refine Sp.step rfl rfl rfl rfl ?_
      refine Sp.step rfl rfl rfl rfl ?_
      refine Sp.step rfl rfl rfl rfl ?_
      refine Sp.if2 rfl rfl rfl rfl (fun e10 => ?_) (fun e10 => ?_)
      · refine Sp.step rfl rfl rfl rfl ?_
        refine Sp.call rfl rfl rfl (mrecv (by decide) (by decide +kernel)) s_M_pop (fun x11 => ⟨_, _, ⟨rfl, rfl⟩, ?_⟩)
        refine Sp.id (pc := 36) (l := [some (.ref 60), some (.int x), some (.int x7.1), none]) (st := [.int x11.1]) (h := hS X x11.2) ?_
        refine Sp.step rfl rfl rfl rfl ?_
        refine Sp.step rfl rfl rfl rfl ?_
        refine Sp.step rfl rfl rfl rfl ?_
        exact Sp.jmp (l0 := [some (.ref 60), some (.int x), some (.int (x7.1 + (-1))), none]) ⟨rfl, rfl, rfl, trivial⟩ (fun _ _ h => h)
      · refine Sp.step rfl rfl rfl rfl ?_
        refine Sp.step rfl rfl rfl rfl ?_
        refine Sp.call rfl rfl rfl (mrecv (by decide) (by decide +kernel)) s_M_pop (fun x12 => ⟨_, _, ⟨rfl, rfl⟩, ?_⟩)
        refine Sp.id (pc := 36) (l := [some (.ref 60), some (.int x), some (.int x7.1), none]) (st := [.int x12.1]) (h := hS X x12.2) ?_
        refine Sp.step rfl rfl rfl rfl ?_
        refine Sp.step rfl rfl rfl rfl ?_
        refine Sp.step rfl rfl rfl rfl ?_
        exact Sp.jmp (l0 := [some (.ref 60), some (.int x), some (.int (x7.1 + (-1))), none]) ⟨rfl, rfl, rfl, trivial⟩ (fun _ _ h => h)
  · exact Sp.vret rfl rfl rfl (fun _ _ h => h)
def f_M_pushReturn (x : Int32) (M : MS) : Option MS := (if ixo x 24 then (if M.1 68 x.toNatClampNeg ≤ 0 then some M else ((f_M_push (M.1 68 x.toNatClampNeg) M).bind fun x3 => some x3)) else none)
set_option maxRecDepth 100000 in
set_option maxHeartbeats 4000000 in
theorem s_M_pushReturn {L : Nat} {xs : Nat → Int32} {X : XS} {M : MS} {x : Int32} : Sp (mjOO L xs) 39 0 [some (.ref 60), some (.int x)] [] (hS X M) (f_M_pushReturn x M) (KVM X) := by
  unfold f_M_pushReturn
  refine Sp.step rfl rfl rfl rfl ?_
  refine Sp.step rfl rfl rfl (mg_F (f := 8) rfl rfl rfl rfl) ?_
  refine Sp.step rfl rfl rfl rfl ?_
  refine Sp.guard (fun e1 => ?_)
  refine Sp.step rfl rfl rfl (mld rfl rfl (by decide) e1) ?_
  refine Sp.if1 rfl rfl rfl rfl (fun e2 => ?_) (fun e2 => ?_)
  · exact Sp.vret rfl rfl rfl (fun _ _ h => h)
  · refine Sp.step rfl rfl rfl rfl ?_
    refine Sp.step rfl rfl rfl rfl ?_
    refine Sp.step rfl rfl rfl (mg_F (f := 8) rfl rfl rfl rfl) ?_
    refine Sp.step rfl rfl rfl rfl ?_
    refine Sp.step rfl rfl rfl (mld rfl rfl (by decide) e1) ?_
    refine Sp.call rfl rfl rfl (mrecv (by decide) (by decide +kernel)) s_M_push (fun x3 => ⟨_, _, ⟨rfl, rfl⟩, ?_⟩)
    refine Sp.id (pc := 19) (l := [some (.ref 60), some (.int x)]) (st := []) (h := hS X x3) ?_
    exact Sp.vret rfl rfl rfl (fun _ _ h => h)
def b242_M_act (x39 : (Int32 × MS)) : Option ((Int32 × MS) ⊕ (Int32 × MS)) := (if x39.1 ≤ 0 then some (.inr (x39.1, x39.2)) else ((f_M_pop (x39.1 - x39.1 / 10 * 10) x39.2).bind fun x41 => some (.inl (x39.1 / 10, x41.2))))
def f_M_act (x : Int32) (y : Int32) (z : Int32) (M : MS) : Option MS := (if y = 2 then (if ixo z 12 then (if ¬ M.1 87 z.toNatClampNeg = 0 then (lt (mw M 60 32 0) fun M4 => ((f_M_push (M4.1 87 z.toNatClampNeg) M4).bind fun x5 => some x5)) else (lt (mw M 60 32 1) fun M6 => ((f_M_push (M6.1 87 z.toNatClampNeg) M6).bind fun x7 => some x7))) else none) else (if y = 3 then ((f_M_pop 0 M).bind fun x9 => (if x9.2.1 60 32 = 0 then (if ixo z 12 then (lt (mw x9.2 87 z.toNatClampNeg x9.1) fun M12 => some M12) else none) else (if ixo z 12 then (lt (mw x9.2 87 z.toNatClampNeg (x9.2.1 87 z.toNatClampNeg)) fun M14 => some M14) else none))) else (if y = 16 then ((f_M_pop 0 M).bind fun x16 => ((f_M_push x16.1 x16.2).bind fun x17 => ((f_M_push x16.1 x17).bind fun x18 => some x18))) else (if y = 17 then ((f_M_pop 0 M).bind fun x20 => some x20.2) else (if y = 18 then ((f_M_pop 0 M).bind fun x22 => ((f_M_pop 0 x22.2).bind fun x23 => ((f_M_push x22.1 x23.2).bind fun x24 => ((f_M_push x23.1 x24).bind fun x25 => some x25)))) else (if y = 38 then ((f_M_popArguments z M).bind fun x27 => ((f_M_pushReturn z x27).bind fun x28 => some x28)) else (if y = 39 then ((f_M_anyOf z M).bind fun x30 => ((f_M_popArguments x30 M).bind fun x31 => ((f_M_pop 2 x31).bind fun x32 => ((f_M_anyOf z x32.2).bind fun x33 => ((f_M_pushReturn x33 x32.2).bind fun x34 => some x34))))) else (if ixo y 56 then ((lp (b242_M_act) 10000 (oT 2 y.toNatClampNeg, M)).bind fun x42 => (if ixo y 56 then (if oT 3 y.toNatClampNeg ≤ 0 then some x42.2 else ((f_M_push (oT 3 y.toNatClampNeg) x42.2).bind fun x45 => some x45)) else none)) else none))))))))
set_option maxRecDepth 100000 in
set_option maxHeartbeats 4000000 in
theorem s_M_act {L : Nat} {xs : Nat → Int32} {X : XS} {M : MS} {x : Int32} {y : Int32} {z : Int32} : Sp (mjOO L xs) 40 0 [some (.ref 60), some (.int x), some (.int y), some (.int z), none, none, none, none, none, none, none, none] [] (hS X M) (f_M_act x y z M) (KVM X) := by
  unfold f_M_act
  refine Sp.step rfl rfl rfl rfl ?_
  refine Sp.ite (fun e1 => ?_) (fun e1 => ?_)
  · refine Sp.step rfl rfl rfl (go_sw (t := 68) (sw_of e1 rfl)) ?_
    refine Sp.step rfl rfl rfl rfl ?_
    refine Sp.step rfl rfl rfl rfl ?_
    refine Sp.step rfl rfl rfl (mg_F (f := 31) rfl rfl rfl rfl) ?_
    refine Sp.step rfl rfl rfl rfl ?_
    refine Sp.guard (fun e2 => ?_)
    refine Sp.step rfl rfl rfl (mld rfl rfl (by decide) e2) ?_
    refine Sp.if1 rfl rfl rfl rfl (fun e3 => ?_) (fun e3 => ?_)
    · refine Sp.step rfl rfl rfl rfl ?_
      refine Sp.step rfl rfl rfl (mp_I (f := 32) rfl rfl rfl rfl) ?_
      refine Sp.step rfl rfl rfl rfl ?_
      refine Sp.step rfl rfl rfl rfl ?_
      refine Sp.step rfl rfl rfl (mg_F (f := 31) rfl rfl rfl rfl) ?_
      refine Sp.step rfl rfl rfl rfl ?_
      refine Sp.step rfl rfl rfl (mld rfl rfl (by decide) e2) ?_
      refine Sp.call rfl rfl rfl (mrecv (by decide) (by decide +kernel)) s_M_push (fun x5 => ⟨_, _, ⟨rfl, rfl⟩, ?_⟩)
      refine Sp.id (pc := 96) (l := [some (.ref 60), some (.int x), some (.int y), some (.int z), none, none, none, none, none, none, none, none]) (st := []) (h := hS X x5) ?_
      refine Sp.step rfl rfl rfl rfl ?_
      exact Sp.vret rfl rfl rfl (fun _ _ h => h)
    · refine Sp.step rfl rfl rfl rfl ?_
      refine Sp.step rfl rfl rfl rfl ?_
      refine Sp.step rfl rfl rfl (mp_I (f := 32) rfl rfl rfl rfl) ?_
      refine Sp.step rfl rfl rfl rfl ?_
      refine Sp.step rfl rfl rfl rfl ?_
      refine Sp.step rfl rfl rfl (mg_F (f := 31) rfl rfl rfl rfl) ?_
      refine Sp.step rfl rfl rfl rfl ?_
      refine Sp.step rfl rfl rfl (mld rfl rfl (by decide) e2) ?_
      refine Sp.call rfl rfl rfl (mrecv (by decide) (by decide +kernel)) s_M_push (fun x7 => ⟨_, _, ⟨rfl, rfl⟩, ?_⟩)
      refine Sp.id (pc := 96) (l := [some (.ref 60), some (.int x), some (.int y), some (.int z), none, none, none, none, none, none, none, none]) (st := []) (h := hS X x7) ?_
      refine Sp.step rfl rfl rfl rfl ?_
      exact Sp.vret rfl rfl rfl (fun _ _ h => h)
  · refine Sp.ite (fun e8 => ?_) (fun e8 => ?_)
    · refine Sp.step rfl rfl rfl (go_sw (t := 99) (sw_of e8 rfl)) ?_
      refine Sp.step rfl rfl rfl rfl ?_
      refine Sp.step rfl rfl rfl rfl ?_
      refine Sp.call rfl rfl rfl (mrecv (by decide) (by decide +kernel)) s_M_pop (fun x9 => ⟨_, _, ⟨rfl, rfl⟩, ?_⟩)
      refine Sp.id (pc := 104) (l := [some (.ref 60), some (.int x), some (.int y), some (.int z), none, none, none, none, none, none, none, none]) (st := [.int x9.1]) (h := hS X x9.2) ?_
      refine Sp.step rfl rfl rfl rfl ?_
      refine Sp.step rfl rfl rfl rfl ?_
      refine Sp.step rfl rfl rfl (mg_F (f := 31) rfl rfl rfl rfl) ?_
      refine Sp.step rfl rfl rfl rfl ?_
      refine Sp.step rfl rfl rfl rfl ?_
      refine Sp.step rfl rfl rfl (mg_I (f := 32) rfl rfl rfl) ?_
      refine Sp.if1 rfl rfl rfl rfl (fun e10 => ?_) (fun e10 => ?_)
      · refine Sp.step rfl rfl rfl rfl ?_
        refine Sp.guard (fun e11 => ?_)
        refine Sp.step rfl rfl rfl (mst rfl rfl (by decide) e11) ?_
        refine Sp.step rfl rfl rfl rfl ?_
        exact Sp.vret rfl rfl rfl (fun _ _ h => h)
      · refine Sp.step rfl rfl rfl rfl ?_
        refine Sp.step rfl rfl rfl (mg_F (f := 31) rfl rfl rfl rfl) ?_
        refine Sp.step rfl rfl rfl rfl ?_
        refine Sp.guard (fun e13 => ?_)
        refine Sp.step rfl rfl rfl (mld rfl rfl (by decide) e13) ?_
        refine Sp.step rfl rfl rfl rfl ?_
        refine Sp.step rfl rfl rfl (mst rfl rfl (by decide) e13) ?_
        refine Sp.step rfl rfl rfl rfl ?_
        exact Sp.vret rfl rfl rfl (fun _ _ h => h)
    · refine Sp.ite (fun e15 => ?_) (fun e15 => ?_)
      · refine Sp.step rfl rfl rfl (go_sw (t := 133) (sw_of e15 rfl)) ?_
        refine Sp.step rfl rfl rfl rfl ?_
        refine Sp.step rfl rfl rfl rfl ?_
        refine Sp.call rfl rfl rfl (mrecv (by decide) (by decide +kernel)) s_M_pop (fun x16 => ⟨_, _, ⟨rfl, rfl⟩, ?_⟩)
        refine Sp.id (pc := 138) (l := [some (.ref 60), some (.int x), some (.int y), some (.int z), none, none, none, none, none, none, none, none]) (st := [.int x16.1]) (h := hS X x16.2) ?_
        refine Sp.step rfl rfl rfl rfl ?_
        refine Sp.step rfl rfl rfl rfl ?_
        refine Sp.step rfl rfl rfl rfl ?_
        refine Sp.call rfl rfl rfl (mrecv (by decide) (by decide +kernel)) s_M_push (fun x17 => ⟨_, _, ⟨rfl, rfl⟩, ?_⟩)
        refine Sp.id (pc := 146) (l := [some (.ref 60), some (.int x), some (.int y), some (.int z), none, some (.int x16.1), none, none, none, none, none, none]) (st := []) (h := hS X x17) ?_
        refine Sp.step rfl rfl rfl rfl ?_
        refine Sp.step rfl rfl rfl rfl ?_
        refine Sp.call rfl rfl rfl (mrecv (by decide) (by decide +kernel)) s_M_push (fun x18 => ⟨_, _, ⟨rfl, rfl⟩, ?_⟩)
        refine Sp.id (pc := 152) (l := [some (.ref 60), some (.int x), some (.int y), some (.int z), none, some (.int x16.1), none, none, none, none, none, none]) (st := []) (h := hS X x18) ?_
        refine Sp.step rfl rfl rfl rfl ?_
        exact Sp.vret rfl rfl rfl (fun _ _ h => h)
      · refine Sp.ite (fun e19 => ?_) (fun e19 => ?_)
        · refine Sp.step rfl rfl rfl (go_sw (t := 155) (sw_of e19 rfl)) ?_
          refine Sp.step rfl rfl rfl rfl ?_
          refine Sp.step rfl rfl rfl rfl ?_
          refine Sp.call rfl rfl rfl (mrecv (by decide) (by decide +kernel)) s_M_pop (fun x20 => ⟨_, _, ⟨rfl, rfl⟩, ?_⟩)
          refine Sp.id (pc := 160) (l := [some (.ref 60), some (.int x), some (.int y), some (.int z), none, none, none, none, none, none, none, none]) (st := [.int x20.1]) (h := hS X x20.2) ?_
          refine Sp.step rfl rfl rfl rfl ?_
          refine Sp.step rfl rfl rfl rfl ?_
          exact Sp.vret rfl rfl rfl (fun _ _ h => h)
        · refine Sp.ite (fun e21 => ?_) (fun e21 => ?_)
          · refine Sp.step rfl rfl rfl (go_sw (t := 165) (sw_of e21 rfl)) ?_
            refine Sp.step rfl rfl rfl rfl ?_
            refine Sp.step rfl rfl rfl rfl ?_
            refine Sp.call rfl rfl rfl (mrecv (by decide) (by decide +kernel)) s_M_pop (fun x22 => ⟨_, _, ⟨rfl, rfl⟩, ?_⟩)
            refine Sp.id (pc := 170) (l := [some (.ref 60), some (.int x), some (.int y), some (.int z), none, none, none, none, none, none, none, none]) (st := [.int x22.1]) (h := hS X x22.2) ?_
            refine Sp.step rfl rfl rfl rfl ?_
            refine Sp.step rfl rfl rfl rfl ?_
            refine Sp.step rfl rfl rfl rfl ?_
            refine Sp.call rfl rfl rfl (mrecv (by decide) (by decide +kernel)) s_M_pop (fun x23 => ⟨_, _, ⟨rfl, rfl⟩, ?_⟩)
            refine Sp.id (pc := 177) (l := [some (.ref 60), some (.int x), some (.int y), some (.int z), none, none, none, some (.int x22.1), none, none, none, none]) (st := [.int x23.1]) (h := hS X x23.2) ?_
            refine Sp.step rfl rfl rfl rfl ?_
            refine Sp.step rfl rfl rfl rfl ?_
            refine Sp.step rfl rfl rfl rfl ?_
            refine Sp.call rfl rfl rfl (mrecv (by decide) (by decide +kernel)) s_M_push (fun x24 => ⟨_, _, ⟨rfl, rfl⟩, ?_⟩)
            refine Sp.id (pc := 185) (l := [some (.ref 60), some (.int x), some (.int y), some (.int z), none, none, none, some (.int x22.1), some (.int x23.1), none, none, none]) (st := []) (h := hS X x24) ?_
            refine Sp.step rfl rfl rfl rfl ?_
            refine Sp.step rfl rfl rfl rfl ?_
            refine Sp.call rfl rfl rfl (mrecv (by decide) (by decide +kernel)) s_M_push (fun x25 => ⟨_, _, ⟨rfl, rfl⟩, ?_⟩)
            refine Sp.id (pc := 191) (l := [some (.ref 60), some (.int x), some (.int y), some (.int z), none, none, none, some (.int x22.1), some (.int x23.1), none, none, none]) (st := []) (h := hS X x25) ?_
            refine Sp.step rfl rfl rfl rfl ?_
            exact Sp.vret rfl rfl rfl (fun _ _ h => h)
          · refine Sp.ite (fun e26 => ?_) (fun e26 => ?_)
            · refine Sp.step rfl rfl rfl (go_sw (t := 194) (sw_of e26 rfl)) ?_
              refine Sp.step rfl rfl rfl rfl ?_
              refine Sp.step rfl rfl rfl rfl ?_
              refine Sp.call rfl rfl rfl (mrecv (by decide) (by decide +kernel)) s_M_popArguments (fun x27 => ⟨_, _, ⟨rfl, rfl⟩, ?_⟩)
              refine Sp.id (pc := 199) (l := [some (.ref 60), some (.int x), some (.int y), some (.int z), none, none, none, none, none, none, none, none]) (st := []) (h := hS X x27) ?_
              refine Sp.step rfl rfl rfl rfl ?_
              refine Sp.step rfl rfl rfl rfl ?_
              refine Sp.call rfl rfl rfl (mrecv (by decide) (by decide +kernel)) s_M_pushReturn (fun x28 => ⟨_, _, ⟨rfl, rfl⟩, ?_⟩)
              refine Sp.id (pc := 204) (l := [some (.ref 60), some (.int x), some (.int y), some (.int z), none, none, none, none, none, none, none, none]) (st := []) (h := hS X x28) ?_
              refine Sp.step rfl rfl rfl rfl ?_
              exact Sp.vret rfl rfl rfl (fun _ _ h => h)
            · refine Sp.ite (fun e29 => ?_) (fun e29 => ?_)
              · refine Sp.step rfl rfl rfl (go_sw (t := 207) (sw_of e29 rfl)) ?_
                refine Sp.step rfl rfl rfl rfl ?_
                refine Sp.step rfl rfl rfl rfl ?_
                refine Sp.step rfl rfl rfl rfl ?_
                refine Sp.call rfl rfl rfl (mrecv (by decide) (by decide +kernel)) s_M_anyOf (fun x30 => ⟨_, _, ⟨rfl, rfl⟩, ?_⟩)
                refine Sp.id (pc := 213) (l := [some (.ref 60), some (.int x), some (.int y), some (.int z), none, none, none, none, none, none, none, none]) (st := [.int x30, .ref 60]) (h := hS X M) ?_
                refine Sp.call rfl rfl rfl (mrecv (by decide) (by decide +kernel)) s_M_popArguments (fun x31 => ⟨_, _, ⟨rfl, rfl⟩, ?_⟩)
                refine Sp.id (pc := 216) (l := [some (.ref 60), some (.int x), some (.int y), some (.int z), none, none, none, none, none, none, none, none]) (st := []) (h := hS X x31) ?_
                refine Sp.step rfl rfl rfl rfl ?_
                refine Sp.step rfl rfl rfl rfl ?_
                refine Sp.call rfl rfl rfl (mrecv (by decide) (by decide +kernel)) s_M_pop (fun x32 => ⟨_, _, ⟨rfl, rfl⟩, ?_⟩)
                refine Sp.id (pc := 221) (l := [some (.ref 60), some (.int x), some (.int y), some (.int z), none, none, none, none, none, none, none, none]) (st := [.int x32.1]) (h := hS X x32.2) ?_
                refine Sp.step rfl rfl rfl rfl ?_
                refine Sp.step rfl rfl rfl rfl ?_
                refine Sp.step rfl rfl rfl rfl ?_
                refine Sp.step rfl rfl rfl rfl ?_
                refine Sp.call rfl rfl rfl (mrecv (by decide) (by decide +kernel)) s_M_anyOf (fun x33 => ⟨_, _, ⟨rfl, rfl⟩, ?_⟩)
                refine Sp.id (pc := 229) (l := [some (.ref 60), some (.int x), some (.int y), some (.int z), none, none, none, none, none, some (.int x32.1), none, none]) (st := [.int x33, .ref 60]) (h := hS X x32.2) ?_
                refine Sp.call rfl rfl rfl (mrecv (by decide) (by decide +kernel)) s_M_pushReturn (fun x34 => ⟨_, _, ⟨rfl, rfl⟩, ?_⟩)
                refine Sp.id (pc := 232) (l := [some (.ref 60), some (.int x), some (.int y), some (.int z), none, none, none, none, none, some (.int x32.1), none, none]) (st := []) (h := hS X x34) ?_
                refine Sp.step rfl rfl rfl rfl ?_
                exact Sp.vret rfl rfl rfl (fun _ _ h => h)
              · refine Sp.step rfl rfl rfl (go_sw (t := 235) (mjSw_dflt _ (by
                  intro q hq
                  simp only [List.mem_cons, List.not_mem_nil, or_false] at hq
                  rcases hq with rfl | rfl | rfl | rfl | rfl | rfl | rfl
                  · exact fun h => absurd h (fun h => e1 h)
                  · exact fun h => absurd h (fun h => e8 h)
                  · exact fun h => absurd h (fun h => e15 h)
                  · exact fun h => absurd h (fun h => e19 h)
                  · exact fun h => absurd h (fun h => e21 h)
                  · exact fun h => absurd h (fun h => e26 h)
                  · exact fun h => absurd h (fun h => e29 h)))) ?_
                refine Sp.step rfl rfl rfl rfl ?_
                refine Sp.step rfl rfl rfl rfl ?_
                refine Sp.guard (fun e35 => ?_)
                refine Sp.step rfl rfl rfl (old_ld (f := oT 2) rfl e35) ?_
                refine Sp.step rfl rfl rfl rfl ?_
                refine Sp.weak (l0 := [some (.ref 60), none, some (.int y), none, none, none, none, none, none, none, some (.int (oT 2 y.toNatClampNeg)), none]) ⟨rfl, rfl, rfl, trivial⟩ ?_
                refine Sp.loopX (pe := 268) (mf := (fun (x39 : (Int32 × MS)) => [some (.ref 60), none, some (.int y), none, none, none, none, none, none, none, some (.int x39.1), none])) (hf := (fun (x39 : (Int32 × MS)) => hS X x39.2)) (fun x39 => ?_) (fun x42 => ?_) _ _
                · unfold b242_M_act
                  refine Sp.step rfl rfl rfl rfl ?_
                  refine Sp.if1 rfl rfl rfl rfl (fun e40 => ?_) (fun e40 => ?_)
                  · exact Sp.jmp (l0 := [some (.ref 60), none, some (.int y), none, none, none, none, none, none, none, some (.int x39.1), none]) ⟨rfl, rfl, rfl, trivial⟩ (fun _ _ h => h)
                  · refine Sp.step rfl rfl rfl rfl ?_
                    refine Sp.step rfl rfl rfl rfl ?_
                    refine Sp.step rfl rfl rfl rfl ?_
                    refine Sp.step rfl rfl rfl (go_div (by decide)) ?_
                    refine Sp.call rfl rfl rfl (mrecv (by decide) (by decide +kernel)) s_M_pop (fun x41 => ⟨_, _, ⟨rfl, rfl⟩, ?_⟩)
                    refine Sp.id (pc := 256) (l := [some (.ref 60), none, some (.int y), none, none, none, none, none, none, none, some (.int x39.1), none]) (st := [.int x41.1]) (h := hS X x41.2) ?_
                    refine Sp.step rfl rfl rfl rfl ?_
                    refine Sp.step rfl rfl rfl rfl ?_
                    refine Sp.step rfl rfl rfl rfl ?_
                    refine Sp.step rfl rfl rfl (go_div (by decide)) ?_
                    refine Sp.step rfl rfl rfl rfl ?_
                    refine Sp.step rfl rfl rfl rfl ?_
                    exact Sp.jmp (l0 := [some (.ref 60), none, some (.int y), none, none, none, none, none, none, none, some (.int (x39.1 / 10)), none]) ⟨rfl, rfl, rfl, trivial⟩ (fun _ _ h => h)
                · refine Sp.step rfl rfl rfl rfl ?_
                  refine Sp.step rfl rfl rfl rfl ?_
                  refine Sp.guard (fun e43 => ?_)
                  refine Sp.step rfl rfl rfl (old_ld (f := oT 3) rfl e43) ?_
                  refine Sp.if1 rfl rfl rfl rfl (fun e44 => ?_) (fun e44 => ?_)
                  · exact Sp.vret rfl rfl rfl (fun _ _ h => h)
                  · refine Sp.step rfl rfl rfl rfl ?_
                    refine Sp.step rfl rfl rfl rfl ?_
                    refine Sp.step rfl rfl rfl rfl ?_
                    refine Sp.step rfl rfl rfl (old_ld (f := oT 3) rfl e43) ?_
                    refine Sp.call rfl rfl rfl (mrecv (by decide) (by decide +kernel)) s_M_push (fun x45 => ⟨_, _, ⟨rfl, rfl⟩, ?_⟩)
                    refine Sp.id (pc := 285) (l := [some (.ref 60), none, some (.int y), none, none, none, none, none, none, none, some (.int x42.1), none]) (st := []) (h := hS X x45) ?_
                    exact Sp.vret rfl rfl rfl (fun _ _ h => h)
def b45_M_lookAt (y : Int32) (x10 : (Int32 × MS)) : Option ((Int32 × MS) ⊕ (Int32 × MS)) := (if x10.2.1 60 30 ≤ x10.1 then some (.inr (x10.1, x10.2)) else (if ixo ((10 * y) + x10.1) 600 then (if ixo x10.1 16 then (lt (mw x10.2 86 x10.1.toNatClampNeg (x10.2.1 84 ((10 * y) + x10.1).toNatClampNeg)) fun M14 => some (.inl (x10.1 + 1, M14))) else none) else none))
def b82_M_lookAt (y : Int32) (x21 : (Int32 × MS)) : Option ((Int32 × MS) ⊕ (Int32 × MS)) := (if 12 ≤ x21.1 then some (.inr (x21.1, x21.2)) else (if ixo ((12 * y) + x21.1) 720 then (if ixo x21.1 12 then (lt (mw x21.2 87 x21.1.toNatClampNeg (x21.2.1 85 ((12 * y) + x21.1).toNatClampNeg)) fun M25 => some (.inl (x21.1 + 1, M25))) else none) else none))
def b117_M_lookAt (x : Int32) (y : Int32) (x40 : (Int32 × MS)) : Option ((Int32 × MS) ⊕ ((Int32 × MS) ⊕ (Int32 × MS))) := (if ixo x 24 then (if x40.2.1 73 x.toNatClampNeg ≤ x40.1 then some (.inr (.inl (x40.1, x40.2))) else (if ixo ((24 * x) + (4 * x40.1)) 576 then (if y < x40.2.1 74 ((24 * x) + (4 * x40.1)).toNatClampNeg then some (.inl (x40.1 + 1, x40.2)) else (if ixo (((24 * x) + (4 * x40.1)) + 1) 576 then (if x40.2.1 74 (((24 * x) + (4 * x40.1)) + 1).toNatClampNeg ≤ y then some (.inl (x40.1 + 1, x40.2)) else (if ixo (((24 * x) + (4 * x40.1)) + 2) 576 then ((f_M_comeTo_90 x (x40.2.1 74 (((24 * x) + (4 * x40.1)) + 2).toNatClampNeg) 1 x40.2).bind fun x48 => (if x48.1 = true then some (.inl (x40.1 + 1, x48.2)) else (if ixo (((24 * x) + (4 * x40.1)) + 2) 576 then some (.inr (.inr (x48.2.1 74 (((24 * x) + (4 * x40.1)) + 2).toNatClampNeg, x48.2))) else none))) else none)) else none)) else none)) else none)
def f_M_lookAt (x : Int32) (y : Int32) (M : MS) : Option (Int32 × MS) := (if ixo ((60 * x) + y) 1440 then (if ixo y 60 then (lt (mw M 82 y.toNatClampNeg 0) fun M3 => (lt (mw M3 60 30 (M3.1 83 y.toNatClampNeg)) fun M4 => ((lp (b45_M_lookAt y) 10000 ((0 : Int32), M4)).bind fun x15 => ((lp (b82_M_lookAt y) 10000 ((0 : Int32), x15.2)).bind fun x26 => ((lp (b117_M_lookAt x y) 10000 ((0 : Int32), x26.2)).bind fun s => sb s fun x53 => ((f_M_hasOperand x (M.1 71 ((60 * x) + y).toNatClampNeg) (M.1 72 ((60 * x) + y).toNatClampNeg) x53.2).bind fun x54 => (if x54 = true then (lt (mw x53.2 60 32 0) fun M57 => (((if ¬ M57.1 60 32 = 0 then some M57 else ((f_M_act x (M.1 71 ((60 * x) + y).toNatClampNeg) (M.1 72 ((60 * x) + y).toNatClampNeg) M57).bind fun x59 => some x59)) : Option (MS)).bind fun x60 => (if x60.1 60 32 = 0 then (if 19 ≤ M.1 71 ((60 * x) + y).toNatClampNeg ∧ M.1 71 ((60 * x) + y).toNatClampNeg ≤ 25 then ((f_M_comeTo_86 x (M.1 72 ((60 * x) + y).toNatClampNeg) (x60.1 60 30) x60).bind fun x64 => (if x64.1 = true then (if M.1 71 ((60 * x) + y).toNatClampNeg = 19 then some ((-2), x64.2) else (if 40 ≤ M.1 71 ((60 * x) + y).toNatClampNeg ∧ M.1 71 ((60 * x) + y).toNatClampNeg ≤ 43 then some ((-2), x64.2) else (if ixo x 24 then (if ¬ y + 1 = x64.2.1 70 x.toNatClampNeg then ((f_M_comeTo_86 x (y + 1) (x64.2.1 60 30) x64.2).bind fun x73 => (if x73.1 = true then some ((-2), x73.2) else some (y + 1, x73.2))) else some (y, x64.2)) else none))) else some (M.1 72 ((60 * x) + y).toNatClampNeg, x64.2))) else (if M.1 71 ((60 * x) + y).toNatClampNeg = 19 then some ((-2), x60) else (if 40 ≤ M.1 71 ((60 * x) + y).toNatClampNeg ∧ M.1 71 ((60 * x) + y).toNatClampNeg ≤ 43 then some ((-2), x60) else (if ixo x 24 then (if ¬ y + 1 = x60.1 70 x.toNatClampNeg then ((f_M_comeTo_86 x (y + 1) (x60.1 60 30) x60).bind fun x85 => (if x85.1 = true then some ((-2), x85.2) else some (y + 1, x85.2))) else some (y, x60)) else none)))) else some (y, x60)))) else (lt (mw x53.2 60 32 1) fun M90 => (((if ¬ M90.1 60 32 = 0 then some M90 else ((f_M_act x (M.1 71 ((60 * x) + y).toNatClampNeg) (M.1 72 ((60 * x) + y).toNatClampNeg) M90).bind fun x92 => some x92)) : Option (MS)).bind fun x93 => (if x93.1 60 32 = 0 then (if 19 ≤ M.1 71 ((60 * x) + y).toNatClampNeg ∧ M.1 71 ((60 * x) + y).toNatClampNeg ≤ 25 then ((f_M_comeTo_86 x (M.1 72 ((60 * x) + y).toNatClampNeg) (x93.1 60 30) x93).bind fun x97 => (if x97.1 = true then (if M.1 71 ((60 * x) + y).toNatClampNeg = 19 then some ((-2), x97.2) else (if 40 ≤ M.1 71 ((60 * x) + y).toNatClampNeg ∧ M.1 71 ((60 * x) + y).toNatClampNeg ≤ 43 then some ((-2), x97.2) else (if ixo x 24 then (if ¬ y + 1 = x97.2.1 70 x.toNatClampNeg then ((f_M_comeTo_86 x (y + 1) (x97.2.1 60 30) x97.2).bind fun x106 => (if x106.1 = true then some ((-2), x106.2) else some (y + 1, x106.2))) else some (y, x97.2)) else none))) else some (M.1 72 ((60 * x) + y).toNatClampNeg, x97.2))) else (if M.1 71 ((60 * x) + y).toNatClampNeg = 19 then some ((-2), x93) else (if 40 ≤ M.1 71 ((60 * x) + y).toNatClampNeg ∧ M.1 71 ((60 * x) + y).toNatClampNeg ≤ 43 then some ((-2), x93) else (if ixo x 24 then (if ¬ y + 1 = x93.1 70 x.toNatClampNeg then ((f_M_comeTo_86 x (y + 1) (x93.1 60 30) x93).bind fun x118 => (if x118.1 = true then some ((-2), x118.2) else some (y + 1, x118.2))) else some (y, x93)) else none)))) else some (y, x93))))))))))) else none) else none)
set_option maxRecDepth 100000 in
set_option maxHeartbeats 4000000 in
theorem s_M_lookAt {L : Nat} {xs : Nat → Int32} {X : XS} {M : MS} {x : Int32} {y : Int32} : Sp (mjOO L xs) 43 0 [some (.ref 60), some (.int x), some (.int y), none, none, none, none] [] (hS X M) (f_M_lookAt x y M) (KEM X) := by
  unfold f_M_lookAt
  refine Sp.step rfl rfl rfl rfl ?_
  refine Sp.step rfl rfl rfl (mg_F (f := 11) rfl rfl rfl rfl) ?_
  refine Sp.step rfl rfl rfl rfl ?_
  refine Sp.step rfl rfl rfl rfl ?_
  refine Sp.step rfl rfl rfl rfl ?_
  refine Sp.step rfl rfl rfl rfl ?_
  refine Sp.step rfl rfl rfl rfl ?_
  refine Sp.guard (fun e1 => ?_)
  refine Sp.step rfl rfl rfl (mld rfl rfl (by decide) e1) ?_
  refine Sp.step rfl rfl rfl rfl ?_
  refine Sp.step rfl rfl rfl rfl ?_
  refine Sp.step rfl rfl rfl (mg_F (f := 12) rfl rfl rfl rfl) ?_
  refine Sp.step rfl rfl rfl rfl ?_
  refine Sp.step rfl rfl rfl rfl ?_
  refine Sp.step rfl rfl rfl rfl ?_
  refine Sp.step rfl rfl rfl rfl ?_
  refine Sp.step rfl rfl rfl rfl ?_
  refine Sp.step rfl rfl rfl (mld rfl rfl (by decide) e1) ?_
  refine Sp.step rfl rfl rfl rfl ?_
  refine Sp.step rfl rfl rfl rfl ?_
  refine Sp.step rfl rfl rfl (mg_F (f := 25) rfl rfl rfl rfl) ?_
  refine Sp.step rfl rfl rfl rfl ?_
  refine Sp.step rfl rfl rfl rfl ?_
  refine Sp.guard (fun e2 => ?_)
  refine Sp.step rfl rfl rfl (mst0 rfl rfl e2) ?_
  refine Sp.step rfl rfl rfl rfl ?_
  refine Sp.step rfl rfl rfl rfl ?_
  refine Sp.step rfl rfl rfl (mg_F (f := 26) rfl rfl rfl rfl) ?_
  refine Sp.step rfl rfl rfl rfl ?_
  refine Sp.step rfl rfl rfl (mld rfl rfl (by decide) e2) ?_
  refine Sp.step rfl rfl rfl (mp_I (f := 30) rfl rfl rfl rfl) ?_
  refine Sp.step rfl rfl rfl rfl ?_
  refine Sp.step rfl rfl rfl rfl ?_
  refine Sp.weak (l0 := [some (.ref 60), some (.int x), some (.int y), some (.int (M.1 71 ((60 * x) + y).toNatClampNeg)), some (.int (M.1 72 ((60 * x) + y).toNatClampNeg)), some (.int 0), none]) ⟨rfl, rfl, rfl, rfl, rfl, rfl, trivial⟩ ?_
  refine Sp.loopX (pe := 79) (mf := (fun (x10 : (Int32 × MS)) => [some (.ref 60), some (.int x), some (.int y), some (.int (M.1 71 ((60 * x) + y).toNatClampNeg)), some (.int (M.1 72 ((60 * x) + y).toNatClampNeg)), some (.int x10.1), none])) (hf := (fun (x10 : (Int32 × MS)) => hS X x10.2)) (fun x10 => ?_) (fun x15 => ?_) _ _
  · unfold b45_M_lookAt
    refine Sp.step rfl rfl rfl rfl ?_
    refine Sp.step rfl rfl rfl rfl ?_
    refine Sp.step rfl rfl rfl (mg_I (f := 30) rfl rfl rfl) ?_
    refine Sp.if2 rfl rfl rfl rfl (fun e11 => ?_) (fun e11 => ?_)
    · exact Sp.jmp (l0 := [some (.ref 60), some (.int x), some (.int y), some (.int (M.1 71 ((60 * x) + y).toNatClampNeg)), some (.int (M.1 72 ((60 * x) + y).toNatClampNeg)), some (.int x10.1), none]) ⟨rfl, rfl, rfl, rfl, rfl, rfl, trivial⟩ (fun _ _ h => h)
    · refine Sp.step rfl rfl rfl rfl ?_
      refine Sp.step rfl rfl rfl (mg_F (f := 29) rfl rfl rfl rfl) ?_
      refine Sp.step rfl rfl rfl rfl ?_
      refine Sp.step rfl rfl rfl rfl ?_
      refine Sp.step rfl rfl rfl (mg_F (f := 27) rfl rfl rfl rfl) ?_
      refine Sp.step rfl rfl rfl rfl ?_
      refine Sp.step rfl rfl rfl rfl ?_
      refine Sp.step rfl rfl rfl rfl ?_
      refine Sp.step rfl rfl rfl rfl ?_
      refine Sp.step rfl rfl rfl rfl ?_
      refine Sp.guard (fun e12 => ?_)
      refine Sp.step rfl rfl rfl (mld rfl rfl (by decide) e12) ?_
      refine Sp.guard (fun e13 => ?_)
      refine Sp.step rfl rfl rfl (mst rfl rfl (by decide) e13) ?_
      refine Sp.step rfl rfl rfl rfl ?_
      refine Sp.step rfl rfl rfl rfl ?_
      exact Sp.jmp (l0 := [some (.ref 60), some (.int x), some (.int y), some (.int (M.1 71 ((60 * x) + y).toNatClampNeg)), some (.int (M.1 72 ((60 * x) + y).toNatClampNeg)), some (.int (x10.1 + 1)), none]) ⟨rfl, rfl, rfl, rfl, rfl, rfl, trivial⟩ (fun _ _ h => h)
  · refine Sp.step rfl rfl rfl rfl ?_
    refine Sp.step rfl rfl rfl rfl ?_
    refine Sp.weak (l0 := [some (.ref 60), some (.int x), some (.int y), some (.int (M.1 71 ((60 * x) + y).toNatClampNeg)), some (.int (M.1 72 ((60 * x) + y).toNatClampNeg)), some (.int 0), none]) ⟨rfl, rfl, rfl, rfl, rfl, rfl, trivial⟩ ?_
    refine Sp.loopX (pe := 114) (mf := (fun (x21 : (Int32 × MS)) => [some (.ref 60), some (.int x), some (.int y), some (.int (M.1 71 ((60 * x) + y).toNatClampNeg)), some (.int (M.1 72 ((60 * x) + y).toNatClampNeg)), some (.int x21.1), none])) (hf := (fun (x21 : (Int32 × MS)) => hS X x21.2)) (fun x21 => ?_) (fun x26 => ?_) _ _
    · unfold b82_M_lookAt
      refine Sp.step rfl rfl rfl rfl ?_
      refine Sp.step rfl rfl rfl rfl ?_
      refine Sp.if2 rfl rfl rfl rfl (fun e22 => ?_) (fun e22 => ?_)
      · exact Sp.jmp (l0 := [some (.ref 60), some (.int x), some (.int y), some (.int (M.1 71 ((60 * x) + y).toNatClampNeg)), some (.int (M.1 72 ((60 * x) + y).toNatClampNeg)), some (.int x21.1), none]) ⟨rfl, rfl, rfl, rfl, rfl, rfl, trivial⟩ (fun _ _ h => h)
      · refine Sp.step rfl rfl rfl rfl ?_
        refine Sp.step rfl rfl rfl (mg_F (f := 31) rfl rfl rfl rfl) ?_
        refine Sp.step rfl rfl rfl rfl ?_
        refine Sp.step rfl rfl rfl rfl ?_
        refine Sp.step rfl rfl rfl (mg_F (f := 28) rfl rfl rfl rfl) ?_
        refine Sp.step rfl rfl rfl rfl ?_
        refine Sp.step rfl rfl rfl rfl ?_
        refine Sp.step rfl rfl rfl rfl ?_
        refine Sp.step rfl rfl rfl rfl ?_
        refine Sp.step rfl rfl rfl rfl ?_
        refine Sp.guard (fun e23 => ?_)
        refine Sp.step rfl rfl rfl (mld rfl rfl (by decide) e23) ?_
        refine Sp.guard (fun e24 => ?_)
        refine Sp.step rfl rfl rfl (mst rfl rfl (by decide) e24) ?_
        refine Sp.step rfl rfl rfl rfl ?_
        refine Sp.step rfl rfl rfl rfl ?_
        exact Sp.jmp (l0 := [some (.ref 60), some (.int x), some (.int y), some (.int (M.1 71 ((60 * x) + y).toNatClampNeg)), some (.int (M.1 72 ((60 * x) + y).toNatClampNeg)), some (.int (x21.1 + 1)), none]) ⟨rfl, rfl, rfl, rfl, rfl, rfl, trivial⟩ (fun _ _ h => h)
    · refine Sp.step rfl rfl rfl rfl ?_
      refine Sp.step rfl rfl rfl rfl ?_
      refine Sp.weak (l0 := [some (.ref 60), some (.int x), some (.int y), some (.int (M.1 71 ((60 * x) + y).toNatClampNeg)), some (.int (M.1 72 ((60 * x) + y).toNatClampNeg)), some (.int 0), none]) ⟨rfl, rfl, rfl, rfl, rfl, rfl, trivial⟩ ?_
      refine Sp.loopY (pe := 201) (mf := (fun (x40 : (Int32 × MS)) => [some (.ref 60), some (.int x), some (.int y), some (.int (M.1 71 ((60 * x) + y).toNatClampNeg)), some (.int (M.1 72 ((60 * x) + y).toNatClampNeg)), some (.int x40.1), none])) (hf := (fun (x40 : (Int32 × MS)) => hS X x40.2)) (fun x40 => ?_) (fun x53 => ?_) _ _
      · unfold b117_M_lookAt
        refine Sp.step rfl rfl rfl rfl ?_
        refine Sp.step rfl rfl rfl rfl ?_
        refine Sp.step rfl rfl rfl (mg_F (f := 13) rfl rfl rfl rfl) ?_
        refine Sp.step rfl rfl rfl rfl ?_
        refine Sp.guard (fun e41 => ?_)
        refine Sp.step rfl rfl rfl (mld rfl rfl (by decide) e41) ?_
        refine Sp.if2 rfl rfl rfl rfl (fun e42 => ?_) (fun e42 => ?_)
        · exact Sp.jmp (l0 := [some (.ref 60), some (.int x), some (.int y), some (.int (M.1 71 ((60 * x) + y).toNatClampNeg)), some (.int (M.1 72 ((60 * x) + y).toNatClampNeg)), some (.int x40.1), none]) ⟨rfl, rfl, rfl, rfl, rfl, rfl, trivial⟩ (fun _ _ h => h)
        · refine Sp.step rfl rfl rfl rfl ?_
          refine Sp.step rfl rfl rfl rfl ?_
          refine Sp.step rfl rfl rfl rfl ?_
          refine Sp.step rfl rfl rfl rfl ?_
          refine Sp.step rfl rfl rfl rfl ?_
          refine Sp.step rfl rfl rfl rfl ?_
          refine Sp.step rfl rfl rfl rfl ?_
          refine Sp.step rfl rfl rfl rfl ?_
          refine Sp.step rfl rfl rfl rfl ?_
          refine Sp.step rfl rfl rfl rfl ?_
          refine Sp.step rfl rfl rfl (mg_F (f := 14) rfl rfl rfl rfl) ?_
          refine Sp.step rfl rfl rfl rfl ?_
          refine Sp.guard (fun e43 => ?_)
          refine Sp.step rfl rfl rfl (mld rfl rfl (by decide) e43) ?_
          refine Sp.if2 rfl rfl rfl rfl (fun e44 => ?_) (fun e44 => ?_)
          · refine Sp.step rfl rfl rfl rfl ?_
            refine Sp.step rfl rfl rfl rfl ?_
            exact Sp.jmp (l0 := [some (.ref 60), some (.int x), some (.int y), some (.int (M.1 71 ((60 * x) + y).toNatClampNeg)), some (.int (M.1 72 ((60 * x) + y).toNatClampNeg)), some (.int (x40.1 + 1)), none]) ⟨rfl, rfl, rfl, rfl, rfl, rfl, trivial⟩ (fun _ _ h => h)
          · refine Sp.step rfl rfl rfl rfl ?_
            refine Sp.step rfl rfl rfl rfl ?_
            refine Sp.step rfl rfl rfl (mg_F (f := 14) rfl rfl rfl rfl) ?_
            refine Sp.step rfl rfl rfl rfl ?_
            refine Sp.step rfl rfl rfl rfl ?_
            refine Sp.step rfl rfl rfl rfl ?_
            refine Sp.guard (fun e45 => ?_)
            refine Sp.step rfl rfl rfl (mld rfl rfl (by decide) e45) ?_
            refine Sp.if2 rfl rfl rfl rfl (fun e46 => ?_) (fun e46 => ?_)
            · refine Sp.step rfl rfl rfl rfl ?_
              refine Sp.step rfl rfl rfl rfl ?_
              exact Sp.jmp (l0 := [some (.ref 60), some (.int x), some (.int y), some (.int (M.1 71 ((60 * x) + y).toNatClampNeg)), some (.int (M.1 72 ((60 * x) + y).toNatClampNeg)), some (.int (x40.1 + 1)), none]) ⟨rfl, rfl, rfl, rfl, rfl, rfl, trivial⟩ (fun _ _ h => h)
            · refine Sp.step rfl rfl rfl rfl ?_
              refine Sp.step rfl rfl rfl rfl ?_
              refine Sp.step rfl rfl rfl rfl ?_
              refine Sp.step rfl rfl rfl (mg_F (f := 14) rfl rfl rfl rfl) ?_
              refine Sp.step rfl rfl rfl rfl ?_
              refine Sp.step rfl rfl rfl rfl ?_
              refine Sp.step rfl rfl rfl rfl ?_
              refine Sp.guard (fun e47 => ?_)
              refine Sp.step rfl rfl rfl (mld rfl rfl (by decide) e47) ?_
              refine Sp.step rfl rfl rfl rfl ?_
              refine Sp.step rfl rfl rfl (mg_F (f := 35) rfl rfl rfl rfl) ?_
              refine Sp.step rfl rfl rfl rfl ?_
              refine Sp.call rfl rfl rfl (mrecv (by decide) (by decide +kernel)) s_M_comeTo_90 (fun x48 => ⟨_, _, ⟨rfl, rfl⟩, ?_⟩)
              refine Sp.bool (fun e49 => ?_) (fun e49 => ?_)
              · refine Sp.id (pc := 182) (l := [some (.ref 60), some (.int x), some (.int y), some (.int (M.1 71 ((60 * x) + y).toNatClampNeg)), some (.int (M.1 72 ((60 * x) + y).toNatClampNeg)), some (.int x40.1), some (.int ((24 * x) + (4 * x40.1)))]) (st := [.int 1]) (h := hS X x48.2) ?_
                refine Sp.step rfl rfl rfl rfl ?_
                refine Sp.step rfl rfl rfl rfl ?_
                refine Sp.step rfl rfl rfl rfl ?_
                exact Sp.jmp (l0 := [some (.ref 60), some (.int x), some (.int y), some (.int (M.1 71 ((60 * x) + y).toNatClampNeg)), some (.int (M.1 72 ((60 * x) + y).toNatClampNeg)), some (.int (x40.1 + 1)), none]) ⟨rfl, rfl, rfl, rfl, rfl, rfl, trivial⟩ (fun _ _ h => h)
              · refine Sp.id (pc := 182) (l := [some (.ref 60), some (.int x), some (.int y), some (.int (M.1 71 ((60 * x) + y).toNatClampNeg)), some (.int (M.1 72 ((60 * x) + y).toNatClampNeg)), some (.int x40.1), some (.int ((24 * x) + (4 * x40.1)))]) (st := [.int 0]) (h := hS X x48.2) ?_
                refine Sp.step rfl rfl rfl rfl ?_
                refine Sp.step rfl rfl rfl rfl ?_
                refine Sp.step rfl rfl rfl (mg_F (f := 14) rfl rfl rfl rfl) ?_
                refine Sp.step rfl rfl rfl rfl ?_
                refine Sp.step rfl rfl rfl rfl ?_
                refine Sp.step rfl rfl rfl rfl ?_
                refine Sp.guard (fun e52 => ?_)
                refine Sp.step rfl rfl rfl (mld rfl rfl (by decide) e52) ?_
                exact Sp.iret rfl rfl rfl rfl (fun _ _ h => h)
      · refine Sp.step rfl rfl rfl rfl ?_
        refine Sp.step rfl rfl rfl rfl ?_
        refine Sp.step rfl rfl rfl rfl ?_
        refine Sp.step rfl rfl rfl rfl ?_
        refine Sp.step rfl rfl rfl rfl ?_
        refine Sp.call rfl rfl rfl (mrecv (by decide) (by decide +kernel)) s_M_hasOperand (fun x54 => ⟨_, _, ⟨rfl, rfl⟩, ?_⟩)
        refine Sp.bool (fun e55 => ?_) (fun e55 => ?_)
        · refine Sp.id (pc := 210) (l := [some (.ref 60), some (.int x), some (.int y), some (.int (M.1 71 ((60 * x) + y).toNatClampNeg)), some (.int (M.1 72 ((60 * x) + y).toNatClampNeg)), some (.int x53.1), none]) (st := [.int 1, .ref 60]) (h := hS X x53.2) ?_
          refine Sp.step rfl rfl rfl rfl ?_
          refine Sp.step rfl rfl rfl rfl ?_
          refine Sp.step rfl rfl rfl (mp_I (f := 32) rfl rfl rfl rfl) ?_
          refine Sp.step rfl rfl rfl rfl ?_
          refine Sp.step rfl rfl rfl (mg_I (f := 32) rfl rfl rfl) ?_
          refine Sp.piece (pe := 236) (mf := (fun (x60 : MS) => [some (.ref 60), some (.int x), some (.int y), some (.int (M.1 71 ((60 * x) + y).toNatClampNeg)), some (.int (M.1 72 ((60 * x) + y).toNatClampNeg)), none, none])) (sf := (fun (x60 : MS) => [])) (hf := (fun (x60 : MS) => hS X x60)) ?_ (fun x60 => ?_)
          · refine Sp.if1 rfl rfl rfl rfl (fun e58 => ?_) (fun e58 => ?_)
            · exact Sp.jmp (l0 := [some (.ref 60), some (.int x), some (.int y), some (.int (M.1 71 ((60 * x) + y).toNatClampNeg)), some (.int (M.1 72 ((60 * x) + y).toNatClampNeg)), none, none]) ⟨rfl, rfl, rfl, rfl, rfl, trivial⟩ (fun _ _ h => h)
            · refine Sp.step rfl rfl rfl rfl ?_
              refine Sp.step rfl rfl rfl rfl ?_
              refine Sp.step rfl rfl rfl rfl ?_
              refine Sp.step rfl rfl rfl rfl ?_
              refine Sp.call rfl rfl rfl (mrecv (by decide) (by decide +kernel)) s_M_act (fun x59 => ⟨_, _, ⟨rfl, rfl⟩, ?_⟩)
              refine Sp.id (pc := 236) (l := [some (.ref 60), some (.int x), some (.int y), some (.int (M.1 71 ((60 * x) + y).toNatClampNeg)), some (.int (M.1 72 ((60 * x) + y).toNatClampNeg)), some (.int x53.1), none]) (st := []) (h := hS X x59) ?_
              exact Sp.jmp (l0 := [some (.ref 60), some (.int x), some (.int y), some (.int (M.1 71 ((60 * x) + y).toNatClampNeg)), some (.int (M.1 72 ((60 * x) + y).toNatClampNeg)), none, none]) ⟨rfl, rfl, rfl, rfl, rfl, trivial⟩ (fun _ _ h => h)
          · refine Sp.step rfl rfl rfl rfl ?_
            refine Sp.step rfl rfl rfl (mg_I (f := 32) rfl rfl rfl) ?_
            refine Sp.if1 rfl rfl rfl rfl (fun e61 => ?_) (fun e61 => ?_)
            · refine Sp.step rfl rfl rfl rfl ?_
              refine Sp.step rfl rfl rfl rfl ?_
              refine Sp.step rfl rfl rfl rfl ?_
              refine Sp.callP rfl rfl rfl rfl s_isIn (fun e62 => ?_) (fun e62 => ?_)
              · refine Sp.id (pc := 253) (l := [some (.ref 60), some (.int x), some (.int y), some (.int (M.1 71 ((60 * x) + y).toNatClampNeg)), some (.int (M.1 72 ((60 * x) + y).toNatClampNeg)), none, none]) (st := [.int 1]) (h := hS X x60) ?_
                refine Sp.step rfl rfl rfl rfl ?_
                refine Sp.step rfl rfl rfl rfl ?_
                refine Sp.step rfl rfl rfl rfl ?_
                refine Sp.step rfl rfl rfl rfl ?_
                refine Sp.step rfl rfl rfl rfl ?_
                refine Sp.step rfl rfl rfl (mg_F (f := 29) rfl rfl rfl rfl) ?_
                refine Sp.step rfl rfl rfl rfl ?_
                refine Sp.step rfl rfl rfl (mg_I (f := 30) rfl rfl rfl) ?_
                refine Sp.call rfl rfl rfl (mrecv (by decide) (by decide +kernel)) s_M_comeTo_86 (fun x64 => ⟨_, _, ⟨rfl, rfl⟩, ?_⟩)
                refine Sp.bool (fun e65 => ?_) (fun e65 => ?_)
                · refine Sp.id (pc := 271) (l := [some (.ref 60), some (.int x), some (.int y), some (.int (M.1 71 ((60 * x) + y).toNatClampNeg)), some (.int (M.1 72 ((60 * x) + y).toNatClampNeg)), none, none]) (st := [.int 1]) (h := hS X x64.2) ?_
                  refine Sp.step rfl rfl rfl rfl ?_
                  refine Sp.step rfl rfl rfl rfl ?_
                  refine Sp.step rfl rfl rfl rfl ?_
                  refine Sp.if2 rfl rfl rfl rfl (fun e67 => ?_) (fun e67 => ?_)
                  · refine Sp.step rfl rfl rfl rfl ?_
                    exact Sp.iret rfl rfl rfl rfl (fun _ _ h => h)
                  · refine Sp.step rfl rfl rfl rfl ?_
                    refine Sp.step rfl rfl rfl rfl ?_
                    refine Sp.step rfl rfl rfl rfl ?_
                    refine Sp.callP rfl rfl rfl rfl s_isIn (fun e68 => ?_) (fun e68 => ?_)
                    · refine Sp.id (pc := 291) (l := [some (.ref 60), some (.int x), some (.int y), some (.int (M.1 71 ((60 * x) + y).toNatClampNeg)), some (.int (M.1 72 ((60 * x) + y).toNatClampNeg)), none, none]) (st := [.int 1]) (h := hS X x64.2) ?_
                      refine Sp.step rfl rfl rfl rfl ?_
                      refine Sp.step rfl rfl rfl rfl ?_
                      exact Sp.iret rfl rfl rfl rfl (fun _ _ h => h)
                    · refine Sp.id (pc := 291) (l := [some (.ref 60), some (.int x), some (.int y), some (.int (M.1 71 ((60 * x) + y).toNatClampNeg)), some (.int (M.1 72 ((60 * x) + y).toNatClampNeg)), none, none]) (st := [.int 0]) (h := hS X x64.2) ?_
                      refine Sp.step rfl rfl rfl rfl ?_
                      refine Sp.step rfl rfl rfl rfl ?_
                      refine Sp.step rfl rfl rfl rfl ?_
                      refine Sp.step rfl rfl rfl rfl ?_
                      refine Sp.step rfl rfl rfl rfl ?_
                      refine Sp.step rfl rfl rfl (mg_F (f := 10) rfl rfl rfl rfl) ?_
                      refine Sp.step rfl rfl rfl rfl ?_
                      refine Sp.guard (fun e71 => ?_)
                      refine Sp.step rfl rfl rfl (mld rfl rfl (by decide) e71) ?_
                      refine Sp.if2 rfl rfl rfl rfl (fun e72 => ?_) (fun e72 => ?_)
                      · refine Sp.step rfl rfl rfl rfl ?_
                        refine Sp.step rfl rfl rfl rfl ?_
                        refine Sp.step rfl rfl rfl rfl ?_
                        refine Sp.step rfl rfl rfl rfl ?_
                        refine Sp.step rfl rfl rfl rfl ?_
                        refine Sp.step rfl rfl rfl rfl ?_
                        refine Sp.step rfl rfl rfl (mg_F (f := 29) rfl rfl rfl rfl) ?_
                        refine Sp.step rfl rfl rfl rfl ?_
                        refine Sp.step rfl rfl rfl (mg_I (f := 30) rfl rfl rfl) ?_
                        refine Sp.call rfl rfl rfl (mrecv (by decide) (by decide +kernel)) s_M_comeTo_86 (fun x73 => ⟨_, _, ⟨rfl, rfl⟩, ?_⟩)
                        refine Sp.bool (fun e74 => ?_) (fun e74 => ?_)
                        · refine Sp.id (pc := 327) (l := [some (.ref 60), some (.int x), some (.int y), some (.int (M.1 71 ((60 * x) + y).toNatClampNeg)), some (.int (M.1 72 ((60 * x) + y).toNatClampNeg)), none, none]) (st := [.int 1]) (h := hS X x73.2) ?_
                          refine Sp.step rfl rfl rfl rfl ?_
                          refine Sp.step rfl rfl rfl rfl ?_
                          refine Sp.step rfl rfl rfl rfl ?_
                          exact Sp.iret rfl rfl rfl rfl (fun _ _ h => h)
                        · refine Sp.id (pc := 327) (l := [some (.ref 60), some (.int x), some (.int y), some (.int (M.1 71 ((60 * x) + y).toNatClampNeg)), some (.int (M.1 72 ((60 * x) + y).toNatClampNeg)), none, none]) (st := [.int 0]) (h := hS X x73.2) ?_
                          refine Sp.step rfl rfl rfl rfl ?_
                          refine Sp.step rfl rfl rfl rfl ?_
                          refine Sp.step rfl rfl rfl rfl ?_
                          refine Sp.step rfl rfl rfl rfl ?_
                          exact Sp.iret rfl rfl rfl rfl (fun _ _ h => h)
                      · refine Sp.step rfl rfl rfl rfl ?_
                        exact Sp.iret rfl rfl rfl rfl (fun _ _ h => h)
                · refine Sp.id (pc := 271) (l := [some (.ref 60), some (.int x), some (.int y), some (.int (M.1 71 ((60 * x) + y).toNatClampNeg)), some (.int (M.1 72 ((60 * x) + y).toNatClampNeg)), none, none]) (st := [.int 0]) (h := hS X x64.2) ?_
                  refine Sp.step rfl rfl rfl rfl ?_
                  refine Sp.step rfl rfl rfl rfl ?_
                  exact Sp.iret rfl rfl rfl rfl (fun _ _ h => h)
              · refine Sp.id (pc := 253) (l := [some (.ref 60), some (.int x), some (.int y), some (.int (M.1 71 ((60 * x) + y).toNatClampNeg)), some (.int (M.1 72 ((60 * x) + y).toNatClampNeg)), none, none]) (st := [.int 0]) (h := hS X x60) ?_
                refine Sp.step rfl rfl rfl rfl ?_
                refine Sp.step rfl rfl rfl rfl ?_
                refine Sp.step rfl rfl rfl rfl ?_
                refine Sp.if2 rfl rfl rfl rfl (fun e79 => ?_) (fun e79 => ?_)
                · refine Sp.step rfl rfl rfl rfl ?_
                  exact Sp.iret rfl rfl rfl rfl (fun _ _ h => h)
                · refine Sp.step rfl rfl rfl rfl ?_
                  refine Sp.step rfl rfl rfl rfl ?_
                  refine Sp.step rfl rfl rfl rfl ?_
                  refine Sp.callP rfl rfl rfl rfl s_isIn (fun e80 => ?_) (fun e80 => ?_)
                  · refine Sp.id (pc := 291) (l := [some (.ref 60), some (.int x), some (.int y), some (.int (M.1 71 ((60 * x) + y).toNatClampNeg)), some (.int (M.1 72 ((60 * x) + y).toNatClampNeg)), none, none]) (st := [.int 1]) (h := hS X x60) ?_
                    refine Sp.step rfl rfl rfl rfl ?_
                    refine Sp.step rfl rfl rfl rfl ?_
                    exact Sp.iret rfl rfl rfl rfl (fun _ _ h => h)
                  · refine Sp.id (pc := 291) (l := [some (.ref 60), some (.int x), some (.int y), some (.int (M.1 71 ((60 * x) + y).toNatClampNeg)), some (.int (M.1 72 ((60 * x) + y).toNatClampNeg)), none, none]) (st := [.int 0]) (h := hS X x60) ?_
                    refine Sp.step rfl rfl rfl rfl ?_
                    refine Sp.step rfl rfl rfl rfl ?_
                    refine Sp.step rfl rfl rfl rfl ?_
                    refine Sp.step rfl rfl rfl rfl ?_
                    refine Sp.step rfl rfl rfl rfl ?_
                    refine Sp.step rfl rfl rfl (mg_F (f := 10) rfl rfl rfl rfl) ?_
                    refine Sp.step rfl rfl rfl rfl ?_
                    refine Sp.guard (fun e83 => ?_)
                    refine Sp.step rfl rfl rfl (mld rfl rfl (by decide) e83) ?_
                    refine Sp.if2 rfl rfl rfl rfl (fun e84 => ?_) (fun e84 => ?_)
                    · refine Sp.step rfl rfl rfl rfl ?_
                      refine Sp.step rfl rfl rfl rfl ?_
                      refine Sp.step rfl rfl rfl rfl ?_
                      refine Sp.step rfl rfl rfl rfl ?_
                      refine Sp.step rfl rfl rfl rfl ?_
                      refine Sp.step rfl rfl rfl rfl ?_
                      refine Sp.step rfl rfl rfl (mg_F (f := 29) rfl rfl rfl rfl) ?_
                      refine Sp.step rfl rfl rfl rfl ?_
                      refine Sp.step rfl rfl rfl (mg_I (f := 30) rfl rfl rfl) ?_
                      refine Sp.call rfl rfl rfl (mrecv (by decide) (by decide +kernel)) s_M_comeTo_86 (fun x85 => ⟨_, _, ⟨rfl, rfl⟩, ?_⟩)
                      refine Sp.bool (fun e86 => ?_) (fun e86 => ?_)
                      · refine Sp.id (pc := 327) (l := [some (.ref 60), some (.int x), some (.int y), some (.int (M.1 71 ((60 * x) + y).toNatClampNeg)), some (.int (M.1 72 ((60 * x) + y).toNatClampNeg)), none, none]) (st := [.int 1]) (h := hS X x85.2) ?_
                        refine Sp.step rfl rfl rfl rfl ?_
                        refine Sp.step rfl rfl rfl rfl ?_
                        refine Sp.step rfl rfl rfl rfl ?_
                        exact Sp.iret rfl rfl rfl rfl (fun _ _ h => h)
                      · refine Sp.id (pc := 327) (l := [some (.ref 60), some (.int x), some (.int y), some (.int (M.1 71 ((60 * x) + y).toNatClampNeg)), some (.int (M.1 72 ((60 * x) + y).toNatClampNeg)), none, none]) (st := [.int 0]) (h := hS X x85.2) ?_
                        refine Sp.step rfl rfl rfl rfl ?_
                        refine Sp.step rfl rfl rfl rfl ?_
                        refine Sp.step rfl rfl rfl rfl ?_
                        refine Sp.step rfl rfl rfl rfl ?_
                        exact Sp.iret rfl rfl rfl rfl (fun _ _ h => h)
                    · refine Sp.step rfl rfl rfl rfl ?_
                      exact Sp.iret rfl rfl rfl rfl (fun _ _ h => h)
            · refine Sp.step rfl rfl rfl rfl ?_
              exact Sp.iret rfl rfl rfl rfl (fun _ _ h => h)
        · refine Sp.id (pc := 210) (l := [some (.ref 60), some (.int x), some (.int y), some (.int (M.1 71 ((60 * x) + y).toNatClampNeg)), some (.int (M.1 72 ((60 * x) + y).toNatClampNeg)), some (.int x53.1), none]) (st := [.int 0, .ref 60]) (h := hS X x53.2) ?_
          refine Sp.step rfl rfl rfl rfl ?_
          refine Sp.step rfl rfl rfl rfl ?_
          refine Sp.step rfl rfl rfl rfl ?_
          refine Sp.step rfl rfl rfl (mp_I (f := 32) rfl rfl rfl rfl) ?_
          refine Sp.step rfl rfl rfl rfl ?_
          refine Sp.step rfl rfl rfl (mg_I (f := 32) rfl rfl rfl) ?_
          refine Sp.piece (pe := 236) (mf := (fun (x93 : MS) => [some (.ref 60), some (.int x), some (.int y), some (.int (M.1 71 ((60 * x) + y).toNatClampNeg)), some (.int (M.1 72 ((60 * x) + y).toNatClampNeg)), none, none])) (sf := (fun (x93 : MS) => [])) (hf := (fun (x93 : MS) => hS X x93)) ?_ (fun x93 => ?_)
          · refine Sp.if1 rfl rfl rfl rfl (fun e91 => ?_) (fun e91 => ?_)
            · exact Sp.jmp (l0 := [some (.ref 60), some (.int x), some (.int y), some (.int (M.1 71 ((60 * x) + y).toNatClampNeg)), some (.int (M.1 72 ((60 * x) + y).toNatClampNeg)), none, none]) ⟨rfl, rfl, rfl, rfl, rfl, trivial⟩ (fun _ _ h => h)
            · refine Sp.step rfl rfl rfl rfl ?_
              refine Sp.step rfl rfl rfl rfl ?_
              refine Sp.step rfl rfl rfl rfl ?_
              refine Sp.step rfl rfl rfl rfl ?_
              refine Sp.call rfl rfl rfl (mrecv (by decide) (by decide +kernel)) s_M_act (fun x92 => ⟨_, _, ⟨rfl, rfl⟩, ?_⟩)
              refine Sp.id (pc := 236) (l := [some (.ref 60), some (.int x), some (.int y), some (.int (M.1 71 ((60 * x) + y).toNatClampNeg)), some (.int (M.1 72 ((60 * x) + y).toNatClampNeg)), some (.int x53.1), none]) (st := []) (h := hS X x92) ?_
              exact Sp.jmp (l0 := [some (.ref 60), some (.int x), some (.int y), some (.int (M.1 71 ((60 * x) + y).toNatClampNeg)), some (.int (M.1 72 ((60 * x) + y).toNatClampNeg)), none, none]) ⟨rfl, rfl, rfl, rfl, rfl, trivial⟩ (fun _ _ h => h)
          · refine Sp.step rfl rfl rfl rfl ?_
            refine Sp.step rfl rfl rfl (mg_I (f := 32) rfl rfl rfl) ?_
            refine Sp.if1 rfl rfl rfl rfl (fun e94 => ?_) (fun e94 => ?_)
            · refine Sp.step rfl rfl rfl rfl ?_
              refine Sp.step rfl rfl rfl rfl ?_
              refine Sp.step rfl rfl rfl rfl ?_
              refine Sp.callP rfl rfl rfl rfl s_isIn (fun e95 => ?_) (fun e95 => ?_)
              · refine Sp.id (pc := 253) (l := [some (.ref 60), some (.int x), some (.int y), some (.int (M.1 71 ((60 * x) + y).toNatClampNeg)), some (.int (M.1 72 ((60 * x) + y).toNatClampNeg)), none, none]) (st := [.int 1]) (h := hS X x93) ?_
                refine Sp.step rfl rfl rfl rfl ?_
                refine Sp.step rfl rfl rfl rfl ?_
                refine Sp.step rfl rfl rfl rfl ?_
                refine Sp.step rfl rfl rfl rfl ?_
                refine Sp.step rfl rfl rfl rfl ?_
                refine Sp.step rfl rfl rfl (mg_F (f := 29) rfl rfl rfl rfl) ?_
                refine Sp.step rfl rfl rfl rfl ?_
                refine Sp.step rfl rfl rfl (mg_I (f := 30) rfl rfl rfl) ?_
                refine Sp.call rfl rfl rfl (mrecv (by decide) (by decide +kernel)) s_M_comeTo_86 (fun x97 => ⟨_, _, ⟨rfl, rfl⟩, ?_⟩)
                refine Sp.bool (fun e98 => ?_) (fun e98 => ?_)
                · refine Sp.id (pc := 271) (l := [some (.ref 60), some (.int x), some (.int y), some (.int (M.1 71 ((60 * x) + y).toNatClampNeg)), some (.int (M.1 72 ((60 * x) + y).toNatClampNeg)), none, none]) (st := [.int 1]) (h := hS X x97.2) ?_
                  refine Sp.step rfl rfl rfl rfl ?_
                  refine Sp.step rfl rfl rfl rfl ?_
                  refine Sp.step rfl rfl rfl rfl ?_
                  refine Sp.if2 rfl rfl rfl rfl (fun e100 => ?_) (fun e100 => ?_)
                  · refine Sp.step rfl rfl rfl rfl ?_
                    exact Sp.iret rfl rfl rfl rfl (fun _ _ h => h)
                  · refine Sp.step rfl rfl rfl rfl ?_
                    refine Sp.step rfl rfl rfl rfl ?_
                    refine Sp.step rfl rfl rfl rfl ?_
                    refine Sp.callP rfl rfl rfl rfl s_isIn (fun e101 => ?_) (fun e101 => ?_)
                    · refine Sp.id (pc := 291) (l := [some (.ref 60), some (.int x), some (.int y), some (.int (M.1 71 ((60 * x) + y).toNatClampNeg)), some (.int (M.1 72 ((60 * x) + y).toNatClampNeg)), none, none]) (st := [.int 1]) (h := hS X x97.2) ?_
                      refine Sp.step rfl rfl rfl rfl ?_
                      refine Sp.step rfl rfl rfl rfl ?_
                      exact Sp.iret rfl rfl rfl rfl (fun _ _ h => h)
                    · refine Sp.id (pc := 291) (l := [some (.ref 60), some (.int x), some (.int y), some (.int (M.1 71 ((60 * x) + y).toNatClampNeg)), some (.int (M.1 72 ((60 * x) + y).toNatClampNeg)), none, none]) (st := [.int 0]) (h := hS X x97.2) ?_
                      refine Sp.step rfl rfl rfl rfl ?_
                      refine Sp.step rfl rfl rfl rfl ?_
                      refine Sp.step rfl rfl rfl rfl ?_
                      refine Sp.step rfl rfl rfl rfl ?_
                      refine Sp.step rfl rfl rfl rfl ?_
                      refine Sp.step rfl rfl rfl (mg_F (f := 10) rfl rfl rfl rfl) ?_
                      refine Sp.step rfl rfl rfl rfl ?_
                      refine Sp.guard (fun e104 => ?_)
                      refine Sp.step rfl rfl rfl (mld rfl rfl (by decide) e104) ?_
                      refine Sp.if2 rfl rfl rfl rfl (fun e105 => ?_) (fun e105 => ?_)
                      · refine Sp.step rfl rfl rfl rfl ?_
                        refine Sp.step rfl rfl rfl rfl ?_
                        refine Sp.step rfl rfl rfl rfl ?_
                        refine Sp.step rfl rfl rfl rfl ?_
                        refine Sp.step rfl rfl rfl rfl ?_
                        refine Sp.step rfl rfl rfl rfl ?_
                        refine Sp.step rfl rfl rfl (mg_F (f := 29) rfl rfl rfl rfl) ?_
                        refine Sp.step rfl rfl rfl rfl ?_
                        refine Sp.step rfl rfl rfl (mg_I (f := 30) rfl rfl rfl) ?_
                        refine Sp.call rfl rfl rfl (mrecv (by decide) (by decide +kernel)) s_M_comeTo_86 (fun x106 => ⟨_, _, ⟨rfl, rfl⟩, ?_⟩)
                        refine Sp.bool (fun e107 => ?_) (fun e107 => ?_)
                        · refine Sp.id (pc := 327) (l := [some (.ref 60), some (.int x), some (.int y), some (.int (M.1 71 ((60 * x) + y).toNatClampNeg)), some (.int (M.1 72 ((60 * x) + y).toNatClampNeg)), none, none]) (st := [.int 1]) (h := hS X x106.2) ?_
                          refine Sp.step rfl rfl rfl rfl ?_
                          refine Sp.step rfl rfl rfl rfl ?_
                          refine Sp.step rfl rfl rfl rfl ?_
                          exact Sp.iret rfl rfl rfl rfl (fun _ _ h => h)
                        · refine Sp.id (pc := 327) (l := [some (.ref 60), some (.int x), some (.int y), some (.int (M.1 71 ((60 * x) + y).toNatClampNeg)), some (.int (M.1 72 ((60 * x) + y).toNatClampNeg)), none, none]) (st := [.int 0]) (h := hS X x106.2) ?_
                          refine Sp.step rfl rfl rfl rfl ?_
                          refine Sp.step rfl rfl rfl rfl ?_
                          refine Sp.step rfl rfl rfl rfl ?_
                          refine Sp.step rfl rfl rfl rfl ?_
                          exact Sp.iret rfl rfl rfl rfl (fun _ _ h => h)
                      · refine Sp.step rfl rfl rfl rfl ?_
                        exact Sp.iret rfl rfl rfl rfl (fun _ _ h => h)
                · refine Sp.id (pc := 271) (l := [some (.ref 60), some (.int x), some (.int y), some (.int (M.1 71 ((60 * x) + y).toNatClampNeg)), some (.int (M.1 72 ((60 * x) + y).toNatClampNeg)), none, none]) (st := [.int 0]) (h := hS X x97.2) ?_
                  refine Sp.step rfl rfl rfl rfl ?_
                  refine Sp.step rfl rfl rfl rfl ?_
                  exact Sp.iret rfl rfl rfl rfl (fun _ _ h => h)
              · refine Sp.id (pc := 253) (l := [some (.ref 60), some (.int x), some (.int y), some (.int (M.1 71 ((60 * x) + y).toNatClampNeg)), some (.int (M.1 72 ((60 * x) + y).toNatClampNeg)), none, none]) (st := [.int 0]) (h := hS X x93) ?_
                refine Sp.step rfl rfl rfl rfl ?_
                refine Sp.step rfl rfl rfl rfl ?_
                refine Sp.step rfl rfl rfl rfl ?_
                refine Sp.if2 rfl rfl rfl rfl (fun e112 => ?_) (fun e112 => ?_)
                · refine Sp.step rfl rfl rfl rfl ?_
                  exact Sp.iret rfl rfl rfl rfl (fun _ _ h => h)
                · refine Sp.step rfl rfl rfl rfl ?_
                  refine Sp.step rfl rfl rfl rfl ?_
                  refine Sp.step rfl rfl rfl rfl ?_
                  refine Sp.callP rfl rfl rfl rfl s_isIn (fun e113 => ?_) (fun e113 => ?_)
                  · refine Sp.id (pc := 291) (l := [some (.ref 60), some (.int x), some (.int y), some (.int (M.1 71 ((60 * x) + y).toNatClampNeg)), some (.int (M.1 72 ((60 * x) + y).toNatClampNeg)), none, none]) (st := [.int 1]) (h := hS X x93) ?_
                    refine Sp.step rfl rfl rfl rfl ?_
                    refine Sp.step rfl rfl rfl rfl ?_
                    exact Sp.iret rfl rfl rfl rfl (fun _ _ h => h)
                  · refine Sp.id (pc := 291) (l := [some (.ref 60), some (.int x), some (.int y), some (.int (M.1 71 ((60 * x) + y).toNatClampNeg)), some (.int (M.1 72 ((60 * x) + y).toNatClampNeg)), none, none]) (st := [.int 0]) (h := hS X x93) ?_
                    refine Sp.step rfl rfl rfl rfl ?_
                    refine Sp.step rfl rfl rfl rfl ?_
                    refine Sp.step rfl rfl rfl rfl ?_
                    refine Sp.step rfl rfl rfl rfl ?_
                    refine Sp.step rfl rfl rfl rfl ?_
                    refine Sp.step rfl rfl rfl (mg_F (f := 10) rfl rfl rfl rfl) ?_
                    refine Sp.step rfl rfl rfl rfl ?_
                    refine Sp.guard (fun e116 => ?_)
                    refine Sp.step rfl rfl rfl (mld rfl rfl (by decide) e116) ?_
                    refine Sp.if2 rfl rfl rfl rfl (fun e117 => ?_) (fun e117 => ?_)
                    · refine Sp.step rfl rfl rfl rfl ?_
                      refine Sp.step rfl rfl rfl rfl ?_
                      refine Sp.step rfl rfl rfl rfl ?_
                      refine Sp.step rfl rfl rfl rfl ?_
                      refine Sp.step rfl rfl rfl rfl ?_
                      refine Sp.step rfl rfl rfl rfl ?_
                      refine Sp.step rfl rfl rfl (mg_F (f := 29) rfl rfl rfl rfl) ?_
                      refine Sp.step rfl rfl rfl rfl ?_
                      refine Sp.step rfl rfl rfl (mg_I (f := 30) rfl rfl rfl) ?_
                      refine Sp.call rfl rfl rfl (mrecv (by decide) (by decide +kernel)) s_M_comeTo_86 (fun x118 => ⟨_, _, ⟨rfl, rfl⟩, ?_⟩)
                      refine Sp.bool (fun e119 => ?_) (fun e119 => ?_)
                      · refine Sp.id (pc := 327) (l := [some (.ref 60), some (.int x), some (.int y), some (.int (M.1 71 ((60 * x) + y).toNatClampNeg)), some (.int (M.1 72 ((60 * x) + y).toNatClampNeg)), none, none]) (st := [.int 1]) (h := hS X x118.2) ?_
                        refine Sp.step rfl rfl rfl rfl ?_
                        refine Sp.step rfl rfl rfl rfl ?_
                        refine Sp.step rfl rfl rfl rfl ?_
                        exact Sp.iret rfl rfl rfl rfl (fun _ _ h => h)
                      · refine Sp.id (pc := 327) (l := [some (.ref 60), some (.int x), some (.int y), some (.int (M.1 71 ((60 * x) + y).toNatClampNeg)), some (.int (M.1 72 ((60 * x) + y).toNatClampNeg)), none, none]) (st := [.int 0]) (h := hS X x118.2) ?_
                        refine Sp.step rfl rfl rfl rfl ?_
                        refine Sp.step rfl rfl rfl rfl ?_
                        refine Sp.step rfl rfl rfl rfl ?_
                        refine Sp.step rfl rfl rfl rfl ?_
                        exact Sp.iret rfl rfl rfl rfl (fun _ _ h => h)
                    · refine Sp.step rfl rfl rfl rfl ?_
                      exact Sp.iret rfl rfl rfl rfl (fun _ _ h => h)
            · refine Sp.step rfl rfl rfl rfl ?_
              exact Sp.iret rfl rfl rfl rfl (fun _ _ h => h)
def b13_M_firstWrong (x : Int32) (M : MS) (x3 : Int32) : Option (Int32 ⊕ (Int32 ⊕ (Int32 × MS))) := (if M.1 73 x.toNatClampNeg ≤ x3 then some (.inr (.inl x3)) else (if ixo ((24 * x) + (4 * x3)) 576 then (if M.1 74 ((24 * x) + (4 * x3)).toNatClampNeg < 0 then some (.inr (.inr (99, M))) else (if ixo (((24 * x) + (4 * x3)) + 1) 576 then (if M.1 74 (((24 * x) + (4 * x3)) + 1).toNatClampNeg ≤ M.1 74 ((24 * x) + (4 * x3)).toNatClampNeg then some (.inr (.inr (99, M))) else (if M.1 70 x.toNatClampNeg < M.1 74 (((24 * x) + (4 * x3)) + 1).toNatClampNeg then some (.inr (.inr (99, M))) else (if ixo (((24 * x) + (4 * x3)) + 2) 576 then (if 0 ≤ M.1 74 (((24 * x) + (4 * x3)) + 2).toNatClampNeg ∧ M.1 74 (((24 * x) + (4 * x3)) + 2).toNatClampNeg ≤ (M.1 70 x.toNatClampNeg) - 1 then (if ixo (((24 * x) + (4 * x3)) + 3) 576 then (if f_M_isClass (M.1 74 (((24 * x) + (4 * x3)) + 3).toNatClampNeg) M = true then some (.inl (x3 + 1)) else (if (-10) ≤ M.1 74 (((24 * x) + (4 * x3)) + 3).toNatClampNeg ∧ M.1 74 (((24 * x) + (4 * x3)) + 3).toNatClampNeg ≤ (-1) then some (.inl (x3 + 1)) else some (.inr (.inr (99, M))))) else none) else some (.inr (.inr (99, M)))) else none))) else none)) else none))
def b153_M_firstWrong (x : Int32) (x34 : (Int32 × MS)) : Option ((Int32 × MS) ⊕ (Int32 × MS)) := (if 60 ≤ x34.1 then some (.inr (x34.1, x34.2)) else (if ixo x34.1 60 then (lt (mw x34.2 81 x34.1.toNatClampNeg 0) fun M37 => (lt (mw M37 82 x34.1.toNatClampNeg 0) fun M38 => (if ixo ((60 * x) + x34.1) 1440 then (lt (mw M38 88 ((60 * x) + x34.1).toNatClampNeg 0) fun M40 => some (.inl (x34.1 + 1, M40))) else none))) else none))
def b217_M_firstWrong (x : Int32) (x59 : (Int32 × MS)) : Option ((Int32 × MS) ⊕ (Int32 × MS)) := (if 12 ≤ x59.1 then some (.inr (x59.1, x59.2)) else (if ¬ x59.1 = 0 then (if ixo x 24 then (if x59.2.1 66 x.toNatClampNeg ≤ x59.1 - 1 then (if ixo x59.1 12 then (lt (mw x59.2 87 x59.1.toNatClampNeg 0) fun M66 => some (.inl (x59.1 + 1, M66))) else none) else (if ¬ ((x59.2.1 67 x.toNatClampNeg : Int32) >>> ((x59.1 - 1 : Int32) &&& 31)) &&& 1 = 1 then (if ixo x59.1 12 then (lt (mw x59.2 87 x59.1.toNatClampNeg 1) fun M69 => some (.inl (x59.1 + 1, M69))) else none) else (if ixo x59.1 12 then (lt (mw x59.2 87 x59.1.toNatClampNeg 2) fun M71 => some (.inl (x59.1 + 1, M71))) else none))) else none) else (if ixo x59.1 12 then (lt (mw x59.2 87 x59.1.toNatClampNeg 2) fun M73 => some (.inl (x59.1 + 1, M73))) else none)))
def b312_M_firstWrong (x : Int32) (x83 : (Int32 × MS)) : Option ((Int32 × MS) ⊕ (Int32 × MS)) := (if x83.1 < 0 then some (.inr ((-2), x83.2)) else ((f_M_lookAt x x83.1 x83.2).bind fun x85 => (if x85.1 < 0 then ((f_M_nextLook x x85.2).bind fun x87 => some (.inl (x87, x85.2))) else some (.inr (x85.1, x85.2)))))
def b217_M_firstWrong' (x : Int32) (x99 : (Int32 × MS)) : Option ((Int32 × MS) ⊕ (Int32 × MS)) := (if 12 ≤ x99.1 then some (.inr (x99.1, x99.2)) else (if ixo x 24 then (if x99.2.1 66 x.toNatClampNeg ≤ x99.1 - 0 then (if ixo x99.1 12 then (lt (mw x99.2 87 x99.1.toNatClampNeg 0) fun M105 => some (.inl (x99.1 + 1, M105))) else none) else (if ¬ ((x99.2.1 67 x.toNatClampNeg : Int32) >>> ((x99.1 - 0 : Int32) &&& 31)) &&& 1 = 1 then (if ixo x99.1 12 then (lt (mw x99.2 87 x99.1.toNatClampNeg 1) fun M108 => some (.inl (x99.1 + 1, M108))) else none) else (if ixo x99.1 12 then (lt (mw x99.2 87 x99.1.toNatClampNeg 2) fun M110 => some (.inl (x99.1 + 1, M110))) else none))) else none))
def f_M_firstWrong (x : Int32) (M : MS) : Option (Int32 × MS) := (if ixo x 24 then (if ¬ M.1 70 x.toNatClampNeg = 0 then ((lp (b13_M_firstWrong x M) 10000 (0 : Int32)).bind fun s => sb s fun x26 => ((lp (b153_M_firstWrong x) 10000 ((0 : Int32), M)).bind fun x41 => (if ixo x 24 then (lt (mw x41.2 89 x.toNatClampNeg 0) fun M43 => (if ¬ M43.1 65 x.toNatClampNeg = (-2) then ((lp (b217_M_firstWrong x) 10000 ((0 : Int32), M43)).bind fun x74 => (lt (mw x74.2 60 30 0) fun M75 => ((f_M_comeTo_86 x 0 0 M75).bind fun x76 => ((f_M_nextLook x x76.2).bind fun x77 => (lp (b312_M_firstWrong x) 10000 (x77, x76.2)))))) else ((lp (b217_M_firstWrong' x) 10000 ((0 : Int32), M43)).bind fun x111 => (lt (mw x111.2 60 30 0) fun M112 => ((f_M_comeTo_86 x 0 0 M112).bind fun x113 => ((f_M_nextLook x x113.2).bind fun x114 => (lp (b312_M_firstWrong x) 10000 (x114, x113.2)))))))) else none))) else some (0, M)) else none)
set_option maxRecDepth 100000 in
set_option maxHeartbeats 4000000 in
theorem s_M_firstWrong {L : Nat} {xs : Nat → Int32} {X : XS} {M : MS} {x : Int32} : Sp (mjOO L xs) 41 0 [some (.ref 60), some (.int x), none, none, none, none] [] (hS X M) (f_M_firstWrong x M) (KEM X) := by
  unfold f_M_firstWrong
  refine Sp.step rfl rfl rfl rfl ?_
  refine Sp.step rfl rfl rfl (mg_F (f := 10) rfl rfl rfl rfl) ?_
  refine Sp.step rfl rfl rfl rfl ?_
  refine Sp.guard (fun e1 => ?_)
  refine Sp.step rfl rfl rfl (mld rfl rfl (by decide) e1) ?_
  refine Sp.if1 rfl rfl rfl rfl (fun e2 => ?_) (fun e2 => ?_)
  · refine Sp.step rfl rfl rfl rfl ?_
    refine Sp.step rfl rfl rfl rfl ?_
    refine Sp.weak (l0 := [some (.ref 60), some (.int x), some (.int 0), none, none, none]) ⟨rfl, rfl, rfl, trivial⟩ ?_
    refine Sp.loopY (pe := 151) (mf := (fun (x3 : Int32) => [some (.ref 60), some (.int x), some (.int x3), none, none, none])) (hf := (fun (x3 : Int32) => hS X M)) (fun x3 => ?_) (fun x26 => ?_) _ _
    · unfold b13_M_firstWrong
      refine Sp.step rfl rfl rfl rfl ?_
      refine Sp.step rfl rfl rfl rfl ?_
      refine Sp.step rfl rfl rfl (mg_F (f := 13) rfl rfl rfl rfl) ?_
      refine Sp.step rfl rfl rfl rfl ?_
      refine Sp.step rfl rfl rfl (mld rfl rfl (by decide) e1) ?_
      refine Sp.if2 rfl rfl rfl rfl (fun e4 => ?_) (fun e4 => ?_)
      · exact Sp.jmp (l0 := [some (.ref 60), some (.int x), some (.int x3), none, none, none]) ⟨rfl, rfl, rfl, trivial⟩ (fun _ _ h => h)
      · refine Sp.step rfl rfl rfl rfl ?_
        refine Sp.step rfl rfl rfl rfl ?_
        refine Sp.step rfl rfl rfl rfl ?_
        refine Sp.step rfl rfl rfl rfl ?_
        refine Sp.step rfl rfl rfl rfl ?_
        refine Sp.step rfl rfl rfl rfl ?_
        refine Sp.step rfl rfl rfl rfl ?_
        refine Sp.step rfl rfl rfl rfl ?_
        refine Sp.step rfl rfl rfl rfl ?_
        refine Sp.step rfl rfl rfl (mg_F (f := 14) rfl rfl rfl rfl) ?_
        refine Sp.step rfl rfl rfl rfl ?_
        refine Sp.guard (fun e5 => ?_)
        refine Sp.step rfl rfl rfl (mld rfl rfl (by decide) e5) ?_
        refine Sp.if1 rfl rfl rfl rfl (fun e6 => ?_) (fun e6 => ?_)
        · refine Sp.step rfl rfl rfl rfl ?_
          refine Sp.step rfl rfl rfl rfl ?_
          refine Sp.step rfl rfl rfl rfl ?_
          refine Sp.step rfl rfl rfl rfl ?_
          refine Sp.step rfl rfl rfl rfl ?_
          exact Sp.iret rfl rfl rfl rfl (fun _ _ h => h)
        · refine Sp.step rfl rfl rfl rfl ?_
          refine Sp.step rfl rfl rfl (mg_F (f := 14) rfl rfl rfl rfl) ?_
          refine Sp.step rfl rfl rfl rfl ?_
          refine Sp.step rfl rfl rfl (mld rfl rfl (by decide) e5) ?_
          refine Sp.step rfl rfl rfl rfl ?_
          refine Sp.step rfl rfl rfl (mg_F (f := 14) rfl rfl rfl rfl) ?_
          refine Sp.step rfl rfl rfl rfl ?_
          refine Sp.step rfl rfl rfl rfl ?_
          refine Sp.step rfl rfl rfl rfl ?_
          refine Sp.guard (fun e8 => ?_)
          refine Sp.step rfl rfl rfl (mld rfl rfl (by decide) e8) ?_
          refine Sp.if2 rfl rfl rfl rfl (fun e9 => ?_) (fun e9 => ?_)
          · refine Sp.step rfl rfl rfl rfl ?_
            refine Sp.step rfl rfl rfl rfl ?_
            refine Sp.step rfl rfl rfl rfl ?_
            refine Sp.step rfl rfl rfl rfl ?_
            refine Sp.step rfl rfl rfl rfl ?_
            exact Sp.iret rfl rfl rfl rfl (fun _ _ h => h)
          · refine Sp.step rfl rfl rfl rfl ?_
            refine Sp.step rfl rfl rfl (mg_F (f := 14) rfl rfl rfl rfl) ?_
            refine Sp.step rfl rfl rfl rfl ?_
            refine Sp.step rfl rfl rfl rfl ?_
            refine Sp.step rfl rfl rfl rfl ?_
            refine Sp.step rfl rfl rfl (mld rfl rfl (by decide) e8) ?_
            refine Sp.step rfl rfl rfl rfl ?_
            refine Sp.step rfl rfl rfl (mg_F (f := 10) rfl rfl rfl rfl) ?_
            refine Sp.step rfl rfl rfl rfl ?_
            refine Sp.step rfl rfl rfl (mld rfl rfl (by decide) e1) ?_
            refine Sp.if2 rfl rfl rfl rfl (fun e11 => ?_) (fun e11 => ?_)
            · refine Sp.step rfl rfl rfl rfl ?_
              refine Sp.step rfl rfl rfl rfl ?_
              refine Sp.step rfl rfl rfl rfl ?_
              refine Sp.step rfl rfl rfl rfl ?_
              refine Sp.step rfl rfl rfl rfl ?_
              exact Sp.iret rfl rfl rfl rfl (fun _ _ h => h)
            · refine Sp.step rfl rfl rfl rfl ?_
              refine Sp.step rfl rfl rfl (mg_F (f := 14) rfl rfl rfl rfl) ?_
              refine Sp.step rfl rfl rfl rfl ?_
              refine Sp.step rfl rfl rfl rfl ?_
              refine Sp.step rfl rfl rfl rfl ?_
              refine Sp.guard (fun e13 => ?_)
              refine Sp.step rfl rfl rfl (mld rfl rfl (by decide) e13) ?_
              refine Sp.step rfl rfl rfl rfl ?_
              refine Sp.step rfl rfl rfl rfl ?_
              refine Sp.step rfl rfl rfl (mg_F (f := 10) rfl rfl rfl rfl) ?_
              refine Sp.step rfl rfl rfl rfl ?_
              refine Sp.step rfl rfl rfl (mld rfl rfl (by decide) e1) ?_
              refine Sp.step rfl rfl rfl rfl ?_
              refine Sp.step rfl rfl rfl rfl ?_
              refine Sp.callP rfl rfl rfl rfl s_isIn (fun e14 => ?_) (fun e14 => ?_)
              · refine Sp.id (pc := 95) (l := [some (.ref 60), some (.int x), some (.int x3), some (.int ((24 * x) + (4 * x3))), none, none]) (st := [.int 1]) (h := hS X M) ?_
                refine Sp.step rfl rfl rfl rfl ?_
                refine Sp.step rfl rfl rfl rfl ?_
                refine Sp.step rfl rfl rfl rfl ?_
                refine Sp.step rfl rfl rfl rfl ?_
                refine Sp.step rfl rfl rfl rfl ?_
                refine Sp.step rfl rfl rfl rfl ?_
                refine Sp.step rfl rfl rfl rfl ?_
                refine Sp.step rfl rfl rfl rfl ?_
                refine Sp.step rfl rfl rfl (mg_F (f := 14) rfl rfl rfl rfl) ?_
                refine Sp.step rfl rfl rfl rfl ?_
                refine Sp.step rfl rfl rfl rfl ?_
                refine Sp.step rfl rfl rfl rfl ?_
                refine Sp.guard (fun e17 => ?_)
                refine Sp.step rfl rfl rfl (mld rfl rfl (by decide) e17) ?_
                refine Sp.callS rfl rfl rfl (mrecv (by decide) (by decide +kernel)) s_M_isClass ⟨rfl, rfl⟩ ?_
                refine Sp.bool (fun e18 => ?_) (fun e18 => ?_)
                · refine Sp.id (pc := 122) (l := [some (.ref 60), some (.int x), some (.int x3), some (.int ((24 * x) + (4 * x3))), some (.int 1), none]) (st := [.int 1]) (h := hS X M) ?_
                  refine Sp.step rfl rfl rfl rfl ?_
                  refine Sp.step rfl rfl rfl rfl ?_
                  refine Sp.step rfl rfl rfl rfl ?_
                  exact Sp.jmp (l0 := [some (.ref 60), some (.int x), some (.int (x3 + 1)), none, none, none]) ⟨rfl, rfl, rfl, trivial⟩ (fun _ _ h => h)
                · refine Sp.id (pc := 122) (l := [some (.ref 60), some (.int x), some (.int x3), some (.int ((24 * x) + (4 * x3))), some (.int 1), none]) (st := [.int 0]) (h := hS X M) ?_
                  refine Sp.step rfl rfl rfl rfl ?_
                  refine Sp.step rfl rfl rfl rfl ?_
                  refine Sp.step rfl rfl rfl (mg_F (f := 14) rfl rfl rfl rfl) ?_
                  refine Sp.step rfl rfl rfl rfl ?_
                  refine Sp.step rfl rfl rfl rfl ?_
                  refine Sp.step rfl rfl rfl rfl ?_
                  refine Sp.step rfl rfl rfl (mld rfl rfl (by decide) e17) ?_
                  refine Sp.step rfl rfl rfl rfl ?_
                  refine Sp.step rfl rfl rfl rfl ?_
                  refine Sp.callP rfl rfl rfl rfl s_isIn (fun e21 => ?_) (fun e21 => ?_)
                  · refine Sp.id (pc := 139) (l := [some (.ref 60), some (.int x), some (.int x3), some (.int ((24 * x) + (4 * x3))), some (.int 1), none]) (st := [.int 1]) (h := hS X M) ?_
                    refine Sp.step rfl rfl rfl rfl ?_
                    refine Sp.step rfl rfl rfl rfl ?_
                    refine Sp.step rfl rfl rfl rfl ?_
                    exact Sp.jmp (l0 := [some (.ref 60), some (.int x), some (.int (x3 + 1)), none, none, none]) ⟨rfl, rfl, rfl, trivial⟩ (fun _ _ h => h)
                  · refine Sp.id (pc := 139) (l := [some (.ref 60), some (.int x), some (.int x3), some (.int ((24 * x) + (4 * x3))), some (.int 1), none]) (st := [.int 0]) (h := hS X M) ?_
                    refine Sp.step rfl rfl rfl rfl ?_
                    refine Sp.step rfl rfl rfl rfl ?_
                    exact Sp.iret rfl rfl rfl rfl (fun _ _ h => h)
              · refine Sp.id (pc := 95) (l := [some (.ref 60), some (.int x), some (.int x3), some (.int ((24 * x) + (4 * x3))), none, none]) (st := [.int 0]) (h := hS X M) ?_
                refine Sp.step rfl rfl rfl rfl ?_
                refine Sp.step rfl rfl rfl rfl ?_
                refine Sp.step rfl rfl rfl rfl ?_
                refine Sp.step rfl rfl rfl rfl ?_
                refine Sp.step rfl rfl rfl rfl ?_
                refine Sp.step rfl rfl rfl rfl ?_
                exact Sp.iret rfl rfl rfl rfl (fun _ _ h => h)
    · refine Sp.step rfl rfl rfl rfl ?_
      refine Sp.step rfl rfl rfl rfl ?_
      refine Sp.weak (l0 := [some (.ref 60), some (.int x), some (.int 0), none, none, none]) ⟨rfl, rfl, rfl, trivial⟩ ?_
      refine Sp.loopX (pe := 191) (mf := (fun (x34 : (Int32 × MS)) => [some (.ref 60), some (.int x), some (.int x34.1), none, none, none])) (hf := (fun (x34 : (Int32 × MS)) => hS X x34.2)) (fun x34 => ?_) (fun x41 => ?_) _ _
      · unfold b153_M_firstWrong
        refine Sp.step rfl rfl rfl rfl ?_
        refine Sp.step rfl rfl rfl rfl ?_
        refine Sp.if2 rfl rfl rfl rfl (fun e35 => ?_) (fun e35 => ?_)
        · exact Sp.jmp (l0 := [some (.ref 60), some (.int x), some (.int x34.1), none, none, none]) ⟨rfl, rfl, rfl, trivial⟩ (fun _ _ h => h)
        · refine Sp.step rfl rfl rfl rfl ?_
          refine Sp.step rfl rfl rfl (mg_F (f := 24) rfl rfl rfl rfl) ?_
          refine Sp.step rfl rfl rfl rfl ?_
          refine Sp.step rfl rfl rfl rfl ?_
          refine Sp.guard (fun e36 => ?_)
          refine Sp.step rfl rfl rfl (mst0 rfl rfl e36) ?_
          refine Sp.step rfl rfl rfl rfl ?_
          refine Sp.step rfl rfl rfl (mg_F (f := 25) rfl rfl rfl rfl) ?_
          refine Sp.step rfl rfl rfl rfl ?_
          refine Sp.step rfl rfl rfl rfl ?_
          refine Sp.step rfl rfl rfl (mst0 rfl rfl e36) ?_
          refine Sp.step rfl rfl rfl rfl ?_
          refine Sp.step rfl rfl rfl (mg_F (f := 33) rfl rfl rfl rfl) ?_
          refine Sp.step rfl rfl rfl rfl ?_
          refine Sp.step rfl rfl rfl rfl ?_
          refine Sp.step rfl rfl rfl rfl ?_
          refine Sp.step rfl rfl rfl rfl ?_
          refine Sp.step rfl rfl rfl rfl ?_
          refine Sp.step rfl rfl rfl rfl ?_
          refine Sp.guard (fun e39 => ?_)
          refine Sp.step rfl rfl rfl (mst0 rfl rfl e39) ?_
          refine Sp.step rfl rfl rfl rfl ?_
          refine Sp.step rfl rfl rfl rfl ?_
          exact Sp.jmp (l0 := [some (.ref 60), some (.int x), some (.int (x34.1 + 1)), none, none, none]) ⟨rfl, rfl, rfl, trivial⟩ (fun _ _ h => h)
      · refine Sp.step rfl rfl rfl rfl ?_
        refine Sp.step rfl rfl rfl (mg_F (f := 34) rfl rfl rfl rfl) ?_
        refine Sp.step rfl rfl rfl rfl ?_
        refine Sp.step rfl rfl rfl rfl ?_
        refine Sp.guard (fun e42 => ?_)
        refine Sp.step rfl rfl rfl (mst rfl rfl (by decide) e42) ?_
        refine Sp.step rfl rfl rfl rfl ?_
        refine Sp.step rfl rfl rfl (mg_F (f := 5) rfl rfl rfl rfl) ?_
        refine Sp.step rfl rfl rfl rfl ?_
        refine Sp.step rfl rfl rfl (mld rfl rfl (by decide) e42) ?_
        refine Sp.step rfl rfl rfl rfl ?_
        refine Sp.if2 rfl rfl rfl rfl (fun e44 => ?_) (fun e44 => ?_)
        · refine Sp.step rfl rfl rfl rfl ?_
          refine Sp.step rfl rfl rfl rfl ?_
          refine Sp.step rfl rfl rfl rfl ?_
          refine Sp.step rfl rfl rfl rfl ?_
          refine Sp.weak (l0 := [some (.ref 60), some (.int x), some (.int 1), some (.int 0), none, none]) ⟨rfl, rfl, rfl, rfl, trivial⟩ ?_
          refine Sp.loopX (pe := 288) (mf := (fun (x59 : (Int32 × MS)) => [some (.ref 60), some (.int x), some (.int 1), some (.int x59.1), none, none])) (hf := (fun (x59 : (Int32 × MS)) => hS X x59.2)) (fun x59 => ?_) (fun x74 => ?_) _ _
          · unfold b217_M_firstWrong
            refine Sp.step rfl rfl rfl rfl ?_
            refine Sp.step rfl rfl rfl rfl ?_
            refine Sp.if2 rfl rfl rfl rfl (fun e60 => ?_) (fun e60 => ?_)
            · exact Sp.jmp (l0 := [some (.ref 60), some (.int x), some (.int 1), some (.int x59.1), none, none]) ⟨rfl, rfl, rfl, rfl, trivial⟩ (fun _ _ h => h)
            · refine Sp.step rfl rfl rfl rfl ?_
              refine Sp.step rfl rfl rfl rfl ?_
              refine Sp.step rfl rfl rfl rfl ?_
              refine Sp.step rfl rfl rfl rfl ?_
              refine Sp.step rfl rfl rfl rfl ?_
              refine Sp.step rfl rfl rfl (mg_F (f := 31) rfl rfl rfl rfl) ?_
              refine Sp.step rfl rfl rfl rfl ?_
              refine Sp.step rfl rfl rfl rfl ?_
              refine Sp.step rfl rfl rfl rfl ?_
              refine Sp.step rfl rfl rfl rfl ?_
              refine Sp.step rfl rfl rfl rfl ?_
              refine Sp.if1 rfl rfl rfl rfl (fun e62 => ?_) (fun e62 => ?_)
              · refine Sp.step rfl rfl rfl rfl ?_
                refine Sp.step rfl rfl rfl rfl ?_
                refine Sp.step rfl rfl rfl (mg_F (f := 6) rfl rfl rfl rfl) ?_
                refine Sp.step rfl rfl rfl rfl ?_
                refine Sp.guard (fun e63 => ?_)
                refine Sp.step rfl rfl rfl (mld rfl rfl (by decide) e63) ?_
                refine Sp.if2 rfl rfl rfl rfl (fun e64 => ?_) (fun e64 => ?_)
                · refine Sp.step rfl rfl rfl rfl ?_
                  refine Sp.guard (fun e65 => ?_)
                  refine Sp.step rfl rfl rfl (mst rfl rfl (by decide) e65) ?_
                  refine Sp.step rfl rfl rfl rfl ?_
                  refine Sp.step rfl rfl rfl rfl ?_
                  exact Sp.jmp (l0 := [some (.ref 60), some (.int x), some (.int 1), some (.int (x59.1 + 1)), none, none]) ⟨rfl, rfl, rfl, rfl, trivial⟩ (fun _ _ h => h)
                · refine Sp.step rfl rfl rfl rfl ?_
                  refine Sp.step rfl rfl rfl (mg_F (f := 7) rfl rfl rfl rfl) ?_
                  refine Sp.step rfl rfl rfl rfl ?_
                  refine Sp.step rfl rfl rfl (mld rfl rfl (by decide) e63) ?_
                  refine Sp.step rfl rfl rfl rfl ?_
                  refine Sp.step rfl rfl rfl rfl ?_
                  refine Sp.step rfl rfl rfl rfl ?_
                  refine Sp.step rfl rfl rfl rfl ?_
                  refine Sp.step rfl rfl rfl rfl ?_
                  refine Sp.if2 rfl rfl rfl rfl (fun e67 => ?_) (fun e67 => ?_)
                  · refine Sp.step rfl rfl rfl rfl ?_
                    refine Sp.step rfl rfl rfl rfl ?_
                    refine Sp.guard (fun e68 => ?_)
                    refine Sp.step rfl rfl rfl (mst rfl rfl (by decide) e68) ?_
                    refine Sp.step rfl rfl rfl rfl ?_
                    refine Sp.step rfl rfl rfl rfl ?_
                    exact Sp.jmp (l0 := [some (.ref 60), some (.int x), some (.int 1), some (.int (x59.1 + 1)), none, none]) ⟨rfl, rfl, rfl, rfl, trivial⟩ (fun _ _ h => h)
                  · refine Sp.step rfl rfl rfl rfl ?_
                    refine Sp.step rfl rfl rfl rfl ?_
                    refine Sp.guard (fun e70 => ?_)
                    refine Sp.step rfl rfl rfl (mst rfl rfl (by decide) e70) ?_
                    refine Sp.step rfl rfl rfl rfl ?_
                    refine Sp.step rfl rfl rfl rfl ?_
                    exact Sp.jmp (l0 := [some (.ref 60), some (.int x), some (.int 1), some (.int (x59.1 + 1)), none, none]) ⟨rfl, rfl, rfl, rfl, trivial⟩ (fun _ _ h => h)
              · refine Sp.step rfl rfl rfl rfl ?_
                refine Sp.step rfl rfl rfl rfl ?_
                refine Sp.guard (fun e72 => ?_)
                refine Sp.step rfl rfl rfl (mst rfl rfl (by decide) e72) ?_
                refine Sp.step rfl rfl rfl rfl ?_
                refine Sp.step rfl rfl rfl rfl ?_
                exact Sp.jmp (l0 := [some (.ref 60), some (.int x), some (.int 1), some (.int (x59.1 + 1)), none, none]) ⟨rfl, rfl, rfl, rfl, trivial⟩ (fun _ _ h => h)
          · refine Sp.step rfl rfl rfl rfl ?_
            refine Sp.step rfl rfl rfl rfl ?_
            refine Sp.step rfl rfl rfl (mp_I (f := 30) rfl rfl rfl rfl) ?_
            refine Sp.step rfl rfl rfl rfl ?_
            refine Sp.step rfl rfl rfl rfl ?_
            refine Sp.step rfl rfl rfl rfl ?_
            refine Sp.step rfl rfl rfl rfl ?_
            refine Sp.step rfl rfl rfl (mg_F (f := 29) rfl rfl rfl rfl) ?_
            refine Sp.step rfl rfl rfl rfl ?_
            refine Sp.call rfl rfl rfl (mrecv (by decide) (by decide +kernel)) s_M_comeTo_86 (fun x76 => ⟨_, _, ⟨rfl, rfl⟩, ?_⟩)
            refine Sp.id (pc := 304) (l := [some (.ref 60), some (.int x), some (.int 1), some (.int x74.1), none, none]) (st := [.int (if x76.1 = true then 1 else 0)]) (h := hS X x76.2) ?_
            refine Sp.step rfl rfl rfl rfl ?_
            refine Sp.step rfl rfl rfl rfl ?_
            refine Sp.step rfl rfl rfl rfl ?_
            refine Sp.call rfl rfl rfl (mrecv (by decide) (by decide +kernel)) s_M_nextLook (fun x77 => ⟨_, _, ⟨rfl, rfl⟩, ?_⟩)
            refine Sp.id (pc := 310) (l := [some (.ref 60), some (.int x), some (.int 1), some (.int (if x76.1 = true then 1 else 0)), none, none]) (st := [.int x77]) (h := hS X x76.2) ?_
            refine Sp.step rfl rfl rfl rfl ?_
            refine Sp.weak (l0 := [some (.ref 60), some (.int x), none, none, some (.int x77), none]) ⟨rfl, rfl, rfl, trivial⟩ ?_
            refine Sp.loopL (mf := (fun (x83 : (Int32 × MS)) => [some (.ref 60), some (.int x), none, none, some (.int x83.1), none])) (hf := (fun (x83 : (Int32 × MS)) => hS X x83.2)) (fun x83 => ?_) _ _
            unfold b312_M_firstWrong
            refine Sp.step rfl rfl rfl rfl ?_
            refine Sp.if1 rfl rfl rfl rfl (fun e84 => ?_) (fun e84 => ?_)
            · refine Sp.step rfl rfl rfl rfl ?_
              exact Sp.iret rfl rfl rfl rfl (fun _ _ h => h)
            · refine Sp.step rfl rfl rfl rfl ?_
              refine Sp.step rfl rfl rfl rfl ?_
              refine Sp.step rfl rfl rfl rfl ?_
              refine Sp.call rfl rfl rfl (mrecv (by decide) (by decide +kernel)) s_M_lookAt (fun x85 => ⟨_, _, ⟨rfl, rfl⟩, ?_⟩)
              refine Sp.id (pc := 324) (l := [some (.ref 60), some (.int x), none, none, some (.int x83.1), none]) (st := [.int x85.1]) (h := hS X x85.2) ?_
              refine Sp.step rfl rfl rfl rfl ?_
              refine Sp.step rfl rfl rfl rfl ?_
              refine Sp.if1 rfl rfl rfl rfl (fun e86 => ?_) (fun e86 => ?_)
              · refine Sp.step rfl rfl rfl rfl ?_
                refine Sp.step rfl rfl rfl rfl ?_
                refine Sp.call rfl rfl rfl (mrecv (by decide) (by decide +kernel)) s_M_nextLook (fun x87 => ⟨_, _, ⟨rfl, rfl⟩, ?_⟩)
                refine Sp.id (pc := 339) (l := [some (.ref 60), some (.int x), none, none, some (.int x83.1), some (.int x85.1)]) (st := [.int x87]) (h := hS X x85.2) ?_
                refine Sp.step rfl rfl rfl rfl ?_
                refine Sp.step rfl rfl rfl rfl ?_
                exact Sp.jmp (l0 := [some (.ref 60), some (.int x), none, none, some (.int x87), none]) ⟨rfl, rfl, rfl, trivial⟩ (fun _ _ h => h)
              · refine Sp.step rfl rfl rfl rfl ?_
                exact Sp.iret rfl rfl rfl rfl (fun _ _ h => h)
        · refine Sp.step rfl rfl rfl rfl ?_
          refine Sp.step rfl rfl rfl rfl ?_
          refine Sp.step rfl rfl rfl rfl ?_
          refine Sp.step rfl rfl rfl rfl ?_
          refine Sp.step rfl rfl rfl rfl ?_
          refine Sp.weak (l0 := [some (.ref 60), some (.int x), some (.int 0), some (.int 0), none, none]) ⟨rfl, rfl, rfl, rfl, trivial⟩ ?_
          refine Sp.loopX (pe := 288) (mf := (fun (x99 : (Int32 × MS)) => [some (.ref 60), some (.int x), some (.int 0), some (.int x99.1), none, none])) (hf := (fun (x99 : (Int32 × MS)) => hS X x99.2)) (fun x99 => ?_) (fun x111 => ?_) _ _
          · unfold b217_M_firstWrong'
            refine Sp.step rfl rfl rfl rfl ?_
            refine Sp.step rfl rfl rfl rfl ?_
            refine Sp.if2 rfl rfl rfl rfl (fun e100 => ?_) (fun e100 => ?_)
            · exact Sp.jmp (l0 := [some (.ref 60), some (.int x), some (.int 0), some (.int x99.1), none, none]) ⟨rfl, rfl, rfl, rfl, trivial⟩ (fun _ _ h => h)
            · refine Sp.step rfl rfl rfl rfl ?_
              refine Sp.step rfl rfl rfl rfl ?_
              refine Sp.step rfl rfl rfl rfl ?_
              refine Sp.step rfl rfl rfl rfl ?_
              refine Sp.step rfl rfl rfl rfl ?_
              refine Sp.step rfl rfl rfl (mg_F (f := 31) rfl rfl rfl rfl) ?_
              refine Sp.step rfl rfl rfl rfl ?_
              refine Sp.step rfl rfl rfl rfl ?_
              refine Sp.step rfl rfl rfl rfl ?_
              refine Sp.step rfl rfl rfl rfl ?_
              refine Sp.step rfl rfl rfl rfl ?_
              refine Sp.step rfl rfl rfl rfl ?_
              refine Sp.step rfl rfl rfl (mg_F (f := 6) rfl rfl rfl rfl) ?_
              refine Sp.step rfl rfl rfl rfl ?_
              refine Sp.guard (fun e102 => ?_)
              refine Sp.step rfl rfl rfl (mld rfl rfl (by decide) e102) ?_
              refine Sp.if2 rfl rfl rfl rfl (fun e103 => ?_) (fun e103 => ?_)
              · refine Sp.step rfl rfl rfl rfl ?_
                refine Sp.guard (fun e104 => ?_)
                refine Sp.step rfl rfl rfl (mst rfl rfl (by decide) e104) ?_
                refine Sp.step rfl rfl rfl rfl ?_
                refine Sp.step rfl rfl rfl rfl ?_
                exact Sp.jmp (l0 := [some (.ref 60), some (.int x), some (.int 0), some (.int (x99.1 + 1)), none, none]) ⟨rfl, rfl, rfl, rfl, trivial⟩ (fun _ _ h => h)
              · refine Sp.step rfl rfl rfl rfl ?_
                refine Sp.step rfl rfl rfl (mg_F (f := 7) rfl rfl rfl rfl) ?_
                refine Sp.step rfl rfl rfl rfl ?_
                refine Sp.step rfl rfl rfl (mld rfl rfl (by decide) e102) ?_
                refine Sp.step rfl rfl rfl rfl ?_
                refine Sp.step rfl rfl rfl rfl ?_
                refine Sp.step rfl rfl rfl rfl ?_
                refine Sp.step rfl rfl rfl rfl ?_
                refine Sp.step rfl rfl rfl rfl ?_
                refine Sp.if2 rfl rfl rfl rfl (fun e106 => ?_) (fun e106 => ?_)
                · refine Sp.step rfl rfl rfl rfl ?_
                  refine Sp.step rfl rfl rfl rfl ?_
                  refine Sp.guard (fun e107 => ?_)
                  refine Sp.step rfl rfl rfl (mst rfl rfl (by decide) e107) ?_
                  refine Sp.step rfl rfl rfl rfl ?_
                  refine Sp.step rfl rfl rfl rfl ?_
                  exact Sp.jmp (l0 := [some (.ref 60), some (.int x), some (.int 0), some (.int (x99.1 + 1)), none, none]) ⟨rfl, rfl, rfl, rfl, trivial⟩ (fun _ _ h => h)
                · refine Sp.step rfl rfl rfl rfl ?_
                  refine Sp.step rfl rfl rfl rfl ?_
                  refine Sp.guard (fun e109 => ?_)
                  refine Sp.step rfl rfl rfl (mst rfl rfl (by decide) e109) ?_
                  refine Sp.step rfl rfl rfl rfl ?_
                  refine Sp.step rfl rfl rfl rfl ?_
                  exact Sp.jmp (l0 := [some (.ref 60), some (.int x), some (.int 0), some (.int (x99.1 + 1)), none, none]) ⟨rfl, rfl, rfl, rfl, trivial⟩ (fun _ _ h => h)
          · refine Sp.step rfl rfl rfl rfl ?_
            refine Sp.step rfl rfl rfl rfl ?_
            refine Sp.step rfl rfl rfl (mp_I (f := 30) rfl rfl rfl rfl) ?_
            refine Sp.step rfl rfl rfl rfl ?_
            refine Sp.step rfl rfl rfl rfl ?_
            refine Sp.step rfl rfl rfl rfl ?_
            refine Sp.step rfl rfl rfl rfl ?_
            refine Sp.step rfl rfl rfl (mg_F (f := 29) rfl rfl rfl rfl) ?_
            refine Sp.step rfl rfl rfl rfl ?_
            refine Sp.call rfl rfl rfl (mrecv (by decide) (by decide +kernel)) s_M_comeTo_86 (fun x113 => ⟨_, _, ⟨rfl, rfl⟩, ?_⟩)
            refine Sp.id (pc := 304) (l := [some (.ref 60), some (.int x), some (.int 0), some (.int x111.1), none, none]) (st := [.int (if x113.1 = true then 1 else 0)]) (h := hS X x113.2) ?_
            refine Sp.step rfl rfl rfl rfl ?_
            refine Sp.step rfl rfl rfl rfl ?_
            refine Sp.step rfl rfl rfl rfl ?_
            refine Sp.call rfl rfl rfl (mrecv (by decide) (by decide +kernel)) s_M_nextLook (fun x114 => ⟨_, _, ⟨rfl, rfl⟩, ?_⟩)
            refine Sp.id (pc := 310) (l := [some (.ref 60), some (.int x), some (.int 0), some (.int (if x113.1 = true then 1 else 0)), none, none]) (st := [.int x114]) (h := hS X x113.2) ?_
            refine Sp.step rfl rfl rfl rfl ?_
            refine Sp.weak (l0 := [some (.ref 60), some (.int x), none, none, some (.int x114), none]) ⟨rfl, rfl, rfl, trivial⟩ ?_
            refine Sp.loopL (mf := (fun (x120 : (Int32 × MS)) => [some (.ref 60), some (.int x), none, none, some (.int x120.1), none])) (hf := (fun (x120 : (Int32 × MS)) => hS X x120.2)) (fun x120 => ?_) _ _
            unfold b312_M_firstWrong
            refine Sp.step rfl rfl rfl rfl ?_
            refine Sp.if1 rfl rfl rfl rfl (fun e121 => ?_) (fun e121 => ?_)
            · refine Sp.step rfl rfl rfl rfl ?_
              exact Sp.iret rfl rfl rfl rfl (fun _ _ h => h)
            · refine Sp.step rfl rfl rfl rfl ?_
              refine Sp.step rfl rfl rfl rfl ?_
              refine Sp.step rfl rfl rfl rfl ?_
              refine Sp.call rfl rfl rfl (mrecv (by decide) (by decide +kernel)) s_M_lookAt (fun x122 => ⟨_, _, ⟨rfl, rfl⟩, ?_⟩)
              refine Sp.id (pc := 324) (l := [some (.ref 60), some (.int x), none, none, some (.int x120.1), none]) (st := [.int x122.1]) (h := hS X x122.2) ?_
              refine Sp.step rfl rfl rfl rfl ?_
              refine Sp.step rfl rfl rfl rfl ?_
              refine Sp.if1 rfl rfl rfl rfl (fun e123 => ?_) (fun e123 => ?_)
              · refine Sp.step rfl rfl rfl rfl ?_
                refine Sp.step rfl rfl rfl rfl ?_
                refine Sp.call rfl rfl rfl (mrecv (by decide) (by decide +kernel)) s_M_nextLook (fun x124 => ⟨_, _, ⟨rfl, rfl⟩, ?_⟩)
                refine Sp.id (pc := 339) (l := [some (.ref 60), some (.int x), none, none, some (.int x120.1), some (.int x122.1)]) (st := [.int x124]) (h := hS X x122.2) ?_
                refine Sp.step rfl rfl rfl rfl ?_
                refine Sp.step rfl rfl rfl rfl ?_
                exact Sp.jmp (l0 := [some (.ref 60), some (.int x), none, none, some (.int x124), none]) ⟨rfl, rfl, rfl, trivial⟩ (fun _ _ h => h)
              · refine Sp.step rfl rfl rfl rfl ?_
                exact Sp.iret rfl rfl rfl rfl (fun _ _ h => h)
  · refine Sp.step rfl rfl rfl rfl ?_
    exact Sp.iret rfl rfl rfl rfl (fun _ _ h => h)
