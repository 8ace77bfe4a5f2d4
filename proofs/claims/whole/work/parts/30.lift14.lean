/-! methods as functions, by program -/
def b27_M_run (x : Int32) (x11 : (Int32 × Int32 × MS)) : Option ((Int32 × Int32 × MS) ⊕ (Int32 × Int32 × MS)) := (if x11.2.1 < 0 then some (.inr (x11.1, x11.2.1, x11.2.2)) else (if x ≤ x11.1 then some (.inr (x11.1, x11.2.1, x11.2.2)) else ((f_M_step x11.2.1 x11.2.2).bind fun x14 => (if x ≤ x11.1 + 1 then some (.inl (x11.1 + 1, (-2), x14)) else ((f_M_turn x14).bind fun x16 => some (.inl (x11.1 + 1, x16.1, x16.2)))))))
def f_M_run (x : Int32) (M : MS) : Option (Int32 × MS) := (if M.1 60 57 = 0 then some ((-1), M) else (if 1 ≤ x ∧ x ≤ 5000 then ((f_M_turn M).bind fun x4 => ((lp (b27_M_run x) 10000 ((0 : Int32), x4.1, x4.2)).bind fun x17 => some (x17.1, x17.2.2))) else some ((-1), M)))
set_option maxRecDepth 100000 in
set_option maxHeartbeats 4000000 in
theorem s_M_run {L : Nat} {xs : Nat → Int32} {X : XS} {M : MS} {x : Int32} : Sp (mjOO L xs) 98 0 [some (.ref 60), some (.int x), none, none] [] (hS X M) (f_M_run x M) (KEM X) := by
  unfold f_M_run
  refine Sp.step rfl rfl rfl rfl ?_
  refine Sp.step rfl rfl rfl (mg_I (f := 57) rfl rfl rfl) ?_
  refine Sp.if1 rfl rfl rfl rfl (fun e1 => ?_) (fun e1 => ?_)
  · refine Sp.step rfl rfl rfl rfl ?_
    exact Sp.iret rfl rfl rfl rfl (fun _ _ h => h)
  · refine Sp.step rfl rfl rfl rfl ?_
    refine Sp.step rfl rfl rfl rfl ?_
    refine Sp.step rfl rfl rfl rfl ?_
    refine Sp.callP rfl rfl rfl rfl s_isIn (fun e2 => ?_) (fun e2 => ?_)
    · refine Sp.id (pc := 15) (l := [some (.ref 60), some (.int x), none, none]) (st := [.int 1]) (h := hS X M) ?_
      refine Sp.step rfl rfl rfl rfl ?_
      refine Sp.step rfl rfl rfl rfl ?_
      refine Sp.step rfl rfl rfl rfl ?_
      refine Sp.step rfl rfl rfl rfl ?_
      refine Sp.call rfl rfl rfl (mrecv (by decide) (by decide +kernel)) s_M_turn (fun x4 => ⟨_, _, ⟨rfl, rfl⟩, ?_⟩)
      refine Sp.id (pc := 26) (l := [some (.ref 60), some (.int x), some (.int 0), none]) (st := [.int x4.1]) (h := hS X x4.2) ?_
      refine Sp.step rfl rfl rfl rfl ?_
      refine Sp.weak (l0 := [some (.ref 60), some (.int x), some (.int 0), some (.int x4.1)]) ⟨rfl, rfl, rfl, rfl, trivial⟩ ?_
      refine Sp.loopX (pe := 62) (mf := (fun (x11 : (Int32 × Int32 × MS)) => [some (.ref 60), some (.int x), some (.int x11.1), some (.int x11.2.1)])) (hf := (fun (x11 : (Int32 × Int32 × MS)) => hS X x11.2.2)) (fun x11 => ?_) (fun x17 => ?_) _ _
      · unfold b27_M_run
        refine Sp.step rfl rfl rfl rfl ?_
        refine Sp.if1 rfl rfl rfl rfl (fun e12 => ?_) (fun e12 => ?_)
        · exact Sp.jmp (l0 := [some (.ref 60), some (.int x), some (.int x11.1), some (.int x11.2.1)]) ⟨rfl, rfl, rfl, rfl, trivial⟩ (fun _ _ h => h)
        · refine Sp.step rfl rfl rfl rfl ?_
          refine Sp.step rfl rfl rfl rfl ?_
          refine Sp.if2 rfl rfl rfl rfl (fun e13 => ?_) (fun e13 => ?_)
          · exact Sp.jmp (l0 := [some (.ref 60), some (.int x), some (.int x11.1), some (.int x11.2.1)]) ⟨rfl, rfl, rfl, rfl, trivial⟩ (fun _ _ h => h)
          · refine Sp.step rfl rfl rfl rfl ?_
            refine Sp.step rfl rfl rfl rfl ?_
            refine Sp.call rfl rfl rfl (mrecv (by decide) (by decide +kernel)) s_M_step (fun x14 => ⟨_, _, ⟨rfl, rfl⟩, ?_⟩)
            refine Sp.id (pc := 41) (l := [some (.ref 60), some (.int x), some (.int x11.1), some (.int x11.2.1)]) (st := []) (h := hS X x14) ?_
            refine Sp.step rfl rfl rfl rfl ?_
            refine Sp.step rfl rfl rfl rfl ?_
            refine Sp.step rfl rfl rfl rfl ?_
            refine Sp.if2 rfl rfl rfl rfl (fun e15 => ?_) (fun e15 => ?_)
            · refine Sp.step rfl rfl rfl rfl ?_
              refine Sp.step rfl rfl rfl rfl ?_
              refine Sp.step rfl rfl rfl rfl ?_
              exact Sp.jmp (l0 := [some (.ref 60), some (.int x), some (.int (x11.1 + 1)), some (.int (-2))]) ⟨rfl, rfl, rfl, rfl, trivial⟩ (fun _ _ h => h)
            · refine Sp.step rfl rfl rfl rfl ?_
              refine Sp.call rfl rfl rfl (mrecv (by decide) (by decide +kernel)) s_M_turn (fun x16 => ⟨_, _, ⟨rfl, rfl⟩, ?_⟩)
              refine Sp.id (pc := 53) (l := [some (.ref 60), some (.int x), some (.int (x11.1 + 1)), some (.int x11.2.1)]) (st := [.int x16.1]) (h := hS X x16.2) ?_
              refine Sp.step rfl rfl rfl rfl ?_
              refine Sp.step rfl rfl rfl rfl ?_
              refine Sp.step rfl rfl rfl rfl ?_
              exact Sp.jmp (l0 := [some (.ref 60), some (.int x), some (.int (x11.1 + 1)), some (.int x16.1)]) ⟨rfl, rfl, rfl, rfl, trivial⟩ (fun _ _ h => h)
      · refine Sp.step rfl rfl rfl rfl ?_
        exact Sp.iret rfl rfl rfl rfl (fun _ _ h => h)
    · refine Sp.id (pc := 15) (l := [some (.ref 60), some (.int x), none, none]) (st := [.int 0]) (h := hS X M) ?_
      refine Sp.step rfl rfl rfl rfl ?_
      refine Sp.step rfl rfl rfl rfl ?_
      exact Sp.iret rfl rfl rfl rfl (fun _ _ h => h)
def f_M_out (x : Int32) (M : MS) : Int32 := (if x < 0 then (-2) else (if M.1 60 78 ≤ x then (-2) else (if 300 ≤ x then (-2) else M.1 120 x.toNatClampNeg)))
set_option maxRecDepth 100000 in
set_option maxHeartbeats 4000000 in
theorem s_M_out {L : Nat} {xs : Nat → Int32} {X : XS} {M : MS} {x : Int32} : Sp (mjOO L xs) 99 0 [some (.ref 60), some (.int x)] [] (hS X M) (some (f_M_out x M)) (KQ (hS X M)) := by
  unfold f_M_out
  refine Sp.step rfl rfl rfl rfl ?_
  refine Sp.if1V rfl rfl rfl rfl (fun e1 => ?_) (fun e1 => ?_)
  · refine Sp.step rfl rfl rfl rfl ?_
    exact Sp.iret rfl rfl rfl rfl (fun _ _ h => h)
  · refine Sp.step rfl rfl rfl rfl ?_
    refine Sp.step rfl rfl rfl rfl ?_
    refine Sp.step rfl rfl rfl (mg_I (f := 78) rfl rfl rfl) ?_
    refine Sp.if2V rfl rfl rfl rfl (fun e2 => ?_) (fun e2 => ?_)
    · refine Sp.step rfl rfl rfl rfl ?_
      exact Sp.iret rfl rfl rfl rfl (fun _ _ h => h)
    · refine Sp.step rfl rfl rfl rfl ?_
      refine Sp.step rfl rfl rfl rfl ?_
      refine Sp.if2V rfl rfl rfl rfl (fun e3 => ?_) (fun e3 => ?_)
      · refine Sp.step rfl rfl rfl rfl ?_
        exact Sp.iret rfl rfl rfl rfl (fun _ _ h => h)
      · refine Sp.step rfl rfl rfl rfl ?_
        refine Sp.step rfl rfl rfl (mg_F (f := 77) rfl rfl rfl rfl) ?_
        refine Sp.step rfl rfl rfl rfl ?_
        refine Sp.step rfl rfl rfl (mld rfl rfl (by decide) (ix_ok (N := 300) (n := 300) rfl (Int32.not_lt.mp e1) (Int32.not_le.mp e3))) ?_
        refine Sp.step rfl rfl rfl rfl ?_
        exact Sp.iret rfl rfl rfl rfl (fun _ _ h => h)
def f_M_thread (x : Int32) (y : Int32) (M : MS) : Option Int32 := (if M.1 60 57 = 0 then some (-1) else (if 0 ≤ x ∧ x ≤ (M.1 60 61) - 1 then (if 0 ≤ y ∧ y ≤ 2 then (if ¬ y = 0 then (if ¬ y = 1 then (if ixo x 6 then some (M.1 111 x.toNatClampNeg) else none) else (if ixo x 6 then some (M.1 109 x.toNatClampNeg) else none)) else (if ixo x 6 then (if M.1 110 x.toNatClampNeg ≤ 0 then ((f_M_waits x M).bind fun x12 => (if x12 = true then some 1 else some 0)) else some (M.1 110 x.toNatClampNeg)) else none)) else some (-1)) else some (-1)))
set_option maxRecDepth 100000 in
set_option maxHeartbeats 4000000 in
theorem s_M_thread {L : Nat} {xs : Nat → Int32} {X : XS} {M : MS} {x : Int32} {y : Int32} : Sp (mjOO L xs) 100 0 [some (.ref 60), some (.int x), some (.int y)] [] (hS X M) (f_M_thread x y M) (KQ (hS X M)) := by
  unfold f_M_thread
  refine Sp.step rfl rfl rfl rfl ?_
  refine Sp.step rfl rfl rfl (mg_I (f := 57) rfl rfl rfl) ?_
  refine Sp.if1 rfl rfl rfl rfl (fun e1 => ?_) (fun e1 => ?_)
  · refine Sp.step rfl rfl rfl rfl ?_
    exact Sp.iret rfl rfl rfl rfl (fun _ _ h => h)
  · refine Sp.step rfl rfl rfl rfl ?_
    refine Sp.step rfl rfl rfl rfl ?_
    refine Sp.step rfl rfl rfl rfl ?_
    refine Sp.step rfl rfl rfl (mg_I (f := 61) rfl rfl rfl) ?_
    refine Sp.step rfl rfl rfl rfl ?_
    refine Sp.step rfl rfl rfl rfl ?_
    refine Sp.callP rfl rfl rfl rfl s_isIn (fun e2 => ?_) (fun e2 => ?_)
    · refine Sp.id (pc := 18) (l := [some (.ref 60), some (.int x), some (.int y)]) (st := [.int 1]) (h := hS X M) ?_
      refine Sp.step rfl rfl rfl rfl ?_
      refine Sp.step rfl rfl rfl rfl ?_
      refine Sp.step rfl rfl rfl rfl ?_
      refine Sp.step rfl rfl rfl rfl ?_
      refine Sp.callP rfl rfl rfl rfl s_isIn (fun e4 => ?_) (fun e4 => ?_)
      · refine Sp.id (pc := 27) (l := [some (.ref 60), some (.int x), some (.int y)]) (st := [.int 1]) (h := hS X M) ?_
        refine Sp.step rfl rfl rfl rfl ?_
        refine Sp.step rfl rfl rfl rfl ?_
        refine Sp.if1 rfl rfl rfl rfl (fun e6 => ?_) (fun e6 => ?_)
        · refine Sp.step rfl rfl rfl rfl ?_
          refine Sp.step rfl rfl rfl rfl ?_
          refine Sp.if2 rfl rfl rfl rfl (fun e7 => ?_) (fun e7 => ?_)
          · refine Sp.step rfl rfl rfl rfl ?_
            refine Sp.step rfl rfl rfl (mg_F (f := 67) rfl rfl rfl rfl) ?_
            refine Sp.step rfl rfl rfl rfl ?_
            refine Sp.guard (fun e8 => ?_)
            refine Sp.step rfl rfl rfl (mld rfl rfl (by decide) e8) ?_
            exact Sp.iret rfl rfl rfl rfl (fun _ _ h => h)
          · refine Sp.step rfl rfl rfl rfl ?_
            refine Sp.step rfl rfl rfl (mg_F (f := 65) rfl rfl rfl rfl) ?_
            refine Sp.step rfl rfl rfl rfl ?_
            refine Sp.guard (fun e9 => ?_)
            refine Sp.step rfl rfl rfl (mld rfl rfl (by decide) e9) ?_
            refine Sp.step rfl rfl rfl rfl ?_
            exact Sp.iret rfl rfl rfl rfl (fun _ _ h => h)
        · refine Sp.step rfl rfl rfl rfl ?_
          refine Sp.step rfl rfl rfl (mg_F (f := 66) rfl rfl rfl rfl) ?_
          refine Sp.step rfl rfl rfl rfl ?_
          refine Sp.guard (fun e10 => ?_)
          refine Sp.step rfl rfl rfl (mld rfl rfl (by decide) e10) ?_
          refine Sp.if1 rfl rfl rfl rfl (fun e11 => ?_) (fun e11 => ?_)
          · refine Sp.step rfl rfl rfl rfl ?_
            refine Sp.step rfl rfl rfl rfl ?_
            refine Sp.call rfl rfl rfl (mrecv (by decide) (by decide +kernel)) s_M_waits (fun x12 => ⟨_, _, ⟨rfl, rfl⟩, ?_⟩)
            refine Sp.bool (fun e13 => ?_) (fun e13 => ?_)
            · refine Sp.id (pc := 59) (l := [some (.ref 60), some (.int x), some (.int y)]) (st := [.int 1]) (h := hS X M) ?_
              refine Sp.step rfl rfl rfl rfl ?_
              refine Sp.step rfl rfl rfl rfl ?_
              refine Sp.step rfl rfl rfl rfl ?_
              exact Sp.iret rfl rfl rfl rfl (fun _ _ h => h)
            · refine Sp.id (pc := 59) (l := [some (.ref 60), some (.int x), some (.int y)]) (st := [.int 0]) (h := hS X M) ?_
              refine Sp.step rfl rfl rfl rfl ?_
              refine Sp.step rfl rfl rfl rfl ?_
              refine Sp.step rfl rfl rfl rfl ?_
              exact Sp.iret rfl rfl rfl rfl (fun _ _ h => h)
          · refine Sp.step rfl rfl rfl rfl ?_
            refine Sp.step rfl rfl rfl (mg_F (f := 66) rfl rfl rfl rfl) ?_
            refine Sp.step rfl rfl rfl rfl ?_
            refine Sp.step rfl rfl rfl (mld rfl rfl (by decide) e10) ?_
            refine Sp.step rfl rfl rfl rfl ?_
            exact Sp.iret rfl rfl rfl rfl (fun _ _ h => h)
      · refine Sp.id (pc := 27) (l := [some (.ref 60), some (.int x), some (.int y)]) (st := [.int 0]) (h := hS X M) ?_
        refine Sp.step rfl rfl rfl rfl ?_
        refine Sp.step rfl rfl rfl rfl ?_
        exact Sp.iret rfl rfl rfl rfl (fun _ _ h => h)
    · refine Sp.id (pc := 18) (l := [some (.ref 60), some (.int x), some (.int y)]) (st := [.int 0]) (h := hS X M) ?_
      refine Sp.step rfl rfl rfl rfl ?_
      refine Sp.step rfl rfl rfl rfl ?_
      exact Sp.iret rfl rfl rfl rfl (fun _ _ h => h)
def f_M_sound : Bool := true
set_option maxRecDepth 100000 in
set_option maxHeartbeats 4000000 in
theorem s_M_sound {L : Nat} {xs : Nat → Int32} {X : XS} {M : MS} : Sp (mjOO L xs) 101 0 [some (.ref 60)] [] (hS X M) (some (f_M_sound)) (KB (hS X M)) := by
  unfold f_M_sound
  refine Sp.step rfl rfl rfl rfl ?_
  exact Sp.iret rfl rfl rfl rfl (fun _ _ h => h)
def f_M_told (x : Int32) (M : MS) : Int32 := (if x = 0 then M.1 60 3 else (if x = 1 then M.1 60 15 else (if x = 2 then M.1 60 37 else (if x = 3 then M.2.toInt32 else (if x = 4 then M.1 60 61 else (if x = 5 then M.1 60 87 else (if x = 6 then M.1 60 88 else (if x = 7 then M.1 60 78 else (if x = 8 then M.1 60 76 else (if x = 9 then M.1 60 42 else (-1)))))))))))
set_option maxRecDepth 100000 in
set_option maxHeartbeats 4000000 in
theorem s_M_told {L : Nat} {xs : Nat → Int32} {X : XS} {M : MS} {x : Int32} : Sp (mjOO L xs) 102 0 [some (.ref 60), some (.int x)] [] (hS X M) (some (f_M_told x M)) (KQ (hS X M)) := by
  unfold f_M_told
  refine Sp.step rfl rfl rfl rfl ?_
  refine Sp.iteV (fun e1 => ?_) (fun e1 => ?_)
  · refine Sp.step rfl rfl rfl (go_sw (t := 56) (sw_of e1 rfl)) ?_
    refine Sp.step rfl rfl rfl rfl ?_
    refine Sp.step rfl rfl rfl (mg_I (f := 3) rfl rfl rfl) ?_
    exact Sp.iret rfl rfl rfl rfl (fun _ _ h => h)
  · refine Sp.iteV (fun e2 => ?_) (fun e2 => ?_)
    · refine Sp.step rfl rfl rfl (go_sw (t := 61) (sw_of e2 rfl)) ?_
      refine Sp.step rfl rfl rfl rfl ?_
      refine Sp.step rfl rfl rfl (mg_I (f := 15) rfl rfl rfl) ?_
      exact Sp.iret rfl rfl rfl rfl (fun _ _ h => h)
    · refine Sp.iteV (fun e3 => ?_) (fun e3 => ?_)
      · refine Sp.step rfl rfl rfl (go_sw (t := 66) (sw_of e3 rfl)) ?_
        refine Sp.step rfl rfl rfl rfl ?_
        refine Sp.step rfl rfl rfl (mg_I (f := 37) rfl rfl rfl) ?_
        exact Sp.iret rfl rfl rfl rfl (fun _ _ h => h)
      · refine Sp.iteV (fun e4 => ?_) (fun e4 => ?_)
        · refine Sp.step rfl rfl rfl (go_sw (t := 71) (sw_of e4 rfl)) ?_
          refine Sp.step rfl rfl rfl rfl ?_
          refine Sp.step rfl rfl rfl (mg_L (f := 60) rfl rfl rfl) ?_
          refine Sp.step rfl rfl rfl rfl ?_
          exact Sp.iret rfl rfl rfl rfl (fun _ _ h => h)
        · refine Sp.iteV (fun e5 => ?_) (fun e5 => ?_)
          · refine Sp.step rfl rfl rfl (go_sw (t := 77) (sw_of e5 rfl)) ?_
            refine Sp.step rfl rfl rfl rfl ?_
            refine Sp.step rfl rfl rfl (mg_I (f := 61) rfl rfl rfl) ?_
            exact Sp.iret rfl rfl rfl rfl (fun _ _ h => h)
          · refine Sp.iteV (fun e6 => ?_) (fun e6 => ?_)
            · refine Sp.step rfl rfl rfl (go_sw (t := 82) (sw_of e6 rfl)) ?_
              refine Sp.step rfl rfl rfl rfl ?_
              refine Sp.step rfl rfl rfl (mg_I (f := 87) rfl rfl rfl) ?_
              exact Sp.iret rfl rfl rfl rfl (fun _ _ h => h)
            · refine Sp.iteV (fun e7 => ?_) (fun e7 => ?_)
              · refine Sp.step rfl rfl rfl (go_sw (t := 87) (sw_of e7 rfl)) ?_
                refine Sp.step rfl rfl rfl rfl ?_
                refine Sp.step rfl rfl rfl (mg_I (f := 88) rfl rfl rfl) ?_
                exact Sp.iret rfl rfl rfl rfl (fun _ _ h => h)
              · refine Sp.iteV (fun e8 => ?_) (fun e8 => ?_)
                · refine Sp.step rfl rfl rfl (go_sw (t := 92) (sw_of e8 rfl)) ?_
                  refine Sp.step rfl rfl rfl rfl ?_
                  refine Sp.step rfl rfl rfl (mg_I (f := 78) rfl rfl rfl) ?_
                  exact Sp.iret rfl rfl rfl rfl (fun _ _ h => h)
                · refine Sp.iteV (fun e9 => ?_) (fun e9 => ?_)
                  · refine Sp.step rfl rfl rfl (go_sw (t := 97) (sw_of e9 rfl)) ?_
                    refine Sp.step rfl rfl rfl rfl ?_
                    refine Sp.step rfl rfl rfl (mg_I (f := 76) rfl rfl rfl) ?_
                    exact Sp.iret rfl rfl rfl rfl (fun _ _ h => h)
                  · refine Sp.iteV (fun e10 => ?_) (fun e10 => ?_)
                    · refine Sp.step rfl rfl rfl (go_sw (t := 102) (sw_of e10 rfl)) ?_
                      refine Sp.step rfl rfl rfl rfl ?_
                      refine Sp.step rfl rfl rfl (mg_I (f := 42) rfl rfl rfl) ?_
                      exact Sp.iret rfl rfl rfl rfl (fun _ _ h => h)
                    · refine Sp.step rfl rfl rfl (go_sw (t := 107) (mjSw_dflt _ (by
                        intro q hq
                        simp only [List.mem_cons, List.not_mem_nil, or_false] at hq
                        rcases hq with rfl | rfl | rfl | rfl | rfl | rfl | rfl | rfl | rfl | rfl
                        · exact fun h => absurd h (fun h => e1 h)
                        · exact fun h => absurd h (fun h => e2 h)
                        · exact fun h => absurd h (fun h => e3 h)
                        · exact fun h => absurd h (fun h => e4 h)
                        · exact fun h => absurd h (fun h => e5 h)
                        · exact fun h => absurd h (fun h => e6 h)
                        · exact fun h => absurd h (fun h => e7 h)
                        · exact fun h => absurd h (fun h => e8 h)
                        · exact fun h => absurd h (fun h => e9 h)
                        · exact fun h => absurd h (fun h => e10 h)))) ?_
                      refine Sp.step rfl rfl rfl rfl ?_
                      exact Sp.iret rfl rfl rfl rfl (fun _ _ h => h)
