/-! methods as functions, by program -/
def f_M_topAt (M : MS) : Option Int32 := (if ixo (M.1 60 89) 120 then some (((22 * (M.1 60 89)) + 12) + (M.1 114 (M.1 60 89).toNatClampNeg)) else none)
set_option maxRecDepth 100000 in
set_option maxHeartbeats 4000000 in
theorem s_M_topAt {L : Nat} {xs : Nat → Int32} {X : XS} {M : MS} : Sp (mjOO L xs) 63 0 [some (.ref 60)] [] (hS X M) (f_M_topAt M) (KQ (hS X M)) := by
  unfold f_M_topAt
  refine Sp.step rfl rfl rfl rfl ?_
  refine Sp.step rfl rfl rfl rfl ?_
  refine Sp.step rfl rfl rfl (mg_I (f := 89) rfl rfl rfl) ?_
  refine Sp.step rfl rfl rfl rfl ?_
  refine Sp.step rfl rfl rfl rfl ?_
  refine Sp.step rfl rfl rfl rfl ?_
  refine Sp.step rfl rfl rfl rfl ?_
  refine Sp.step rfl rfl rfl (mg_F (f := 70) rfl rfl rfl rfl) ?_
  refine Sp.step rfl rfl rfl rfl ?_
  refine Sp.step rfl rfl rfl (mg_I (f := 89) rfl rfl rfl) ?_
  refine Sp.guard (fun e1 => ?_)
  refine Sp.step rfl rfl rfl (mld rfl rfl (by decide) e1) ?_
  refine Sp.step rfl rfl rfl rfl ?_
  exact Sp.iret rfl rfl rfl rfl (fun _ _ h => h)
def f_M_takeValue (M : MS) : Option (Int32 × MS) := (if ixo (M.1 60 89) 120 then (lt (mw M 114 (M.1 60 89).toNatClampNeg ((M.1 114 (M.1 60 89).toNatClampNeg) - 1)) fun M2 => ((f_M_topAt M2).bind fun x3 => (if ixo x3 2640 then some (M2.1 115 x3.toNatClampNeg, M2) else none))) else none)
set_option maxRecDepth 100000 in
set_option maxHeartbeats 4000000 in
theorem s_M_takeValue {L : Nat} {xs : Nat → Int32} {X : XS} {M : MS} : Sp (mjOO L xs) 66 0 [some (.ref 60)] [] (hS X M) (f_M_takeValue M) (KEM X) := by
  unfold f_M_takeValue
  refine Sp.step rfl rfl rfl rfl ?_
  refine Sp.step rfl rfl rfl (mg_F (f := 70) rfl rfl rfl rfl) ?_
  refine Sp.step rfl rfl rfl rfl ?_
  refine Sp.step rfl rfl rfl (mg_I (f := 89) rfl rfl rfl) ?_
  refine Sp.step rfl rfl rfl rfl ?_
  refine Sp.guard (fun e1 => ?_)
  refine Sp.step rfl rfl rfl (mld rfl rfl (by decide) e1) ?_
  refine Sp.step rfl rfl rfl rfl ?_
  refine Sp.step rfl rfl rfl rfl ?_
  refine Sp.step rfl rfl rfl (mst rfl rfl (by decide) e1) ?_
  refine Sp.step rfl rfl rfl rfl ?_
  refine Sp.step rfl rfl rfl (mg_F (f := 71) rfl rfl rfl rfl) ?_
  refine Sp.step rfl rfl rfl rfl ?_
  refine Sp.call rfl rfl rfl (mrecv (by decide) (by decide +kernel)) s_M_topAt (fun x3 => ⟨_, _, ⟨rfl, rfl⟩, ?_⟩)
  refine Sp.id (pc := 21) (l := [some (.ref 60)]) (st := [.int x3, .ref 115]) (h := hS X (mw M 114 (M.1 60 89).toNatClampNeg ((M.1 114 (M.1 60 89).toNatClampNeg) - 1))) ?_
  refine Sp.guard (fun e4 => ?_)
  refine Sp.step rfl rfl rfl (mld rfl rfl (by decide) e4) ?_
  exact Sp.iret rfl rfl rfl rfl (fun _ _ h => h)
def f_M_reckon (x : Int32) (y : Int32) (z : Int32) : Option Int32 := (if x = 4 then some (y + z) else (if x = 5 then some (y - z) else (if x = 6 then some (y * z) else (if x = 7 then (if ¬ z = 0 then some (y / z) else none) else (if x = 8 then (if ¬ z = 0 then some (y - y / z * z) else none) else (if x = 10 then some (y &&& z) else (if x = 11 then some (y ||| z) else (if x = 12 then some (y ^^^ z) else (if x = 13 then some ((y : Int32) <<< ((z : Int32) &&& 31)) else (if x = 14 then some ((y : Int32) >>> ((z : Int32) &&& 31)) else some (((y : Int32).toUInt32 >>> ((z : Int32).toUInt32 &&& Int32.toUInt32 31)).toInt32)))))))))))
set_option maxRecDepth 100000 in
set_option maxHeartbeats 4000000 in
theorem s_M_reckon {L : Nat} {xs : Nat → Int32} {X : XS} {M : MS} {x : Int32} {y : Int32} {z : Int32} : Sp (mjOO L xs) 80 0 [some (.int x), some (.int y), some (.int z)] [] (hS X M) (f_M_reckon x y z) (KQ (hS X M)) := by
  unfold f_M_reckon
  refine Sp.step rfl rfl rfl rfl ?_
  refine Sp.ite (fun e1 => ?_) (fun e1 => ?_)
  · refine Sp.step rfl rfl rfl (go_sw (t := 60) (sw_of e1 rfl)) ?_
    refine Sp.step rfl rfl rfl rfl ?_
    refine Sp.step rfl rfl rfl rfl ?_
    refine Sp.step rfl rfl rfl rfl ?_
    exact Sp.iret rfl rfl rfl rfl (fun _ _ h => h)
  · refine Sp.ite (fun e2 => ?_) (fun e2 => ?_)
    · refine Sp.step rfl rfl rfl (go_sw (t := 64) (sw_of e2 rfl)) ?_
      refine Sp.step rfl rfl rfl rfl ?_
      refine Sp.step rfl rfl rfl rfl ?_
      refine Sp.step rfl rfl rfl rfl ?_
      exact Sp.iret rfl rfl rfl rfl (fun _ _ h => h)
    · refine Sp.ite (fun e3 => ?_) (fun e3 => ?_)
      · refine Sp.step rfl rfl rfl (go_sw (t := 68) (sw_of e3 rfl)) ?_
        refine Sp.step rfl rfl rfl rfl ?_
        refine Sp.step rfl rfl rfl rfl ?_
        refine Sp.step rfl rfl rfl rfl ?_
        exact Sp.iret rfl rfl rfl rfl (fun _ _ h => h)
      · refine Sp.ite (fun e4 => ?_) (fun e4 => ?_)
        · refine Sp.step rfl rfl rfl (go_sw (t := 72) (sw_of e4 rfl)) ?_
          refine Sp.step rfl rfl rfl rfl ?_
          refine Sp.step rfl rfl rfl rfl ?_
          refine Sp.guard (fun e5 => ?_)
          refine Sp.step rfl rfl rfl (go_div e5) ?_
          exact Sp.iret rfl rfl rfl rfl (fun _ _ h => h)
        · refine Sp.ite (fun e6 => ?_) (fun e6 => ?_)
          · refine Sp.step rfl rfl rfl (go_sw (t := 76) (sw_of e6 rfl)) ?_
            refine Sp.step rfl rfl rfl rfl ?_
            refine Sp.step rfl rfl rfl rfl ?_
            refine Sp.guard (fun e7 => ?_)
            refine Sp.step rfl rfl rfl (go_div e7) ?_
            exact Sp.iret rfl rfl rfl rfl (fun _ _ h => h)
          · refine Sp.ite (fun e8 => ?_) (fun e8 => ?_)
            · refine Sp.step rfl rfl rfl (go_sw (t := 80) (sw_of e8 rfl)) ?_
              refine Sp.step rfl rfl rfl rfl ?_
              refine Sp.step rfl rfl rfl rfl ?_
              refine Sp.step rfl rfl rfl rfl ?_
              exact Sp.iret rfl rfl rfl rfl (fun _ _ h => h)
            · refine Sp.ite (fun e9 => ?_) (fun e9 => ?_)
              · refine Sp.step rfl rfl rfl (go_sw (t := 84) (sw_of e9 rfl)) ?_
                refine Sp.step rfl rfl rfl rfl ?_
                refine Sp.step rfl rfl rfl rfl ?_
                refine Sp.step rfl rfl rfl rfl ?_
                exact Sp.iret rfl rfl rfl rfl (fun _ _ h => h)
              · refine Sp.ite (fun e10 => ?_) (fun e10 => ?_)
                · refine Sp.step rfl rfl rfl (go_sw (t := 88) (sw_of e10 rfl)) ?_
                  refine Sp.step rfl rfl rfl rfl ?_
                  refine Sp.step rfl rfl rfl rfl ?_
                  refine Sp.step rfl rfl rfl rfl ?_
                  exact Sp.iret rfl rfl rfl rfl (fun _ _ h => h)
                · refine Sp.ite (fun e11 => ?_) (fun e11 => ?_)
                  · refine Sp.step rfl rfl rfl (go_sw (t := 92) (sw_of e11 rfl)) ?_
                    refine Sp.step rfl rfl rfl rfl ?_
                    refine Sp.step rfl rfl rfl rfl ?_
                    refine Sp.step rfl rfl rfl rfl ?_
                    exact Sp.iret rfl rfl rfl rfl (fun _ _ h => h)
                  · refine Sp.ite (fun e12 => ?_) (fun e12 => ?_)
                    · refine Sp.step rfl rfl rfl (go_sw (t := 96) (sw_of e12 rfl)) ?_
                      refine Sp.step rfl rfl rfl rfl ?_
                      refine Sp.step rfl rfl rfl rfl ?_
                      refine Sp.step rfl rfl rfl rfl ?_
                      exact Sp.iret rfl rfl rfl rfl (fun _ _ h => h)
                    · refine Sp.step rfl rfl rfl (go_sw (t := 100) (mjSw_dflt _ (by
                        intro q hq
                        simp only [List.mem_cons, List.not_mem_nil, or_false] at hq
                        rcases hq with rfl | rfl | rfl | rfl | rfl | rfl | rfl | rfl | rfl | rfl | rfl
                        · exact fun h => absurd h (fun h => e1 h)
                        · exact fun h => absurd h (fun h => e2 h)
                        · exact fun h => absurd h (fun h => e3 h)
                        · exact fun h => absurd h (fun h => e4 h)
                        · exact fun h => absurd h (fun h => e6 h)
                        · exact fun h => rfl
                        · exact fun h => absurd h (fun h => e8 h)
                        · exact fun h => absurd h (fun h => e9 h)
                        · exact fun h => absurd h (fun h => e10 h)
                        · exact fun h => absurd h (fun h => e11 h)
                        · exact fun h => absurd h (fun h => e12 h)))) ?_
                      refine Sp.step rfl rfl rfl rfl ?_
                      refine Sp.step rfl rfl rfl rfl ?_
                      refine Sp.step rfl rfl rfl rfl ?_
                      exact Sp.iret rfl rfl rfl rfl (fun _ _ h => h)
def f_M_putInt (x : Int32) (M : MS) : Option MS := ((f_M_topAt M).bind fun x1 => (if ixo x1 2640 then (lt (mw M 115 x1.toNatClampNeg x) fun M3 => ((f_M_topAt M3).bind fun x4 => (if ixo x4 2640 then (lt (mw M3 116 x4.toNatClampNeg 0) fun M6 => (if ixo (M6.1 60 89) 120 then (lt (mw M6 114 (M6.1 60 89).toNatClampNeg ((M6.1 114 (M6.1 60 89).toNatClampNeg) + 1)) fun M8 => some M8) else none)) else none))) else none))
set_option maxRecDepth 100000 in
set_option maxHeartbeats 4000000 in
theorem s_M_putInt {L : Nat} {xs : Nat → Int32} {X : XS} {M : MS} {x : Int32} : Sp (mjOO L xs) 64 0 [some (.ref 60), some (.int x)] [] (hS X M) (f_M_putInt x M) (KVM X) := by
  unfold f_M_putInt
  refine Sp.step rfl rfl rfl rfl ?_
  refine Sp.step rfl rfl rfl (mg_F (f := 71) rfl rfl rfl rfl) ?_
  refine Sp.step rfl rfl rfl rfl ?_
  refine Sp.call rfl rfl rfl (mrecv (by decide) (by decide +kernel)) s_M_topAt (fun x1 => ⟨_, _, ⟨rfl, rfl⟩, ?_⟩)
  refine Sp.id (pc := 8) (l := [some (.ref 60), some (.int x)]) (st := [.int x1, .ref 115]) (h := hS X M) ?_
  refine Sp.step rfl rfl rfl rfl ?_
  refine Sp.guard (fun e2 => ?_)
  refine Sp.step rfl rfl rfl (mst rfl rfl (by decide) e2) ?_
  refine Sp.step rfl rfl rfl rfl ?_
  refine Sp.step rfl rfl rfl (mg_F (f := 72) rfl rfl rfl rfl) ?_
  refine Sp.step rfl rfl rfl rfl ?_
  refine Sp.call rfl rfl rfl (mrecv (by decide) (by decide +kernel)) s_M_topAt (fun x4 => ⟨_, _, ⟨rfl, rfl⟩, ?_⟩)
  refine Sp.id (pc := 18) (l := [some (.ref 60), some (.int x)]) (st := [.int x4, .ref 116]) (h := hS X (mw M 115 x1.toNatClampNeg x)) ?_
  refine Sp.step rfl rfl rfl rfl ?_
  refine Sp.guard (fun e5 => ?_)
  refine Sp.step rfl rfl rfl (mst0 rfl rfl e5) ?_
  refine Sp.step rfl rfl rfl rfl ?_
  refine Sp.step rfl rfl rfl (mg_F (f := 70) rfl rfl rfl rfl) ?_
  refine Sp.step rfl rfl rfl rfl ?_
  refine Sp.step rfl rfl rfl (mg_I (f := 89) rfl rfl rfl) ?_
  refine Sp.step rfl rfl rfl rfl ?_
  refine Sp.guard (fun e7 => ?_)
  refine Sp.step rfl rfl rfl (mld rfl rfl (by decide) e7) ?_
  refine Sp.step rfl rfl rfl rfl ?_
  refine Sp.step rfl rfl rfl rfl ?_
  refine Sp.step rfl rfl rfl (mst rfl rfl (by decide) e7) ?_
  exact Sp.vret rfl rfl rfl (fun _ _ h => h)
def f_M_peek (x : Int32) (M : MS) : Option Int32 := ((f_M_topAt M).bind fun x1 => (if ixo ((x1 - 1) - x) 2640 then some (M.1 115 ((x1 - 1) - x).toNatClampNeg) else none))
set_option maxRecDepth 100000 in
set_option maxHeartbeats 4000000 in
theorem s_M_peek {L : Nat} {xs : Nat → Int32} {X : XS} {M : MS} {x : Int32} : Sp (mjOO L xs) 67 0 [some (.ref 60), some (.int x)] [] (hS X M) (f_M_peek x M) (KQ (hS X M)) := by
  unfold f_M_peek
  refine Sp.step rfl rfl rfl rfl ?_
  refine Sp.step rfl rfl rfl (mg_F (f := 71) rfl rfl rfl rfl) ?_
  refine Sp.step rfl rfl rfl rfl ?_
  refine Sp.call rfl rfl rfl (mrecv (by decide) (by decide +kernel)) s_M_topAt (fun x1 => ⟨_, _, ⟨rfl, rfl⟩, ?_⟩)
  refine Sp.id (pc := 8) (l := [some (.ref 60), some (.int x)]) (st := [.int x1, .ref 115]) (h := hS X M) ?_
  refine Sp.step rfl rfl rfl rfl ?_
  refine Sp.step rfl rfl rfl rfl ?_
  refine Sp.step rfl rfl rfl rfl ?_
  refine Sp.step rfl rfl rfl rfl ?_
  refine Sp.guard (fun e2 => ?_)
  refine Sp.step rfl rfl rfl (mld rfl rfl (by decide) e2) ?_
  exact Sp.iret rfl rfl rfl rfl (fun _ _ h => h)
def f_M_arithmetic (x : Int32) (M : MS) : Option MS := (if ¬ x = 9 then (if 9 ≤ x then ((f_M_takeValue M).bind fun x3 => ((f_M_takeValue x3.2).bind fun x4 => ((f_M_reckon x x4.1 x3.1).bind fun x5 => ((f_M_putInt x5 x4.2).bind fun x6 => some x6)))) else (if x ≤ 6 then ((f_M_takeValue M).bind fun x8 => ((f_M_takeValue x8.2).bind fun x9 => ((f_M_reckon x x9.1 x8.1).bind fun x10 => ((f_M_putInt x10 x9.2).bind fun x11 => some x11)))) else ((f_M_peek 0 M).bind fun x12 => (if ¬ x12 = 0 then ((f_M_takeValue M).bind fun x14 => ((f_M_takeValue x14.2).bind fun x15 => ((f_M_reckon x x15.1 x14.1).bind fun x16 => ((f_M_putInt x16 x15.2).bind fun x17 => some x17)))) else (lt (mw M 60 90 2) fun M18 => some M18))))) else ((f_M_takeValue M).bind fun x19 => ((f_M_putInt (-x19.1) x19.2).bind fun x20 => some x20)))
set_option maxRecDepth 100000 in
set_option maxHeartbeats 4000000 in
theorem s_M_arithmetic {L : Nat} {xs : Nat → Int32} {X : XS} {M : MS} {x : Int32} : Sp (mjOO L xs) 81 0 [some (.ref 60), some (.int x), none, none] [] (hS X M) (f_M_arithmetic x M) (KVM X) := by
  unfold f_M_arithmetic
  refine Sp.step rfl rfl rfl rfl ?_
  refine Sp.step rfl rfl rfl rfl ?_
  refine Sp.if2 rfl rfl rfl rfl (fun e1 => ?_) (fun e1 => ?_)
  · refine Sp.step rfl rfl rfl rfl ?_
    refine Sp.step rfl rfl rfl rfl ?_
    refine Sp.if2 rfl rfl rfl rfl (fun e2 => ?_) (fun e2 => ?_)
    · refine Sp.step rfl rfl rfl rfl ?_
      refine Sp.call rfl rfl rfl (mrecv (by decide) (by decide +kernel)) s_M_takeValue (fun x3 => ⟨_, _, ⟨rfl, rfl⟩, ?_⟩)
      refine Sp.id (pc := 46) (l := [some (.ref 60), some (.int x), none, none]) (st := [.int x3.1]) (h := hS X x3.2) ?_
      refine Sp.step rfl rfl rfl rfl ?_
      refine Sp.step rfl rfl rfl rfl ?_
      refine Sp.call rfl rfl rfl (mrecv (by decide) (by decide +kernel)) s_M_takeValue (fun x4 => ⟨_, _, ⟨rfl, rfl⟩, ?_⟩)
      refine Sp.id (pc := 51) (l := [some (.ref 60), some (.int x), some (.int x3.1), none]) (st := [.int x4.1]) (h := hS X x4.2) ?_
      refine Sp.step rfl rfl rfl rfl ?_
      refine Sp.step rfl rfl rfl rfl ?_
      refine Sp.step rfl rfl rfl rfl ?_
      refine Sp.step rfl rfl rfl rfl ?_
      refine Sp.step rfl rfl rfl rfl ?_
      refine Sp.call rfl rfl rfl rfl s_M_reckon (fun x5 => ⟨_, _, ⟨rfl, rfl⟩, ?_⟩)
      refine Sp.id (pc := 59) (l := [some (.ref 60), some (.int x), some (.int x3.1), some (.int x4.1)]) (st := [.int x5, .ref 60]) (h := hS X x4.2) ?_
      refine Sp.call rfl rfl rfl (mrecv (by decide) (by decide +kernel)) s_M_putInt (fun x6 => ⟨_, _, ⟨rfl, rfl⟩, ?_⟩)
      refine Sp.id (pc := 62) (l := [some (.ref 60), some (.int x), some (.int x3.1), some (.int x4.1)]) (st := []) (h := hS X x6) ?_
      exact Sp.vret rfl rfl rfl (fun _ _ h => h)
    · refine Sp.step rfl rfl rfl rfl ?_
      refine Sp.step rfl rfl rfl rfl ?_
      refine Sp.if2 rfl rfl rfl rfl (fun e7 => ?_) (fun e7 => ?_)
      · refine Sp.step rfl rfl rfl rfl ?_
        refine Sp.call rfl rfl rfl (mrecv (by decide) (by decide +kernel)) s_M_takeValue (fun x8 => ⟨_, _, ⟨rfl, rfl⟩, ?_⟩)
        refine Sp.id (pc := 46) (l := [some (.ref 60), some (.int x), none, none]) (st := [.int x8.1]) (h := hS X x8.2) ?_
        refine Sp.step rfl rfl rfl rfl ?_
        refine Sp.step rfl rfl rfl rfl ?_
        refine Sp.call rfl rfl rfl (mrecv (by decide) (by decide +kernel)) s_M_takeValue (fun x9 => ⟨_, _, ⟨rfl, rfl⟩, ?_⟩)
        refine Sp.id (pc := 51) (l := [some (.ref 60), some (.int x), some (.int x8.1), none]) (st := [.int x9.1]) (h := hS X x9.2) ?_
        refine Sp.step rfl rfl rfl rfl ?_
        refine Sp.step rfl rfl rfl rfl ?_
        refine Sp.step rfl rfl rfl rfl ?_
        refine Sp.step rfl rfl rfl rfl ?_
        refine Sp.step rfl rfl rfl rfl ?_
        refine Sp.call rfl rfl rfl rfl s_M_reckon (fun x10 => ⟨_, _, ⟨rfl, rfl⟩, ?_⟩)
        refine Sp.id (pc := 59) (l := [some (.ref 60), some (.int x), some (.int x8.1), some (.int x9.1)]) (st := [.int x10, .ref 60]) (h := hS X x9.2) ?_
        refine Sp.call rfl rfl rfl (mrecv (by decide) (by decide +kernel)) s_M_putInt (fun x11 => ⟨_, _, ⟨rfl, rfl⟩, ?_⟩)
        refine Sp.id (pc := 62) (l := [some (.ref 60), some (.int x), some (.int x8.1), some (.int x9.1)]) (st := []) (h := hS X x11) ?_
        exact Sp.vret rfl rfl rfl (fun _ _ h => h)
      · refine Sp.step rfl rfl rfl rfl ?_
        refine Sp.step rfl rfl rfl rfl ?_
        refine Sp.call rfl rfl rfl (mrecv (by decide) (by decide +kernel)) s_M_peek (fun x12 => ⟨_, _, ⟨rfl, rfl⟩, ?_⟩)
        refine Sp.id (pc := 33) (l := [some (.ref 60), some (.int x), none, none]) (st := [.int x12]) (h := hS X M) ?_
        refine Sp.if1 rfl rfl rfl rfl (fun e13 => ?_) (fun e13 => ?_)
        · refine Sp.step rfl rfl rfl rfl ?_
          refine Sp.call rfl rfl rfl (mrecv (by decide) (by decide +kernel)) s_M_takeValue (fun x14 => ⟨_, _, ⟨rfl, rfl⟩, ?_⟩)
          refine Sp.id (pc := 46) (l := [some (.ref 60), some (.int x), none, none]) (st := [.int x14.1]) (h := hS X x14.2) ?_
          refine Sp.step rfl rfl rfl rfl ?_
          refine Sp.step rfl rfl rfl rfl ?_
          refine Sp.call rfl rfl rfl (mrecv (by decide) (by decide +kernel)) s_M_takeValue (fun x15 => ⟨_, _, ⟨rfl, rfl⟩, ?_⟩)
          refine Sp.id (pc := 51) (l := [some (.ref 60), some (.int x), some (.int x14.1), none]) (st := [.int x15.1]) (h := hS X x15.2) ?_
          refine Sp.step rfl rfl rfl rfl ?_
          refine Sp.step rfl rfl rfl rfl ?_
          refine Sp.step rfl rfl rfl rfl ?_
          refine Sp.step rfl rfl rfl rfl ?_
          refine Sp.step rfl rfl rfl rfl ?_
          refine Sp.call rfl rfl rfl rfl s_M_reckon (fun x16 => ⟨_, _, ⟨rfl, rfl⟩, ?_⟩)
          refine Sp.id (pc := 59) (l := [some (.ref 60), some (.int x), some (.int x14.1), some (.int x15.1)]) (st := [.int x16, .ref 60]) (h := hS X x15.2) ?_
          refine Sp.call rfl rfl rfl (mrecv (by decide) (by decide +kernel)) s_M_putInt (fun x17 => ⟨_, _, ⟨rfl, rfl⟩, ?_⟩)
          refine Sp.id (pc := 62) (l := [some (.ref 60), some (.int x), some (.int x14.1), some (.int x15.1)]) (st := []) (h := hS X x17) ?_
          exact Sp.vret rfl rfl rfl (fun _ _ h => h)
        · refine Sp.step rfl rfl rfl rfl ?_
          refine Sp.step rfl rfl rfl rfl ?_
          refine Sp.step rfl rfl rfl (mp_I (f := 90) rfl rfl rfl rfl) ?_
          exact Sp.vret rfl rfl rfl (fun _ _ h => h)
  · refine Sp.step rfl rfl rfl rfl ?_
    refine Sp.step rfl rfl rfl rfl ?_
    refine Sp.call rfl rfl rfl (mrecv (by decide) (by decide +kernel)) s_M_takeValue (fun x19 => ⟨_, _, ⟨rfl, rfl⟩, ?_⟩)
    refine Sp.id (pc := 11) (l := [some (.ref 60), some (.int x), none, none]) (st := [.int x19.1, .ref 60]) (h := hS X x19.2) ?_
    refine Sp.step rfl rfl rfl rfl ?_
    refine Sp.call rfl rfl rfl (mrecv (by decide) (by decide +kernel)) s_M_putInt (fun x20 => ⟨_, _, ⟨rfl, rfl⟩, ?_⟩)
    refine Sp.id (pc := 15) (l := [some (.ref 60), some (.int x), none, none]) (st := []) (h := hS X x20) ?_
    exact Sp.vret rfl rfl rfl (fun _ _ h => h)
def b2_M_isBelow (y : Int32) (M : MS) (x1 : Int32) : Option (Int32 ⊕ Bool) := (if x1 < 0 then some (.inr false) else (if ¬ x1 = y then (if ixo (10 + x1) 20 then some (.inl (M.1 95 (10 + x1).toNatClampNeg)) else none) else some (.inr true)))
def f_M_isBelow (x : Int32) (y : Int32) (M : MS) : Option Bool := (lp (b2_M_isBelow y M) 10000 x)
set_option maxRecDepth 100000 in
set_option maxHeartbeats 4000000 in
theorem s_M_isBelow {L : Nat} {xs : Nat → Int32} {X : XS} {M : MS} {x : Int32} {y : Int32} : Sp (mjOO L xs) 77 0 [some (.ref 60), some (.int x), some (.int y), none] [] (hS X M) (f_M_isBelow x y M) (KB (hS X M)) := by
  unfold f_M_isBelow
  refine Sp.step rfl rfl rfl rfl ?_
  refine Sp.step rfl rfl rfl rfl ?_
  refine Sp.weak (l0 := [some (.ref 60), none, some (.int y), some (.int x)]) ⟨rfl, rfl, rfl, trivial⟩ ?_
  refine Sp.loopL (mf := (fun (x1 : Int32) => [some (.ref 60), none, some (.int y), some (.int x1)])) (hf := (fun (x1 : Int32) => hS X M)) (fun x1 => ?_) _ _
  unfold b2_M_isBelow
  refine Sp.step rfl rfl rfl rfl ?_
  refine Sp.if1 rfl rfl rfl rfl (fun e2 => ?_) (fun e2 => ?_)
  · refine Sp.step rfl rfl rfl rfl ?_
    exact Sp.iret rfl rfl rfl rfl (fun _ _ h => h)
  · refine Sp.step rfl rfl rfl rfl ?_
    refine Sp.step rfl rfl rfl rfl ?_
    refine Sp.if2 rfl rfl rfl rfl (fun e3 => ?_) (fun e3 => ?_)
    · refine Sp.step rfl rfl rfl rfl ?_
      refine Sp.step rfl rfl rfl (mg_F (f := 43) rfl rfl rfl rfl) ?_
      refine Sp.step rfl rfl rfl rfl ?_
      refine Sp.step rfl rfl rfl rfl ?_
      refine Sp.step rfl rfl rfl rfl ?_
      refine Sp.guard (fun e4 => ?_)
      refine Sp.step rfl rfl rfl (mld rfl rfl (by decide) e4) ?_
      refine Sp.step rfl rfl rfl rfl ?_
      refine Sp.step rfl rfl rfl rfl ?_
      exact Sp.jmp (l0 := [some (.ref 60), none, some (.int y), some (.int (M.1 95 (10 + x1).toNatClampNeg))]) ⟨rfl, rfl, rfl, trivial⟩ (fun _ _ h => h)
    · refine Sp.step rfl rfl rfl rfl ?_
      exact Sp.iret rfl rfl rfl rfl (fun _ _ h => h)
def f_M_fits (x : Int32) (M : MS) : Option Bool := (if 0 ≤ x then (if ¬ M.1 60 90 = 10 then some false else (if ixo (M.1 60 91) 1002 then (if 10 ≤ M.1 121 (M.1 60 91).toNatClampNeg then some false else ((f_M_isBelow (M.1 121 (M.1 60 91).toNatClampNeg) x M).bind fun x5 => (if x5 = true then some true else some false))) else none)) else (if x = (-1) then some true else (if 10 ≤ M.1 60 90 then some false else (if ¬ x = (-1) - (M.1 60 90) then some false else some true))))
set_option maxRecDepth 100000 in
set_option maxHeartbeats 4000000 in
theorem s_M_fits {L : Nat} {xs : Nat → Int32} {X : XS} {M : MS} {x : Int32} : Sp (mjOO L xs) 94 0 [some (.ref 60), some (.int x)] [] (hS X M) (f_M_fits x M) (KB (hS X M)) := by
  unfold f_M_fits
  refine Sp.step rfl rfl rfl rfl ?_
  refine Sp.if1 rfl rfl rfl rfl (fun e1 => ?_) (fun e1 => ?_)
  · refine Sp.step rfl rfl rfl rfl ?_
    refine Sp.step rfl rfl rfl (mg_I (f := 90) rfl rfl rfl) ?_
    refine Sp.step rfl rfl rfl rfl ?_
    refine Sp.if2 rfl rfl rfl rfl (fun e2 => ?_) (fun e2 => ?_)
    · refine Sp.step rfl rfl rfl rfl ?_
      exact Sp.iret rfl rfl rfl rfl (fun _ _ h => h)
    · refine Sp.step rfl rfl rfl rfl ?_
      refine Sp.step rfl rfl rfl (mg_F (f := 79) rfl rfl rfl rfl) ?_
      refine Sp.step rfl rfl rfl rfl ?_
      refine Sp.step rfl rfl rfl (mg_I (f := 91) rfl rfl rfl) ?_
      refine Sp.guard (fun e3 => ?_)
      refine Sp.step rfl rfl rfl (mld rfl rfl (by decide) e3) ?_
      refine Sp.step rfl rfl rfl rfl ?_
      refine Sp.if2 rfl rfl rfl rfl (fun e4 => ?_) (fun e4 => ?_)
      · refine Sp.step rfl rfl rfl rfl ?_
        exact Sp.iret rfl rfl rfl rfl (fun _ _ h => h)
      · refine Sp.step rfl rfl rfl rfl ?_
        refine Sp.step rfl rfl rfl rfl ?_
        refine Sp.step rfl rfl rfl (mg_F (f := 79) rfl rfl rfl rfl) ?_
        refine Sp.step rfl rfl rfl rfl ?_
        refine Sp.step rfl rfl rfl (mg_I (f := 91) rfl rfl rfl) ?_
        refine Sp.step rfl rfl rfl (mld rfl rfl (by decide) e3) ?_
        refine Sp.step rfl rfl rfl rfl ?_
        refine Sp.call rfl rfl rfl (mrecv (by decide) (by decide +kernel)) s_M_isBelow (fun x5 => ⟨_, _, ⟨rfl, rfl⟩, ?_⟩)
        refine Sp.bool (fun e6 => ?_) (fun e6 => ?_)
        · refine Sp.id (pc := 71) (l := [some (.ref 60), some (.int x)]) (st := [.int 1]) (h := hS X M) ?_
          refine Sp.step rfl rfl rfl rfl ?_
          refine Sp.step rfl rfl rfl rfl ?_
          refine Sp.step rfl rfl rfl rfl ?_
          exact Sp.iret rfl rfl rfl rfl (fun _ _ h => h)
        · refine Sp.id (pc := 71) (l := [some (.ref 60), some (.int x)]) (st := [.int 0]) (h := hS X M) ?_
          refine Sp.step rfl rfl rfl rfl ?_
          refine Sp.step rfl rfl rfl rfl ?_
          exact Sp.iret rfl rfl rfl rfl (fun _ _ h => h)
  · refine Sp.step rfl rfl rfl rfl ?_
    refine Sp.step rfl rfl rfl rfl ?_
    refine Sp.if2 rfl rfl rfl rfl (fun e9 => ?_) (fun e9 => ?_)
    · refine Sp.step rfl rfl rfl rfl ?_
      refine Sp.step rfl rfl rfl rfl ?_
      exact Sp.iret rfl rfl rfl rfl (fun _ _ h => h)
    · refine Sp.step rfl rfl rfl rfl ?_
      refine Sp.step rfl rfl rfl (mg_I (f := 90) rfl rfl rfl) ?_
      refine Sp.step rfl rfl rfl rfl ?_
      refine Sp.if2 rfl rfl rfl rfl (fun e10 => ?_) (fun e10 => ?_)
      · refine Sp.step rfl rfl rfl rfl ?_
        exact Sp.iret rfl rfl rfl rfl (fun _ _ h => h)
      · refine Sp.step rfl rfl rfl rfl ?_
        refine Sp.step rfl rfl rfl rfl ?_
        refine Sp.step rfl rfl rfl rfl ?_
        refine Sp.step rfl rfl rfl (mg_I (f := 90) rfl rfl rfl) ?_
        refine Sp.step rfl rfl rfl rfl ?_
        refine Sp.if2 rfl rfl rfl rfl (fun e11 => ?_) (fun e11 => ?_)
        · refine Sp.step rfl rfl rfl rfl ?_
          exact Sp.iret rfl rfl rfl rfl (fun _ _ h => h)
        · refine Sp.step rfl rfl rfl rfl ?_
          refine Sp.step rfl rfl rfl rfl ?_
          exact Sp.iret rfl rfl rfl rfl (fun _ _ h => h)
def b12_M_handler (M : MS) (x2 : Int32) : Option (Int32 ⊕ Int32) := (if ixo (24 + (M.1 112 (M.1 60 89).toNatClampNeg)) 48 then (if M.1 105 (24 + (M.1 112 (M.1 60 89).toNatClampNeg)).toNatClampNeg ≤ x2 then some (.inr (-2)) else (if ixo ((576 + (24 * (M.1 112 (M.1 60 89).toNatClampNeg))) + (4 * x2)) 1152 then (if M.1 113 (M.1 60 89).toNatClampNeg < M.1 106 ((576 + (24 * (M.1 112 (M.1 60 89).toNatClampNeg))) + (4 * x2)).toNatClampNeg then some (.inl (x2 + 1)) else (if ixo (((576 + (24 * (M.1 112 (M.1 60 89).toNatClampNeg))) + (4 * x2)) + 1) 1152 then (if M.1 106 (((576 + (24 * (M.1 112 (M.1 60 89).toNatClampNeg))) + (4 * x2)) + 1).toNatClampNeg ≤ M.1 113 (M.1 60 89).toNatClampNeg then some (.inl (x2 + 1)) else (if ixo (((576 + (24 * (M.1 112 (M.1 60 89).toNatClampNeg))) + (4 * x2)) + 3) 1152 then ((f_M_fits (M.1 106 (((576 + (24 * (M.1 112 (M.1 60 89).toNatClampNeg))) + (4 * x2)) + 3).toNatClampNeg) M).bind fun x10 => (if x10 = true then (if ixo (((576 + (24 * (M.1 112 (M.1 60 89).toNatClampNeg))) + (4 * x2)) + 2) 1152 then some (.inr (M.1 106 (((576 + (24 * (M.1 112 (M.1 60 89).toNatClampNeg))) + (4 * x2)) + 2).toNatClampNeg)) else none) else some (.inl (x2 + 1)))) else none)) else none)) else none)) else none)
def f_M_handler (M : MS) : Option Int32 := (if ixo (M.1 60 89) 120 then (lp (b12_M_handler M) 10000 (0 : Int32)) else none)
set_option maxRecDepth 100000 in
set_option maxHeartbeats 4000000 in
theorem s_M_handler {L : Nat} {xs : Nat → Int32} {X : XS} {M : MS} : Sp (mjOO L xs) 95 0 [some (.ref 60), none, none, none] [] (hS X M) (f_M_handler M) (KQ (hS X M)) := by
  unfold f_M_handler
  refine Sp.step rfl rfl rfl rfl ?_
  refine Sp.step rfl rfl rfl (mg_F (f := 68) rfl rfl rfl rfl) ?_
  refine Sp.step rfl rfl rfl rfl ?_
  refine Sp.step rfl rfl rfl (mg_I (f := 89) rfl rfl rfl) ?_
  refine Sp.guard (fun e1 => ?_)
  refine Sp.step rfl rfl rfl (mld rfl rfl (by decide) e1) ?_
  refine Sp.step rfl rfl rfl rfl ?_
  refine Sp.step rfl rfl rfl rfl ?_
  refine Sp.step rfl rfl rfl rfl ?_
  refine Sp.weak (l0 := [some (.ref 60), some (.int (M.1 112 (M.1 60 89).toNatClampNeg)), some (.int 0), none]) ⟨rfl, rfl, rfl, trivial⟩ ?_
  refine Sp.loopL (mf := (fun (x2 : Int32) => [some (.ref 60), some (.int (M.1 112 (M.1 60 89).toNatClampNeg)), some (.int x2), none])) (hf := (fun (x2 : Int32) => hS X M)) (fun x2 => ?_) _ _
  unfold b12_M_handler
  refine Sp.step rfl rfl rfl rfl ?_
  refine Sp.step rfl rfl rfl rfl ?_
  refine Sp.step rfl rfl rfl (mg_F (f := 53) rfl rfl rfl rfl) ?_
  refine Sp.step rfl rfl rfl rfl ?_
  refine Sp.step rfl rfl rfl rfl ?_
  refine Sp.step rfl rfl rfl rfl ?_
  refine Sp.guard (fun e3 => ?_)
  refine Sp.step rfl rfl rfl (mld rfl rfl (by decide) e3) ?_
  refine Sp.if2 rfl rfl rfl rfl (fun e4 => ?_) (fun e4 => ?_)
  · refine Sp.step rfl rfl rfl rfl ?_
    exact Sp.iret rfl rfl rfl rfl (fun _ _ h => h)
  · refine Sp.step rfl rfl rfl rfl ?_
    refine Sp.step rfl rfl rfl rfl ?_
    refine Sp.step rfl rfl rfl rfl ?_
    refine Sp.step rfl rfl rfl rfl ?_
    refine Sp.step rfl rfl rfl rfl ?_
    refine Sp.step rfl rfl rfl rfl ?_
    refine Sp.step rfl rfl rfl rfl ?_
    refine Sp.step rfl rfl rfl rfl ?_
    refine Sp.step rfl rfl rfl rfl ?_
    refine Sp.step rfl rfl rfl rfl ?_
    refine Sp.step rfl rfl rfl rfl ?_
    refine Sp.step rfl rfl rfl (mg_F (f := 69) rfl rfl rfl rfl) ?_
    refine Sp.step rfl rfl rfl rfl ?_
    refine Sp.step rfl rfl rfl (mg_I (f := 89) rfl rfl rfl) ?_
    refine Sp.step rfl rfl rfl (mld rfl rfl (by decide) e1) ?_
    refine Sp.step rfl rfl rfl rfl ?_
    refine Sp.step rfl rfl rfl (mg_F (f := 54) rfl rfl rfl rfl) ?_
    refine Sp.step rfl rfl rfl rfl ?_
    refine Sp.guard (fun e5 => ?_)
    refine Sp.step rfl rfl rfl (mld rfl rfl (by decide) e5) ?_
    refine Sp.if2 rfl rfl rfl rfl (fun e6 => ?_) (fun e6 => ?_)
    · refine Sp.step rfl rfl rfl rfl ?_
      refine Sp.step rfl rfl rfl rfl ?_
      exact Sp.jmp (l0 := [some (.ref 60), some (.int (M.1 112 (M.1 60 89).toNatClampNeg)), some (.int (x2 + 1)), none]) ⟨rfl, rfl, rfl, trivial⟩ (fun _ _ h => h)
    · refine Sp.step rfl rfl rfl rfl ?_
      refine Sp.step rfl rfl rfl (mg_F (f := 69) rfl rfl rfl rfl) ?_
      refine Sp.step rfl rfl rfl rfl ?_
      refine Sp.step rfl rfl rfl (mg_I (f := 89) rfl rfl rfl) ?_
      refine Sp.step rfl rfl rfl (mld rfl rfl (by decide) e1) ?_
      refine Sp.step rfl rfl rfl rfl ?_
      refine Sp.step rfl rfl rfl (mg_F (f := 54) rfl rfl rfl rfl) ?_
      refine Sp.step rfl rfl rfl rfl ?_
      refine Sp.step rfl rfl rfl rfl ?_
      refine Sp.step rfl rfl rfl rfl ?_
      refine Sp.guard (fun e7 => ?_)
      refine Sp.step rfl rfl rfl (mld rfl rfl (by decide) e7) ?_
      refine Sp.if2 rfl rfl rfl rfl (fun e8 => ?_) (fun e8 => ?_)
      · refine Sp.step rfl rfl rfl rfl ?_
        refine Sp.step rfl rfl rfl rfl ?_
        exact Sp.jmp (l0 := [some (.ref 60), some (.int (M.1 112 (M.1 60 89).toNatClampNeg)), some (.int (x2 + 1)), none]) ⟨rfl, rfl, rfl, trivial⟩ (fun _ _ h => h)
      · refine Sp.step rfl rfl rfl rfl ?_
        refine Sp.step rfl rfl rfl rfl ?_
        refine Sp.step rfl rfl rfl (mg_F (f := 54) rfl rfl rfl rfl) ?_
        refine Sp.step rfl rfl rfl rfl ?_
        refine Sp.step rfl rfl rfl rfl ?_
        refine Sp.step rfl rfl rfl rfl ?_
        refine Sp.guard (fun e9 => ?_)
        refine Sp.step rfl rfl rfl (mld rfl rfl (by decide) e9) ?_
        refine Sp.call rfl rfl rfl (mrecv (by decide) (by decide +kernel)) s_M_fits (fun x10 => ⟨_, _, ⟨rfl, rfl⟩, ?_⟩)
        refine Sp.bool (fun e11 => ?_) (fun e11 => ?_)
        · refine Sp.id (pc := 88) (l := [some (.ref 60), some (.int (M.1 112 (M.1 60 89).toNatClampNeg)), some (.int x2), some (.int ((576 + (24 * (M.1 112 (M.1 60 89).toNatClampNeg))) + (4 * x2)))]) (st := [.int 1]) (h := hS X M) ?_
          refine Sp.step rfl rfl rfl rfl ?_
          refine Sp.step rfl rfl rfl rfl ?_
          refine Sp.step rfl rfl rfl (mg_F (f := 54) rfl rfl rfl rfl) ?_
          refine Sp.step rfl rfl rfl rfl ?_
          refine Sp.step rfl rfl rfl rfl ?_
          refine Sp.step rfl rfl rfl rfl ?_
          refine Sp.guard (fun e13 => ?_)
          refine Sp.step rfl rfl rfl (mld rfl rfl (by decide) e13) ?_
          exact Sp.iret rfl rfl rfl rfl (fun _ _ h => h)
        · refine Sp.id (pc := 88) (l := [some (.ref 60), some (.int (M.1 112 (M.1 60 89).toNatClampNeg)), some (.int x2), some (.int ((576 + (24 * (M.1 112 (M.1 60 89).toNatClampNeg))) + (4 * x2)))]) (st := [.int 0]) (h := hS X M) ?_
          refine Sp.step rfl rfl rfl rfl ?_
          refine Sp.step rfl rfl rfl rfl ?_
          refine Sp.step rfl rfl rfl rfl ?_
          exact Sp.jmp (l0 := [some (.ref 60), some (.int (M.1 112 (M.1 60 89).toNatClampNeg)), some (.int (x2 + 1)), none]) ⟨rfl, rfl, rfl, trivial⟩ (fun _ _ h => h)
def f_M_putRef (x : Int32) (M : MS) : Option MS := ((f_M_topAt M).bind fun x1 => (if ixo x1 2640 then (lt (mw M 115 x1.toNatClampNeg x) fun M3 => ((f_M_topAt M3).bind fun x4 => (if ixo x4 2640 then (lt (mw M3 116 x4.toNatClampNeg 1) fun M6 => (if ixo (M6.1 60 89) 120 then (lt (mw M6 114 (M6.1 60 89).toNatClampNeg ((M6.1 114 (M6.1 60 89).toNatClampNeg) + 1)) fun M8 => some M8) else none)) else none))) else none))
set_option maxRecDepth 100000 in
set_option maxHeartbeats 4000000 in
theorem s_M_putRef {L : Nat} {xs : Nat → Int32} {X : XS} {M : MS} {x : Int32} : Sp (mjOO L xs) 65 0 [some (.ref 60), some (.int x)] [] (hS X M) (f_M_putRef x M) (KVM X) := by
  unfold f_M_putRef
  refine Sp.step rfl rfl rfl rfl ?_
  refine Sp.step rfl rfl rfl (mg_F (f := 71) rfl rfl rfl rfl) ?_
  refine Sp.step rfl rfl rfl rfl ?_
  refine Sp.call rfl rfl rfl (mrecv (by decide) (by decide +kernel)) s_M_topAt (fun x1 => ⟨_, _, ⟨rfl, rfl⟩, ?_⟩)
  refine Sp.id (pc := 8) (l := [some (.ref 60), some (.int x)]) (st := [.int x1, .ref 115]) (h := hS X M) ?_
  refine Sp.step rfl rfl rfl rfl ?_
  refine Sp.guard (fun e2 => ?_)
  refine Sp.step rfl rfl rfl (mst rfl rfl (by decide) e2) ?_
  refine Sp.step rfl rfl rfl rfl ?_
  refine Sp.step rfl rfl rfl (mg_F (f := 72) rfl rfl rfl rfl) ?_
  refine Sp.step rfl rfl rfl rfl ?_
  refine Sp.call rfl rfl rfl (mrecv (by decide) (by decide +kernel)) s_M_topAt (fun x4 => ⟨_, _, ⟨rfl, rfl⟩, ?_⟩)
  refine Sp.id (pc := 18) (l := [some (.ref 60), some (.int x)]) (st := [.int x4, .ref 116]) (h := hS X (mw M 115 x1.toNatClampNeg x)) ?_
  refine Sp.step rfl rfl rfl rfl ?_
  refine Sp.guard (fun e5 => ?_)
  refine Sp.step rfl rfl rfl (mst1 rfl rfl e5) ?_
  refine Sp.step rfl rfl rfl rfl ?_
  refine Sp.step rfl rfl rfl (mg_F (f := 70) rfl rfl rfl rfl) ?_
  refine Sp.step rfl rfl rfl rfl ?_
  refine Sp.step rfl rfl rfl (mg_I (f := 89) rfl rfl rfl) ?_
  refine Sp.step rfl rfl rfl rfl ?_
  refine Sp.guard (fun e7 => ?_)
  refine Sp.step rfl rfl rfl (mld rfl rfl (by decide) e7) ?_
  refine Sp.step rfl rfl rfl rfl ?_
  refine Sp.step rfl rfl rfl rfl ?_
  refine Sp.step rfl rfl rfl (mst rfl rfl (by decide) e7) ?_
  exact Sp.vret rfl rfl rfl (fun _ _ h => h)
def b5_M_unwind (x : Int32) (x9 : (Int32 × MS)) : Option ((Int32 × MS) ⊕ (Int32 × MS)) := (if 0 ≤ x9.1 then some (.inr (x9.1, x9.2)) else (if ixo x 6 then (if x9.2.1 109 x.toNatClampNeg ≤ 1 then some (.inr (x9.1, x9.2)) else (lt (mw x9.2 109 x.toNatClampNeg ((x9.2.1 109 x.toNatClampNeg) - 1)) fun M13 => (lt (mw M13 60 89 ((M13.1 60 89) - 1)) fun M14 => ((f_M_handler M14).bind fun x15 => some (.inl (x15, M14)))))) else none))
def f_M_unwind (x : Int32) (M : MS) : Option MS := ((f_M_handler M).bind fun x1 => ((lp (b5_M_unwind x) 10000 (x1, M)).bind fun x16 => (if 0 ≤ x16.1 then (if ixo (x16.2.1 60 89) 120 then (lt (mw x16.2 113 (x16.2.1 60 89).toNatClampNeg x16.1) fun M19 => (if ixo (M19.1 60 89) 120 then (lt (mw M19 114 (M19.1 60 89).toNatClampNeg 0) fun M21 => (if 10 ≤ M21.1 60 90 then ((f_M_putRef (M21.1 60 91) M21).bind fun x23 => some x23) else ((f_M_putRef 0 M21).bind fun x24 => some x24))) else none)) else none) else (if ixo x 6 then (lt (mw x16.2 109 x.toNatClampNeg 0) fun M26 => (lt (mw M26 110 x.toNatClampNeg 3) fun M27 => (if 10 ≤ M27.1 60 90 then (if ixo (M27.1 60 91) 1002 then (if M27.1 121 (M27.1 60 91).toNatClampNeg < 10 then (lt (mw M27 111 x.toNatClampNeg (100 + (M27.1 121 (M27.1 60 91).toNatClampNeg))) fun M31 => some M31) else (lt (mw M27 111 x.toNatClampNeg 110) fun M32 => some M32)) else none) else (lt (mw M27 111 x.toNatClampNeg (-(M27.1 60 90))) fun M33 => some M33)))) else none))))
set_option maxRecDepth 100000 in
set_option maxHeartbeats 4000000 in
theorem s_M_unwind {L : Nat} {xs : Nat → Int32} {X : XS} {M : MS} {x : Int32} : Sp (mjOO L xs) 96 0 [some (.ref 60), some (.int x), none] [] (hS X M) (f_M_unwind x M) (KVM X) := by
  unfold f_M_unwind
  refine Sp.step rfl rfl rfl rfl ?_
  refine Sp.call rfl rfl rfl (mrecv (by decide) (by decide +kernel)) s_M_handler (fun x1 => ⟨_, _, ⟨rfl, rfl⟩, ?_⟩)
  refine Sp.id (pc := 4) (l := [some (.ref 60), some (.int x), none]) (st := [.int x1]) (h := hS X M) ?_
  refine Sp.step rfl rfl rfl rfl ?_
  refine Sp.weak (l0 := [some (.ref 60), some (.int x), some (.int x1)]) ⟨rfl, rfl, rfl, trivial⟩ ?_
  refine Sp.loopX (pe := 47) (mf := (fun (x9 : (Int32 × MS)) => [some (.ref 60), some (.int x), some (.int x9.1)])) (hf := (fun (x9 : (Int32 × MS)) => hS X x9.2)) (fun x9 => ?_) (fun x16 => ?_) _ _
  · unfold b5_M_unwind
    refine Sp.step rfl rfl rfl rfl ?_
    refine Sp.if1 rfl rfl rfl rfl (fun e10 => ?_) (fun e10 => ?_)
    · exact Sp.jmp (l0 := [some (.ref 60), some (.int x), some (.int x9.1)]) ⟨rfl, rfl, rfl, trivial⟩ (fun _ _ h => h)
    · refine Sp.step rfl rfl rfl rfl ?_
      refine Sp.step rfl rfl rfl (mg_F (f := 65) rfl rfl rfl rfl) ?_
      refine Sp.step rfl rfl rfl rfl ?_
      refine Sp.guard (fun e11 => ?_)
      refine Sp.step rfl rfl rfl (mld rfl rfl (by decide) e11) ?_
      refine Sp.step rfl rfl rfl rfl ?_
      refine Sp.if2 rfl rfl rfl rfl (fun e12 => ?_) (fun e12 => ?_)
      · exact Sp.jmp (l0 := [some (.ref 60), some (.int x), some (.int x9.1)]) ⟨rfl, rfl, rfl, trivial⟩ (fun _ _ h => h)
      · refine Sp.step rfl rfl rfl rfl ?_
        refine Sp.step rfl rfl rfl (mg_F (f := 65) rfl rfl rfl rfl) ?_
        refine Sp.step rfl rfl rfl rfl ?_
        refine Sp.step rfl rfl rfl rfl ?_
        refine Sp.step rfl rfl rfl (mld rfl rfl (by decide) e11) ?_
        refine Sp.step rfl rfl rfl rfl ?_
        refine Sp.step rfl rfl rfl rfl ?_
        refine Sp.step rfl rfl rfl (mst rfl rfl (by decide) e11) ?_
        refine Sp.step rfl rfl rfl rfl ?_
        refine Sp.step rfl rfl rfl rfl ?_
        refine Sp.step rfl rfl rfl (mg_I (f := 89) rfl rfl rfl) ?_
        refine Sp.step rfl rfl rfl rfl ?_
        refine Sp.step rfl rfl rfl rfl ?_
        refine Sp.step rfl rfl rfl (mp_I (f := 89) rfl rfl rfl rfl) ?_
        refine Sp.step rfl rfl rfl rfl ?_
        refine Sp.call rfl rfl rfl (mrecv (by decide) (by decide +kernel)) s_M_handler (fun x15 => ⟨_, _, ⟨rfl, rfl⟩, ?_⟩)
        refine Sp.id (pc := 43) (l := [some (.ref 60), some (.int x), some (.int x9.1)]) (st := [.int x15]) (h := hS X (mw (mw x9.2 109 x.toNatClampNeg ((x9.2.1 109 x.toNatClampNeg) - 1)) 60 89 (((mw x9.2 109 x.toNatClampNeg ((x9.2.1 109 x.toNatClampNeg) - 1)).1 60 89) - 1))) ?_
        refine Sp.step rfl rfl rfl rfl ?_
        refine Sp.step rfl rfl rfl rfl ?_
        exact Sp.jmp (l0 := [some (.ref 60), some (.int x), some (.int x15)]) ⟨rfl, rfl, rfl, trivial⟩ (fun _ _ h => h)
  · refine Sp.step rfl rfl rfl rfl ?_
    refine Sp.if1 rfl rfl rfl rfl (fun e17 => ?_) (fun e17 => ?_)
    · refine Sp.step rfl rfl rfl rfl ?_
      refine Sp.step rfl rfl rfl (mg_F (f := 69) rfl rfl rfl rfl) ?_
      refine Sp.step rfl rfl rfl rfl ?_
      refine Sp.step rfl rfl rfl (mg_I (f := 89) rfl rfl rfl) ?_
      refine Sp.step rfl rfl rfl rfl ?_
      refine Sp.guard (fun e18 => ?_)
      refine Sp.step rfl rfl rfl (mst rfl rfl (by decide) e18) ?_
      refine Sp.step rfl rfl rfl rfl ?_
      refine Sp.step rfl rfl rfl (mg_F (f := 70) rfl rfl rfl rfl) ?_
      refine Sp.step rfl rfl rfl rfl ?_
      refine Sp.step rfl rfl rfl (mg_I (f := 89) rfl rfl rfl) ?_
      refine Sp.step rfl rfl rfl rfl ?_
      refine Sp.guard (fun e20 => ?_)
      refine Sp.step rfl rfl rfl (mst rfl rfl (by decide) e20) ?_
      refine Sp.step rfl rfl rfl rfl ?_
      refine Sp.step rfl rfl rfl rfl ?_
      refine Sp.step rfl rfl rfl (mg_I (f := 90) rfl rfl rfl) ?_
      refine Sp.step rfl rfl rfl rfl ?_
      refine Sp.if2 rfl rfl rfl rfl (fun e22 => ?_) (fun e22 => ?_)
      · refine Sp.step rfl rfl rfl rfl ?_
        refine Sp.step rfl rfl rfl (mg_I (f := 91) rfl rfl rfl) ?_
        refine Sp.call rfl rfl rfl (mrecv (by decide) (by decide +kernel)) s_M_putRef (fun x23 => ⟨_, _, ⟨rfl, rfl⟩, ?_⟩)
        refine Sp.id (pc := 161) (l := [some (.ref 60), some (.int x), some (.int x16.1)]) (st := []) (h := hS X x23) ?_
        exact Sp.vret rfl rfl rfl (fun _ _ h => h)
      · refine Sp.step rfl rfl rfl rfl ?_
        refine Sp.step rfl rfl rfl rfl ?_
        refine Sp.call rfl rfl rfl (mrecv (by decide) (by decide +kernel)) s_M_putRef (fun x24 => ⟨_, _, ⟨rfl, rfl⟩, ?_⟩)
        refine Sp.id (pc := 161) (l := [some (.ref 60), some (.int x), some (.int x16.1)]) (st := []) (h := hS X x24) ?_
        exact Sp.vret rfl rfl rfl (fun _ _ h => h)
    · refine Sp.step rfl rfl rfl rfl ?_
      refine Sp.step rfl rfl rfl (mg_F (f := 65) rfl rfl rfl rfl) ?_
      refine Sp.step rfl rfl rfl rfl ?_
      refine Sp.step rfl rfl rfl rfl ?_
      refine Sp.guard (fun e25 => ?_)
      refine Sp.step rfl rfl rfl (mst rfl rfl (by decide) e25) ?_
      refine Sp.step rfl rfl rfl rfl ?_
      refine Sp.step rfl rfl rfl (mg_F (f := 66) rfl rfl rfl rfl) ?_
      refine Sp.step rfl rfl rfl rfl ?_
      refine Sp.step rfl rfl rfl rfl ?_
      refine Sp.step rfl rfl rfl (mst rfl rfl (by decide) e25) ?_
      refine Sp.step rfl rfl rfl rfl ?_
      refine Sp.step rfl rfl rfl (mg_F (f := 67) rfl rfl rfl rfl) ?_
      refine Sp.step rfl rfl rfl rfl ?_
      refine Sp.step rfl rfl rfl rfl ?_
      refine Sp.step rfl rfl rfl (mg_I (f := 90) rfl rfl rfl) ?_
      refine Sp.step rfl rfl rfl rfl ?_
      refine Sp.if2 rfl rfl rfl rfl (fun e28 => ?_) (fun e28 => ?_)
      · refine Sp.step rfl rfl rfl rfl ?_
        refine Sp.step rfl rfl rfl (mg_F (f := 79) rfl rfl rfl rfl) ?_
        refine Sp.step rfl rfl rfl rfl ?_
        refine Sp.step rfl rfl rfl (mg_I (f := 91) rfl rfl rfl) ?_
        refine Sp.guard (fun e29 => ?_)
        refine Sp.step rfl rfl rfl (mld rfl rfl (by decide) e29) ?_
        refine Sp.step rfl rfl rfl rfl ?_
        refine Sp.if2 rfl rfl rfl rfl (fun e30 => ?_) (fun e30 => ?_)
        · refine Sp.step rfl rfl rfl rfl ?_
          refine Sp.step rfl rfl rfl rfl ?_
          refine Sp.step rfl rfl rfl (mg_F (f := 79) rfl rfl rfl rfl) ?_
          refine Sp.step rfl rfl rfl rfl ?_
          refine Sp.step rfl rfl rfl (mg_I (f := 91) rfl rfl rfl) ?_
          refine Sp.step rfl rfl rfl (mld rfl rfl (by decide) e29) ?_
          refine Sp.step rfl rfl rfl rfl ?_
          refine Sp.step rfl rfl rfl (mst rfl rfl (by decide) e25) ?_
          exact Sp.vret rfl rfl rfl (fun _ _ h => h)
        · refine Sp.step rfl rfl rfl rfl ?_
          refine Sp.step rfl rfl rfl rfl ?_
          refine Sp.step rfl rfl rfl (mst rfl rfl (by decide) e25) ?_
          exact Sp.vret rfl rfl rfl (fun _ _ h => h)
      · refine Sp.step rfl rfl rfl rfl ?_
        refine Sp.step rfl rfl rfl (mg_I (f := 90) rfl rfl rfl) ?_
        refine Sp.step rfl rfl rfl rfl ?_
        refine Sp.step rfl rfl rfl rfl ?_
        refine Sp.step rfl rfl rfl (mst rfl rfl (by decide) e25) ?_
        exact Sp.vret rfl rfl rfl (fun _ _ h => h)
def f_M_jumps (x : Int32) (M : MS) : Option (Bool × MS) := (if ¬ x = 19 then ((f_M_takeValue M).bind fun x2 => (if 24 ≤ x then ((f_M_takeValue x2.2).bind fun x4 => (if ¬ x = 24 then (if x2.1 ≤ x4.1 then some (false, x4.2) else some (true, x4.2)) else (if ¬ x4.1 = x2.1 then some (false, x4.2) else some (true, x4.2)))) else (if ¬ x = 20 then (if ¬ x = 21 then (if ¬ x = 22 then (if ¬ x = 23 then some (false, x2.2) else (if ¬ x2.1 = 0 then some (false, x2.2) else some (true, x2.2))) else (if 0 < x2.1 then some (true, x2.2) else some (false, x2.2))) else (if x2.1 < 0 then some (true, x2.2) else some (false, x2.2))) else (if x2.1 = 0 then some (true, x2.2) else some (false, x2.2))))) else some (true, M))
set_option maxRecDepth 100000 in
set_option maxHeartbeats 4000000 in
theorem s_M_jumps {L : Nat} {xs : Nat → Int32} {X : XS} {M : MS} {x : Int32} : Sp (mjOO L xs) 82 0 [some (.ref 60), some (.int x), none, none] [] (hS X M) (f_M_jumps x M) (KBM X) := by
  unfold f_M_jumps
  refine Sp.step rfl rfl rfl rfl ?_
  refine Sp.step rfl rfl rfl rfl ?_
  refine Sp.if2 rfl rfl rfl rfl (fun e1 => ?_) (fun e1 => ?_)
  · refine Sp.step rfl rfl rfl rfl ?_
    refine Sp.call rfl rfl rfl (mrecv (by decide) (by decide +kernel)) s_M_takeValue (fun x2 => ⟨_, _, ⟨rfl, rfl⟩, ?_⟩)
    refine Sp.id (pc := 12) (l := [some (.ref 60), some (.int x), none, none]) (st := [.int x2.1]) (h := hS X x2.2) ?_
    refine Sp.step rfl rfl rfl rfl ?_
    refine Sp.step rfl rfl rfl rfl ?_
    refine Sp.step rfl rfl rfl rfl ?_
    refine Sp.if2 rfl rfl rfl rfl (fun e3 => ?_) (fun e3 => ?_)
    · refine Sp.step rfl rfl rfl rfl ?_
      refine Sp.call rfl rfl rfl (mrecv (by decide) (by decide +kernel)) s_M_takeValue (fun x4 => ⟨_, _, ⟨rfl, rfl⟩, ?_⟩)
      refine Sp.id (pc := 69) (l := [some (.ref 60), some (.int x), some (.int x2.1), none]) (st := [.int x4.1]) (h := hS X x4.2) ?_
      refine Sp.step rfl rfl rfl rfl ?_
      refine Sp.step rfl rfl rfl rfl ?_
      refine Sp.step rfl rfl rfl rfl ?_
      refine Sp.if2 rfl rfl rfl rfl (fun e5 => ?_) (fun e5 => ?_)
      · refine Sp.step rfl rfl rfl rfl ?_
        refine Sp.step rfl rfl rfl rfl ?_
        refine Sp.if2 rfl rfl rfl rfl (fun e6 => ?_) (fun e6 => ?_)
        · refine Sp.step rfl rfl rfl rfl ?_
          exact Sp.iret rfl rfl rfl rfl (fun _ _ h => h)
        · refine Sp.step rfl rfl rfl rfl ?_
          refine Sp.step rfl rfl rfl rfl ?_
          exact Sp.iret rfl rfl rfl rfl (fun _ _ h => h)
      · refine Sp.step rfl rfl rfl rfl ?_
        refine Sp.step rfl rfl rfl rfl ?_
        refine Sp.if2 rfl rfl rfl rfl (fun e7 => ?_) (fun e7 => ?_)
        · refine Sp.step rfl rfl rfl rfl ?_
          refine Sp.step rfl rfl rfl rfl ?_
          exact Sp.iret rfl rfl rfl rfl (fun _ _ h => h)
        · refine Sp.step rfl rfl rfl rfl ?_
          refine Sp.step rfl rfl rfl rfl ?_
          exact Sp.iret rfl rfl rfl rfl (fun _ _ h => h)
    · refine Sp.step rfl rfl rfl rfl ?_
      refine Sp.step rfl rfl rfl rfl ?_
      refine Sp.if2 rfl rfl rfl rfl (fun e8 => ?_) (fun e8 => ?_)
      · refine Sp.step rfl rfl rfl rfl ?_
        refine Sp.step rfl rfl rfl rfl ?_
        refine Sp.if2 rfl rfl rfl rfl (fun e9 => ?_) (fun e9 => ?_)
        · refine Sp.step rfl rfl rfl rfl ?_
          refine Sp.step rfl rfl rfl rfl ?_
          refine Sp.if2 rfl rfl rfl rfl (fun e10 => ?_) (fun e10 => ?_)
          · refine Sp.step rfl rfl rfl rfl ?_
            refine Sp.step rfl rfl rfl rfl ?_
            refine Sp.if2 rfl rfl rfl rfl (fun e11 => ?_) (fun e11 => ?_)
            · refine Sp.step rfl rfl rfl rfl ?_
              exact Sp.iret rfl rfl rfl rfl (fun _ _ h => h)
            · refine Sp.step rfl rfl rfl rfl ?_
              refine Sp.if1 rfl rfl rfl rfl (fun e12 => ?_) (fun e12 => ?_)
              · refine Sp.step rfl rfl rfl rfl ?_
                exact Sp.iret rfl rfl rfl rfl (fun _ _ h => h)
              · refine Sp.step rfl rfl rfl rfl ?_
                refine Sp.step rfl rfl rfl rfl ?_
                exact Sp.iret rfl rfl rfl rfl (fun _ _ h => h)
          · refine Sp.step rfl rfl rfl rfl ?_
            refine Sp.if1 rfl rfl rfl rfl (fun e13 => ?_) (fun e13 => ?_)
            · refine Sp.step rfl rfl rfl rfl ?_
              refine Sp.step rfl rfl rfl rfl ?_
              exact Sp.iret rfl rfl rfl rfl (fun _ _ h => h)
            · refine Sp.step rfl rfl rfl rfl ?_
              refine Sp.step rfl rfl rfl rfl ?_
              refine Sp.prune (c := ¬ x = 23) ?_
              refine Sp.if2 rfl rfl rfl rfl (fun e14 => ?_) (fun e14 => absurd (fun h => absurd (((Classical.not_not.mp e10)).symm.trans h) (by decide)) e14)
              refine Sp.step rfl rfl rfl rfl ?_
              exact Sp.iret rfl rfl rfl rfl (fun _ _ h => h)
        · refine Sp.step rfl rfl rfl rfl ?_
          refine Sp.if1 rfl rfl rfl rfl (fun e15 => ?_) (fun e15 => ?_)
          · refine Sp.step rfl rfl rfl rfl ?_
            refine Sp.step rfl rfl rfl rfl ?_
            exact Sp.iret rfl rfl rfl rfl (fun _ _ h => h)
          · refine Sp.step rfl rfl rfl rfl ?_
            refine Sp.step rfl rfl rfl rfl ?_
            refine Sp.prune (c := ¬ x = 22) ?_
            refine Sp.if2 rfl rfl rfl rfl (fun e16 => ?_) (fun e16 => absurd (fun h => absurd (((Classical.not_not.mp e9)).symm.trans h) (by decide)) e16)
            refine Sp.step rfl rfl rfl rfl ?_
            refine Sp.step rfl rfl rfl rfl ?_
            refine Sp.prune (c := ¬ x = 23) ?_
            refine Sp.if2 rfl rfl rfl rfl (fun e17 => ?_) (fun e17 => absurd (fun h => absurd (((Classical.not_not.mp e9)).symm.trans h) (by decide)) e17)
            refine Sp.step rfl rfl rfl rfl ?_
            exact Sp.iret rfl rfl rfl rfl (fun _ _ h => h)
      · refine Sp.step rfl rfl rfl rfl ?_
        refine Sp.if1 rfl rfl rfl rfl (fun e18 => ?_) (fun e18 => ?_)
        · refine Sp.step rfl rfl rfl rfl ?_
          refine Sp.step rfl rfl rfl rfl ?_
          exact Sp.iret rfl rfl rfl rfl (fun _ _ h => h)
        · refine Sp.step rfl rfl rfl rfl ?_
          refine Sp.step rfl rfl rfl rfl ?_
          refine Sp.prune (c := ¬ x = 21) ?_
          refine Sp.if2 rfl rfl rfl rfl (fun e19 => ?_) (fun e19 => absurd (fun h => absurd (((Classical.not_not.mp e8)).symm.trans h) (by decide)) e19)
          refine Sp.step rfl rfl rfl rfl ?_
          refine Sp.step rfl rfl rfl rfl ?_
          refine Sp.prune (c := ¬ x = 22) ?_
          refine Sp.if2 rfl rfl rfl rfl (fun e20 => ?_) (fun e20 => absurd (fun h => absurd (((Classical.not_not.mp e8)).symm.trans h) (by decide)) e20)
          refine Sp.step rfl rfl rfl rfl ?_
          refine Sp.step rfl rfl rfl rfl ?_
          refine Sp.prune (c := ¬ x = 23) ?_
          refine Sp.if2 rfl rfl rfl rfl (fun e21 => ?_) (fun e21 => absurd (fun h => absurd (((Classical.not_not.mp e8)).symm.trans h) (by decide)) e21)
          refine Sp.step rfl rfl rfl rfl ?_
          exact Sp.iret rfl rfl rfl rfl (fun _ _ h => h)
  · refine Sp.step rfl rfl rfl rfl ?_
    exact Sp.iret rfl rfl rfl rfl (fun _ _ h => h)
def f_M_isOf (x : Int32) (y : Int32) (M : MS) : Option (Bool × MS) := (if ¬ x = 0 then (if ixo x 1002 then (if 10 ≤ M.1 121 x.toNatClampNeg then (lt (mw M 60 90 3) fun M4 => (if ¬ M4.1 60 90 = 0 then some (false, M4) else some (true, M4))) else ((f_M_isBelow (M.1 121 x.toNatClampNeg) y M).bind fun x6 => (if x6 = true then (lt (mw M 60 90 0) fun M9 => (if ¬ M9.1 60 90 = 0 then some (false, M9) else some (true, M9))) else (lt (mw M 60 90 3) fun M12 => (if ¬ M12.1 60 90 = 0 then some (false, M12) else some (true, M12)))))) else none) else (lt (mw M 60 90 1) fun M14 => (if ¬ M14.1 60 90 = 0 then some (false, M14) else some (true, M14))))
set_option maxRecDepth 100000 in
set_option maxHeartbeats 4000000 in
theorem s_M_isOf {L : Nat} {xs : Nat → Int32} {X : XS} {M : MS} {x : Int32} {y : Int32} : Sp (mjOO L xs) 78 0 [some (.ref 60), some (.int x), some (.int y)] [] (hS X M) (f_M_isOf x y M) (KBM X) := by
  unfold f_M_isOf
  refine Sp.step rfl rfl rfl rfl ?_
  refine Sp.step rfl rfl rfl rfl ?_
  refine Sp.if1 rfl rfl rfl rfl (fun e1 => ?_) (fun e1 => ?_)
  · refine Sp.step rfl rfl rfl rfl ?_
    refine Sp.step rfl rfl rfl (mg_F (f := 79) rfl rfl rfl rfl) ?_
    refine Sp.step rfl rfl rfl rfl ?_
    refine Sp.guard (fun e2 => ?_)
    refine Sp.step rfl rfl rfl (mld rfl rfl (by decide) e2) ?_
    refine Sp.step rfl rfl rfl rfl ?_
    refine Sp.if2 rfl rfl rfl rfl (fun e3 => ?_) (fun e3 => ?_)
    · refine Sp.step rfl rfl rfl rfl ?_
      refine Sp.step rfl rfl rfl rfl ?_
      refine Sp.step rfl rfl rfl (mp_I (f := 90) rfl rfl rfl rfl) ?_
      refine Sp.step rfl rfl rfl rfl ?_
      refine Sp.step rfl rfl rfl (mg_I (f := 90) rfl rfl rfl) ?_
      refine Sp.if1 rfl rfl rfl rfl (fun e5 => ?_) (fun e5 => ?_)
      · refine Sp.step rfl rfl rfl rfl ?_
        exact Sp.iret rfl rfl rfl rfl (fun _ _ h => h)
      · refine Sp.step rfl rfl rfl rfl ?_
        refine Sp.step rfl rfl rfl rfl ?_
        exact Sp.iret rfl rfl rfl rfl (fun _ _ h => h)
    · refine Sp.step rfl rfl rfl rfl ?_
      refine Sp.step rfl rfl rfl rfl ?_
      refine Sp.step rfl rfl rfl (mg_F (f := 79) rfl rfl rfl rfl) ?_
      refine Sp.step rfl rfl rfl rfl ?_
      refine Sp.step rfl rfl rfl (mld rfl rfl (by decide) e2) ?_
      refine Sp.step rfl rfl rfl rfl ?_
      refine Sp.call rfl rfl rfl (mrecv (by decide) (by decide +kernel)) s_M_isBelow (fun x6 => ⟨_, _, ⟨rfl, rfl⟩, ?_⟩)
      refine Sp.bool (fun e7 => ?_) (fun e7 => ?_)
      · refine Sp.id (pc := 31) (l := [some (.ref 60), some (.int x), some (.int y)]) (st := [.int 1, .ref 60]) (h := hS X M) ?_
        refine Sp.step rfl rfl rfl rfl ?_
        refine Sp.step rfl rfl rfl rfl ?_
        refine Sp.step rfl rfl rfl (mp_I (f := 90) rfl rfl rfl rfl) ?_
        refine Sp.step rfl rfl rfl rfl ?_
        refine Sp.step rfl rfl rfl (mg_I (f := 90) rfl rfl rfl) ?_
        refine Sp.if1 rfl rfl rfl rfl (fun e10 => ?_) (fun e10 => ?_)
        · refine Sp.step rfl rfl rfl rfl ?_
          exact Sp.iret rfl rfl rfl rfl (fun _ _ h => h)
        · refine Sp.step rfl rfl rfl rfl ?_
          refine Sp.step rfl rfl rfl rfl ?_
          exact Sp.iret rfl rfl rfl rfl (fun _ _ h => h)
      · refine Sp.id (pc := 31) (l := [some (.ref 60), some (.int x), some (.int y)]) (st := [.int 0, .ref 60]) (h := hS X M) ?_
        refine Sp.step rfl rfl rfl rfl ?_
        refine Sp.step rfl rfl rfl rfl ?_
        refine Sp.step rfl rfl rfl rfl ?_
        refine Sp.step rfl rfl rfl (mp_I (f := 90) rfl rfl rfl rfl) ?_
        refine Sp.step rfl rfl rfl rfl ?_
        refine Sp.step rfl rfl rfl (mg_I (f := 90) rfl rfl rfl) ?_
        refine Sp.if1 rfl rfl rfl rfl (fun e13 => ?_) (fun e13 => ?_)
        · refine Sp.step rfl rfl rfl rfl ?_
          exact Sp.iret rfl rfl rfl rfl (fun _ _ h => h)
        · refine Sp.step rfl rfl rfl rfl ?_
          refine Sp.step rfl rfl rfl rfl ?_
          exact Sp.iret rfl rfl rfl rfl (fun _ _ h => h)
  · refine Sp.step rfl rfl rfl rfl ?_
    refine Sp.step rfl rfl rfl rfl ?_
    refine Sp.step rfl rfl rfl (mp_I (f := 90) rfl rfl rfl rfl) ?_
    refine Sp.step rfl rfl rfl rfl ?_
    refine Sp.step rfl rfl rfl (mg_I (f := 90) rfl rfl rfl) ?_
    refine Sp.if1 rfl rfl rfl rfl (fun e15 => ?_) (fun e15 => ?_)
    · refine Sp.step rfl rfl rfl rfl ?_
      exact Sp.iret rfl rfl rfl rfl (fun _ _ h => h)
    · refine Sp.step rfl rfl rfl rfl ?_
      refine Sp.step rfl rfl rfl rfl ?_
      exact Sp.iret rfl rfl rfl rfl (fun _ _ h => h)
def f_M_fields (x : Int32) (y : Int32) (z : Int32) (M : MS) : Option MS := (if x = 28 then ((f_M_peek 1 M).bind fun x3 => ((f_M_isOf x3 y M).bind fun x4 => (if x4.1 = true then (if ixo x3 1002 then (((if 29 ≤ x then (if ixo (10 + (x4.2.1 121 x3.toNatClampNeg)) 20 then some ((x4.2.1 96 (10 + (x4.2.1 121 x3.toNatClampNeg)).toNatClampNeg) + z) else none) else some z) : Option (Int32)).bind fun x10 => ((f_M_takeValue x4.2).bind fun x12 => ((f_M_takeValue x12.2).bind fun x13 => (if ixo ((x4.2.1 123 x3.toNatClampNeg) + x10) 8200 then (lt (mw x13.2 127 ((x4.2.1 123 x3.toNatClampNeg) + x10).toNatClampNeg x12.1) fun M16 => some M16) else none)))) else none) else some x4.2))) else (if ¬ x = 30 then ((f_M_peek 0 M).bind fun x20 => ((f_M_isOf x20 y M).bind fun x21 => (if x21.1 = true then (if ixo x20 1002 then (((if 29 ≤ x then (if ixo (10 + (x21.2.1 121 x20.toNatClampNeg)) 20 then some ((x21.2.1 96 (10 + (x21.2.1 121 x20.toNatClampNeg)).toNatClampNeg) + z) else none) else some z) : Option (Int32)).bind fun x27 => ((f_M_takeValue x21.2).bind fun x29 => (if ¬ x = 27 then (if ixo ((x21.2.1 123 x20.toNatClampNeg) + x27) 8200 then ((f_M_putRef (x29.2.1 127 ((x21.2.1 123 x20.toNatClampNeg) + x27).toNatClampNeg) x29.2).bind fun x33 => some x33) else none) else (if ixo ((x21.2.1 123 x20.toNatClampNeg) + x27) 8200 then ((f_M_putInt (x29.2.1 127 ((x21.2.1 123 x20.toNatClampNeg) + x27).toNatClampNeg) x29.2).bind fun x35 => some x35) else none)))) else none) else some x21.2))) else ((f_M_peek 1 M).bind fun x38 => ((f_M_isOf x38 y M).bind fun x39 => (if x39.1 = true then (if ixo x38 1002 then (((if 29 ≤ x then (if ixo (10 + (x39.2.1 121 x38.toNatClampNeg)) 20 then some ((x39.2.1 96 (10 + (x39.2.1 121 x38.toNatClampNeg)).toNatClampNeg) + z) else none) else some z) : Option (Int32)).bind fun x45 => ((f_M_takeValue x39.2).bind fun x47 => ((f_M_takeValue x47.2).bind fun x48 => (if ixo ((x39.2.1 123 x38.toNatClampNeg) + x45) 8200 then (lt (mw x48.2 127 ((x39.2.1 123 x38.toNatClampNeg) + x45).toNatClampNeg x47.1) fun M51 => some M51) else none)))) else none) else some x39.2)))))
set_option maxRecDepth 100000 in
set_option maxHeartbeats 4000000 in
theorem s_M_fields {L : Nat} {xs : Nat → Int32} {X : XS} {M : MS} {x : Int32} {y : Int32} {z : Int32} : Sp (mjOO L xs) 83 0 [some (.ref 60), some (.int x), some (.int y), some (.int z), none, none, none, none, none] [] (hS X M) (f_M_fields x y z M) (KVM X) := by
  unfold f_M_fields
  refine Sp.step rfl rfl rfl rfl ?_
  refine Sp.step rfl rfl rfl rfl ?_
  refine Sp.if2 rfl rfl rfl rfl (fun e1 => ?_) (fun e1 => ?_)
  · refine Sp.step rfl rfl rfl rfl ?_
    refine Sp.step rfl rfl rfl rfl ?_
    refine Sp.step rfl rfl rfl rfl ?_
    refine Sp.step rfl rfl rfl rfl ?_
    refine Sp.step rfl rfl rfl rfl ?_
    refine Sp.step rfl rfl rfl rfl ?_
    refine Sp.step rfl rfl rfl rfl ?_
    refine Sp.step rfl rfl rfl rfl ?_
    refine Sp.call rfl rfl rfl (mrecv (by decide) (by decide +kernel)) s_M_peek (fun x3 => ⟨_, _, ⟨rfl, rfl⟩, ?_⟩)
    refine Sp.id (pc := 33) (l := [some (.ref 60), some (.int x), some (.int y), some (.int z), some (.int 1), none, none, none, none]) (st := [.int x3]) (h := hS X M) ?_
    refine Sp.step rfl rfl rfl rfl ?_
    refine Sp.step rfl rfl rfl rfl ?_
    refine Sp.step rfl rfl rfl rfl ?_
    refine Sp.step rfl rfl rfl rfl ?_
    refine Sp.call rfl rfl rfl (mrecv (by decide) (by decide +kernel)) s_M_isOf (fun x4 => ⟨_, _, ⟨rfl, rfl⟩, ?_⟩)
    refine Sp.bool (fun e5 => ?_) (fun e5 => ?_)
    · refine Sp.id (pc := 42) (l := [some (.ref 60), some (.int x), some (.int y), some (.int z), some (.int 1), some (.int x3), none, none, none]) (st := [.int 1]) (h := hS X x4.2) ?_
      refine Sp.step rfl rfl rfl rfl ?_
      refine Sp.step rfl rfl rfl rfl ?_
      refine Sp.step rfl rfl rfl (mg_F (f := 81) rfl rfl rfl rfl) ?_
      refine Sp.step rfl rfl rfl rfl ?_
      refine Sp.guard (fun e7 => ?_)
      refine Sp.step rfl rfl rfl (mld rfl rfl (by decide) e7) ?_
      refine Sp.step rfl rfl rfl rfl ?_
      refine Sp.step rfl rfl rfl rfl ?_
      refine Sp.piece (pe := 80) (mf := (fun (x10 : Int32) => [some (.ref 60), some (.int x), none, none, some (.int 1), none, none, none, none])) (sf := (fun (x10 : Int32) => [.int x10, .int (x4.2.1 123 x3.toNatClampNeg)])) (hf := (fun (x10 : Int32) => hS X x4.2)) ?_ (fun x10 => ?_)
      · refine Sp.if2 rfl rfl rfl rfl (fun e8 => ?_) (fun e8 => ?_)
        · refine Sp.step rfl rfl rfl rfl ?_
          refine Sp.step rfl rfl rfl (mg_F (f := 44) rfl rfl rfl rfl) ?_
          refine Sp.step rfl rfl rfl rfl ?_
          refine Sp.step rfl rfl rfl rfl ?_
          refine Sp.step rfl rfl rfl (mg_F (f := 79) rfl rfl rfl rfl) ?_
          refine Sp.step rfl rfl rfl rfl ?_
          refine Sp.step rfl rfl rfl (mld rfl rfl (by decide) e7) ?_
          refine Sp.step rfl rfl rfl rfl ?_
          refine Sp.guard (fun e9 => ?_)
          refine Sp.step rfl rfl rfl (mld rfl rfl (by decide) e9) ?_
          refine Sp.step rfl rfl rfl rfl ?_
          refine Sp.step rfl rfl rfl rfl ?_
          exact Sp.jmp (l0 := [some (.ref 60), some (.int x), none, none, some (.int 1), none, none, none, none]) ⟨rfl, rfl, rfl, trivial⟩ (fun _ _ h => h)
        · refine Sp.step rfl rfl rfl rfl ?_
          refine Sp.step rfl rfl rfl rfl ?_
          exact Sp.jmp (l0 := [some (.ref 60), some (.int x), none, none, some (.int 1), none, none, none, none]) ⟨rfl, rfl, rfl, trivial⟩ (fun _ _ h => h)
      · refine Sp.step rfl rfl rfl rfl ?_
        refine Sp.step rfl rfl rfl rfl ?_
        refine Sp.step rfl rfl rfl rfl ?_
        refine Sp.step rfl rfl rfl rfl ?_
        refine Sp.step rfl rfl rfl rfl ?_
        refine Sp.call rfl rfl rfl (mrecv (by decide) (by decide +kernel)) s_M_takeValue (fun x12 => ⟨_, _, ⟨rfl, rfl⟩, ?_⟩)
        refine Sp.id (pc := 92) (l := [some (.ref 60), some (.int x), none, none, some (.int 1), none, some (.int ((x4.2.1 123 x3.toNatClampNeg) + x10)), none, none]) (st := [.int x12.1]) (h := hS X x12.2) ?_
        refine Sp.step rfl rfl rfl rfl ?_
        refine Sp.step rfl rfl rfl rfl ?_
        refine Sp.step rfl rfl rfl rfl ?_
        refine Sp.call rfl rfl rfl (mrecv (by decide) (by decide +kernel)) s_M_takeValue (fun x13 => ⟨_, _, ⟨rfl, rfl⟩, ?_⟩)
        refine Sp.id (pc := 102) (l := [some (.ref 60), some (.int x), none, none, some (.int 1), none, some (.int ((x4.2.1 123 x3.toNatClampNeg) + x10)), some (.int x12.1), none]) (st := [.int x13.1]) (h := hS X x13.2) ?_
        refine Sp.step rfl rfl rfl rfl ?_
        refine Sp.step rfl rfl rfl rfl ?_
        refine Sp.step rfl rfl rfl rfl ?_
        refine Sp.step rfl rfl rfl rfl ?_
        refine Sp.step rfl rfl rfl (mg_F (f := 85) rfl rfl rfl rfl) ?_
        refine Sp.step rfl rfl rfl rfl ?_
        refine Sp.step rfl rfl rfl rfl ?_
        refine Sp.guard (fun e15 => ?_)
        refine Sp.step rfl rfl rfl (mst rfl rfl (by decide) e15) ?_
        refine Sp.step rfl rfl rfl rfl ?_
        exact Sp.vret rfl rfl rfl (fun _ _ h => h)
    · refine Sp.id (pc := 42) (l := [some (.ref 60), some (.int x), some (.int y), some (.int z), some (.int 1), some (.int x3), none, none, none]) (st := [.int 0]) (h := hS X x4.2) ?_
      refine Sp.step rfl rfl rfl rfl ?_
      exact Sp.vret rfl rfl rfl (fun _ _ h => h)
  · refine Sp.step rfl rfl rfl rfl ?_
    refine Sp.step rfl rfl rfl rfl ?_
    refine Sp.if2 rfl rfl rfl rfl (fun e18 => ?_) (fun e18 => ?_)
    · refine Sp.step rfl rfl rfl rfl ?_
      refine Sp.step rfl rfl rfl rfl ?_
      refine Sp.step rfl rfl rfl rfl ?_
      refine Sp.step rfl rfl rfl rfl ?_
      refine Sp.step rfl rfl rfl rfl ?_
      refine Sp.step rfl rfl rfl rfl ?_
      refine Sp.call rfl rfl rfl (mrecv (by decide) (by decide +kernel)) s_M_peek (fun x20 => ⟨_, _, ⟨rfl, rfl⟩, ?_⟩)
      refine Sp.id (pc := 33) (l := [some (.ref 60), some (.int x), some (.int y), some (.int z), some (.int 0), none, none, none, none]) (st := [.int x20]) (h := hS X M) ?_
      refine Sp.step rfl rfl rfl rfl ?_
      refine Sp.step rfl rfl rfl rfl ?_
      refine Sp.step rfl rfl rfl rfl ?_
      refine Sp.step rfl rfl rfl rfl ?_
      refine Sp.call rfl rfl rfl (mrecv (by decide) (by decide +kernel)) s_M_isOf (fun x21 => ⟨_, _, ⟨rfl, rfl⟩, ?_⟩)
      refine Sp.bool (fun e22 => ?_) (fun e22 => ?_)
      · refine Sp.id (pc := 42) (l := [some (.ref 60), some (.int x), some (.int y), some (.int z), some (.int 0), some (.int x20), none, none, none]) (st := [.int 1]) (h := hS X x21.2) ?_
        refine Sp.step rfl rfl rfl rfl ?_
        refine Sp.step rfl rfl rfl rfl ?_
        refine Sp.step rfl rfl rfl (mg_F (f := 81) rfl rfl rfl rfl) ?_
        refine Sp.step rfl rfl rfl rfl ?_
        refine Sp.guard (fun e24 => ?_)
        refine Sp.step rfl rfl rfl (mld rfl rfl (by decide) e24) ?_
        refine Sp.step rfl rfl rfl rfl ?_
        refine Sp.step rfl rfl rfl rfl ?_
        refine Sp.piece (pe := 80) (mf := (fun (x27 : Int32) => [some (.ref 60), some (.int x), none, none, some (.int 0), none, none, none, none])) (sf := (fun (x27 : Int32) => [.int x27, .int (x21.2.1 123 x20.toNatClampNeg)])) (hf := (fun (x27 : Int32) => hS X x21.2)) ?_ (fun x27 => ?_)
        · refine Sp.if2 rfl rfl rfl rfl (fun e25 => ?_) (fun e25 => ?_)
          · refine Sp.step rfl rfl rfl rfl ?_
            refine Sp.step rfl rfl rfl (mg_F (f := 44) rfl rfl rfl rfl) ?_
            refine Sp.step rfl rfl rfl rfl ?_
            refine Sp.step rfl rfl rfl rfl ?_
            refine Sp.step rfl rfl rfl (mg_F (f := 79) rfl rfl rfl rfl) ?_
            refine Sp.step rfl rfl rfl rfl ?_
            refine Sp.step rfl rfl rfl (mld rfl rfl (by decide) e24) ?_
            refine Sp.step rfl rfl rfl rfl ?_
            refine Sp.guard (fun e26 => ?_)
            refine Sp.step rfl rfl rfl (mld rfl rfl (by decide) e26) ?_
            refine Sp.step rfl rfl rfl rfl ?_
            refine Sp.step rfl rfl rfl rfl ?_
            exact Sp.jmp (l0 := [some (.ref 60), some (.int x), none, none, some (.int 0), none, none, none, none]) ⟨rfl, rfl, rfl, trivial⟩ (fun _ _ h => h)
          · refine Sp.step rfl rfl rfl rfl ?_
            refine Sp.step rfl rfl rfl rfl ?_
            exact Sp.jmp (l0 := [some (.ref 60), some (.int x), none, none, some (.int 0), none, none, none, none]) ⟨rfl, rfl, rfl, trivial⟩ (fun _ _ h => h)
        · refine Sp.step rfl rfl rfl rfl ?_
          refine Sp.step rfl rfl rfl rfl ?_
          refine Sp.step rfl rfl rfl rfl ?_
          refine Sp.step rfl rfl rfl rfl ?_
          refine Sp.step rfl rfl rfl rfl ?_
          refine Sp.step rfl rfl rfl rfl ?_
          refine Sp.step rfl rfl rfl rfl ?_
          refine Sp.call rfl rfl rfl (mrecv (by decide) (by decide +kernel)) s_M_takeValue (fun x29 => ⟨_, _, ⟨rfl, rfl⟩, ?_⟩)
          refine Sp.id (pc := 102) (l := [some (.ref 60), some (.int x), none, none, some (.int 0), none, some (.int ((x21.2.1 123 x20.toNatClampNeg) + x27)), some (.int 0), none]) (st := [.int x29.1]) (h := hS X x29.2) ?_
          refine Sp.step rfl rfl rfl rfl ?_
          refine Sp.step rfl rfl rfl rfl ?_
          refine Sp.step rfl rfl rfl rfl ?_
          refine Sp.step rfl rfl rfl rfl ?_
          refine Sp.step rfl rfl rfl rfl ?_
          refine Sp.if2 rfl rfl rfl rfl (fun e31 => ?_) (fun e31 => ?_)
          · refine Sp.step rfl rfl rfl rfl ?_
            refine Sp.step rfl rfl rfl rfl ?_
            refine Sp.step rfl rfl rfl (mg_F (f := 85) rfl rfl rfl rfl) ?_
            refine Sp.step rfl rfl rfl rfl ?_
            refine Sp.guard (fun e32 => ?_)
            refine Sp.step rfl rfl rfl (mld rfl rfl (by decide) e32) ?_
            refine Sp.call rfl rfl rfl (mrecv (by decide) (by decide +kernel)) s_M_putRef (fun x33 => ⟨_, _, ⟨rfl, rfl⟩, ?_⟩)
            refine Sp.id (pc := 152) (l := [some (.ref 60), some (.int x), none, none, some (.int 0), none, some (.int ((x21.2.1 123 x20.toNatClampNeg) + x27)), some (.int 0), some (.int x29.1)]) (st := []) (h := hS X x33) ?_
            exact Sp.vret rfl rfl rfl (fun _ _ h => h)
          · refine Sp.step rfl rfl rfl rfl ?_
            refine Sp.step rfl rfl rfl rfl ?_
            refine Sp.step rfl rfl rfl (mg_F (f := 85) rfl rfl rfl rfl) ?_
            refine Sp.step rfl rfl rfl rfl ?_
            refine Sp.guard (fun e34 => ?_)
            refine Sp.step rfl rfl rfl (mld rfl rfl (by decide) e34) ?_
            refine Sp.call rfl rfl rfl (mrecv (by decide) (by decide +kernel)) s_M_putInt (fun x35 => ⟨_, _, ⟨rfl, rfl⟩, ?_⟩)
            refine Sp.id (pc := 138) (l := [some (.ref 60), some (.int x), none, none, some (.int 0), none, some (.int ((x21.2.1 123 x20.toNatClampNeg) + x27)), some (.int 0), some (.int x29.1)]) (st := []) (h := hS X x35) ?_
            refine Sp.step rfl rfl rfl rfl ?_
            exact Sp.vret rfl rfl rfl (fun _ _ h => h)
      · refine Sp.id (pc := 42) (l := [some (.ref 60), some (.int x), some (.int y), some (.int z), some (.int 0), some (.int x20), none, none, none]) (st := [.int 0]) (h := hS X x21.2) ?_
        refine Sp.step rfl rfl rfl rfl ?_
        exact Sp.vret rfl rfl rfl (fun _ _ h => h)
    · refine Sp.step rfl rfl rfl rfl ?_
      refine Sp.step rfl rfl rfl rfl ?_
      refine Sp.step rfl rfl rfl rfl ?_
      refine Sp.step rfl rfl rfl rfl ?_
      refine Sp.step rfl rfl rfl rfl ?_
      refine Sp.step rfl rfl rfl rfl ?_
      refine Sp.step rfl rfl rfl rfl ?_
      refine Sp.step rfl rfl rfl rfl ?_
      refine Sp.call rfl rfl rfl (mrecv (by decide) (by decide +kernel)) s_M_peek (fun x38 => ⟨_, _, ⟨rfl, rfl⟩, ?_⟩)
      refine Sp.id (pc := 33) (l := [some (.ref 60), some (.int x), some (.int y), some (.int z), some (.int 1), none, none, none, none]) (st := [.int x38]) (h := hS X M) ?_
      refine Sp.step rfl rfl rfl rfl ?_
      refine Sp.step rfl rfl rfl rfl ?_
      refine Sp.step rfl rfl rfl rfl ?_
      refine Sp.step rfl rfl rfl rfl ?_
      refine Sp.call rfl rfl rfl (mrecv (by decide) (by decide +kernel)) s_M_isOf (fun x39 => ⟨_, _, ⟨rfl, rfl⟩, ?_⟩)
      refine Sp.bool (fun e40 => ?_) (fun e40 => ?_)
      · refine Sp.id (pc := 42) (l := [some (.ref 60), some (.int x), some (.int y), some (.int z), some (.int 1), some (.int x38), none, none, none]) (st := [.int 1]) (h := hS X x39.2) ?_
        refine Sp.step rfl rfl rfl rfl ?_
        refine Sp.step rfl rfl rfl rfl ?_
        refine Sp.step rfl rfl rfl (mg_F (f := 81) rfl rfl rfl rfl) ?_
        refine Sp.step rfl rfl rfl rfl ?_
        refine Sp.guard (fun e42 => ?_)
        refine Sp.step rfl rfl rfl (mld rfl rfl (by decide) e42) ?_
        refine Sp.step rfl rfl rfl rfl ?_
        refine Sp.step rfl rfl rfl rfl ?_
        refine Sp.piece (pe := 80) (mf := (fun (x45 : Int32) => [some (.ref 60), some (.int x), none, none, some (.int 1), none, none, none, none])) (sf := (fun (x45 : Int32) => [.int x45, .int (x39.2.1 123 x38.toNatClampNeg)])) (hf := (fun (x45 : Int32) => hS X x39.2)) ?_ (fun x45 => ?_)
        · refine Sp.if2 rfl rfl rfl rfl (fun e43 => ?_) (fun e43 => ?_)
          · refine Sp.step rfl rfl rfl rfl ?_
            refine Sp.step rfl rfl rfl (mg_F (f := 44) rfl rfl rfl rfl) ?_
            refine Sp.step rfl rfl rfl rfl ?_
            refine Sp.step rfl rfl rfl rfl ?_
            refine Sp.step rfl rfl rfl (mg_F (f := 79) rfl rfl rfl rfl) ?_
            refine Sp.step rfl rfl rfl rfl ?_
            refine Sp.step rfl rfl rfl (mld rfl rfl (by decide) e42) ?_
            refine Sp.step rfl rfl rfl rfl ?_
            refine Sp.guard (fun e44 => ?_)
            refine Sp.step rfl rfl rfl (mld rfl rfl (by decide) e44) ?_
            refine Sp.step rfl rfl rfl rfl ?_
            refine Sp.step rfl rfl rfl rfl ?_
            exact Sp.jmp (l0 := [some (.ref 60), some (.int x), none, none, some (.int 1), none, none, none, none]) ⟨rfl, rfl, rfl, trivial⟩ (fun _ _ h => h)
          · refine Sp.step rfl rfl rfl rfl ?_
            refine Sp.step rfl rfl rfl rfl ?_
            exact Sp.jmp (l0 := [some (.ref 60), some (.int x), none, none, some (.int 1), none, none, none, none]) ⟨rfl, rfl, rfl, trivial⟩ (fun _ _ h => h)
        · refine Sp.step rfl rfl rfl rfl ?_
          refine Sp.step rfl rfl rfl rfl ?_
          refine Sp.step rfl rfl rfl rfl ?_
          refine Sp.step rfl rfl rfl rfl ?_
          refine Sp.step rfl rfl rfl rfl ?_
          refine Sp.call rfl rfl rfl (mrecv (by decide) (by decide +kernel)) s_M_takeValue (fun x47 => ⟨_, _, ⟨rfl, rfl⟩, ?_⟩)
          refine Sp.id (pc := 92) (l := [some (.ref 60), some (.int x), none, none, some (.int 1), none, some (.int ((x39.2.1 123 x38.toNatClampNeg) + x45)), none, none]) (st := [.int x47.1]) (h := hS X x47.2) ?_
          refine Sp.step rfl rfl rfl rfl ?_
          refine Sp.step rfl rfl rfl rfl ?_
          refine Sp.step rfl rfl rfl rfl ?_
          refine Sp.call rfl rfl rfl (mrecv (by decide) (by decide +kernel)) s_M_takeValue (fun x48 => ⟨_, _, ⟨rfl, rfl⟩, ?_⟩)
          refine Sp.id (pc := 102) (l := [some (.ref 60), some (.int x), none, none, some (.int 1), none, some (.int ((x39.2.1 123 x38.toNatClampNeg) + x45)), some (.int x47.1), none]) (st := [.int x48.1]) (h := hS X x48.2) ?_
          refine Sp.step rfl rfl rfl rfl ?_
          refine Sp.step rfl rfl rfl rfl ?_
          refine Sp.step rfl rfl rfl rfl ?_
          refine Sp.step rfl rfl rfl rfl ?_
          refine Sp.step rfl rfl rfl (mg_F (f := 85) rfl rfl rfl rfl) ?_
          refine Sp.step rfl rfl rfl rfl ?_
          refine Sp.step rfl rfl rfl rfl ?_
          refine Sp.guard (fun e50 => ?_)
          refine Sp.step rfl rfl rfl (mst rfl rfl (by decide) e50) ?_
          refine Sp.step rfl rfl rfl rfl ?_
          exact Sp.vret rfl rfl rfl (fun _ _ h => h)
      · refine Sp.id (pc := 42) (l := [some (.ref 60), some (.int x), some (.int y), some (.int z), some (.int 1), some (.int x38), none, none, none]) (st := [.int 0]) (h := hS X x39.2) ?_
        refine Sp.step rfl rfl rfl rfl ?_
        exact Sp.vret rfl rfl rfl (fun _ _ h => h)
def f_M_sizeOf (x : Int32) (y : Int32) (M : MS) : Option Int32 := (if ¬ x = 10 then (if ¬ x = 11 then (if ixo (10 + x) 20 then some ((8 + (4 * (M.1 96 (10 + x).toNatClampNeg))) + (2 * (M.1 97 (10 + x).toNatClampNeg))) else none) else some (10 + (2 * y))) else some (10 + (4 * y)))
set_option maxRecDepth 100000 in
set_option maxHeartbeats 4000000 in
theorem s_M_sizeOf {L : Nat} {xs : Nat → Int32} {X : XS} {M : MS} {x : Int32} {y : Int32} : Sp (mjOO L xs) 71 0 [some (.ref 60), some (.int x), some (.int y)] [] (hS X M) (f_M_sizeOf x y M) (KQ (hS X M)) := by
  unfold f_M_sizeOf
  refine Sp.step rfl rfl rfl rfl ?_
  refine Sp.step rfl rfl rfl rfl ?_
  refine Sp.if2 rfl rfl rfl rfl (fun e1 => ?_) (fun e1 => ?_)
  · refine Sp.step rfl rfl rfl rfl ?_
    refine Sp.step rfl rfl rfl rfl ?_
    refine Sp.if2 rfl rfl rfl rfl (fun e2 => ?_) (fun e2 => ?_)
    · refine Sp.step rfl rfl rfl rfl ?_
      refine Sp.step rfl rfl rfl rfl ?_
      refine Sp.step rfl rfl rfl rfl ?_
      refine Sp.step rfl rfl rfl (mg_F (f := 44) rfl rfl rfl rfl) ?_
      refine Sp.step rfl rfl rfl rfl ?_
      refine Sp.step rfl rfl rfl rfl ?_
      refine Sp.step rfl rfl rfl rfl ?_
      refine Sp.guard (fun e3 => ?_)
      refine Sp.step rfl rfl rfl (mld rfl rfl (by decide) e3) ?_
      refine Sp.step rfl rfl rfl rfl ?_
      refine Sp.step rfl rfl rfl rfl ?_
      refine Sp.step rfl rfl rfl rfl ?_
      refine Sp.step rfl rfl rfl rfl ?_
      refine Sp.step rfl rfl rfl (mg_F (f := 45) rfl rfl rfl rfl) ?_
      refine Sp.step rfl rfl rfl rfl ?_
      refine Sp.step rfl rfl rfl rfl ?_
      refine Sp.step rfl rfl rfl rfl ?_
      refine Sp.step rfl rfl rfl (mld rfl rfl (by decide) e3) ?_
      refine Sp.step rfl rfl rfl rfl ?_
      refine Sp.step rfl rfl rfl rfl ?_
      exact Sp.iret rfl rfl rfl rfl (fun _ _ h => h)
    · refine Sp.step rfl rfl rfl rfl ?_
      refine Sp.step rfl rfl rfl rfl ?_
      refine Sp.step rfl rfl rfl rfl ?_
      refine Sp.step rfl rfl rfl rfl ?_
      refine Sp.step rfl rfl rfl rfl ?_
      refine Sp.step rfl rfl rfl rfl ?_
      exact Sp.iret rfl rfl rfl rfl (fun _ _ h => h)
  · refine Sp.step rfl rfl rfl rfl ?_
    refine Sp.step rfl rfl rfl rfl ?_
    refine Sp.step rfl rfl rfl rfl ?_
    refine Sp.step rfl rfl rfl rfl ?_
    refine Sp.step rfl rfl rfl rfl ?_
    refine Sp.step rfl rfl rfl rfl ?_
    exact Sp.iret rfl rfl rfl rfl (fun _ _ h => h)
def f_M_cellsOf (x : Int32) (y : Int32) (M : MS) : Option Int32 := (if x < 10 then (if ixo (10 + x) 20 then some ((M.1 96 (10 + x).toNatClampNeg) + (M.1 97 (10 + x).toNatClampNeg)) else none) else some y)
set_option maxRecDepth 100000 in
set_option maxHeartbeats 4000000 in
theorem s_M_cellsOf {L : Nat} {xs : Nat → Int32} {X : XS} {M : MS} {x : Int32} {y : Int32} : Sp (mjOO L xs) 72 0 [some (.ref 60), some (.int x), some (.int y)] [] (hS X M) (f_M_cellsOf x y M) (KQ (hS X M)) := by
  unfold f_M_cellsOf
  refine Sp.step rfl rfl rfl rfl ?_
  refine Sp.step rfl rfl rfl rfl ?_
  refine Sp.if2 rfl rfl rfl rfl (fun e1 => ?_) (fun e1 => ?_)
  · refine Sp.step rfl rfl rfl rfl ?_
    refine Sp.step rfl rfl rfl (mg_F (f := 44) rfl rfl rfl rfl) ?_
    refine Sp.step rfl rfl rfl rfl ?_
    refine Sp.step rfl rfl rfl rfl ?_
    refine Sp.step rfl rfl rfl rfl ?_
    refine Sp.guard (fun e2 => ?_)
    refine Sp.step rfl rfl rfl (mld rfl rfl (by decide) e2) ?_
    refine Sp.step rfl rfl rfl rfl ?_
    refine Sp.step rfl rfl rfl (mg_F (f := 45) rfl rfl rfl rfl) ?_
    refine Sp.step rfl rfl rfl rfl ?_
    refine Sp.step rfl rfl rfl rfl ?_
    refine Sp.step rfl rfl rfl rfl ?_
    refine Sp.step rfl rfl rfl (mld rfl rfl (by decide) e2) ?_
    refine Sp.step rfl rfl rfl rfl ?_
    exact Sp.iret rfl rfl rfl rfl (fun _ _ h => h)
  · refine Sp.step rfl rfl rfl rfl ?_
    refine Sp.step rfl rfl rfl rfl ?_
    exact Sp.iret rfl rfl rfl rfl (fun _ _ h => h)
def f_M_mark (x : Int32) (M : MS) : Option MS := (if x ≤ 0 then some M else (if ixo x 1002 then (if ¬ M.1 126 x.toNatClampNeg = 0 then some M else (lt (mw M 126 x.toNatClampNeg 1) fun M4 => (if ixo (M4.1 60 93) 1002 then (lt (mw M4 128 (M4.1 60 93).toNatClampNeg x) fun M6 => (lt (mw M6 60 93 ((M6.1 60 93) + 1)) fun M7 => some M7)) else none))) else none))
set_option maxRecDepth 100000 in
set_option maxHeartbeats 4000000 in
theorem s_M_mark {L : Nat} {xs : Nat → Int32} {X : XS} {M : MS} {x : Int32} : Sp (mjOO L xs) 74 0 [some (.ref 60), some (.int x)] [] (hS X M) (f_M_mark x M) (KVM X) := by
  unfold f_M_mark
  refine Sp.step rfl rfl rfl rfl ?_
  refine Sp.if1 rfl rfl rfl rfl (fun e1 => ?_) (fun e1 => ?_)
  · exact Sp.vret rfl rfl rfl (fun _ _ h => h)
  · refine Sp.step rfl rfl rfl rfl ?_
    refine Sp.step rfl rfl rfl (mg_F (f := 84) rfl rfl rfl rfl) ?_
    refine Sp.step rfl rfl rfl rfl ?_
    refine Sp.guard (fun e2 => ?_)
    refine Sp.step rfl rfl rfl (mld rfl rfl (by decide) e2) ?_
    refine Sp.if1 rfl rfl rfl rfl (fun e3 => ?_) (fun e3 => ?_)
    · exact Sp.vret rfl rfl rfl (fun _ _ h => h)
    · refine Sp.step rfl rfl rfl rfl ?_
      refine Sp.step rfl rfl rfl (mg_F (f := 84) rfl rfl rfl rfl) ?_
      refine Sp.step rfl rfl rfl rfl ?_
      refine Sp.step rfl rfl rfl rfl ?_
      refine Sp.step rfl rfl rfl (mst1 rfl rfl e2) ?_
      refine Sp.step rfl rfl rfl rfl ?_
      refine Sp.step rfl rfl rfl (mg_F (f := 92) rfl rfl rfl rfl) ?_
      refine Sp.step rfl rfl rfl rfl ?_
      refine Sp.step rfl rfl rfl (mg_I (f := 93) rfl rfl rfl) ?_
      refine Sp.step rfl rfl rfl rfl ?_
      refine Sp.guard (fun e5 => ?_)
      refine Sp.step rfl rfl rfl (mst rfl rfl (by decide) e5) ?_
      refine Sp.step rfl rfl rfl rfl ?_
      refine Sp.step rfl rfl rfl rfl ?_
      refine Sp.step rfl rfl rfl (mg_I (f := 93) rfl rfl rfl) ?_
      refine Sp.step rfl rfl rfl rfl ?_
      refine Sp.step rfl rfl rfl rfl ?_
      refine Sp.step rfl rfl rfl (mp_I (f := 93) rfl rfl rfl rfl) ?_
      exact Sp.vret rfl rfl rfl (fun _ _ h => h)
def b60_M_sweep (x25 : (Int32 × Int32 × Int32 × Int32 × MS)) (x29 : Int32) (x37 : (Int32 × MS)) : Option ((Int32 × MS) ⊕ (Int32 × MS)) := (if x29 ≤ x37.1 then some (.inr (x37.1, x37.2)) else (if ixo (x25.2.2.2.2.1 129 x25.2.2.2.1.toNatClampNeg) 1002 then (if ixo ((x37.2.1 123 (x25.2.2.2.2.1 129 x25.2.2.2.1.toNatClampNeg).toNatClampNeg) + x37.1) 8200 then (if ixo (x25.1 + x37.1) 8200 then (lt (mw x37.2 127 (x25.1 + x37.1).toNatClampNeg (x37.2.1 127 ((x37.2.1 123 (x25.2.2.2.2.1 129 x25.2.2.2.1.toNatClampNeg).toNatClampNeg) + x37.1).toNatClampNeg)) fun M42 => some (.inl (x37.1 + 1, M42))) else none) else none) else none))
def b9_M_sweep (x25 : (Int32 × Int32 × Int32 × Int32 × MS)) : Option ((Int32 × Int32 × Int32 × Int32 × MS) ⊕ (Int32 × Int32 × Int32 × Int32 × MS)) := (if x25.2.2.2.2.1 60 95 ≤ x25.2.2.2.1 then some (.inr (x25.1, x25.2.1, x25.2.2.1, x25.2.2.2.1, x25.2.2.2.2)) else (if ixo x25.2.2.2.1 1002 then (if ixo (x25.2.2.2.2.1 129 x25.2.2.2.1.toNatClampNeg) 1002 then ((f_M_cellsOf (x25.2.2.2.2.1 121 (x25.2.2.2.2.1 129 x25.2.2.2.1.toNatClampNeg).toNatClampNeg) (x25.2.2.2.2.1 122 (x25.2.2.2.2.1 129 x25.2.2.2.1.toNatClampNeg).toNatClampNeg) x25.2.2.2.2).bind fun x29 => (if x25.2.2.2.2.1 126 (x25.2.2.2.2.1 129 x25.2.2.2.1.toNatClampNeg).toNatClampNeg = 0 then (lt (mw x25.2.2.2.2 121 (x25.2.2.2.2.1 129 x25.2.2.2.1.toNatClampNeg).toNatClampNeg (-1)) fun M31 => some (.inl (x25.1, x25.2.1, x25.2.2.1, x25.2.2.2.1 + 1, M31))) else ((lp (b60_M_sweep x25 x29) 10000 ((0 : Int32), x25.2.2.2.2)).bind fun x43 => (if ixo (x25.2.2.2.2.1 129 x25.2.2.2.1.toNatClampNeg) 1002 then (lt (mw x43.2 123 (x25.2.2.2.2.1 129 x25.2.2.2.1.toNatClampNeg).toNatClampNeg x25.1) fun M45 => ((f_M_sizeOf (M45.1 121 (x25.2.2.2.2.1 129 x25.2.2.2.1.toNatClampNeg).toNatClampNeg) (M45.1 122 (x25.2.2.2.2.1 129 x25.2.2.2.1.toNatClampNeg).toNatClampNeg) M45).bind fun x46 => (if ixo x25.2.2.1 1002 then (lt (mw M45 129 x25.2.2.1.toNatClampNeg (x25.2.2.2.2.1 129 x25.2.2.2.1.toNatClampNeg)) fun M48 => some (.inl (x25.1 + x29, x25.2.1 + x46, x25.2.2.1 + 1, x25.2.2.2.1 + 1, M48))) else none))) else none)))) else none) else none))
def f_M_sweep (M : MS) : Option MS := ((lp (b9_M_sweep) 10000 ((0 : Int32), (0 : Int32), (0 : Int32), (0 : Int32), M)).bind fun x49 => (lt (mw x49.2.2.2.2 60 95 x49.2.2.1) fun M50 => (lt (mw M50 60 86 x49.1) fun M51 => (lt (mw M51 60 87 x49.2.1) fun M52 => some M52))))
set_option maxRecDepth 100000 in
set_option maxHeartbeats 4000000 in
theorem s_M_sweep {L : Nat} {xs : Nat → Int32} {X : XS} {M : MS} : Sp (mjOO L xs) 76 0 [some (.ref 60), none, none, none, none, none, none, none] [] (hS X M) (f_M_sweep M) (KVM X) := by
  unfold f_M_sweep
  refine Sp.step rfl rfl rfl rfl ?_
  refine Sp.step rfl rfl rfl rfl ?_
  refine Sp.step rfl rfl rfl rfl ?_
  refine Sp.step rfl rfl rfl rfl ?_
  refine Sp.step rfl rfl rfl rfl ?_
  refine Sp.step rfl rfl rfl rfl ?_
  refine Sp.step rfl rfl rfl rfl ?_
  refine Sp.step rfl rfl rfl rfl ?_
  refine Sp.weak (l0 := [some (.ref 60), some (.int 0), some (.int 0), some (.int 0), some (.int 0), none, none, none]) ⟨rfl, rfl, rfl, rfl, rfl, trivial⟩ ?_
  refine Sp.loopX (pe := 159) (mf := (fun (x25 : (Int32 × Int32 × Int32 × Int32 × MS)) => [some (.ref 60), some (.int x25.1), some (.int x25.2.1), some (.int x25.2.2.1), some (.int x25.2.2.2.1), none, none, none])) (hf := (fun (x25 : (Int32 × Int32 × Int32 × Int32 × MS)) => hS X x25.2.2.2.2)) (fun x25 => ?_) (fun x49 => ?_) _ _
  · unfold b9_M_sweep
    refine Sp.step rfl rfl rfl rfl ?_
    refine Sp.step rfl rfl rfl rfl ?_
    refine Sp.step rfl rfl rfl (mg_I (f := 95) rfl rfl rfl) ?_
    refine Sp.if2 rfl rfl rfl rfl (fun e26 => ?_) (fun e26 => ?_)
    · exact Sp.jmp (l0 := [some (.ref 60), some (.int x25.1), some (.int x25.2.1), some (.int x25.2.2.1), some (.int x25.2.2.2.1), none, none, none]) ⟨rfl, rfl, rfl, rfl, rfl, trivial⟩ (fun _ _ h => h)
    · refine Sp.step rfl rfl rfl rfl ?_
      refine Sp.step rfl rfl rfl (mg_F (f := 94) rfl rfl rfl rfl) ?_
      refine Sp.step rfl rfl rfl rfl ?_
      refine Sp.guard (fun e27 => ?_)
      refine Sp.step rfl rfl rfl (mld rfl rfl (by decide) e27) ?_
      refine Sp.step rfl rfl rfl rfl ?_
      refine Sp.step rfl rfl rfl rfl ?_
      refine Sp.step rfl rfl rfl rfl ?_
      refine Sp.step rfl rfl rfl (mg_F (f := 79) rfl rfl rfl rfl) ?_
      refine Sp.step rfl rfl rfl rfl ?_
      refine Sp.guard (fun e28 => ?_)
      refine Sp.step rfl rfl rfl (mld rfl rfl (by decide) e28) ?_
      refine Sp.step rfl rfl rfl rfl ?_
      refine Sp.step rfl rfl rfl (mg_F (f := 80) rfl rfl rfl rfl) ?_
      refine Sp.step rfl rfl rfl rfl ?_
      refine Sp.step rfl rfl rfl (mld rfl rfl (by decide) e28) ?_
      refine Sp.call rfl rfl rfl (mrecv (by decide) (by decide +kernel)) s_M_cellsOf (fun x29 => ⟨_, _, ⟨rfl, rfl⟩, ?_⟩)
      refine Sp.id (pc := 45) (l := [some (.ref 60), some (.int x25.1), some (.int x25.2.1), some (.int x25.2.2.1), some (.int x25.2.2.2.1), some (.int (x25.2.2.2.2.1 129 x25.2.2.2.1.toNatClampNeg)), none, none]) (st := [.int x29]) (h := hS X x25.2.2.2.2) ?_
      refine Sp.step rfl rfl rfl rfl ?_
      refine Sp.step rfl rfl rfl rfl ?_
      refine Sp.step rfl rfl rfl (mg_F (f := 84) rfl rfl rfl rfl) ?_
      refine Sp.step rfl rfl rfl rfl ?_
      refine Sp.step rfl rfl rfl (mld rfl rfl (by decide) e28) ?_
      refine Sp.if1 rfl rfl rfl rfl (fun e30 => ?_) (fun e30 => ?_)
      · refine Sp.step rfl rfl rfl rfl ?_
        refine Sp.step rfl rfl rfl (mg_F (f := 79) rfl rfl rfl rfl) ?_
        refine Sp.step rfl rfl rfl rfl ?_
        refine Sp.step rfl rfl rfl rfl ?_
        refine Sp.step rfl rfl rfl (mst rfl rfl (by decide) e28) ?_
        refine Sp.step rfl rfl rfl rfl ?_
        refine Sp.step rfl rfl rfl rfl ?_
        exact Sp.jmp (l0 := [some (.ref 60), some (.int x25.1), some (.int x25.2.1), some (.int x25.2.2.1), some (.int (x25.2.2.2.1 + 1)), none, none, none]) ⟨rfl, rfl, rfl, rfl, rfl, trivial⟩ (fun _ _ h => h)
      · refine Sp.step rfl rfl rfl rfl ?_
        refine Sp.step rfl rfl rfl rfl ?_
        refine Sp.weak (l0 := [some (.ref 60), some (.int x25.1), some (.int x25.2.1), some (.int x25.2.2.1), some (.int x25.2.2.2.1), some (.int (x25.2.2.2.2.1 129 x25.2.2.2.1.toNatClampNeg)), some (.int x29), some (.int 0)]) ⟨rfl, rfl, rfl, rfl, rfl, rfl, rfl, rfl, trivial⟩ ?_
        refine Sp.loopX (pe := 97) (mf := (fun (x37 : (Int32 × MS)) => [some (.ref 60), some (.int x25.1), some (.int x25.2.1), some (.int x25.2.2.1), some (.int x25.2.2.2.1), some (.int (x25.2.2.2.2.1 129 x25.2.2.2.1.toNatClampNeg)), some (.int x29), some (.int x37.1)])) (hf := (fun (x37 : (Int32 × MS)) => hS X x37.2)) (fun x37 => ?_) (fun x43 => ?_) _ _
        · unfold b60_M_sweep
          refine Sp.step rfl rfl rfl rfl ?_
          refine Sp.step rfl rfl rfl rfl ?_
          refine Sp.if2 rfl rfl rfl rfl (fun e38 => ?_) (fun e38 => ?_)
          · exact Sp.jmp (l0 := [some (.ref 60), some (.int x25.1), some (.int x25.2.1), some (.int x25.2.2.1), some (.int x25.2.2.2.1), some (.int (x25.2.2.2.2.1 129 x25.2.2.2.1.toNatClampNeg)), some (.int x29), some (.int x37.1)]) ⟨rfl, rfl, rfl, rfl, rfl, rfl, rfl, rfl, trivial⟩ (fun _ _ h => h)
          · refine Sp.step rfl rfl rfl rfl ?_
            refine Sp.step rfl rfl rfl (mg_F (f := 85) rfl rfl rfl rfl) ?_
            refine Sp.step rfl rfl rfl rfl ?_
            refine Sp.step rfl rfl rfl rfl ?_
            refine Sp.step rfl rfl rfl rfl ?_
            refine Sp.step rfl rfl rfl rfl ?_
            refine Sp.step rfl rfl rfl (mg_F (f := 85) rfl rfl rfl rfl) ?_
            refine Sp.step rfl rfl rfl rfl ?_
            refine Sp.step rfl rfl rfl (mg_F (f := 81) rfl rfl rfl rfl) ?_
            refine Sp.step rfl rfl rfl rfl ?_
            refine Sp.guard (fun e39 => ?_)
            refine Sp.step rfl rfl rfl (mld rfl rfl (by decide) e39) ?_
            refine Sp.step rfl rfl rfl rfl ?_
            refine Sp.step rfl rfl rfl rfl ?_
            refine Sp.guard (fun e40 => ?_)
            refine Sp.step rfl rfl rfl (mld rfl rfl (by decide) e40) ?_
            refine Sp.guard (fun e41 => ?_)
            refine Sp.step rfl rfl rfl (mst rfl rfl (by decide) e41) ?_
            refine Sp.step rfl rfl rfl rfl ?_
            refine Sp.step rfl rfl rfl rfl ?_
            exact Sp.jmp (l0 := [some (.ref 60), some (.int x25.1), some (.int x25.2.1), some (.int x25.2.2.1), some (.int x25.2.2.2.1), some (.int (x25.2.2.2.2.1 129 x25.2.2.2.1.toNatClampNeg)), some (.int x29), some (.int (x37.1 + 1))]) ⟨rfl, rfl, rfl, rfl, rfl, rfl, rfl, rfl, trivial⟩ (fun _ _ h => h)
        · refine Sp.step rfl rfl rfl rfl ?_
          refine Sp.step rfl rfl rfl (mg_F (f := 81) rfl rfl rfl rfl) ?_
          refine Sp.step rfl rfl rfl rfl ?_
          refine Sp.step rfl rfl rfl rfl ?_
          refine Sp.guard (fun e44 => ?_)
          refine Sp.step rfl rfl rfl (mst rfl rfl (by decide) e44) ?_
          refine Sp.step rfl rfl rfl rfl ?_
          refine Sp.step rfl rfl rfl rfl ?_
          refine Sp.step rfl rfl rfl rfl ?_
          refine Sp.step rfl rfl rfl rfl ?_
          refine Sp.step rfl rfl rfl rfl ?_
          refine Sp.step rfl rfl rfl rfl ?_
          refine Sp.step rfl rfl rfl rfl ?_
          refine Sp.step rfl rfl rfl (mg_F (f := 79) rfl rfl rfl rfl) ?_
          refine Sp.step rfl rfl rfl rfl ?_
          refine Sp.step rfl rfl rfl (mld rfl rfl (by decide) e44) ?_
          refine Sp.step rfl rfl rfl rfl ?_
          refine Sp.step rfl rfl rfl (mg_F (f := 80) rfl rfl rfl rfl) ?_
          refine Sp.step rfl rfl rfl rfl ?_
          refine Sp.step rfl rfl rfl (mld rfl rfl (by decide) e44) ?_
          refine Sp.call rfl rfl rfl (mrecv (by decide) (by decide +kernel)) s_M_sizeOf (fun x46 => ⟨_, _, ⟨rfl, rfl⟩, ?_⟩)
          refine Sp.id (pc := 129) (l := [some (.ref 60), some (.int (x25.1 + x29)), some (.int x25.2.1), some (.int x25.2.2.1), some (.int x25.2.2.2.1), some (.int (x25.2.2.2.2.1 129 x25.2.2.2.1.toNatClampNeg)), some (.int x29), some (.int x43.1)]) (st := [.int x46, .int x25.2.1]) (h := hS X (mw x43.2 123 (x25.2.2.2.2.1 129 x25.2.2.2.1.toNatClampNeg).toNatClampNeg x25.1)) ?_
          refine Sp.step rfl rfl rfl rfl ?_
          refine Sp.step rfl rfl rfl rfl ?_
          refine Sp.step rfl rfl rfl rfl ?_
          refine Sp.step rfl rfl rfl (mg_F (f := 94) rfl rfl rfl rfl) ?_
          refine Sp.step rfl rfl rfl rfl ?_
          refine Sp.step rfl rfl rfl rfl ?_
          refine Sp.guard (fun e47 => ?_)
          refine Sp.step rfl rfl rfl (mst rfl rfl (by decide) e47) ?_
          refine Sp.step rfl rfl rfl rfl ?_
          refine Sp.step rfl rfl rfl rfl ?_
          refine Sp.step rfl rfl rfl rfl ?_
          refine Sp.step rfl rfl rfl rfl ?_
          exact Sp.jmp (l0 := [some (.ref 60), some (.int (x25.1 + x29)), some (.int (x25.2.1 + x46)), some (.int (x25.2.2.1 + 1)), some (.int (x25.2.2.2.1 + 1)), none, none, none]) ⟨rfl, rfl, rfl, rfl, rfl, trivial⟩ (fun _ _ h => h)
  · refine Sp.step rfl rfl rfl rfl ?_
    refine Sp.step rfl rfl rfl rfl ?_
    refine Sp.step rfl rfl rfl (mp_I (f := 95) rfl rfl rfl rfl) ?_
    refine Sp.step rfl rfl rfl rfl ?_
    refine Sp.step rfl rfl rfl rfl ?_
    refine Sp.step rfl rfl rfl (mp_I (f := 86) rfl rfl rfl rfl) ?_
    refine Sp.step rfl rfl rfl rfl ?_
    refine Sp.step rfl rfl rfl rfl ?_
    refine Sp.step rfl rfl rfl (mp_I (f := 87) rfl rfl rfl rfl) ?_
    exact Sp.vret rfl rfl rfl (fun _ _ h => h)
def b17_M_collect (x7 : (Int32 × MS)) : Option ((Int32 × MS) ⊕ (Int32 × MS)) := (if 1002 ≤ x7.1 then some (.inr (x7.1, x7.2)) else (if ixo x7.1 1002 then (lt (mw x7.2 126 x7.1.toNatClampNeg 0) fun M10 => some (.inl (x7.1 + 1, M10))) else none))
def b39_M_collect (x16 : (Int32 × MS)) : Option ((Int32 × MS) ⊕ (Int32 × MS)) := (if 8 ≤ x16.1 then some (.inr (x16.1, x16.2)) else (if ixo x16.1 8 then ((f_M_mark (x16.2.1 118 x16.1.toNatClampNeg) x16.2).bind fun x19 => some (.inl (x16.1 + 1, x19))) else none))
def b102_M_collect (x83 : (Int32 × MS)) (x94 : (Int32 × MS)) : Option ((Int32 × MS) ⊕ (Int32 × MS)) := (if ixo x83.1 120 then (if 12 + (x94.2.1 114 x83.1.toNatClampNeg) ≤ x94.1 then some (.inr (x94.1, x94.2)) else (if ixo ((22 * x83.1) + x94.1) 2640 then (if x94.2.1 116 ((22 * x83.1) + x94.1).toNatClampNeg = 0 then ((f_M_mark 0 x94.2).bind fun x99 => some (.inl (x94.1 + 1, x99))) else ((f_M_mark (x94.2.1 115 ((22 * x83.1) + x94.1).toNatClampNeg) x94.2).bind fun x100 => some (.inl (x94.1 + 1, x100)))) else none)) else none)
def b76_M_collect (x62 : (Int32 × MS)) (x83 : (Int32 × MS)) : Option ((Int32 × MS) ⊕ (Int32 × MS)) := (if ixo x62.1 6 then (if ¬ x83.2.1 110 x62.1.toNatClampNeg = 0 then some (.inr (x83.1, x83.2)) else (if (20 * x62.1) + (x83.2.1 109 x62.1.toNatClampNeg) ≤ x83.1 then some (.inr (x83.1, x83.2)) else ((lp (b102_M_collect x83) 10000 ((0 : Int32), x83.2)).bind fun x101 => some (.inl (x83.1 + 1, x101.2))))) else none)
def b63_M_collect (x62 : (Int32 × MS)) : Option ((Int32 × MS) ⊕ (Int32 × MS)) := (if x62.2.1 60 61 ≤ x62.1 then some (.inr (x62.1, x62.2)) else ((lp (b76_M_collect x62) 10000 (20 * x62.1, x62.2)).bind fun x102 => some (.inl (x62.1 + 1, x102.2))))
def b238_M_collect (M127 : MS) (x139 : (Int32 × MS)) : Option ((Int32 × MS) ⊕ (Int32 × MS)) := (if ixo (M127.1 128 (M127.1 60 93).toNatClampNeg) 1002 then ((f_M_cellsOf (M127.1 121 (M127.1 128 (M127.1 60 93).toNatClampNeg).toNatClampNeg) (x139.2.1 122 (M127.1 128 (M127.1 60 93).toNatClampNeg).toNatClampNeg) x139.2).bind fun x141 => (if x141 ≤ x139.1 then some (.inr (x139.1, x139.2)) else (if ixo ((x139.2.1 123 (M127.1 128 (M127.1 60 93).toNatClampNeg).toNatClampNeg) + x139.1) 8200 then ((f_M_mark (x139.2.1 127 ((x139.2.1 123 (M127.1 128 (M127.1 60 93).toNatClampNeg).toNatClampNeg) + x139.1).toNatClampNeg) x139.2).bind fun x144 => some (.inl (x139.1 + 1, x144))) else none))) else none)
def b166_M_collect (x125 : MS) : Option (MS ⊕ MS) := (if x125.1 60 93 ≤ 0 then some (.inr x125) else (lt (mw x125 60 93 ((x125.1 60 93) - 1)) fun M127 => (if ixo (M127.1 60 93) 1002 then (if ixo (M127.1 128 (M127.1 60 93).toNatClampNeg) 1002 then (((if ¬ M127.1 121 (M127.1 128 (M127.1 60 93).toNatClampNeg).toNatClampNeg = 10 then (if ¬ M127.1 121 (M127.1 128 (M127.1 60 93).toNatClampNeg).toNatClampNeg = 11 then (if ixo (10 + (M127.1 121 (M127.1 128 (M127.1 60 93).toNatClampNeg).toNatClampNeg)) 20 then some (M127.1 96 (10 + (M127.1 121 (M127.1 128 (M127.1 60 93).toNatClampNeg).toNatClampNeg)).toNatClampNeg) else none) else some 0) else some (M127.1 122 (M127.1 128 (M127.1 60 93).toNatClampNeg).toNatClampNeg)) : Option (Int32)).bind fun x133 => ((lp (b238_M_collect M127) 10000 (x133, M127)).bind fun x145 => some (.inl x145.2))) else none) else none)))
def f_M_collect (M : MS) : Option MS := (lt (mw M 60 88 ((M.1 60 88) + 1)) fun M1 => (lt (mw M1 60 93 0) fun M2 => ((lp (b17_M_collect) 10000 ((0 : Int32), M2)).bind fun x11 => ((lp (b39_M_collect) 10000 ((0 : Int32), x11.2)).bind fun x20 => ((lp (b63_M_collect) 10000 ((0 : Int32), x20.2)).bind fun x103 => ((lp (b166_M_collect) 10000 x103.2).bind fun x146 => ((f_M_sweep x146).bind fun x147 => some x147)))))))
set_option maxRecDepth 100000 in
set_option maxHeartbeats 4000000 in
theorem s_M_collect {L : Nat} {xs : Nat → Int32} {X : XS} {M : MS} : Sp (mjOO L xs) 75 0 [some (.ref 60), none, none, none, none] [] (hS X M) (f_M_collect M) (KVM X) := by
  unfold f_M_collect
  refine Sp.step rfl rfl rfl rfl ?_
  refine Sp.step rfl rfl rfl rfl ?_
  refine Sp.step rfl rfl rfl (mg_I (f := 88) rfl rfl rfl) ?_
  refine Sp.step rfl rfl rfl rfl ?_
  refine Sp.step rfl rfl rfl rfl ?_
  refine Sp.step rfl rfl rfl (mp_I (f := 88) rfl rfl rfl rfl) ?_
  refine Sp.step rfl rfl rfl rfl ?_
  refine Sp.step rfl rfl rfl rfl ?_
  refine Sp.step rfl rfl rfl (mp_I (f := 93) rfl rfl rfl rfl) ?_
  refine Sp.step rfl rfl rfl rfl ?_
  refine Sp.step rfl rfl rfl rfl ?_
  refine Sp.weak (l0 := [some (.ref 60), some (.int 0), none, none, none]) ⟨rfl, rfl, trivial⟩ ?_
  refine Sp.loopX (pe := 37) (mf := (fun (x7 : (Int32 × MS)) => [some (.ref 60), some (.int x7.1), none, none, none])) (hf := (fun (x7 : (Int32 × MS)) => hS X x7.2)) (fun x7 => ?_) (fun x11 => ?_) _ _
  · unfold b17_M_collect
    refine Sp.step rfl rfl rfl rfl ?_
    refine Sp.step rfl rfl rfl rfl ?_
    refine Sp.if2 rfl rfl rfl rfl (fun e8 => ?_) (fun e8 => ?_)
    · exact Sp.jmp (l0 := [some (.ref 60), some (.int x7.1), none, none, none]) ⟨rfl, rfl, trivial⟩ (fun _ _ h => h)
    · refine Sp.step rfl rfl rfl rfl ?_
      refine Sp.step rfl rfl rfl (mg_F (f := 84) rfl rfl rfl rfl) ?_
      refine Sp.step rfl rfl rfl rfl ?_
      refine Sp.step rfl rfl rfl rfl ?_
      refine Sp.guard (fun e9 => ?_)
      refine Sp.step rfl rfl rfl (mst0 rfl rfl e9) ?_
      refine Sp.step rfl rfl rfl rfl ?_
      refine Sp.step rfl rfl rfl rfl ?_
      exact Sp.jmp (l0 := [some (.ref 60), some (.int (x7.1 + 1)), none, none, none]) ⟨rfl, rfl, trivial⟩ (fun _ _ h => h)
  · refine Sp.step rfl rfl rfl rfl ?_
    refine Sp.step rfl rfl rfl rfl ?_
    refine Sp.weak (l0 := [some (.ref 60), some (.int 0), none, none, none]) ⟨rfl, rfl, trivial⟩ ?_
    refine Sp.loopX (pe := 61) (mf := (fun (x16 : (Int32 × MS)) => [some (.ref 60), some (.int x16.1), none, none, none])) (hf := (fun (x16 : (Int32 × MS)) => hS X x16.2)) (fun x16 => ?_) (fun x20 => ?_) _ _
    · unfold b39_M_collect
      refine Sp.step rfl rfl rfl rfl ?_
      refine Sp.step rfl rfl rfl rfl ?_
      refine Sp.if2 rfl rfl rfl rfl (fun e17 => ?_) (fun e17 => ?_)
      · exact Sp.jmp (l0 := [some (.ref 60), some (.int x16.1), none, none, none]) ⟨rfl, rfl, trivial⟩ (fun _ _ h => h)
      · refine Sp.step rfl rfl rfl rfl ?_
        refine Sp.step rfl rfl rfl rfl ?_
        refine Sp.step rfl rfl rfl (mg_F (f := 74) rfl rfl rfl rfl) ?_
        refine Sp.step rfl rfl rfl rfl ?_
        refine Sp.guard (fun e18 => ?_)
        refine Sp.step rfl rfl rfl (mld rfl rfl (by decide) e18) ?_
        refine Sp.call rfl rfl rfl (mrecv (by decide) (by decide +kernel)) s_M_mark (fun x19 => ⟨_, _, ⟨rfl, rfl⟩, ?_⟩)
        refine Sp.id (pc := 55) (l := [some (.ref 60), some (.int x16.1), none, none, none]) (st := []) (h := hS X x19) ?_
        refine Sp.step rfl rfl rfl rfl ?_
        refine Sp.step rfl rfl rfl rfl ?_
        exact Sp.jmp (l0 := [some (.ref 60), some (.int (x16.1 + 1)), none, none, none]) ⟨rfl, rfl, trivial⟩ (fun _ _ h => h)
    · refine Sp.step rfl rfl rfl rfl ?_
      refine Sp.step rfl rfl rfl rfl ?_
      refine Sp.weak (l0 := [some (.ref 60), some (.int 0), none, none, none]) ⟨rfl, rfl, trivial⟩ ?_
      refine Sp.loopX (pe := 166) (mf := (fun (x62 : (Int32 × MS)) => [some (.ref 60), some (.int x62.1), none, none, none])) (hf := (fun (x62 : (Int32 × MS)) => hS X x62.2)) (fun x62 => ?_) (fun x103 => ?_) _ _
      · unfold b63_M_collect
        refine Sp.step rfl rfl rfl rfl ?_
        refine Sp.step rfl rfl rfl rfl ?_
        refine Sp.step rfl rfl rfl (mg_I (f := 61) rfl rfl rfl) ?_
        refine Sp.if2 rfl rfl rfl rfl (fun e63 => ?_) (fun e63 => ?_)
        · exact Sp.jmp (l0 := [some (.ref 60), some (.int x62.1), none, none, none]) ⟨rfl, rfl, trivial⟩ (fun _ _ h => h)
        · refine Sp.step rfl rfl rfl rfl ?_
          refine Sp.step rfl rfl rfl rfl ?_
          refine Sp.step rfl rfl rfl rfl ?_
          refine Sp.step rfl rfl rfl rfl ?_
          refine Sp.weak (l0 := [some (.ref 60), some (.int x62.1), some (.int (20 * x62.1)), none, none]) ⟨rfl, rfl, rfl, trivial⟩ ?_
          refine Sp.loopX (pe := 160) (mf := (fun (x83 : (Int32 × MS)) => [some (.ref 60), some (.int x62.1), some (.int x83.1), none, none])) (hf := (fun (x83 : (Int32 × MS)) => hS X x83.2)) (fun x83 => ?_) (fun x102 => ?_) _ _
          · unfold b76_M_collect
            refine Sp.step rfl rfl rfl rfl ?_
            refine Sp.step rfl rfl rfl (mg_F (f := 66) rfl rfl rfl rfl) ?_
            refine Sp.step rfl rfl rfl rfl ?_
            refine Sp.guard (fun e84 => ?_)
            refine Sp.step rfl rfl rfl (mld rfl rfl (by decide) e84) ?_
            refine Sp.if1 rfl rfl rfl rfl (fun e85 => ?_) (fun e85 => ?_)
            · exact Sp.jmp (l0 := [some (.ref 60), some (.int x62.1), some (.int x83.1), none, none]) ⟨rfl, rfl, rfl, trivial⟩ (fun _ _ h => h)
            · refine Sp.step rfl rfl rfl rfl ?_
              refine Sp.step rfl rfl rfl rfl ?_
              refine Sp.step rfl rfl rfl rfl ?_
              refine Sp.step rfl rfl rfl rfl ?_
              refine Sp.step rfl rfl rfl rfl ?_
              refine Sp.step rfl rfl rfl (mg_F (f := 65) rfl rfl rfl rfl) ?_
              refine Sp.step rfl rfl rfl rfl ?_
              refine Sp.step rfl rfl rfl (mld rfl rfl (by decide) e84) ?_
              refine Sp.step rfl rfl rfl rfl ?_
              refine Sp.if2 rfl rfl rfl rfl (fun e86 => ?_) (fun e86 => ?_)
              · exact Sp.jmp (l0 := [some (.ref 60), some (.int x62.1), some (.int x83.1), none, none]) ⟨rfl, rfl, rfl, trivial⟩ (fun _ _ h => h)
              · refine Sp.step rfl rfl rfl rfl ?_
                refine Sp.step rfl rfl rfl rfl ?_
                refine Sp.weak (l0 := [some (.ref 60), some (.int x62.1), some (.int x83.1), some (.int 0), none]) ⟨rfl, rfl, rfl, rfl, trivial⟩ ?_
                refine Sp.loopX (pe := 154) (mf := (fun (x94 : (Int32 × MS)) => [some (.ref 60), some (.int x62.1), some (.int x83.1), some (.int x94.1), none])) (hf := (fun (x94 : (Int32 × MS)) => hS X x94.2)) (fun x94 => ?_) (fun x101 => ?_) _ _
                · unfold b102_M_collect
                  refine Sp.step rfl rfl rfl rfl ?_
                  refine Sp.step rfl rfl rfl rfl ?_
                  refine Sp.step rfl rfl rfl rfl ?_
                  refine Sp.step rfl rfl rfl (mg_F (f := 70) rfl rfl rfl rfl) ?_
                  refine Sp.step rfl rfl rfl rfl ?_
                  refine Sp.guard (fun e95 => ?_)
                  refine Sp.step rfl rfl rfl (mld rfl rfl (by decide) e95) ?_
                  refine Sp.step rfl rfl rfl rfl ?_
                  refine Sp.if2 rfl rfl rfl rfl (fun e96 => ?_) (fun e96 => ?_)
                  · exact Sp.jmp (l0 := [some (.ref 60), some (.int x62.1), some (.int x83.1), some (.int x94.1), none]) ⟨rfl, rfl, rfl, rfl, trivial⟩ (fun _ _ h => h)
                  · refine Sp.step rfl rfl rfl rfl ?_
                    refine Sp.step rfl rfl rfl rfl ?_
                    refine Sp.step rfl rfl rfl (mg_F (f := 72) rfl rfl rfl rfl) ?_
                    refine Sp.step rfl rfl rfl rfl ?_
                    refine Sp.step rfl rfl rfl rfl ?_
                    refine Sp.step rfl rfl rfl rfl ?_
                    refine Sp.step rfl rfl rfl rfl ?_
                    refine Sp.step rfl rfl rfl rfl ?_
                    refine Sp.guard (fun e97 => ?_)
                    refine Sp.step rfl rfl rfl (mld rfl rfl (by decide) e97) ?_
                    refine Sp.if1 rfl rfl rfl rfl (fun e98 => ?_) (fun e98 => ?_)
                    · refine Sp.step rfl rfl rfl rfl ?_
                      refine Sp.call rfl rfl rfl (mrecv (by decide) (by decide +kernel)) s_M_mark (fun x99 => ⟨_, _, ⟨rfl, rfl⟩, ?_⟩)
                      refine Sp.id (pc := 148) (l := [some (.ref 60), some (.int x62.1), some (.int x83.1), some (.int x94.1), none]) (st := []) (h := hS X x99) ?_
                      refine Sp.step rfl rfl rfl rfl ?_
                      refine Sp.step rfl rfl rfl rfl ?_
                      exact Sp.jmp (l0 := [some (.ref 60), some (.int x62.1), some (.int x83.1), some (.int (x94.1 + 1)), none]) ⟨rfl, rfl, rfl, rfl, trivial⟩ (fun _ _ h => h)
                    · refine Sp.step rfl rfl rfl rfl ?_
                      refine Sp.step rfl rfl rfl (mg_F (f := 71) rfl rfl rfl rfl) ?_
                      refine Sp.step rfl rfl rfl rfl ?_
                      refine Sp.step rfl rfl rfl rfl ?_
                      refine Sp.step rfl rfl rfl rfl ?_
                      refine Sp.step rfl rfl rfl rfl ?_
                      refine Sp.step rfl rfl rfl rfl ?_
                      refine Sp.step rfl rfl rfl (mld rfl rfl (by decide) e97) ?_
                      refine Sp.step rfl rfl rfl rfl ?_
                      refine Sp.call rfl rfl rfl (mrecv (by decide) (by decide +kernel)) s_M_mark (fun x100 => ⟨_, _, ⟨rfl, rfl⟩, ?_⟩)
                      refine Sp.id (pc := 148) (l := [some (.ref 60), some (.int x62.1), some (.int x83.1), some (.int x94.1), none]) (st := []) (h := hS X x100) ?_
                      refine Sp.step rfl rfl rfl rfl ?_
                      refine Sp.step rfl rfl rfl rfl ?_
                      exact Sp.jmp (l0 := [some (.ref 60), some (.int x62.1), some (.int x83.1), some (.int (x94.1 + 1)), none]) ⟨rfl, rfl, rfl, rfl, trivial⟩ (fun _ _ h => h)
                · refine Sp.step rfl rfl rfl rfl ?_
                  refine Sp.step rfl rfl rfl rfl ?_
                  exact Sp.jmp (l0 := [some (.ref 60), some (.int x62.1), some (.int (x83.1 + 1)), none, none]) ⟨rfl, rfl, rfl, trivial⟩ (fun _ _ h => h)
          · refine Sp.step rfl rfl rfl rfl ?_
            refine Sp.step rfl rfl rfl rfl ?_
            exact Sp.jmp (l0 := [some (.ref 60), some (.int (x62.1 + 1)), none, none, none]) ⟨rfl, rfl, trivial⟩ (fun _ _ h => h)
      · refine Sp.weak (l0 := [some (.ref 60), none, none, none, none]) ⟨rfl, trivial⟩ ?_
        refine Sp.loopX (pe := 281) (mf := (fun (x125 : MS) => [some (.ref 60), none, none, none, none])) (hf := (fun (x125 : MS) => hS X x125)) (fun x125 => ?_) (fun x146 => ?_) _ _
        · unfold b166_M_collect
          refine Sp.step rfl rfl rfl rfl ?_
          refine Sp.step rfl rfl rfl (mg_I (f := 93) rfl rfl rfl) ?_
          refine Sp.if1 rfl rfl rfl rfl (fun e126 => ?_) (fun e126 => ?_)
          · exact Sp.jmp (l0 := [some (.ref 60), none, none, none, none]) ⟨rfl, trivial⟩ (fun _ _ h => h)
          · refine Sp.step rfl rfl rfl rfl ?_
            refine Sp.step rfl rfl rfl rfl ?_
            refine Sp.step rfl rfl rfl (mg_I (f := 93) rfl rfl rfl) ?_
            refine Sp.step rfl rfl rfl rfl ?_
            refine Sp.step rfl rfl rfl rfl ?_
            refine Sp.step rfl rfl rfl (mp_I (f := 93) rfl rfl rfl rfl) ?_
            refine Sp.step rfl rfl rfl rfl ?_
            refine Sp.step rfl rfl rfl (mg_F (f := 92) rfl rfl rfl rfl) ?_
            refine Sp.step rfl rfl rfl rfl ?_
            refine Sp.step rfl rfl rfl (mg_I (f := 93) rfl rfl rfl) ?_
            refine Sp.guard (fun e128 => ?_)
            refine Sp.step rfl rfl rfl (mld rfl rfl (by decide) e128) ?_
            refine Sp.step rfl rfl rfl rfl ?_
            refine Sp.step rfl rfl rfl rfl ?_
            refine Sp.step rfl rfl rfl (mg_F (f := 79) rfl rfl rfl rfl) ?_
            refine Sp.step rfl rfl rfl rfl ?_
            refine Sp.guard (fun e129 => ?_)
            refine Sp.step rfl rfl rfl (mld rfl rfl (by decide) e129) ?_
            refine Sp.step rfl rfl rfl rfl ?_
            refine Sp.step rfl rfl rfl rfl ?_
            refine Sp.step rfl rfl rfl rfl ?_
            refine Sp.piece (pe := 234) (mf := (fun (x133 : Int32) => [some (.ref 60), some (.int ((mw x125 60 93 ((x125.1 60 93) - 1)).1 128 ((mw x125 60 93 ((x125.1 60 93) - 1)).1 60 93).toNatClampNeg)), some (.int ((mw x125 60 93 ((x125.1 60 93) - 1)).1 121 ((mw x125 60 93 ((x125.1 60 93) - 1)).1 128 ((mw x125 60 93 ((x125.1 60 93) - 1)).1 60 93).toNatClampNeg).toNatClampNeg)), none, none])) (sf := (fun (x133 : Int32) => [.int x133])) (hf := (fun (x133 : Int32) => hS X (mw x125 60 93 ((x125.1 60 93) - 1)))) ?_ (fun x133 => ?_)
            · refine Sp.if2 rfl rfl rfl rfl (fun e130 => ?_) (fun e130 => ?_)
              · refine Sp.step rfl rfl rfl rfl ?_
                refine Sp.step rfl rfl rfl rfl ?_
                refine Sp.if2 rfl rfl rfl rfl (fun e131 => ?_) (fun e131 => ?_)
                · refine Sp.step rfl rfl rfl rfl ?_
                  refine Sp.step rfl rfl rfl (mg_F (f := 44) rfl rfl rfl rfl) ?_
                  refine Sp.step rfl rfl rfl rfl ?_
                  refine Sp.step rfl rfl rfl rfl ?_
                  refine Sp.step rfl rfl rfl rfl ?_
                  refine Sp.guard (fun e132 => ?_)
                  refine Sp.step rfl rfl rfl (mld rfl rfl (by decide) e132) ?_
                  exact Sp.jmp (l0 := [some (.ref 60), some (.int ((mw x125 60 93 ((x125.1 60 93) - 1)).1 128 ((mw x125 60 93 ((x125.1 60 93) - 1)).1 60 93).toNatClampNeg)), some (.int ((mw x125 60 93 ((x125.1 60 93) - 1)).1 121 ((mw x125 60 93 ((x125.1 60 93) - 1)).1 128 ((mw x125 60 93 ((x125.1 60 93) - 1)).1 60 93).toNatClampNeg).toNatClampNeg)), none, none]) ⟨rfl, rfl, rfl, trivial⟩ (fun _ _ h => h)
                · refine Sp.step rfl rfl rfl rfl ?_
                  refine Sp.step rfl rfl rfl rfl ?_
                  exact Sp.jmp (l0 := [some (.ref 60), some (.int ((mw x125 60 93 ((x125.1 60 93) - 1)).1 128 ((mw x125 60 93 ((x125.1 60 93) - 1)).1 60 93).toNatClampNeg)), some (.int ((mw x125 60 93 ((x125.1 60 93) - 1)).1 121 ((mw x125 60 93 ((x125.1 60 93) - 1)).1 128 ((mw x125 60 93 ((x125.1 60 93) - 1)).1 60 93).toNatClampNeg).toNatClampNeg)), none, none]) ⟨rfl, rfl, rfl, trivial⟩ (fun _ _ h => h)
              · refine Sp.step rfl rfl rfl rfl ?_
                refine Sp.step rfl rfl rfl (mg_F (f := 80) rfl rfl rfl rfl) ?_
                refine Sp.step rfl rfl rfl rfl ?_
                refine Sp.step rfl rfl rfl (mld rfl rfl (by decide) e129) ?_
                refine Sp.step rfl rfl rfl rfl ?_
                exact Sp.jmp (l0 := [some (.ref 60), some (.int ((mw x125 60 93 ((x125.1 60 93) - 1)).1 128 ((mw x125 60 93 ((x125.1 60 93) - 1)).1 60 93).toNatClampNeg)), some (.int ((mw x125 60 93 ((x125.1 60 93) - 1)).1 121 ((mw x125 60 93 ((x125.1 60 93) - 1)).1 128 ((mw x125 60 93 ((x125.1 60 93) - 1)).1 60 93).toNatClampNeg).toNatClampNeg)), none, none]) ⟨rfl, rfl, rfl, trivial⟩ (fun _ _ h => h)
            · refine Sp.step rfl rfl rfl rfl ?_
              refine Sp.step rfl rfl rfl rfl ?_
              refine Sp.step rfl rfl rfl rfl ?_
              refine Sp.weak (l0 := [some (.ref 60), some (.int ((mw x125 60 93 ((x125.1 60 93) - 1)).1 128 ((mw x125 60 93 ((x125.1 60 93) - 1)).1 60 93).toNatClampNeg)), some (.int ((mw x125 60 93 ((x125.1 60 93) - 1)).1 121 ((mw x125 60 93 ((x125.1 60 93) - 1)).1 128 ((mw x125 60 93 ((x125.1 60 93) - 1)).1 60 93).toNatClampNeg).toNatClampNeg)), none, some (.int x133)]) ⟨rfl, rfl, rfl, rfl, trivial⟩ ?_
              refine Sp.loopX (pe := 166) (mf := (fun (x139 : (Int32 × MS)) => [some (.ref 60), some (.int ((mw x125 60 93 ((x125.1 60 93) - 1)).1 128 ((mw x125 60 93 ((x125.1 60 93) - 1)).1 60 93).toNatClampNeg)), some (.int ((mw x125 60 93 ((x125.1 60 93) - 1)).1 121 ((mw x125 60 93 ((x125.1 60 93) - 1)).1 128 ((mw x125 60 93 ((x125.1 60 93) - 1)).1 60 93).toNatClampNeg).toNatClampNeg)), none, some (.int x139.1)])) (hf := (fun (x139 : (Int32 × MS)) => hS X x139.2)) (fun x139 => ?_) (fun x145 => ?_) _ _
              · unfold b238_M_collect
                refine Sp.step rfl rfl rfl rfl ?_
                refine Sp.step rfl rfl rfl rfl ?_
                refine Sp.step rfl rfl rfl rfl ?_
                refine Sp.step rfl rfl rfl rfl ?_
                refine Sp.step rfl rfl rfl (mg_F (f := 80) rfl rfl rfl rfl) ?_
                refine Sp.step rfl rfl rfl rfl ?_
                refine Sp.guard (fun e140 => ?_)
                refine Sp.step rfl rfl rfl (mld rfl rfl (by decide) e140) ?_
                refine Sp.call rfl rfl rfl (mrecv (by decide) (by decide +kernel)) s_M_cellsOf (fun x141 => ⟨_, _, ⟨rfl, rfl⟩, ?_⟩)
                refine Sp.id (pc := 251) (l := [some (.ref 60), some (.int ((mw x125 60 93 ((x125.1 60 93) - 1)).1 128 ((mw x125 60 93 ((x125.1 60 93) - 1)).1 60 93).toNatClampNeg)), some (.int ((mw x125 60 93 ((x125.1 60 93) - 1)).1 121 ((mw x125 60 93 ((x125.1 60 93) - 1)).1 128 ((mw x125 60 93 ((x125.1 60 93) - 1)).1 60 93).toNatClampNeg).toNatClampNeg)), none, some (.int x139.1)]) (st := [.int x141, .int x139.1]) (h := hS X x139.2) ?_
                refine Sp.if2 rfl rfl rfl rfl (fun e142 => ?_) (fun e142 => ?_)
                · refine Sp.step rfl rfl rfl rfl ?_
                  exact Sp.jmp (l0 := [some (.ref 60), some (.int ((mw x125 60 93 ((x125.1 60 93) - 1)).1 128 ((mw x125 60 93 ((x125.1 60 93) - 1)).1 60 93).toNatClampNeg)), some (.int ((mw x125 60 93 ((x125.1 60 93) - 1)).1 121 ((mw x125 60 93 ((x125.1 60 93) - 1)).1 128 ((mw x125 60 93 ((x125.1 60 93) - 1)).1 60 93).toNatClampNeg).toNatClampNeg)), none, some (.int x139.1)]) ⟨rfl, rfl, rfl, rfl, trivial⟩ (fun _ _ h => h)
                · refine Sp.step rfl rfl rfl rfl ?_
                  refine Sp.step rfl rfl rfl rfl ?_
                  refine Sp.step rfl rfl rfl (mg_F (f := 85) rfl rfl rfl rfl) ?_
                  refine Sp.step rfl rfl rfl rfl ?_
                  refine Sp.step rfl rfl rfl (mg_F (f := 81) rfl rfl rfl rfl) ?_
                  refine Sp.step rfl rfl rfl rfl ?_
                  refine Sp.step rfl rfl rfl (mld rfl rfl (by decide) e140) ?_
                  refine Sp.step rfl rfl rfl rfl ?_
                  refine Sp.step rfl rfl rfl rfl ?_
                  refine Sp.guard (fun e143 => ?_)
                  refine Sp.step rfl rfl rfl (mld rfl rfl (by decide) e143) ?_
                  refine Sp.call rfl rfl rfl (mrecv (by decide) (by decide +kernel)) s_M_mark (fun x144 => ⟨_, _, ⟨rfl, rfl⟩, ?_⟩)
                  refine Sp.id (pc := 272) (l := [some (.ref 60), some (.int ((mw x125 60 93 ((x125.1 60 93) - 1)).1 128 ((mw x125 60 93 ((x125.1 60 93) - 1)).1 60 93).toNatClampNeg)), some (.int ((mw x125 60 93 ((x125.1 60 93) - 1)).1 121 ((mw x125 60 93 ((x125.1 60 93) - 1)).1 128 ((mw x125 60 93 ((x125.1 60 93) - 1)).1 60 93).toNatClampNeg).toNatClampNeg)), none, some (.int x139.1)]) (st := []) (h := hS X x144) ?_
                  refine Sp.step rfl rfl rfl rfl ?_
                  refine Sp.step rfl rfl rfl rfl ?_
                  exact Sp.jmp (l0 := [some (.ref 60), some (.int ((mw x125 60 93 ((x125.1 60 93) - 1)).1 128 ((mw x125 60 93 ((x125.1 60 93) - 1)).1 60 93).toNatClampNeg)), some (.int ((mw x125 60 93 ((x125.1 60 93) - 1)).1 121 ((mw x125 60 93 ((x125.1 60 93) - 1)).1 128 ((mw x125 60 93 ((x125.1 60 93) - 1)).1 60 93).toNatClampNeg).toNatClampNeg)), none, some (.int (x139.1 + 1))]) ⟨rfl, rfl, rfl, rfl, trivial⟩ (fun _ _ h => h)
              · exact Sp.jmp (l0 := [some (.ref 60), none, none, none, none]) ⟨rfl, trivial⟩ (fun _ _ h => h)
        · refine Sp.step rfl rfl rfl rfl ?_
          refine Sp.call rfl rfl rfl (mrecv (by decide) (by decide +kernel)) s_M_sweep (fun x147 => ⟨_, _, ⟨rfl, rfl⟩, ?_⟩)
          refine Sp.id (pc := 285) (l := [some (.ref 60), none, none, none, none]) (st := []) (h := hS X x147) ?_
          exact Sp.vret rfl rfl rfl (fun _ _ h => h)
def b48_M_make (M : MS) (x3 : Int32) : Option (Int32 ⊕ Int32) := (if ixo x3 1002 then (if M.1 121 x3.toNatClampNeg < 0 then some (.inr x3) else some (.inl (x3 + 1))) else none)
def b118_M_make (x13 : Int32) (x18 : (Int32 × MS)) : Option ((Int32 × MS) ⊕ (Int32 × MS)) := (if x13 ≤ x18.1 then some (.inr (x18.1, x18.2)) else (if ixo ((x18.2.1 60 86) + x18.1) 8200 then (lt (mw x18.2 127 ((x18.2.1 60 86) + x18.1).toNatClampNeg 0) fun M21 => some (.inl (x18.1 + 1, M21))) else none))
def b48_M_make' (x28 : MS) (x30 : Int32) : Option (Int32 ⊕ Int32) := (if ixo x30 1002 then (if x28.1 121 x30.toNatClampNeg < 0 then some (.inr x30) else some (.inl (x30 + 1))) else none)
def b118_M_make' (x40 : Int32) (x45 : (Int32 × MS)) : Option ((Int32 × MS) ⊕ (Int32 × MS)) := (if x40 ≤ x45.1 then some (.inr (x45.1, x45.2)) else (if ixo ((x45.2.1 60 86) + x45.1) 8200 then (lt (mw x45.2 127 ((x45.2.1 60 86) + x45.1).toNatClampNeg 0) fun M48 => some (.inl (x45.1 + 1, M48))) else none))
def f_M_make (x : Int32) (y : Int32) (M : MS) : Option (Int32 × MS) := ((f_M_sizeOf x y M).bind fun x1 => (if (M.1 60 87) + x1 ≤ M.1 60 59 then ((lp (b48_M_make M) 10000 (1 : Int32)).bind fun x6 => (if ixo x6 1002 then (lt (mw M 121 x6.toNatClampNeg x) fun M8 => (lt (mw M8 122 x6.toNatClampNeg y) fun M9 => (lt (mw M9 123 x6.toNatClampNeg (M9.1 60 86)) fun M10 => (lt (mw M10 124 x6.toNatClampNeg 0) fun M11 => (lt (mw M11 125 x6.toNatClampNeg 0) fun M12 => ((f_M_cellsOf x y M12).bind fun x13 => ((lp (b118_M_make x13) 10000 ((0 : Int32), M12)).bind fun x22 => (lt (mw x22.2 60 86 ((x22.2.1 60 86) + x13)) fun M23 => (lt (mw M23 60 87 ((M23.1 60 87) + x1)) fun M24 => (if ixo (M24.1 60 95) 1002 then (lt (mw M24 129 (M24.1 60 95).toNatClampNeg x6) fun M26 => (lt (mw M26 60 95 ((M26.1 60 95) + 1)) fun M27 => some (x6, M27))) else none)))))))))) else none)) else ((f_M_collect M).bind fun x28 => (if (x28.1 60 87) + x1 ≤ x28.1 60 59 then ((lp (b48_M_make' x28) 10000 (1 : Int32)).bind fun x33 => (if ixo x33 1002 then (lt (mw x28 121 x33.toNatClampNeg x) fun M35 => (lt (mw M35 122 x33.toNatClampNeg y) fun M36 => (lt (mw M36 123 x33.toNatClampNeg (M36.1 60 86)) fun M37 => (lt (mw M37 124 x33.toNatClampNeg 0) fun M38 => (lt (mw M38 125 x33.toNatClampNeg 0) fun M39 => ((f_M_cellsOf x y M39).bind fun x40 => ((lp (b118_M_make' x40) 10000 ((0 : Int32), M39)).bind fun x49 => (lt (mw x49.2 60 86 ((x49.2.1 60 86) + x40)) fun M50 => (lt (mw M50 60 87 ((M50.1 60 87) + x1)) fun M51 => (if ixo (M51.1 60 95) 1002 then (lt (mw M51 129 (M51.1 60 95).toNatClampNeg x33) fun M53 => (lt (mw M53 60 95 ((M53.1 60 95) + 1)) fun M54 => some (x33, M54))) else none)))))))))) else none)) else (lt (mw x28 60 90 9) fun M55 => some (0, M55))))))
set_option maxRecDepth 100000 in
set_option maxHeartbeats 4000000 in
theorem s_M_make {L : Nat} {xs : Nat → Int32} {X : XS} {M : MS} {x : Int32} {y : Int32} : Sp (mjOO L xs) 73 0 [some (.ref 60), some (.int x), some (.int y), none, none, none, none] [] (hS X M) (f_M_make x y M) (KEM X) := by
  unfold f_M_make
  refine Sp.step rfl rfl rfl rfl ?_
  refine Sp.step rfl rfl rfl rfl ?_
  refine Sp.step rfl rfl rfl rfl ?_
  refine Sp.call rfl rfl rfl (mrecv (by decide) (by decide +kernel)) s_M_sizeOf (fun x1 => ⟨_, _, ⟨rfl, rfl⟩, ?_⟩)
  refine Sp.id (pc := 6) (l := [some (.ref 60), some (.int x), some (.int y), none, none, none, none]) (st := [.int x1]) (h := hS X M) ?_
  refine Sp.step rfl rfl rfl rfl ?_
  refine Sp.step rfl rfl rfl rfl ?_
  refine Sp.step rfl rfl rfl (mg_I (f := 87) rfl rfl rfl) ?_
  refine Sp.step rfl rfl rfl rfl ?_
  refine Sp.step rfl rfl rfl rfl ?_
  refine Sp.step rfl rfl rfl rfl ?_
  refine Sp.step rfl rfl rfl (mg_I (f := 59) rfl rfl rfl) ?_
  refine Sp.if2 rfl rfl rfl rfl (fun e2 => ?_) (fun e2 => ?_)
  · refine Sp.step rfl rfl rfl rfl ?_
    refine Sp.step rfl rfl rfl rfl ?_
    refine Sp.weak (l0 := [some (.ref 60), some (.int x), some (.int y), some (.int x1), some (.int 1), none, none]) ⟨rfl, rfl, rfl, rfl, rfl, trivial⟩ ?_
    refine Sp.loopX (pe := 64) (mf := (fun (x3 : Int32) => [some (.ref 60), some (.int x), some (.int y), some (.int x1), some (.int x3), none, none])) (hf := (fun (x3 : Int32) => hS X M)) (fun x3 => ?_) (fun x6 => ?_) _ _
    · unfold b48_M_make
      refine Sp.step rfl rfl rfl rfl ?_
      refine Sp.step rfl rfl rfl (mg_F (f := 79) rfl rfl rfl rfl) ?_
      refine Sp.step rfl rfl rfl rfl ?_
      refine Sp.guard (fun e4 => ?_)
      refine Sp.step rfl rfl rfl (mld rfl rfl (by decide) e4) ?_
      refine Sp.if1 rfl rfl rfl rfl (fun e5 => ?_) (fun e5 => ?_)
      · exact Sp.jmp (l0 := [some (.ref 60), some (.int x), some (.int y), some (.int x1), some (.int x3), none, none]) ⟨rfl, rfl, rfl, rfl, rfl, trivial⟩ (fun _ _ h => h)
      · refine Sp.step rfl rfl rfl rfl ?_
        refine Sp.step rfl rfl rfl rfl ?_
        exact Sp.jmp (l0 := [some (.ref 60), some (.int x), some (.int y), some (.int x1), some (.int (x3 + 1)), none, none]) ⟨rfl, rfl, rfl, rfl, rfl, trivial⟩ (fun _ _ h => h)
    · refine Sp.step rfl rfl rfl rfl ?_
      refine Sp.step rfl rfl rfl (mg_F (f := 79) rfl rfl rfl rfl) ?_
      refine Sp.step rfl rfl rfl rfl ?_
      refine Sp.step rfl rfl rfl rfl ?_
      refine Sp.guard (fun e7 => ?_)
      refine Sp.step rfl rfl rfl (mst rfl rfl (by decide) e7) ?_
      refine Sp.step rfl rfl rfl rfl ?_
      refine Sp.step rfl rfl rfl (mg_F (f := 80) rfl rfl rfl rfl) ?_
      refine Sp.step rfl rfl rfl rfl ?_
      refine Sp.step rfl rfl rfl rfl ?_
      refine Sp.step rfl rfl rfl (mst rfl rfl (by decide) e7) ?_
      refine Sp.step rfl rfl rfl rfl ?_
      refine Sp.step rfl rfl rfl (mg_F (f := 81) rfl rfl rfl rfl) ?_
      refine Sp.step rfl rfl rfl rfl ?_
      refine Sp.step rfl rfl rfl rfl ?_
      refine Sp.step rfl rfl rfl (mg_I (f := 86) rfl rfl rfl) ?_
      refine Sp.step rfl rfl rfl (mst rfl rfl (by decide) e7) ?_
      refine Sp.step rfl rfl rfl rfl ?_
      refine Sp.step rfl rfl rfl (mg_F (f := 82) rfl rfl rfl rfl) ?_
      refine Sp.step rfl rfl rfl rfl ?_
      refine Sp.step rfl rfl rfl rfl ?_
      refine Sp.step rfl rfl rfl (mst rfl rfl (by decide) e7) ?_
      refine Sp.step rfl rfl rfl rfl ?_
      refine Sp.step rfl rfl rfl (mg_F (f := 83) rfl rfl rfl rfl) ?_
      refine Sp.step rfl rfl rfl rfl ?_
      refine Sp.step rfl rfl rfl rfl ?_
      refine Sp.step rfl rfl rfl (mst rfl rfl (by decide) e7) ?_
      refine Sp.step rfl rfl rfl rfl ?_
      refine Sp.step rfl rfl rfl rfl ?_
      refine Sp.step rfl rfl rfl rfl ?_
      refine Sp.call rfl rfl rfl (mrecv (by decide) (by decide +kernel)) s_M_cellsOf (fun x13 => ⟨_, _, ⟨rfl, rfl⟩, ?_⟩)
      refine Sp.id (pc := 113) (l := [some (.ref 60), some (.int x), some (.int y), some (.int x1), some (.int x6), none, none]) (st := [.int x13]) (h := hS X (mw (mw (mw (mw (mw M 121 x6.toNatClampNeg x) 122 x6.toNatClampNeg y) 123 x6.toNatClampNeg ((mw (mw M 121 x6.toNatClampNeg x) 122 x6.toNatClampNeg y).1 60 86)) 124 x6.toNatClampNeg 0) 125 x6.toNatClampNeg 0)) ?_
      refine Sp.step rfl rfl rfl rfl ?_
      refine Sp.step rfl rfl rfl rfl ?_
      refine Sp.step rfl rfl rfl rfl ?_
      refine Sp.weak (l0 := [some (.ref 60), none, none, some (.int x1), some (.int x6), some (.int x13), some (.int 0)]) ⟨rfl, rfl, rfl, rfl, rfl, trivial⟩ ?_
      refine Sp.loopX (pe := 144) (mf := (fun (x18 : (Int32 × MS)) => [some (.ref 60), none, none, some (.int x1), some (.int x6), some (.int x13), some (.int x18.1)])) (hf := (fun (x18 : (Int32 × MS)) => hS X x18.2)) (fun x18 => ?_) (fun x22 => ?_) _ _
      · unfold b118_M_make
        refine Sp.step rfl rfl rfl rfl ?_
        refine Sp.step rfl rfl rfl rfl ?_
        refine Sp.if2 rfl rfl rfl rfl (fun e19 => ?_) (fun e19 => ?_)
        · exact Sp.jmp (l0 := [some (.ref 60), none, none, some (.int x1), some (.int x6), some (.int x13), some (.int x18.1)]) ⟨rfl, rfl, rfl, rfl, rfl, trivial⟩ (fun _ _ h => h)
        · refine Sp.step rfl rfl rfl rfl ?_
          refine Sp.step rfl rfl rfl (mg_F (f := 85) rfl rfl rfl rfl) ?_
          refine Sp.step rfl rfl rfl rfl ?_
          refine Sp.step rfl rfl rfl (mg_I (f := 86) rfl rfl rfl) ?_
          refine Sp.step rfl rfl rfl rfl ?_
          refine Sp.step rfl rfl rfl rfl ?_
          refine Sp.step rfl rfl rfl rfl ?_
          refine Sp.guard (fun e20 => ?_)
          refine Sp.step rfl rfl rfl (mst rfl rfl (by decide) e20) ?_
          refine Sp.step rfl rfl rfl rfl ?_
          refine Sp.step rfl rfl rfl rfl ?_
          exact Sp.jmp (l0 := [some (.ref 60), none, none, some (.int x1), some (.int x6), some (.int x13), some (.int (x18.1 + 1))]) ⟨rfl, rfl, rfl, rfl, rfl, trivial⟩ (fun _ _ h => h)
      · refine Sp.step rfl rfl rfl rfl ?_
        refine Sp.step rfl rfl rfl rfl ?_
        refine Sp.step rfl rfl rfl (mg_I (f := 86) rfl rfl rfl) ?_
        refine Sp.step rfl rfl rfl rfl ?_
        refine Sp.step rfl rfl rfl rfl ?_
        refine Sp.step rfl rfl rfl (mp_I (f := 86) rfl rfl rfl rfl) ?_
        refine Sp.step rfl rfl rfl rfl ?_
        refine Sp.step rfl rfl rfl rfl ?_
        refine Sp.step rfl rfl rfl (mg_I (f := 87) rfl rfl rfl) ?_
        refine Sp.step rfl rfl rfl rfl ?_
        refine Sp.step rfl rfl rfl rfl ?_
        refine Sp.step rfl rfl rfl (mp_I (f := 87) rfl rfl rfl rfl) ?_
        refine Sp.step rfl rfl rfl rfl ?_
        refine Sp.step rfl rfl rfl (mg_F (f := 94) rfl rfl rfl rfl) ?_
        refine Sp.step rfl rfl rfl rfl ?_
        refine Sp.step rfl rfl rfl (mg_I (f := 95) rfl rfl rfl) ?_
        refine Sp.step rfl rfl rfl rfl ?_
        refine Sp.guard (fun e25 => ?_)
        refine Sp.step rfl rfl rfl (mst rfl rfl (by decide) e25) ?_
        refine Sp.step rfl rfl rfl rfl ?_
        refine Sp.step rfl rfl rfl rfl ?_
        refine Sp.step rfl rfl rfl (mg_I (f := 95) rfl rfl rfl) ?_
        refine Sp.step rfl rfl rfl rfl ?_
        refine Sp.step rfl rfl rfl rfl ?_
        refine Sp.step rfl rfl rfl (mp_I (f := 95) rfl rfl rfl rfl) ?_
        refine Sp.step rfl rfl rfl rfl ?_
        exact Sp.iret rfl rfl rfl rfl (fun _ _ h => h)
  · refine Sp.step rfl rfl rfl rfl ?_
    refine Sp.call rfl rfl rfl (mrecv (by decide) (by decide +kernel)) s_M_collect (fun x28 => ⟨_, _, ⟨rfl, rfl⟩, ?_⟩)
    refine Sp.id (pc := 24) (l := [some (.ref 60), some (.int x), some (.int y), some (.int x1), none, none, none]) (st := []) (h := hS X x28) ?_
    refine Sp.step rfl rfl rfl rfl ?_
    refine Sp.step rfl rfl rfl (mg_I (f := 87) rfl rfl rfl) ?_
    refine Sp.step rfl rfl rfl rfl ?_
    refine Sp.step rfl rfl rfl rfl ?_
    refine Sp.step rfl rfl rfl rfl ?_
    refine Sp.step rfl rfl rfl (mg_I (f := 59) rfl rfl rfl) ?_
    refine Sp.if2 rfl rfl rfl rfl (fun e29 => ?_) (fun e29 => ?_)
    · refine Sp.step rfl rfl rfl rfl ?_
      refine Sp.step rfl rfl rfl rfl ?_
      refine Sp.weak (l0 := [some (.ref 60), some (.int x), some (.int y), some (.int x1), some (.int 1), none, none]) ⟨rfl, rfl, rfl, rfl, rfl, trivial⟩ ?_
      refine Sp.loopX (pe := 64) (mf := (fun (x30 : Int32) => [some (.ref 60), some (.int x), some (.int y), some (.int x1), some (.int x30), none, none])) (hf := (fun (x30 : Int32) => hS X x28)) (fun x30 => ?_) (fun x33 => ?_) _ _
      · unfold b48_M_make'
        refine Sp.step rfl rfl rfl rfl ?_
        refine Sp.step rfl rfl rfl (mg_F (f := 79) rfl rfl rfl rfl) ?_
        refine Sp.step rfl rfl rfl rfl ?_
        refine Sp.guard (fun e31 => ?_)
        refine Sp.step rfl rfl rfl (mld rfl rfl (by decide) e31) ?_
        refine Sp.if1 rfl rfl rfl rfl (fun e32 => ?_) (fun e32 => ?_)
        · exact Sp.jmp (l0 := [some (.ref 60), some (.int x), some (.int y), some (.int x1), some (.int x30), none, none]) ⟨rfl, rfl, rfl, rfl, rfl, trivial⟩ (fun _ _ h => h)
        · refine Sp.step rfl rfl rfl rfl ?_
          refine Sp.step rfl rfl rfl rfl ?_
          exact Sp.jmp (l0 := [some (.ref 60), some (.int x), some (.int y), some (.int x1), some (.int (x30 + 1)), none, none]) ⟨rfl, rfl, rfl, rfl, rfl, trivial⟩ (fun _ _ h => h)
      · refine Sp.step rfl rfl rfl rfl ?_
        refine Sp.step rfl rfl rfl (mg_F (f := 79) rfl rfl rfl rfl) ?_
        refine Sp.step rfl rfl rfl rfl ?_
        refine Sp.step rfl rfl rfl rfl ?_
        refine Sp.guard (fun e34 => ?_)
        refine Sp.step rfl rfl rfl (mst rfl rfl (by decide) e34) ?_
        refine Sp.step rfl rfl rfl rfl ?_
        refine Sp.step rfl rfl rfl (mg_F (f := 80) rfl rfl rfl rfl) ?_
        refine Sp.step rfl rfl rfl rfl ?_
        refine Sp.step rfl rfl rfl rfl ?_
        refine Sp.step rfl rfl rfl (mst rfl rfl (by decide) e34) ?_
        refine Sp.step rfl rfl rfl rfl ?_
        refine Sp.step rfl rfl rfl (mg_F (f := 81) rfl rfl rfl rfl) ?_
        refine Sp.step rfl rfl rfl rfl ?_
        refine Sp.step rfl rfl rfl rfl ?_
        refine Sp.step rfl rfl rfl (mg_I (f := 86) rfl rfl rfl) ?_
        refine Sp.step rfl rfl rfl (mst rfl rfl (by decide) e34) ?_
        refine Sp.step rfl rfl rfl rfl ?_
        refine Sp.step rfl rfl rfl (mg_F (f := 82) rfl rfl rfl rfl) ?_
        refine Sp.step rfl rfl rfl rfl ?_
        refine Sp.step rfl rfl rfl rfl ?_
        refine Sp.step rfl rfl rfl (mst rfl rfl (by decide) e34) ?_
        refine Sp.step rfl rfl rfl rfl ?_
        refine Sp.step rfl rfl rfl (mg_F (f := 83) rfl rfl rfl rfl) ?_
        refine Sp.step rfl rfl rfl rfl ?_
        refine Sp.step rfl rfl rfl rfl ?_
        refine Sp.step rfl rfl rfl (mst rfl rfl (by decide) e34) ?_
        refine Sp.step rfl rfl rfl rfl ?_
        refine Sp.step rfl rfl rfl rfl ?_
        refine Sp.step rfl rfl rfl rfl ?_
        refine Sp.call rfl rfl rfl (mrecv (by decide) (by decide +kernel)) s_M_cellsOf (fun x40 => ⟨_, _, ⟨rfl, rfl⟩, ?_⟩)
        refine Sp.id (pc := 113) (l := [some (.ref 60), some (.int x), some (.int y), some (.int x1), some (.int x33), none, none]) (st := [.int x40]) (h := hS X (mw (mw (mw (mw (mw x28 121 x33.toNatClampNeg x) 122 x33.toNatClampNeg y) 123 x33.toNatClampNeg ((mw (mw x28 121 x33.toNatClampNeg x) 122 x33.toNatClampNeg y).1 60 86)) 124 x33.toNatClampNeg 0) 125 x33.toNatClampNeg 0)) ?_
        refine Sp.step rfl rfl rfl rfl ?_
        refine Sp.step rfl rfl rfl rfl ?_
        refine Sp.step rfl rfl rfl rfl ?_
        refine Sp.weak (l0 := [some (.ref 60), none, none, some (.int x1), some (.int x33), some (.int x40), some (.int 0)]) ⟨rfl, rfl, rfl, rfl, rfl, trivial⟩ ?_
        refine Sp.loopX (pe := 144) (mf := (fun (x45 : (Int32 × MS)) => [some (.ref 60), none, none, some (.int x1), some (.int x33), some (.int x40), some (.int x45.1)])) (hf := (fun (x45 : (Int32 × MS)) => hS X x45.2)) (fun x45 => ?_) (fun x49 => ?_) _ _
        · unfold b118_M_make'
          refine Sp.step rfl rfl rfl rfl ?_
          refine Sp.step rfl rfl rfl rfl ?_
          refine Sp.if2 rfl rfl rfl rfl (fun e46 => ?_) (fun e46 => ?_)
          · exact Sp.jmp (l0 := [some (.ref 60), none, none, some (.int x1), some (.int x33), some (.int x40), some (.int x45.1)]) ⟨rfl, rfl, rfl, rfl, rfl, trivial⟩ (fun _ _ h => h)
          · refine Sp.step rfl rfl rfl rfl ?_
            refine Sp.step rfl rfl rfl (mg_F (f := 85) rfl rfl rfl rfl) ?_
            refine Sp.step rfl rfl rfl rfl ?_
            refine Sp.step rfl rfl rfl (mg_I (f := 86) rfl rfl rfl) ?_
            refine Sp.step rfl rfl rfl rfl ?_
            refine Sp.step rfl rfl rfl rfl ?_
            refine Sp.step rfl rfl rfl rfl ?_
            refine Sp.guard (fun e47 => ?_)
            refine Sp.step rfl rfl rfl (mst rfl rfl (by decide) e47) ?_
            refine Sp.step rfl rfl rfl rfl ?_
            refine Sp.step rfl rfl rfl rfl ?_
            exact Sp.jmp (l0 := [some (.ref 60), none, none, some (.int x1), some (.int x33), some (.int x40), some (.int (x45.1 + 1))]) ⟨rfl, rfl, rfl, rfl, rfl, trivial⟩ (fun _ _ h => h)
        · refine Sp.step rfl rfl rfl rfl ?_
          refine Sp.step rfl rfl rfl rfl ?_
          refine Sp.step rfl rfl rfl (mg_I (f := 86) rfl rfl rfl) ?_
          refine Sp.step rfl rfl rfl rfl ?_
          refine Sp.step rfl rfl rfl rfl ?_
          refine Sp.step rfl rfl rfl (mp_I (f := 86) rfl rfl rfl rfl) ?_
          refine Sp.step rfl rfl rfl rfl ?_
          refine Sp.step rfl rfl rfl rfl ?_
          refine Sp.step rfl rfl rfl (mg_I (f := 87) rfl rfl rfl) ?_
          refine Sp.step rfl rfl rfl rfl ?_
          refine Sp.step rfl rfl rfl rfl ?_
          refine Sp.step rfl rfl rfl (mp_I (f := 87) rfl rfl rfl rfl) ?_
          refine Sp.step rfl rfl rfl rfl ?_
          refine Sp.step rfl rfl rfl (mg_F (f := 94) rfl rfl rfl rfl) ?_
          refine Sp.step rfl rfl rfl rfl ?_
          refine Sp.step rfl rfl rfl (mg_I (f := 95) rfl rfl rfl) ?_
          refine Sp.step rfl rfl rfl rfl ?_
          refine Sp.guard (fun e52 => ?_)
          refine Sp.step rfl rfl rfl (mst rfl rfl (by decide) e52) ?_
          refine Sp.step rfl rfl rfl rfl ?_
          refine Sp.step rfl rfl rfl rfl ?_
          refine Sp.step rfl rfl rfl (mg_I (f := 95) rfl rfl rfl) ?_
          refine Sp.step rfl rfl rfl rfl ?_
          refine Sp.step rfl rfl rfl rfl ?_
          refine Sp.step rfl rfl rfl (mp_I (f := 95) rfl rfl rfl rfl) ?_
          refine Sp.step rfl rfl rfl rfl ?_
          exact Sp.iret rfl rfl rfl rfl (fun _ _ h => h)
    · refine Sp.step rfl rfl rfl rfl ?_
      refine Sp.step rfl rfl rfl rfl ?_
      refine Sp.step rfl rfl rfl (mp_I (f := 90) rfl rfl rfl rfl) ?_
      refine Sp.step rfl rfl rfl rfl ?_
      exact Sp.iret rfl rfl rfl rfl (fun _ _ h => h)
