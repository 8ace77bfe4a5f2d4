/-! methods as functions, by program -/
def f_M_beginOther (M : MS) : Option MS := ((f_M_takeValue M).bind fun x1 => ((f_M_methodOf x1.1 0 x1.2).bind fun x2 => (if ¬ x2.2.1 60 90 = 0 then (if ¬ x2.2.1 60 90 = 0 then some x2.2 else ((f_M_beginThread x2.1 x1.1 x2.2).bind fun x5 => some x5)) else (if ¬ x2.2.1 60 61 = 6 then (if ¬ x2.2.1 60 90 = 0 then some x2.2 else ((f_M_beginThread x2.1 x1.1 x2.2).bind fun x8 => some x8)) else (lt (mw x2.2 60 90 7) fun M9 => (if ¬ M9.1 60 90 = 0 then some M9 else ((f_M_beginThread x2.1 x1.1 M9).bind fun x11 => some x11)))))))
set_option maxRecDepth 100000 in
set_option maxHeartbeats 4000000 in
theorem s_M_beginOther {L : Nat} {xs : Nat → Int32} {X : XS} {M : MS} : Sp (mjOO L xs) 89 0 [some (.ref 60), none, none] [] (hS X M) (f_M_beginOther M) (KVM X) := by
  unfold f_M_beginOther
  refine Sp.step rfl rfl rfl rfl ?_
  refine Sp.call rfl rfl rfl (mrecv (by decide) (by decide +kernel)) s_M_takeValue (fun x1 => ⟨_, _, ⟨rfl, rfl⟩, ?_⟩)
  refine Sp.id (pc := 4) (l := [some (.ref 60), none, none]) (st := [.int x1.1]) (h := hS X x1.2) ?_
  refine Sp.step rfl rfl rfl rfl ?_
  refine Sp.step rfl rfl rfl rfl ?_
  refine Sp.step rfl rfl rfl rfl ?_
  refine Sp.step rfl rfl rfl rfl ?_
  refine Sp.call rfl rfl rfl (mrecv (by decide) (by decide +kernel)) s_M_methodOf (fun x2 => ⟨_, _, ⟨rfl, rfl⟩, ?_⟩)
  refine Sp.id (pc := 11) (l := [some (.ref 60), some (.int x1.1), none]) (st := [.int x2.1]) (h := hS X x2.2) ?_
  refine Sp.step rfl rfl rfl rfl ?_
  refine Sp.step rfl rfl rfl rfl ?_
  refine Sp.step rfl rfl rfl (mg_I (f := 90) rfl rfl rfl) ?_
  refine Sp.if1 rfl rfl rfl rfl (fun e3 => ?_) (fun e3 => ?_)
  · refine Sp.step rfl rfl rfl rfl ?_
    refine Sp.step rfl rfl rfl (mg_I (f := 90) rfl rfl rfl) ?_
    refine Sp.if1 rfl rfl rfl rfl (fun e4 => ?_) (fun e4 => ?_)
    · exact Sp.vret rfl rfl rfl (fun _ _ h => h)
    · refine Sp.step rfl rfl rfl rfl ?_
      refine Sp.step rfl rfl rfl rfl ?_
      refine Sp.step rfl rfl rfl rfl ?_
      refine Sp.call rfl rfl rfl (mrecv (by decide) (by decide +kernel)) s_M_beginThread (fun x5 => ⟨_, _, ⟨rfl, rfl⟩, ?_⟩)
      refine Sp.id (pc := 47) (l := [some (.ref 60), some (.int x1.1), some (.int x2.1)]) (st := []) (h := hS X x5) ?_
      exact Sp.vret rfl rfl rfl (fun _ _ h => h)
  · refine Sp.step rfl rfl rfl rfl ?_
    refine Sp.step rfl rfl rfl (mg_I (f := 61) rfl rfl rfl) ?_
    refine Sp.step rfl rfl rfl rfl ?_
    refine Sp.if2 rfl rfl rfl rfl (fun e6 => ?_) (fun e6 => ?_)
    · refine Sp.step rfl rfl rfl rfl ?_
      refine Sp.step rfl rfl rfl (mg_I (f := 90) rfl rfl rfl) ?_
      refine Sp.if1 rfl rfl rfl rfl (fun e7 => ?_) (fun e7 => ?_)
      · exact Sp.vret rfl rfl rfl (fun _ _ h => h)
      · refine Sp.step rfl rfl rfl rfl ?_
        refine Sp.step rfl rfl rfl rfl ?_
        refine Sp.step rfl rfl rfl rfl ?_
        refine Sp.call rfl rfl rfl (mrecv (by decide) (by decide +kernel)) s_M_beginThread (fun x8 => ⟨_, _, ⟨rfl, rfl⟩, ?_⟩)
        refine Sp.id (pc := 47) (l := [some (.ref 60), some (.int x1.1), some (.int x2.1)]) (st := []) (h := hS X x8) ?_
        exact Sp.vret rfl rfl rfl (fun _ _ h => h)
    · refine Sp.step rfl rfl rfl rfl ?_
      refine Sp.step rfl rfl rfl rfl ?_
      refine Sp.step rfl rfl rfl (mp_I (f := 90) rfl rfl rfl rfl) ?_
      refine Sp.step rfl rfl rfl rfl ?_
      refine Sp.step rfl rfl rfl (mg_I (f := 90) rfl rfl rfl) ?_
      refine Sp.if1 rfl rfl rfl rfl (fun e10 => ?_) (fun e10 => ?_)
      · exact Sp.vret rfl rfl rfl (fun _ _ h => h)
      · refine Sp.step rfl rfl rfl rfl ?_
        refine Sp.step rfl rfl rfl rfl ?_
        refine Sp.step rfl rfl rfl rfl ?_
        refine Sp.call rfl rfl rfl (mrecv (by decide) (by decide +kernel)) s_M_beginThread (fun x11 => ⟨_, _, ⟨rfl, rfl⟩, ?_⟩)
        refine Sp.id (pc := 47) (l := [some (.ref 60), some (.int x1.1), some (.int x2.1)]) (st := []) (h := hS X x11) ?_
        exact Sp.vret rfl rfl rfl (fun _ _ h => h)
def f_M_step (x : Int32) (M : MS) : Option MS := (if ixo x 6 then (lt (mw M 60 89 (((20 * x) + (M.1 109 x.toNatClampNeg)) - 1)) fun M2 => ((f_M_op (M2.1 60 89) M2).bind fun x3 => ((f_M_operand (M2.1 60 89) M2).bind fun x4 => (lt (mw M2 60 90 0) fun M5 => (if 4 ≤ x3 ∧ x3 ≤ 15 then ((f_M_arithmetic x3 M5).bind fun x8 => (((if x8.1 60 90 ≤ 0 then (if ixo (x8.1 60 89) 120 then (lt (mw x8 113 (x8.1 60 89).toNatClampNeg ((x8.1 113 (x8.1 60 89).toNatClampNeg) + 1)) fun M12 => some M12) else none) else ((f_M_unwind x x8).bind fun x13 => some x13)) : Option (MS)).bind fun x14 => (lt (mlg x14 (x14.2 + (Int64.ofNat 1))) fun M15 => (if ¬ x3 = 51 then (lt (mw M15 60 63 ((M15.1 60 63) - 1)) fun M17 => some M17) else (lt (mw M15 60 63 0) fun M18 => some M18))))) else (if 19 ≤ x3 ∧ x3 ≤ 25 then ((f_M_jumps x3 M5).bind fun x22 => (if x22.1 = true then (if ixo (x22.2.1 60 89) 120 then (lt (mw x22.2 113 (x22.2.1 60 89).toNatClampNeg x4) fun M26 => (((if M26.1 60 90 ≤ 0 then some M26 else ((f_M_unwind x M26).bind fun x29 => some x29)) : Option (MS)).bind fun x30 => (lt (mlg x30 (x30.2 + (Int64.ofNat 1))) fun M31 => (if ¬ x3 = 51 then (lt (mw M31 60 63 ((M31.1 60 63) - 1)) fun M33 => some M33) else (lt (mw M31 60 63 0) fun M34 => some M34))))) else none) else (if ixo (x22.2.1 60 89) 120 then (lt (mw x22.2 113 (x22.2.1 60 89).toNatClampNeg ((x22.2.1 113 (x22.2.1 60 89).toNatClampNeg) + 1)) fun M37 => (((if M37.1 60 90 ≤ 0 then some M37 else ((f_M_unwind x M37).bind fun x40 => some x40)) : Option (MS)).bind fun x41 => (lt (mlg x41 (x41.2 + (Int64.ofNat 1))) fun M42 => (if ¬ x3 = 51 then (lt (mw M42 60 63 ((M42.1 60 63) - 1)) fun M44 => some M44) else (lt (mw M42 60 63 0) fun M45 => some M45))))) else none))) else (if 27 ≤ x3 ∧ x3 ≤ 30 then (if ixo (M5.1 60 89) 120 then (if ixo ((1440 + (60 * (M5.1 112 (M5.1 60 89).toNatClampNeg))) + (M5.1 113 (M5.1 60 89).toNatClampNeg)) 2880 then ((f_M_fields x3 (x4 / 8) (M5.1 108 ((1440 + (60 * (M5.1 112 (M5.1 60 89).toNatClampNeg))) + (M5.1 113 (M5.1 60 89).toNatClampNeg)).toNatClampNeg) M5).bind fun x51 => (((if x51.1 60 90 ≤ 0 then (if ixo (x51.1 60 89) 120 then (lt (mw x51 113 (x51.1 60 89).toNatClampNeg ((x51.1 113 (x51.1 60 89).toNatClampNeg) + 1)) fun M55 => some M55) else none) else ((f_M_unwind x x51).bind fun x56 => some x56)) : Option (MS)).bind fun x57 => (lt (mlg x57 (x57.2 + (Int64.ofNat 1))) fun M58 => (if ¬ x3 = 51 then (lt (mw M58 60 63 ((M58.1 60 63) - 1)) fun M60 => some M60) else (lt (mw M58 60 63 0) fun M61 => some M61))))) else none) else none) else (if 31 ≤ x3 ∧ x3 ≤ 37 then ((f_M_arrays x3 M5).bind fun x65 => (((if x65.1 60 90 ≤ 0 then (if ixo (x65.1 60 89) 120 then (lt (mw x65 113 (x65.1 60 89).toNatClampNeg ((x65.1 113 (x65.1 60 89).toNatClampNeg) + 1)) fun M69 => some M69) else none) else ((f_M_unwind x x65).bind fun x70 => some x70)) : Option (MS)).bind fun x71 => (lt (mlg x71 (x71.2 + (Int64.ofNat 1))) fun M72 => (if ¬ x3 = 51 then (lt (mw M72 60 63 ((M72.1 60 63) - 1)) fun M74 => some M74) else (lt (mw M72 60 63 0) fun M75 => some M75))))) else (((if x3 = 38 then (((if ¬ x3 = 38 then ((f_M_argumentsOf x4 M5).bind fun x79 => ((f_M_peek x79 M5).bind fun x80 => ((f_M_methodOf x80 x4 M5).bind fun x81 => some (x81.1, x81.2)))) else some (x4, M5)) : Option (Int32 × MS)).bind fun x82 => (((if ¬ x82.2.1 60 90 = 0 then some x82.2 else ((f_M_call x x82.1 x82.2).bind fun x84 => some x84)) : Option (MS)).bind fun x85 => some (0, x85))) else (if ¬ x3 = 39 then (if 40 ≤ x3 ∧ x3 ≤ 42 then ((f_M_giveBack x x3 M5).bind fun x89 => some (0, x89)) else (if ¬ x3 = 48 then (if x3 = 49 then ((f_M_monitor x x3 M5).bind fun x93 => some (1, x93)) else (if ¬ x3 = 50 then (if 52 ≤ x3 ∧ x3 ≤ 55 then ((f_M_statics x3 x4 M5).bind fun x97 => some (1, x97)) else ((f_M_others x3 x4 M5).bind fun x99 => some (1, x99))) else ((f_M_monitor x x3 M5).bind fun x100 => some (1, x100)))) else ((f_M_beginOther M5).bind fun x101 => some (1, x101)))) else (((if ¬ x3 = 38 then ((f_M_argumentsOf x4 M5).bind fun x103 => ((f_M_peek x103 M5).bind fun x104 => ((f_M_methodOf x104 x4 M5).bind fun x105 => some (x105.1, x105.2)))) else some (x4, M5)) : Option (Int32 × MS)).bind fun x106 => (((if ¬ x106.2.1 60 90 = 0 then some x106.2 else ((f_M_call x x106.1 x106.2).bind fun x108 => some x108)) : Option (MS)).bind fun x109 => some (0, x109))))) : Option (Int32 × MS)).bind fun x110 => (((if x110.2.1 60 90 ≤ 0 then (if x110.1 = 0 then some x110.2 else (if ixo (x110.2.1 60 89) 120 then (lt (mw x110.2 113 (x110.2.1 60 89).toNatClampNeg ((x110.2.1 113 (x110.2.1 60 89).toNatClampNeg) + 1)) fun M114 => some M114) else none)) else ((f_M_unwind x x110.2).bind fun x115 => some x115)) : Option (MS)).bind fun x116 => (lt (mlg x116 (x116.2 + (Int64.ofNat 1))) fun M117 => (if ¬ x3 = 51 then (lt (mw M117 60 63 ((M117.1 60 63) - 1)) fun M119 => some M119) else (lt (mw M117 60 63 0) fun M120 => some M120))))))))))))) else none)
set_option maxRecDepth 100000 in
set_option maxHeartbeats 4000000 in
theorem s_M_step {L : Nat} {xs : Nat → Int32} {X : XS} {M : MS} {x : Int32} : Sp (mjOO L xs) 93 0 [some (.ref 60), some (.int x), none, none, none, none] [] (hS X M) (f_M_step x M) (KVM X) := by
  unfold f_M_step
  refine Sp.step rfl rfl rfl rfl ?_
  refine Sp.step rfl rfl rfl rfl ?_
  refine Sp.step rfl rfl rfl rfl ?_
  refine Sp.step rfl rfl rfl rfl ?_
  refine Sp.step rfl rfl rfl rfl ?_
  refine Sp.step rfl rfl rfl (mg_F (f := 65) rfl rfl rfl rfl) ?_
  refine Sp.step rfl rfl rfl rfl ?_
  refine Sp.guard (fun e1 => ?_)
  refine Sp.step rfl rfl rfl (mld rfl rfl (by decide) e1) ?_
  refine Sp.step rfl rfl rfl rfl ?_
  refine Sp.step rfl rfl rfl rfl ?_
  refine Sp.step rfl rfl rfl rfl ?_
  refine Sp.step rfl rfl rfl (mp_I (f := 89) rfl rfl rfl rfl) ?_
  refine Sp.step rfl rfl rfl rfl ?_
  refine Sp.step rfl rfl rfl rfl ?_
  refine Sp.step rfl rfl rfl (mg_I (f := 89) rfl rfl rfl) ?_
  refine Sp.call rfl rfl rfl (mrecv (by decide) (by decide +kernel)) s_M_op (fun x3 => ⟨_, _, ⟨rfl, rfl⟩, ?_⟩)
  refine Sp.id (pc := 25) (l := [some (.ref 60), some (.int x), none, none, none, none]) (st := [.int x3]) (h := hS X (mw M 60 89 (((20 * x) + (M.1 109 x.toNatClampNeg)) - 1))) ?_
  refine Sp.step rfl rfl rfl rfl ?_
  refine Sp.step rfl rfl rfl rfl ?_
  refine Sp.step rfl rfl rfl rfl ?_
  refine Sp.step rfl rfl rfl (mg_I (f := 89) rfl rfl rfl) ?_
  refine Sp.call rfl rfl rfl (mrecv (by decide) (by decide +kernel)) s_M_operand (fun x4 => ⟨_, _, ⟨rfl, rfl⟩, ?_⟩)
  refine Sp.id (pc := 34) (l := [some (.ref 60), some (.int x), some (.int x3), none, none, none]) (st := [.int x4]) (h := hS X (mw M 60 89 (((20 * x) + (M.1 109 x.toNatClampNeg)) - 1))) ?_
  refine Sp.step rfl rfl rfl rfl ?_
  refine Sp.step rfl rfl rfl rfl ?_
  refine Sp.step rfl rfl rfl rfl ?_
  refine Sp.step rfl rfl rfl (mp_I (f := 90) rfl rfl rfl rfl) ?_
  refine Sp.step rfl rfl rfl rfl ?_
  refine Sp.step rfl rfl rfl rfl ?_
  refine Sp.step rfl rfl rfl rfl ?_
  refine Sp.step rfl rfl rfl rfl ?_
  refine Sp.step rfl rfl rfl rfl ?_
  refine Sp.callP rfl rfl rfl rfl s_isIn (fun e6 => ?_) (fun e6 => ?_)
  · refine Sp.id (pc := 50) (l := [some (.ref 60), some (.int x), some (.int x3), some (.int x4), some (.int 1), none]) (st := [.int 1]) (h := hS X (mw (mw M 60 89 (((20 * x) + (M.1 109 x.toNatClampNeg)) - 1)) 60 90 0)) ?_
    refine Sp.step rfl rfl rfl rfl ?_
    refine Sp.step rfl rfl rfl rfl ?_
    refine Sp.step rfl rfl rfl rfl ?_
    refine Sp.call rfl rfl rfl (mrecv (by decide) (by decide +kernel)) s_M_arithmetic (fun x8 => ⟨_, _, ⟨rfl, rfl⟩, ?_⟩)
    refine Sp.id (pc := 58) (l := [some (.ref 60), some (.int x), some (.int x3), some (.int x4), some (.int 1), none]) (st := []) (h := hS X x8) ?_
    refine Sp.step rfl rfl rfl rfl ?_
    refine Sp.step rfl rfl rfl rfl ?_
    refine Sp.step rfl rfl rfl (mg_I (f := 90) rfl rfl rfl) ?_
    refine Sp.piece (pe := 361) (mf := (fun (x14 : MS) => [some (.ref 60), none, some (.int x3), none, none, none])) (sf := (fun (x14 : MS) => [])) (hf := (fun (x14 : MS) => hS X x14)) ?_ (fun x14 => ?_)
    · refine Sp.if1 rfl rfl rfl rfl (fun e9 => ?_) (fun e9 => ?_)
      · refine Sp.step rfl rfl rfl rfl ?_
        refine Sp.step rfl rfl rfl rfl ?_
        refine Sp.step rfl rfl rfl rfl ?_
        refine Sp.step rfl rfl rfl (mg_F (f := 69) rfl rfl rfl rfl) ?_
        refine Sp.step rfl rfl rfl rfl ?_
        refine Sp.step rfl rfl rfl (mg_I (f := 89) rfl rfl rfl) ?_
        refine Sp.step rfl rfl rfl rfl ?_
        refine Sp.guard (fun e11 => ?_)
        refine Sp.step rfl rfl rfl (mld rfl rfl (by decide) e11) ?_
        refine Sp.step rfl rfl rfl rfl ?_
        refine Sp.step rfl rfl rfl rfl ?_
        refine Sp.step rfl rfl rfl (mst rfl rfl (by decide) e11) ?_
        exact Sp.jmp (l0 := [some (.ref 60), none, some (.int x3), none, none, none]) ⟨rfl, rfl, trivial⟩ (fun _ _ h => h)
      · refine Sp.step rfl rfl rfl rfl ?_
        refine Sp.step rfl rfl rfl rfl ?_
        refine Sp.call rfl rfl rfl (mrecv (by decide) (by decide +kernel)) s_M_unwind (fun x13 => ⟨_, _, ⟨rfl, rfl⟩, ?_⟩)
        refine Sp.id (pc := 340) (l := [some (.ref 60), some (.int x), some (.int x3), some (.int x4), some (.int 1), none]) (st := []) (h := hS X x13) ?_
        refine Sp.step rfl rfl rfl rfl ?_
        exact Sp.jmp (l0 := [some (.ref 60), none, some (.int x3), none, none, none]) ⟨rfl, rfl, trivial⟩ (fun _ _ h => h)
    · refine Sp.step rfl rfl rfl rfl ?_
      refine Sp.step rfl rfl rfl rfl ?_
      refine Sp.step rfl rfl rfl (mg_L (f := 60) rfl rfl rfl) ?_
      refine Sp.step rfl rfl rfl rfl ?_
      refine Sp.step rfl rfl rfl rfl ?_
      refine Sp.step rfl rfl rfl (mp_L rfl rfl) ?_
      refine Sp.step rfl rfl rfl rfl ?_
      refine Sp.step rfl rfl rfl rfl ?_
      refine Sp.step rfl rfl rfl rfl ?_
      refine Sp.if2 rfl rfl rfl rfl (fun e16 => ?_) (fun e16 => ?_)
      · refine Sp.step rfl rfl rfl rfl ?_
        refine Sp.step rfl rfl rfl (mg_I (f := 63) rfl rfl rfl) ?_
        refine Sp.step rfl rfl rfl rfl ?_
        refine Sp.step rfl rfl rfl rfl ?_
        refine Sp.step rfl rfl rfl (mp_I (f := 63) rfl rfl rfl rfl) ?_
        exact Sp.vret rfl rfl rfl (fun _ _ h => h)
      · refine Sp.step rfl rfl rfl rfl ?_
        refine Sp.step rfl rfl rfl rfl ?_
        refine Sp.step rfl rfl rfl (mp_I (f := 63) rfl rfl rfl rfl) ?_
        exact Sp.vret rfl rfl rfl (fun _ _ h => h)
  · refine Sp.id (pc := 50) (l := [some (.ref 60), some (.int x), some (.int x3), some (.int x4), some (.int 1), none]) (st := [.int 0]) (h := hS X (mw (mw M 60 89 (((20 * x) + (M.1 109 x.toNatClampNeg)) - 1)) 60 90 0)) ?_
    refine Sp.step rfl rfl rfl rfl ?_
    refine Sp.step rfl rfl rfl rfl ?_
    refine Sp.step rfl rfl rfl rfl ?_
    refine Sp.step rfl rfl rfl rfl ?_
    refine Sp.callP rfl rfl rfl rfl s_isIn (fun e20 => ?_) (fun e20 => ?_)
    · refine Sp.id (pc := 69) (l := [some (.ref 60), some (.int x), some (.int x3), some (.int x4), some (.int 1), none]) (st := [.int 1]) (h := hS X (mw (mw M 60 89 (((20 * x) + (M.1 109 x.toNatClampNeg)) - 1)) 60 90 0)) ?_
      refine Sp.step rfl rfl rfl rfl ?_
      refine Sp.step rfl rfl rfl rfl ?_
      refine Sp.step rfl rfl rfl rfl ?_
      refine Sp.call rfl rfl rfl (mrecv (by decide) (by decide +kernel)) s_M_jumps (fun x22 => ⟨_, _, ⟨rfl, rfl⟩, ?_⟩)
      refine Sp.bool (fun e23 => ?_) (fun e23 => ?_)
      · refine Sp.id (pc := 77) (l := [some (.ref 60), some (.int x), some (.int x3), some (.int x4), some (.int 1), none]) (st := [.int 1]) (h := hS X x22.2) ?_
        refine Sp.step rfl rfl rfl rfl ?_
        refine Sp.step rfl rfl rfl rfl ?_
        refine Sp.step rfl rfl rfl (mg_F (f := 69) rfl rfl rfl rfl) ?_
        refine Sp.step rfl rfl rfl rfl ?_
        refine Sp.step rfl rfl rfl (mg_I (f := 89) rfl rfl rfl) ?_
        refine Sp.step rfl rfl rfl rfl ?_
        refine Sp.step rfl rfl rfl rfl ?_
        refine Sp.step rfl rfl rfl rfl ?_
        refine Sp.step rfl rfl rfl rfl ?_
        refine Sp.guard (fun e25 => ?_)
        refine Sp.step rfl rfl rfl (mst rfl rfl (by decide) e25) ?_
        refine Sp.step rfl rfl rfl rfl ?_
        refine Sp.step rfl rfl rfl rfl ?_
        refine Sp.step rfl rfl rfl rfl ?_
        refine Sp.step rfl rfl rfl rfl ?_
        refine Sp.step rfl rfl rfl (mg_I (f := 90) rfl rfl rfl) ?_
        refine Sp.piece (pe := 361) (mf := (fun (x30 : MS) => [some (.ref 60), none, some (.int x3), none, none, none])) (sf := (fun (x30 : MS) => [])) (hf := (fun (x30 : MS) => hS X x30)) ?_ (fun x30 => ?_)
        · refine Sp.if1 rfl rfl rfl rfl (fun e27 => ?_) (fun e27 => ?_)
          · refine Sp.step rfl rfl rfl rfl ?_
            refine Sp.step rfl rfl rfl rfl ?_
            exact Sp.jmp (l0 := [some (.ref 60), none, some (.int x3), none, none, none]) ⟨rfl, rfl, trivial⟩ (fun _ _ h => h)
          · refine Sp.step rfl rfl rfl rfl ?_
            refine Sp.step rfl rfl rfl rfl ?_
            refine Sp.call rfl rfl rfl (mrecv (by decide) (by decide +kernel)) s_M_unwind (fun x29 => ⟨_, _, ⟨rfl, rfl⟩, ?_⟩)
            refine Sp.id (pc := 340) (l := [some (.ref 60), some (.int x), some (.int x3), some (.int x4), some (.int 0), some (.int 1)]) (st := []) (h := hS X x29) ?_
            refine Sp.step rfl rfl rfl rfl ?_
            exact Sp.jmp (l0 := [some (.ref 60), none, some (.int x3), none, none, none]) ⟨rfl, rfl, trivial⟩ (fun _ _ h => h)
        · refine Sp.step rfl rfl rfl rfl ?_
          refine Sp.step rfl rfl rfl rfl ?_
          refine Sp.step rfl rfl rfl (mg_L (f := 60) rfl rfl rfl) ?_
          refine Sp.step rfl rfl rfl rfl ?_
          refine Sp.step rfl rfl rfl rfl ?_
          refine Sp.step rfl rfl rfl (mp_L rfl rfl) ?_
          refine Sp.step rfl rfl rfl rfl ?_
          refine Sp.step rfl rfl rfl rfl ?_
          refine Sp.step rfl rfl rfl rfl ?_
          refine Sp.if2 rfl rfl rfl rfl (fun e32 => ?_) (fun e32 => ?_)
          · refine Sp.step rfl rfl rfl rfl ?_
            refine Sp.step rfl rfl rfl (mg_I (f := 63) rfl rfl rfl) ?_
            refine Sp.step rfl rfl rfl rfl ?_
            refine Sp.step rfl rfl rfl rfl ?_
            refine Sp.step rfl rfl rfl (mp_I (f := 63) rfl rfl rfl rfl) ?_
            exact Sp.vret rfl rfl rfl (fun _ _ h => h)
          · refine Sp.step rfl rfl rfl rfl ?_
            refine Sp.step rfl rfl rfl rfl ?_
            refine Sp.step rfl rfl rfl (mp_I (f := 63) rfl rfl rfl rfl) ?_
            exact Sp.vret rfl rfl rfl (fun _ _ h => h)
      · refine Sp.id (pc := 77) (l := [some (.ref 60), some (.int x), some (.int x3), some (.int x4), some (.int 1), none]) (st := [.int 0]) (h := hS X x22.2) ?_
        refine Sp.step rfl rfl rfl rfl ?_
        refine Sp.step rfl rfl rfl rfl ?_
        refine Sp.step rfl rfl rfl (mg_F (f := 69) rfl rfl rfl rfl) ?_
        refine Sp.step rfl rfl rfl rfl ?_
        refine Sp.step rfl rfl rfl (mg_I (f := 89) rfl rfl rfl) ?_
        refine Sp.step rfl rfl rfl rfl ?_
        refine Sp.step rfl rfl rfl rfl ?_
        refine Sp.step rfl rfl rfl rfl ?_
        refine Sp.step rfl rfl rfl (mg_F (f := 69) rfl rfl rfl rfl) ?_
        refine Sp.step rfl rfl rfl rfl ?_
        refine Sp.step rfl rfl rfl (mg_I (f := 89) rfl rfl rfl) ?_
        refine Sp.guard (fun e36 => ?_)
        refine Sp.step rfl rfl rfl (mld rfl rfl (by decide) e36) ?_
        refine Sp.step rfl rfl rfl rfl ?_
        refine Sp.step rfl rfl rfl rfl ?_
        refine Sp.step rfl rfl rfl (mst rfl rfl (by decide) e36) ?_
        refine Sp.step rfl rfl rfl rfl ?_
        refine Sp.step rfl rfl rfl rfl ?_
        refine Sp.step rfl rfl rfl rfl ?_
        refine Sp.step rfl rfl rfl rfl ?_
        refine Sp.step rfl rfl rfl (mg_I (f := 90) rfl rfl rfl) ?_
        refine Sp.piece (pe := 361) (mf := (fun (x41 : MS) => [some (.ref 60), none, some (.int x3), none, none, none])) (sf := (fun (x41 : MS) => [])) (hf := (fun (x41 : MS) => hS X x41)) ?_ (fun x41 => ?_)
        · refine Sp.if1 rfl rfl rfl rfl (fun e38 => ?_) (fun e38 => ?_)
          · refine Sp.step rfl rfl rfl rfl ?_
            refine Sp.step rfl rfl rfl rfl ?_
            exact Sp.jmp (l0 := [some (.ref 60), none, some (.int x3), none, none, none]) ⟨rfl, rfl, trivial⟩ (fun _ _ h => h)
          · refine Sp.step rfl rfl rfl rfl ?_
            refine Sp.step rfl rfl rfl rfl ?_
            refine Sp.call rfl rfl rfl (mrecv (by decide) (by decide +kernel)) s_M_unwind (fun x40 => ⟨_, _, ⟨rfl, rfl⟩, ?_⟩)
            refine Sp.id (pc := 340) (l := [some (.ref 60), some (.int x), some (.int x3), some (.int x4), some (.int 0), some (.int 0)]) (st := []) (h := hS X x40) ?_
            refine Sp.step rfl rfl rfl rfl ?_
            exact Sp.jmp (l0 := [some (.ref 60), none, some (.int x3), none, none, none]) ⟨rfl, rfl, trivial⟩ (fun _ _ h => h)
        · refine Sp.step rfl rfl rfl rfl ?_
          refine Sp.step rfl rfl rfl rfl ?_
          refine Sp.step rfl rfl rfl (mg_L (f := 60) rfl rfl rfl) ?_
          refine Sp.step rfl rfl rfl rfl ?_
          refine Sp.step rfl rfl rfl rfl ?_
          refine Sp.step rfl rfl rfl (mp_L rfl rfl) ?_
          refine Sp.step rfl rfl rfl rfl ?_
          refine Sp.step rfl rfl rfl rfl ?_
          refine Sp.step rfl rfl rfl rfl ?_
          refine Sp.if2 rfl rfl rfl rfl (fun e43 => ?_) (fun e43 => ?_)
          · refine Sp.step rfl rfl rfl rfl ?_
            refine Sp.step rfl rfl rfl (mg_I (f := 63) rfl rfl rfl) ?_
            refine Sp.step rfl rfl rfl rfl ?_
            refine Sp.step rfl rfl rfl rfl ?_
            refine Sp.step rfl rfl rfl (mp_I (f := 63) rfl rfl rfl rfl) ?_
            exact Sp.vret rfl rfl rfl (fun _ _ h => h)
          · refine Sp.step rfl rfl rfl rfl ?_
            refine Sp.step rfl rfl rfl rfl ?_
            refine Sp.step rfl rfl rfl (mp_I (f := 63) rfl rfl rfl rfl) ?_
            exact Sp.vret rfl rfl rfl (fun _ _ h => h)
    · refine Sp.id (pc := 69) (l := [some (.ref 60), some (.int x), some (.int x3), some (.int x4), some (.int 1), none]) (st := [.int 0]) (h := hS X (mw (mw M 60 89 (((20 * x) + (M.1 109 x.toNatClampNeg)) - 1)) 60 90 0)) ?_
      refine Sp.step rfl rfl rfl rfl ?_
      refine Sp.step rfl rfl rfl rfl ?_
      refine Sp.step rfl rfl rfl rfl ?_
      refine Sp.step rfl rfl rfl rfl ?_
      refine Sp.callP rfl rfl rfl rfl s_isIn (fun e47 => ?_) (fun e47 => ?_)
      · refine Sp.id (pc := 122) (l := [some (.ref 60), some (.int x), some (.int x3), some (.int x4), some (.int 1), none]) (st := [.int 1]) (h := hS X (mw (mw M 60 89 (((20 * x) + (M.1 109 x.toNatClampNeg)) - 1)) 60 90 0)) ?_
        refine Sp.step rfl rfl rfl rfl ?_
        refine Sp.step rfl rfl rfl rfl ?_
        refine Sp.step rfl rfl rfl rfl ?_
        refine Sp.step rfl rfl rfl rfl ?_
        refine Sp.step rfl rfl rfl rfl ?_
        refine Sp.step rfl rfl rfl (go_div (by decide)) ?_
        refine Sp.step rfl rfl rfl rfl ?_
        refine Sp.step rfl rfl rfl (mg_F (f := 56) rfl rfl rfl rfl) ?_
        refine Sp.step rfl rfl rfl rfl ?_
        refine Sp.step rfl rfl rfl rfl ?_
        refine Sp.step rfl rfl rfl rfl ?_
        refine Sp.step rfl rfl rfl (mg_F (f := 68) rfl rfl rfl rfl) ?_
        refine Sp.step rfl rfl rfl rfl ?_
        refine Sp.step rfl rfl rfl (mg_I (f := 89) rfl rfl rfl) ?_
        refine Sp.guard (fun e49 => ?_)
        refine Sp.step rfl rfl rfl (mld rfl rfl (by decide) e49) ?_
        refine Sp.step rfl rfl rfl rfl ?_
        refine Sp.step rfl rfl rfl rfl ?_
        refine Sp.step rfl rfl rfl rfl ?_
        refine Sp.step rfl rfl rfl (mg_F (f := 69) rfl rfl rfl rfl) ?_
        refine Sp.step rfl rfl rfl rfl ?_
        refine Sp.step rfl rfl rfl (mg_I (f := 89) rfl rfl rfl) ?_
        refine Sp.step rfl rfl rfl (mld rfl rfl (by decide) e49) ?_
        refine Sp.step rfl rfl rfl rfl ?_
        refine Sp.guard (fun e50 => ?_)
        refine Sp.step rfl rfl rfl (mld rfl rfl (by decide) e50) ?_
        refine Sp.call rfl rfl rfl (mrecv (by decide) (by decide +kernel)) s_M_fields (fun x51 => ⟨_, _, ⟨rfl, rfl⟩, ?_⟩)
        refine Sp.id (pc := 165) (l := [some (.ref 60), some (.int x), some (.int x3), some (.int x4), some (.int 1), none]) (st := []) (h := hS X x51) ?_
        refine Sp.step rfl rfl rfl rfl ?_
        refine Sp.step rfl rfl rfl rfl ?_
        refine Sp.step rfl rfl rfl (mg_I (f := 90) rfl rfl rfl) ?_
        refine Sp.piece (pe := 361) (mf := (fun (x57 : MS) => [some (.ref 60), none, some (.int x3), none, none, none])) (sf := (fun (x57 : MS) => [])) (hf := (fun (x57 : MS) => hS X x57)) ?_ (fun x57 => ?_)
        · refine Sp.if1 rfl rfl rfl rfl (fun e52 => ?_) (fun e52 => ?_)
          · refine Sp.step rfl rfl rfl rfl ?_
            refine Sp.step rfl rfl rfl rfl ?_
            refine Sp.step rfl rfl rfl rfl ?_
            refine Sp.step rfl rfl rfl (mg_F (f := 69) rfl rfl rfl rfl) ?_
            refine Sp.step rfl rfl rfl rfl ?_
            refine Sp.step rfl rfl rfl (mg_I (f := 89) rfl rfl rfl) ?_
            refine Sp.step rfl rfl rfl rfl ?_
            refine Sp.guard (fun e54 => ?_)
            refine Sp.step rfl rfl rfl (mld rfl rfl (by decide) e54) ?_
            refine Sp.step rfl rfl rfl rfl ?_
            refine Sp.step rfl rfl rfl rfl ?_
            refine Sp.step rfl rfl rfl (mst rfl rfl (by decide) e54) ?_
            exact Sp.jmp (l0 := [some (.ref 60), none, some (.int x3), none, none, none]) ⟨rfl, rfl, trivial⟩ (fun _ _ h => h)
          · refine Sp.step rfl rfl rfl rfl ?_
            refine Sp.step rfl rfl rfl rfl ?_
            refine Sp.call rfl rfl rfl (mrecv (by decide) (by decide +kernel)) s_M_unwind (fun x56 => ⟨_, _, ⟨rfl, rfl⟩, ?_⟩)
            refine Sp.id (pc := 340) (l := [some (.ref 60), some (.int x), some (.int x3), some (.int x4), some (.int 1), none]) (st := []) (h := hS X x56) ?_
            refine Sp.step rfl rfl rfl rfl ?_
            exact Sp.jmp (l0 := [some (.ref 60), none, some (.int x3), none, none, none]) ⟨rfl, rfl, trivial⟩ (fun _ _ h => h)
        · refine Sp.step rfl rfl rfl rfl ?_
          refine Sp.step rfl rfl rfl rfl ?_
          refine Sp.step rfl rfl rfl (mg_L (f := 60) rfl rfl rfl) ?_
          refine Sp.step rfl rfl rfl rfl ?_
          refine Sp.step rfl rfl rfl rfl ?_
          refine Sp.step rfl rfl rfl (mp_L rfl rfl) ?_
          refine Sp.step rfl rfl rfl rfl ?_
          refine Sp.step rfl rfl rfl rfl ?_
          refine Sp.step rfl rfl rfl rfl ?_
          refine Sp.if2 rfl rfl rfl rfl (fun e59 => ?_) (fun e59 => ?_)
          · refine Sp.step rfl rfl rfl rfl ?_
            refine Sp.step rfl rfl rfl (mg_I (f := 63) rfl rfl rfl) ?_
            refine Sp.step rfl rfl rfl rfl ?_
            refine Sp.step rfl rfl rfl rfl ?_
            refine Sp.step rfl rfl rfl (mp_I (f := 63) rfl rfl rfl rfl) ?_
            exact Sp.vret rfl rfl rfl (fun _ _ h => h)
          · refine Sp.step rfl rfl rfl rfl ?_
            refine Sp.step rfl rfl rfl rfl ?_
            refine Sp.step rfl rfl rfl (mp_I (f := 63) rfl rfl rfl rfl) ?_
            exact Sp.vret rfl rfl rfl (fun _ _ h => h)
      · refine Sp.id (pc := 122) (l := [some (.ref 60), some (.int x), some (.int x3), some (.int x4), some (.int 1), none]) (st := [.int 0]) (h := hS X (mw (mw M 60 89 (((20 * x) + (M.1 109 x.toNatClampNeg)) - 1)) 60 90 0)) ?_
        refine Sp.step rfl rfl rfl rfl ?_
        refine Sp.step rfl rfl rfl rfl ?_
        refine Sp.step rfl rfl rfl rfl ?_
        refine Sp.step rfl rfl rfl rfl ?_
        refine Sp.callP rfl rfl rfl rfl s_isIn (fun e63 => ?_) (fun e63 => ?_)
        · refine Sp.id (pc := 176) (l := [some (.ref 60), some (.int x), some (.int x3), some (.int x4), some (.int 1), none]) (st := [.int 1]) (h := hS X (mw (mw M 60 89 (((20 * x) + (M.1 109 x.toNatClampNeg)) - 1)) 60 90 0)) ?_
          refine Sp.step rfl rfl rfl rfl ?_
          refine Sp.step rfl rfl rfl rfl ?_
          refine Sp.step rfl rfl rfl rfl ?_
          refine Sp.call rfl rfl rfl (mrecv (by decide) (by decide +kernel)) s_M_arrays (fun x65 => ⟨_, _, ⟨rfl, rfl⟩, ?_⟩)
          refine Sp.id (pc := 184) (l := [some (.ref 60), some (.int x), some (.int x3), some (.int x4), some (.int 1), none]) (st := []) (h := hS X x65) ?_
          refine Sp.step rfl rfl rfl rfl ?_
          refine Sp.step rfl rfl rfl rfl ?_
          refine Sp.step rfl rfl rfl (mg_I (f := 90) rfl rfl rfl) ?_
          refine Sp.piece (pe := 361) (mf := (fun (x71 : MS) => [some (.ref 60), none, some (.int x3), none, none, none])) (sf := (fun (x71 : MS) => [])) (hf := (fun (x71 : MS) => hS X x71)) ?_ (fun x71 => ?_)
          · refine Sp.if1 rfl rfl rfl rfl (fun e66 => ?_) (fun e66 => ?_)
            · refine Sp.step rfl rfl rfl rfl ?_
              refine Sp.step rfl rfl rfl rfl ?_
              refine Sp.step rfl rfl rfl rfl ?_
              refine Sp.step rfl rfl rfl (mg_F (f := 69) rfl rfl rfl rfl) ?_
              refine Sp.step rfl rfl rfl rfl ?_
              refine Sp.step rfl rfl rfl (mg_I (f := 89) rfl rfl rfl) ?_
              refine Sp.step rfl rfl rfl rfl ?_
              refine Sp.guard (fun e68 => ?_)
              refine Sp.step rfl rfl rfl (mld rfl rfl (by decide) e68) ?_
              refine Sp.step rfl rfl rfl rfl ?_
              refine Sp.step rfl rfl rfl rfl ?_
              refine Sp.step rfl rfl rfl (mst rfl rfl (by decide) e68) ?_
              exact Sp.jmp (l0 := [some (.ref 60), none, some (.int x3), none, none, none]) ⟨rfl, rfl, trivial⟩ (fun _ _ h => h)
            · refine Sp.step rfl rfl rfl rfl ?_
              refine Sp.step rfl rfl rfl rfl ?_
              refine Sp.call rfl rfl rfl (mrecv (by decide) (by decide +kernel)) s_M_unwind (fun x70 => ⟨_, _, ⟨rfl, rfl⟩, ?_⟩)
              refine Sp.id (pc := 340) (l := [some (.ref 60), some (.int x), some (.int x3), some (.int x4), some (.int 1), none]) (st := []) (h := hS X x70) ?_
              refine Sp.step rfl rfl rfl rfl ?_
              exact Sp.jmp (l0 := [some (.ref 60), none, some (.int x3), none, none, none]) ⟨rfl, rfl, trivial⟩ (fun _ _ h => h)
          · refine Sp.step rfl rfl rfl rfl ?_
            refine Sp.step rfl rfl rfl rfl ?_
            refine Sp.step rfl rfl rfl (mg_L (f := 60) rfl rfl rfl) ?_
            refine Sp.step rfl rfl rfl rfl ?_
            refine Sp.step rfl rfl rfl rfl ?_
            refine Sp.step rfl rfl rfl (mp_L rfl rfl) ?_
            refine Sp.step rfl rfl rfl rfl ?_
            refine Sp.step rfl rfl rfl rfl ?_
            refine Sp.step rfl rfl rfl rfl ?_
            refine Sp.if2 rfl rfl rfl rfl (fun e73 => ?_) (fun e73 => ?_)
            · refine Sp.step rfl rfl rfl rfl ?_
              refine Sp.step rfl rfl rfl (mg_I (f := 63) rfl rfl rfl) ?_
              refine Sp.step rfl rfl rfl rfl ?_
              refine Sp.step rfl rfl rfl rfl ?_
              refine Sp.step rfl rfl rfl (mp_I (f := 63) rfl rfl rfl rfl) ?_
              exact Sp.vret rfl rfl rfl (fun _ _ h => h)
            · refine Sp.step rfl rfl rfl rfl ?_
              refine Sp.step rfl rfl rfl rfl ?_
              refine Sp.step rfl rfl rfl (mp_I (f := 63) rfl rfl rfl rfl) ?_
              exact Sp.vret rfl rfl rfl (fun _ _ h => h)
        · refine Sp.id (pc := 176) (l := [some (.ref 60), some (.int x), some (.int x3), some (.int x4), some (.int 1), none]) (st := [.int 0]) (h := hS X (mw (mw M 60 89 (((20 * x) + (M.1 109 x.toNatClampNeg)) - 1)) 60 90 0)) ?_
          refine Sp.step rfl rfl rfl rfl ?_
          refine Sp.step rfl rfl rfl rfl ?_
          refine Sp.step rfl rfl rfl rfl ?_
          refine Sp.piece (pe := 328) (mf := (fun (x110 : Int32 × MS) => [some (.ref 60), some (.int x), some (.int x3), none, some (.int x110.1), none])) (sf := (fun (x110 : Int32 × MS) => [])) (hf := (fun (x110 : Int32 × MS) => hS X x110.2)) ?_ (fun x110 => ?_)
          · refine Sp.if2 rfl rfl rfl rfl (fun e77 => ?_) (fun e77 => ?_)
            · refine Sp.step rfl rfl rfl rfl ?_
              refine Sp.step rfl rfl rfl rfl ?_
              refine Sp.piece (pe := 223) (mf := (fun (x82 : Int32 × MS) => [some (.ref 60), some (.int x), some (.int x3), none, none, none])) (sf := (fun (x82 : Int32 × MS) => [.int x82.1])) (hf := (fun (x82 : Int32 × MS) => hS X x82.2)) ?_ (fun x82 => ?_)
              · refine Sp.if2 rfl rfl rfl rfl (fun e78 => ?_) (fun e78 => ?_)
                · refine Sp.step rfl rfl rfl rfl ?_
                  refine Sp.step rfl rfl rfl rfl ?_
                  refine Sp.step rfl rfl rfl rfl ?_
                  refine Sp.step rfl rfl rfl rfl ?_
                  refine Sp.call rfl rfl rfl (mrecv (by decide) (by decide +kernel)) s_M_argumentsOf (fun x79 => ⟨_, _, ⟨rfl, rfl⟩, ?_⟩)
                  refine Sp.id (pc := 216) (l := [some (.ref 60), some (.int x), some (.int x3), some (.int x4), some (.int 1), none]) (st := [.int x79, .ref 60, .ref 60]) (h := hS X (mw (mw M 60 89 (((20 * x) + (M.1 109 x.toNatClampNeg)) - 1)) 60 90 0)) ?_
                  refine Sp.call rfl rfl rfl (mrecv (by decide) (by decide +kernel)) s_M_peek (fun x80 => ⟨_, _, ⟨rfl, rfl⟩, ?_⟩)
                  refine Sp.id (pc := 219) (l := [some (.ref 60), some (.int x), some (.int x3), some (.int x4), some (.int 1), none]) (st := [.int x80, .ref 60]) (h := hS X (mw (mw M 60 89 (((20 * x) + (M.1 109 x.toNatClampNeg)) - 1)) 60 90 0)) ?_
                  refine Sp.step rfl rfl rfl rfl ?_
                  refine Sp.call rfl rfl rfl (mrecv (by decide) (by decide +kernel)) s_M_methodOf (fun x81 => ⟨_, _, ⟨rfl, rfl⟩, ?_⟩)
                  refine Sp.id (pc := 223) (l := [some (.ref 60), some (.int x), some (.int x3), some (.int x4), some (.int 1), none]) (st := [.int x81.1]) (h := hS X x81.2) ?_
                  exact Sp.jmp (l0 := [some (.ref 60), some (.int x), some (.int x3), none, none, none]) ⟨rfl, rfl, rfl, trivial⟩ (fun _ _ h => h)
                · refine Sp.step rfl rfl rfl rfl ?_
                  refine Sp.step rfl rfl rfl rfl ?_
                  exact Sp.jmp (l0 := [some (.ref 60), some (.int x), some (.int x3), none, none, none]) ⟨rfl, rfl, rfl, trivial⟩ (fun _ _ h => h)
              · refine Sp.step rfl rfl rfl rfl ?_
                refine Sp.step rfl rfl rfl rfl ?_
                refine Sp.step rfl rfl rfl (mg_I (f := 90) rfl rfl rfl) ?_
                refine Sp.piece (pe := 239) (mf := (fun (x85 : MS) => [some (.ref 60), some (.int x), some (.int x3), none, none, none])) (sf := (fun (x85 : MS) => [])) (hf := (fun (x85 : MS) => hS X x85)) ?_ (fun x85 => ?_)
                · refine Sp.if1 rfl rfl rfl rfl (fun e83 => ?_) (fun e83 => ?_)
                  · exact Sp.jmp (l0 := [some (.ref 60), some (.int x), some (.int x3), none, none, none]) ⟨rfl, rfl, rfl, trivial⟩ (fun _ _ h => h)
                  · refine Sp.step rfl rfl rfl rfl ?_
                    refine Sp.step rfl rfl rfl rfl ?_
                    refine Sp.step rfl rfl rfl rfl ?_
                    refine Sp.call rfl rfl rfl (mrecv (by decide) (by decide +kernel)) s_M_call (fun x84 => ⟨_, _, ⟨rfl, rfl⟩, ?_⟩)
                    refine Sp.id (pc := 239) (l := [some (.ref 60), some (.int x), some (.int x3), none, none, some (.int x82.1)]) (st := []) (h := hS X x84) ?_
                    exact Sp.jmp (l0 := [some (.ref 60), some (.int x), some (.int x3), none, none, none]) ⟨rfl, rfl, rfl, trivial⟩ (fun _ _ h => h)
                · refine Sp.step rfl rfl rfl rfl ?_
                  refine Sp.step rfl rfl rfl rfl ?_
                  refine Sp.step rfl rfl rfl rfl ?_
                  exact Sp.jmp (l0 := [some (.ref 60), some (.int x), some (.int x3), none, some (.int 0), none]) ⟨rfl, rfl, rfl, rfl, trivial⟩ (fun _ _ h => h)
            · refine Sp.step rfl rfl rfl rfl ?_
              refine Sp.step rfl rfl rfl rfl ?_
              refine Sp.if2 rfl rfl rfl rfl (fun e86 => ?_) (fun e86 => ?_)
              · refine Sp.step rfl rfl rfl rfl ?_
                refine Sp.step rfl rfl rfl rfl ?_
                refine Sp.step rfl rfl rfl rfl ?_
                refine Sp.callP rfl rfl rfl rfl s_isIn (fun e87 => ?_) (fun e87 => ?_)
                · refine Sp.id (pc := 253) (l := [some (.ref 60), some (.int x), some (.int x3), some (.int x4), some (.int 1), none]) (st := [.int 1]) (h := hS X (mw (mw M 60 89 (((20 * x) + (M.1 109 x.toNatClampNeg)) - 1)) 60 90 0)) ?_
                  refine Sp.step rfl rfl rfl rfl ?_
                  refine Sp.step rfl rfl rfl rfl ?_
                  refine Sp.step rfl rfl rfl rfl ?_
                  refine Sp.step rfl rfl rfl rfl ?_
                  refine Sp.call rfl rfl rfl (mrecv (by decide) (by decide +kernel)) s_M_giveBack (fun x89 => ⟨_, _, ⟨rfl, rfl⟩, ?_⟩)
                  refine Sp.id (pc := 262) (l := [some (.ref 60), some (.int x), some (.int x3), some (.int x4), some (.int 1), none]) (st := []) (h := hS X x89) ?_
                  refine Sp.step rfl rfl rfl rfl ?_
                  refine Sp.step rfl rfl rfl rfl ?_
                  refine Sp.step rfl rfl rfl rfl ?_
                  exact Sp.jmp (l0 := [some (.ref 60), some (.int x), some (.int x3), none, some (.int 0), none]) ⟨rfl, rfl, rfl, rfl, trivial⟩ (fun _ _ h => h)
                · refine Sp.id (pc := 253) (l := [some (.ref 60), some (.int x), some (.int x3), some (.int x4), some (.int 1), none]) (st := [.int 0]) (h := hS X (mw (mw M 60 89 (((20 * x) + (M.1 109 x.toNatClampNeg)) - 1)) 60 90 0)) ?_
                  refine Sp.step rfl rfl rfl rfl ?_
                  refine Sp.step rfl rfl rfl rfl ?_
                  refine Sp.step rfl rfl rfl rfl ?_
                  refine Sp.if2 rfl rfl rfl rfl (fun e91 => ?_) (fun e91 => ?_)
                  · refine Sp.step rfl rfl rfl rfl ?_
                    refine Sp.step rfl rfl rfl rfl ?_
                    refine Sp.if2 rfl rfl rfl rfl (fun e92 => ?_) (fun e92 => ?_)
                    · refine Sp.step rfl rfl rfl rfl ?_
                      refine Sp.step rfl rfl rfl rfl ?_
                      refine Sp.step rfl rfl rfl rfl ?_
                      refine Sp.call rfl rfl rfl (mrecv (by decide) (by decide +kernel)) s_M_monitor (fun x93 => ⟨_, _, ⟨rfl, rfl⟩, ?_⟩)
                      refine Sp.id (pc := 299) (l := [some (.ref 60), some (.int x), some (.int x3), some (.int x4), some (.int 1), none]) (st := []) (h := hS X x93) ?_
                      refine Sp.step rfl rfl rfl rfl ?_
                      exact Sp.jmp (l0 := [some (.ref 60), some (.int x), some (.int x3), none, some (.int 1), none]) ⟨rfl, rfl, rfl, rfl, trivial⟩ (fun _ _ h => h)
                    · refine Sp.step rfl rfl rfl rfl ?_
                      refine Sp.step rfl rfl rfl rfl ?_
                      refine Sp.if2 rfl rfl rfl rfl (fun e94 => ?_) (fun e94 => ?_)
                      · refine Sp.step rfl rfl rfl rfl ?_
                        refine Sp.step rfl rfl rfl rfl ?_
                        refine Sp.step rfl rfl rfl rfl ?_
                        refine Sp.callP rfl rfl rfl rfl s_isIn (fun e95 => ?_) (fun e95 => ?_)
                        · refine Sp.id (pc := 310) (l := [some (.ref 60), some (.int x), some (.int x3), some (.int x4), some (.int 1), none]) (st := [.int 1]) (h := hS X (mw (mw M 60 89 (((20 * x) + (M.1 109 x.toNatClampNeg)) - 1)) 60 90 0)) ?_
                          refine Sp.step rfl rfl rfl rfl ?_
                          refine Sp.step rfl rfl rfl rfl ?_
                          refine Sp.step rfl rfl rfl rfl ?_
                          refine Sp.step rfl rfl rfl rfl ?_
                          refine Sp.call rfl rfl rfl (mrecv (by decide) (by decide +kernel)) s_M_statics (fun x97 => ⟨_, _, ⟨rfl, rfl⟩, ?_⟩)
                          refine Sp.id (pc := 319) (l := [some (.ref 60), some (.int x), some (.int x3), some (.int x4), some (.int 1), none]) (st := []) (h := hS X x97) ?_
                          refine Sp.step rfl rfl rfl rfl ?_
                          exact Sp.jmp (l0 := [some (.ref 60), some (.int x), some (.int x3), none, some (.int 1), none]) ⟨rfl, rfl, rfl, rfl, trivial⟩ (fun _ _ h => h)
                        · refine Sp.id (pc := 310) (l := [some (.ref 60), some (.int x), some (.int x3), some (.int x4), some (.int 1), none]) (st := [.int 0]) (h := hS X (mw (mw M 60 89 (((20 * x) + (M.1 109 x.toNatClampNeg)) - 1)) 60 90 0)) ?_
                          refine Sp.step rfl rfl rfl rfl ?_
                          refine Sp.step rfl rfl rfl rfl ?_
                          refine Sp.step rfl rfl rfl rfl ?_
                          refine Sp.step rfl rfl rfl rfl ?_
                          refine Sp.call rfl rfl rfl (mrecv (by decide) (by decide +kernel)) s_M_others (fun x99 => ⟨_, _, ⟨rfl, rfl⟩, ?_⟩)
                          refine Sp.id (pc := 328) (l := [some (.ref 60), some (.int x), some (.int x3), some (.int x4), some (.int 1), none]) (st := []) (h := hS X x99) ?_
                          exact Sp.jmp (l0 := [some (.ref 60), some (.int x), some (.int x3), none, some (.int 1), none]) ⟨rfl, rfl, rfl, rfl, trivial⟩ (fun _ _ h => h)
                      · refine Sp.step rfl rfl rfl rfl ?_
                        refine Sp.step rfl rfl rfl rfl ?_
                        refine Sp.step rfl rfl rfl rfl ?_
                        refine Sp.call rfl rfl rfl (mrecv (by decide) (by decide +kernel)) s_M_monitor (fun x100 => ⟨_, _, ⟨rfl, rfl⟩, ?_⟩)
                        refine Sp.id (pc := 299) (l := [some (.ref 60), some (.int x), some (.int x3), some (.int x4), some (.int 1), none]) (st := []) (h := hS X x100) ?_
                        refine Sp.step rfl rfl rfl rfl ?_
                        exact Sp.jmp (l0 := [some (.ref 60), some (.int x), some (.int x3), none, some (.int 1), none]) ⟨rfl, rfl, rfl, rfl, trivial⟩ (fun _ _ h => h)
                  · refine Sp.step rfl rfl rfl rfl ?_
                    refine Sp.call rfl rfl rfl (mrecv (by decide) (by decide +kernel)) s_M_beginOther (fun x101 => ⟨_, _, ⟨rfl, rfl⟩, ?_⟩)
                    refine Sp.id (pc := 278) (l := [some (.ref 60), some (.int x), some (.int x3), some (.int x4), some (.int 1), none]) (st := []) (h := hS X x101) ?_
                    refine Sp.step rfl rfl rfl rfl ?_
                    exact Sp.jmp (l0 := [some (.ref 60), some (.int x), some (.int x3), none, some (.int 1), none]) ⟨rfl, rfl, rfl, rfl, trivial⟩ (fun _ _ h => h)
              · refine Sp.step rfl rfl rfl rfl ?_
                refine Sp.step rfl rfl rfl rfl ?_
                refine Sp.piece (pe := 223) (mf := (fun (x106 : Int32 × MS) => [some (.ref 60), some (.int x), some (.int x3), none, none, none])) (sf := (fun (x106 : Int32 × MS) => [.int x106.1])) (hf := (fun (x106 : Int32 × MS) => hS X x106.2)) ?_ (fun x106 => ?_)
                · refine Sp.if2 rfl rfl rfl rfl (fun e102 => ?_) (fun e102 => ?_)
                  · refine Sp.step rfl rfl rfl rfl ?_
                    refine Sp.step rfl rfl rfl rfl ?_
                    refine Sp.step rfl rfl rfl rfl ?_
                    refine Sp.step rfl rfl rfl rfl ?_
                    refine Sp.call rfl rfl rfl (mrecv (by decide) (by decide +kernel)) s_M_argumentsOf (fun x103 => ⟨_, _, ⟨rfl, rfl⟩, ?_⟩)
                    refine Sp.id (pc := 216) (l := [some (.ref 60), some (.int x), some (.int x3), some (.int x4), some (.int 1), none]) (st := [.int x103, .ref 60, .ref 60]) (h := hS X (mw (mw M 60 89 (((20 * x) + (M.1 109 x.toNatClampNeg)) - 1)) 60 90 0)) ?_
                    refine Sp.call rfl rfl rfl (mrecv (by decide) (by decide +kernel)) s_M_peek (fun x104 => ⟨_, _, ⟨rfl, rfl⟩, ?_⟩)
                    refine Sp.id (pc := 219) (l := [some (.ref 60), some (.int x), some (.int x3), some (.int x4), some (.int 1), none]) (st := [.int x104, .ref 60]) (h := hS X (mw (mw M 60 89 (((20 * x) + (M.1 109 x.toNatClampNeg)) - 1)) 60 90 0)) ?_
                    refine Sp.step rfl rfl rfl rfl ?_
                    refine Sp.call rfl rfl rfl (mrecv (by decide) (by decide +kernel)) s_M_methodOf (fun x105 => ⟨_, _, ⟨rfl, rfl⟩, ?_⟩)
                    refine Sp.id (pc := 223) (l := [some (.ref 60), some (.int x), some (.int x3), some (.int x4), some (.int 1), none]) (st := [.int x105.1]) (h := hS X x105.2) ?_
                    exact Sp.jmp (l0 := [some (.ref 60), some (.int x), some (.int x3), none, none, none]) ⟨rfl, rfl, rfl, trivial⟩ (fun _ _ h => h)
                  · refine Sp.step rfl rfl rfl rfl ?_
                    refine Sp.step rfl rfl rfl rfl ?_
                    exact Sp.jmp (l0 := [some (.ref 60), some (.int x), some (.int x3), none, none, none]) ⟨rfl, rfl, rfl, trivial⟩ (fun _ _ h => h)
                · refine Sp.step rfl rfl rfl rfl ?_
                  refine Sp.step rfl rfl rfl rfl ?_
                  refine Sp.step rfl rfl rfl (mg_I (f := 90) rfl rfl rfl) ?_
                  refine Sp.piece (pe := 239) (mf := (fun (x109 : MS) => [some (.ref 60), some (.int x), some (.int x3), none, none, none])) (sf := (fun (x109 : MS) => [])) (hf := (fun (x109 : MS) => hS X x109)) ?_ (fun x109 => ?_)
                  · refine Sp.if1 rfl rfl rfl rfl (fun e107 => ?_) (fun e107 => ?_)
                    · exact Sp.jmp (l0 := [some (.ref 60), some (.int x), some (.int x3), none, none, none]) ⟨rfl, rfl, rfl, trivial⟩ (fun _ _ h => h)
                    · refine Sp.step rfl rfl rfl rfl ?_
                      refine Sp.step rfl rfl rfl rfl ?_
                      refine Sp.step rfl rfl rfl rfl ?_
                      refine Sp.call rfl rfl rfl (mrecv (by decide) (by decide +kernel)) s_M_call (fun x108 => ⟨_, _, ⟨rfl, rfl⟩, ?_⟩)
                      refine Sp.id (pc := 239) (l := [some (.ref 60), some (.int x), some (.int x3), none, none, some (.int x106.1)]) (st := []) (h := hS X x108) ?_
                      exact Sp.jmp (l0 := [some (.ref 60), some (.int x), some (.int x3), none, none, none]) ⟨rfl, rfl, rfl, trivial⟩ (fun _ _ h => h)
                  · refine Sp.step rfl rfl rfl rfl ?_
                    refine Sp.step rfl rfl rfl rfl ?_
                    refine Sp.step rfl rfl rfl rfl ?_
                    exact Sp.jmp (l0 := [some (.ref 60), some (.int x), some (.int x3), none, some (.int 0), none]) ⟨rfl, rfl, rfl, rfl, trivial⟩ (fun _ _ h => h)
          · refine Sp.step rfl rfl rfl rfl ?_
            refine Sp.step rfl rfl rfl (mg_I (f := 90) rfl rfl rfl) ?_
            refine Sp.piece (pe := 361) (mf := (fun (x116 : MS) => [some (.ref 60), none, some (.int x3), none, none, none])) (sf := (fun (x116 : MS) => [])) (hf := (fun (x116 : MS) => hS X x116)) ?_ (fun x116 => ?_)
            · refine Sp.if1 rfl rfl rfl rfl (fun e111 => ?_) (fun e111 => ?_)
              · refine Sp.step rfl rfl rfl rfl ?_
                refine Sp.if1 rfl rfl rfl rfl (fun e112 => ?_) (fun e112 => ?_)
                · exact Sp.jmp (l0 := [some (.ref 60), none, some (.int x3), none, none, none]) ⟨rfl, rfl, trivial⟩ (fun _ _ h => h)
                · refine Sp.step rfl rfl rfl rfl ?_
                  refine Sp.step rfl rfl rfl (mg_F (f := 69) rfl rfl rfl rfl) ?_
                  refine Sp.step rfl rfl rfl rfl ?_
                  refine Sp.step rfl rfl rfl (mg_I (f := 89) rfl rfl rfl) ?_
                  refine Sp.step rfl rfl rfl rfl ?_
                  refine Sp.guard (fun e113 => ?_)
                  refine Sp.step rfl rfl rfl (mld rfl rfl (by decide) e113) ?_
                  refine Sp.step rfl rfl rfl rfl ?_
                  refine Sp.step rfl rfl rfl rfl ?_
                  refine Sp.step rfl rfl rfl (mst rfl rfl (by decide) e113) ?_
                  exact Sp.jmp (l0 := [some (.ref 60), none, some (.int x3), none, none, none]) ⟨rfl, rfl, trivial⟩ (fun _ _ h => h)
              · refine Sp.step rfl rfl rfl rfl ?_
                refine Sp.step rfl rfl rfl rfl ?_
                refine Sp.call rfl rfl rfl (mrecv (by decide) (by decide +kernel)) s_M_unwind (fun x115 => ⟨_, _, ⟨rfl, rfl⟩, ?_⟩)
                refine Sp.id (pc := 340) (l := [some (.ref 60), some (.int x), some (.int x3), none, some (.int x110.1), none]) (st := []) (h := hS X x115) ?_
                refine Sp.step rfl rfl rfl rfl ?_
                exact Sp.jmp (l0 := [some (.ref 60), none, some (.int x3), none, none, none]) ⟨rfl, rfl, trivial⟩ (fun _ _ h => h)
            · refine Sp.step rfl rfl rfl rfl ?_
              refine Sp.step rfl rfl rfl rfl ?_
              refine Sp.step rfl rfl rfl (mg_L (f := 60) rfl rfl rfl) ?_
              refine Sp.step rfl rfl rfl rfl ?_
              refine Sp.step rfl rfl rfl rfl ?_
              refine Sp.step rfl rfl rfl (mp_L rfl rfl) ?_
              refine Sp.step rfl rfl rfl rfl ?_
              refine Sp.step rfl rfl rfl rfl ?_
              refine Sp.step rfl rfl rfl rfl ?_
              refine Sp.if2 rfl rfl rfl rfl (fun e118 => ?_) (fun e118 => ?_)
              · refine Sp.step rfl rfl rfl rfl ?_
                refine Sp.step rfl rfl rfl (mg_I (f := 63) rfl rfl rfl) ?_
                refine Sp.step rfl rfl rfl rfl ?_
                refine Sp.step rfl rfl rfl rfl ?_
                refine Sp.step rfl rfl rfl (mp_I (f := 63) rfl rfl rfl rfl) ?_
                exact Sp.vret rfl rfl rfl (fun _ _ h => h)
              · refine Sp.step rfl rfl rfl rfl ?_
                refine Sp.step rfl rfl rfl rfl ?_
                refine Sp.step rfl rfl rfl (mp_I (f := 63) rfl rfl rfl rfl) ?_
                exact Sp.vret rfl rfl rfl (fun _ _ h => h)
def b27_M_run (x : Int32) (x11 : (Int32 × Int32 × MS)) : Option ((Int32 × Int32 × MS) ⊕ (Int32 × Int32 × MS)) := (if x11.2.1 < 0 then some (.inr (x11.1, x11.2.1, x11.2.2)) else (if x ≤ x11.1 then some (.inr (x11.1, x11.2.1, x11.2.2)) else ((f_M_step x11.2.1 x11.2.2).bind fun x14 => (if x ≤ x11.1 + 1 then some (.inl (x11.1 + 1, (-2), x14)) else ((f_M_turn x14).bind fun x16 => some (.inl (x11.1 + 1, x16.1, x16.2)))))))
def f_M_run (x : Int32) (M : MS) : Option (Int32 × MS) := (if M.1 60 57 = 0 then some ((-1), M) else (if 1 ≤ x ∧ x ≤ 5000 then ((f_M_turn M).bind fun x4 => ((lp (b27_M_run x) 10000 ((0 : Int32), x4.1, x4.2)).bind fun x17 => some (x17.1, x17.2.2))) else some ((-1), M)))
set_option maxRecDepth 100000 in
set_option maxHeartbeats 4000000 in
theorem s_M_run {L : Nat} {xs : Nat → Int32} {X : XS} {M : MS} {x : Int32} : Sp (mjOO L xs) 98 0 [some (.ref 60), some (.int x), none, none] [] (hS X M) (f_M_run x M) (KEM X) := by
  unfold f_M_run
  refine Sp.step rfl rfl rfl rfl ?_
  refine Sp.step rfl rfl rfl (mg_I (f := 57) rfl rfl rfl) ?_
  refine Sp.if1 rfl rfl rfl rfl (fun e1 => ?_) (fun e1 => ?_)
  · refine Sp.step rfl rfl rfl rfl ?_
    exact Sp.iret rfl rfl rfl rfl (fun _ _ h => h)
  · refine Sp.step rfl rfl rfl rfl ?_
    refine Sp.step rfl rfl rfl rfl ?_
    refine Sp.step rfl rfl rfl rfl ?_
    refine Sp.callP rfl rfl rfl rfl s_isIn (fun e2 => ?_) (fun e2 => ?_)
    · refine Sp.id (pc := 15) (l := [some (.ref 60), some (.int x), none, none]) (st := [.int 1]) (h := hS X M) ?_
      refine Sp.step rfl rfl rfl rfl ?_
      refine Sp.step rfl rfl rfl rfl ?_
      refine Sp.step rfl rfl rfl rfl ?_
      refine Sp.step rfl rfl rfl rfl ?_
      refine Sp.call rfl rfl rfl (mrecv (by decide) (by decide +kernel)) s_M_turn (fun x4 => ⟨_, _, ⟨rfl, rfl⟩, ?_⟩)
      refine Sp.id (pc := 26) (l := [some (.ref 60), some (.int x), some (.int 0), none]) (st := [.int x4.1]) (h := hS X x4.2) ?_
      refine Sp.step rfl rfl rfl rfl ?_
      refine Sp.weak (l0 := [some (.ref 60), some (.int x), some (.int 0), some (.int x4.1)]) ⟨rfl, rfl, rfl, rfl, trivial⟩ ?_
      refine Sp.loopX (pe := 62) (mf := (fun (x11 : (Int32 × Int32 × MS)) => [some (.ref 60), some (.int x), some (.int x11.1), some (.int x11.2.1)])) (hf := (fun (x11 : (Int32 × Int32 × MS)) => hS X x11.2.2)) (fun x11 => ?_) (fun x17 => ?_) _ _
      · unfold b27_M_run
        refine Sp.step rfl rfl rfl rfl ?_
        refine Sp.if1 rfl rfl rfl rfl (fun e12 => ?_) (fun e12 => ?_)
        · exact Sp.jmp (l0 := [some (.ref 60), some (.int x), some (.int x11.1), some (.int x11.2.1)]) ⟨rfl, rfl, rfl, rfl, trivial⟩ (fun _ _ h => h)
        · refine Sp.step rfl rfl rfl rfl ?_
          refine Sp.step rfl rfl rfl rfl ?_
          refine Sp.if2 rfl rfl rfl rfl (fun e13 => ?_) (fun e13 => ?_)
          · exact Sp.jmp (l0 := [some (.ref 60), some (.int x), some (.int x11.1), some (.int x11.2.1)]) ⟨rfl, rfl, rfl, rfl, trivial⟩ (fun _ _ h => h)
          · refine Sp.step rfl rfl rfl rfl ?_
            refine Sp.step rfl rfl rfl rfl ?_
            refine Sp.call rfl rfl rfl (mrecv (by decide) (by decide +kernel)) s_M_step (fun x14 => ⟨_, _, ⟨rfl, rfl⟩, ?_⟩)
            refine Sp.id (pc := 41) (l := [some (.ref 60), some (.int x), some (.int x11.1), some (.int x11.2.1)]) (st := []) (h := hS X x14) ?_
            refine Sp.step rfl rfl rfl rfl ?_
            refine Sp.step rfl rfl rfl rfl ?_
            refine Sp.step rfl rfl rfl rfl ?_
            refine Sp.if2 rfl rfl rfl rfl (fun e15 => ?_) (fun e15 => ?_)
            · refine Sp.step rfl rfl rfl rfl ?_
              refine Sp.step rfl rfl rfl rfl ?_
              refine Sp.step rfl rfl rfl rfl ?_
              exact Sp.jmp (l0 := [some (.ref 60), some (.int x), some (.int (x11.1 + 1)), some (.int (-2))]) ⟨rfl, rfl, rfl, rfl, trivial⟩ (fun _ _ h => h)
            · refine Sp.step rfl rfl rfl rfl ?_
              refine Sp.call rfl rfl rfl (mrecv (by decide) (by decide +kernel)) s_M_turn (fun x16 => ⟨_, _, ⟨rfl, rfl⟩, ?_⟩)
              refine Sp.id (pc := 53) (l := [some (.ref 60), some (.int x), some (.int (x11.1 + 1)), some (.int x11.2.1)]) (st := [.int x16.1]) (h := hS X x16.2) ?_
              refine Sp.step rfl rfl rfl rfl ?_
              refine Sp.step rfl rfl rfl rfl ?_
              refine Sp.step rfl rfl rfl rfl ?_
              exact Sp.jmp (l0 := [some (.ref 60), some (.int x), some (.int (x11.1 + 1)), some (.int x16.1)]) ⟨rfl, rfl, rfl, rfl, trivial⟩ (fun _ _ h => h)
      · refine Sp.step rfl rfl rfl rfl ?_
        exact Sp.iret rfl rfl rfl rfl (fun _ _ h => h)
    · refine Sp.id (pc := 15) (l := [some (.ref 60), some (.int x), none, none]) (st := [.int 0]) (h := hS X M) ?_
      refine Sp.step rfl rfl rfl rfl ?_
      refine Sp.step rfl rfl rfl rfl ?_
      exact Sp.iret rfl rfl rfl rfl (fun _ _ h => h)
def f_M_out (x : Int32) (M : MS) : Int32 := (if x < 0 then (-2) else (if M.1 60 78 ≤ x then (-2) else (if 300 ≤ x then (-2) else M.1 120 x.toNatClampNeg)))
set_option maxRecDepth 100000 in
set_option maxHeartbeats 4000000 in
theorem s_M_out {L : Nat} {xs : Nat → Int32} {X : XS} {M : MS} {x : Int32} : Sp (mjOO L xs) 99 0 [some (.ref 60), some (.int x)] [] (hS X M) (some (f_M_out x M)) (KQ (hS X M)) := by
  unfold f_M_out
  refine Sp.step rfl rfl rfl rfl ?_
  refine Sp.if1V rfl rfl rfl rfl (fun e1 => ?_) (fun e1 => ?_)
  · refine Sp.step rfl rfl rfl rfl ?_
    exact Sp.iret rfl rfl rfl rfl (fun _ _ h => h)
  · refine Sp.step rfl rfl rfl rfl ?_
    refine Sp.step rfl rfl rfl rfl ?_
    refine Sp.step rfl rfl rfl (mg_I (f := 78) rfl rfl rfl) ?_
    refine Sp.if2V rfl rfl rfl rfl (fun e2 => ?_) (fun e2 => ?_)
    · refine Sp.step rfl rfl rfl rfl ?_
      exact Sp.iret rfl rfl rfl rfl (fun _ _ h => h)
    · refine Sp.step rfl rfl rfl rfl ?_
      refine Sp.step rfl rfl rfl rfl ?_
      refine Sp.if2V rfl rfl rfl rfl (fun e3 => ?_) (fun e3 => ?_)
      · refine Sp.step rfl rfl rfl rfl ?_
        exact Sp.iret rfl rfl rfl rfl (fun _ _ h => h)
      · refine Sp.step rfl rfl rfl rfl ?_
        refine Sp.step rfl rfl rfl (mg_F (f := 77) rfl rfl rfl rfl) ?_
        refine Sp.step rfl rfl rfl rfl ?_
        refine Sp.step rfl rfl rfl (mld rfl rfl (by decide) (ix_ok (N := 300) (n := 300) rfl (Int32.not_lt.mp e1) (Int32.not_le.mp e3))) ?_
        refine Sp.step rfl rfl rfl rfl ?_
        exact Sp.iret rfl rfl rfl rfl (fun _ _ h => h)
def f_M_thread (x : Int32) (y : Int32) (M : MS) : Option Int32 := (if M.1 60 57 = 0 then some (-1) else (if 0 ≤ x ∧ x ≤ (M.1 60 61) - 1 then (if 0 ≤ y ∧ y ≤ 2 then (if ¬ y = 0 then (if ¬ y = 1 then (if ixo x 6 then some (M.1 111 x.toNatClampNeg) else none) else (if ixo x 6 then some (M.1 109 x.toNatClampNeg) else none)) else (if ixo x 6 then (if M.1 110 x.toNatClampNeg ≤ 0 then ((f_M_waits x M).bind fun x12 => (if x12 = true then some 1 else some 0)) else some (M.1 110 x.toNatClampNeg)) else none)) else some (-1)) else some (-1)))
set_option maxRecDepth 100000 in
set_option maxHeartbeats 4000000 in
theorem s_M_thread {L : Nat} {xs : Nat → Int32} {X : XS} {M : MS} {x : Int32} {y : Int32} : Sp (mjOO L xs) 100 0 [some (.ref 60), some (.int x), some (.int y)] [] (hS X M) (f_M_thread x y M) (KQ (hS X M)) := by
  unfold f_M_thread
  refine Sp.step rfl rfl rfl rfl ?_
  refine Sp.step rfl rfl rfl (mg_I (f := 57) rfl rfl rfl) ?_
  refine Sp.if1 rfl rfl rfl rfl (fun e1 => ?_) (fun e1 => ?_)
  · refine Sp.step rfl rfl rfl rfl ?_
    exact Sp.iret rfl rfl rfl rfl (fun _ _ h => h)
  · refine Sp.step rfl rfl rfl rfl ?_
    refine Sp.step rfl rfl rfl rfl ?_
    refine Sp.step rfl rfl rfl rfl ?_
    refine Sp.step rfl rfl rfl (mg_I (f := 61) rfl rfl rfl) ?_
    refine Sp.step rfl rfl rfl rfl ?_
    refine Sp.step rfl rfl rfl rfl ?_
    refine Sp.callP rfl rfl rfl rfl s_isIn (fun e2 => ?_) (fun e2 => ?_)
    · refine Sp.id (pc := 18) (l := [some (.ref 60), some (.int x), some (.int y)]) (st := [.int 1]) (h := hS X M) ?_
      refine Sp.step rfl rfl rfl rfl ?_
      refine Sp.step rfl rfl rfl rfl ?_
      refine Sp.step rfl rfl rfl rfl ?_
      refine Sp.step rfl rfl rfl rfl ?_
      refine Sp.callP rfl rfl rfl rfl s_isIn (fun e4 => ?_) (fun e4 => ?_)
      · refine Sp.id (pc := 27) (l := [some (.ref 60), some (.int x), some (.int y)]) (st := [.int 1]) (h := hS X M) ?_
        refine Sp.step rfl rfl rfl rfl ?_
        refine Sp.step rfl rfl rfl rfl ?_
        refine Sp.if1 rfl rfl rfl rfl (fun e6 => ?_) (fun e6 => ?_)
        · refine Sp.step rfl rfl rfl rfl ?_
          refine Sp.step rfl rfl rfl rfl ?_
          refine Sp.if2 rfl rfl rfl rfl (fun e7 => ?_) (fun e7 => ?_)
          · refine Sp.step rfl rfl rfl rfl ?_
            refine Sp.step rfl rfl rfl (mg_F (f := 67) rfl rfl rfl rfl) ?_
            refine Sp.step rfl rfl rfl rfl ?_
            refine Sp.guard (fun e8 => ?_)
            refine Sp.step rfl rfl rfl (mld rfl rfl (by decide) e8) ?_
            exact Sp.iret rfl rfl rfl rfl (fun _ _ h => h)
          · refine Sp.step rfl rfl rfl rfl ?_
            refine Sp.step rfl rfl rfl (mg_F (f := 65) rfl rfl rfl rfl) ?_
            refine Sp.step rfl rfl rfl rfl ?_
            refine Sp.guard (fun e9 => ?_)
            refine Sp.step rfl rfl rfl (mld rfl rfl (by decide) e9) ?_
            refine Sp.step rfl rfl rfl rfl ?_
            exact Sp.iret rfl rfl rfl rfl (fun _ _ h => h)
        · refine Sp.step rfl rfl rfl rfl ?_
          refine Sp.step rfl rfl rfl (mg_F (f := 66) rfl rfl rfl rfl) ?_
          refine Sp.step rfl rfl rfl rfl ?_
          refine Sp.guard (fun e10 => ?_)
          refine Sp.step rfl rfl rfl (mld rfl rfl (by decide) e10) ?_
          refine Sp.if1 rfl rfl rfl rfl (fun e11 => ?_) (fun e11 => ?_)
          · refine Sp.step rfl rfl rfl rfl ?_
            refine Sp.step rfl rfl rfl rfl ?_
            refine Sp.call rfl rfl rfl (mrecv (by decide) (by decide +kernel)) s_M_waits (fun x12 => ⟨_, _, ⟨rfl, rfl⟩, ?_⟩)
            refine Sp.bool (fun e13 => ?_) (fun e13 => ?_)
            · refine Sp.id (pc := 59) (l := [some (.ref 60), some (.int x), some (.int y)]) (st := [.int 1]) (h := hS X M) ?_
              refine Sp.step rfl rfl rfl rfl ?_
              refine Sp.step rfl rfl rfl rfl ?_
              refine Sp.step rfl rfl rfl rfl ?_
              exact Sp.iret rfl rfl rfl rfl (fun _ _ h => h)
            · refine Sp.id (pc := 59) (l := [some (.ref 60), some (.int x), some (.int y)]) (st := [.int 0]) (h := hS X M) ?_
              refine Sp.step rfl rfl rfl rfl ?_
              refine Sp.step rfl rfl rfl rfl ?_
              refine Sp.step rfl rfl rfl rfl ?_
              exact Sp.iret rfl rfl rfl rfl (fun _ _ h => h)
          · refine Sp.step rfl rfl rfl rfl ?_
            refine Sp.step rfl rfl rfl (mg_F (f := 66) rfl rfl rfl rfl) ?_
            refine Sp.step rfl rfl rfl rfl ?_
            refine Sp.step rfl rfl rfl (mld rfl rfl (by decide) e10) ?_
            refine Sp.step rfl rfl rfl rfl ?_
            exact Sp.iret rfl rfl rfl rfl (fun _ _ h => h)
      · refine Sp.id (pc := 27) (l := [some (.ref 60), some (.int x), some (.int y)]) (st := [.int 0]) (h := hS X M) ?_
        refine Sp.step rfl rfl rfl rfl ?_
        refine Sp.step rfl rfl rfl rfl ?_
        exact Sp.iret rfl rfl rfl rfl (fun _ _ h => h)
    · refine Sp.id (pc := 18) (l := [some (.ref 60), some (.int x), some (.int y)]) (st := [.int 0]) (h := hS X M) ?_
      refine Sp.step rfl rfl rfl rfl ?_
      refine Sp.step rfl rfl rfl rfl ?_
      exact Sp.iret rfl rfl rfl rfl (fun _ _ h => h)
def f_M_sound : Bool := true
set_option maxRecDepth 100000 in
set_option maxHeartbeats 4000000 in
theorem s_M_sound {L : Nat} {xs : Nat → Int32} {X : XS} {M : MS} : Sp (mjOO L xs) 101 0 [some (.ref 60)] [] (hS X M) (some (f_M_sound)) (KB (hS X M)) := by
  unfold f_M_sound
  refine Sp.step rfl rfl rfl rfl ?_
  exact Sp.iret rfl rfl rfl rfl (fun _ _ h => h)
def f_M_told (x : Int32) (M : MS) : Int32 := (if x = 0 then M.1 60 3 else (if x = 1 then M.1 60 15 else (if x = 2 then M.1 60 37 else (if x = 3 then M.2.toInt32 else (if x = 4 then M.1 60 61 else (if x = 5 then M.1 60 87 else (if x = 6 then M.1 60 88 else (if x = 7 then M.1 60 78 else (if x = 8 then M.1 60 76 else (if x = 9 then M.1 60 42 else (-1)))))))))))
set_option maxRecDepth 100000 in
set_option maxHeartbeats 4000000 in
theorem s_M_told {L : Nat} {xs : Nat → Int32} {X : XS} {M : MS} {x : Int32} : Sp (mjOO L xs) 102 0 [some (.ref 60), some (.int x)] [] (hS X M) (some (f_M_told x M)) (KQ (hS X M)) := by
  unfold f_M_told
  refine Sp.step rfl rfl rfl rfl ?_
  refine Sp.iteV (fun e1 => ?_) (fun e1 => ?_)
  · refine Sp.step rfl rfl rfl (go_sw (t := 56) (sw_of e1 rfl)) ?_
    refine Sp.step rfl rfl rfl rfl ?_
    refine Sp.step rfl rfl rfl (mg_I (f := 3) rfl rfl rfl) ?_
    exact Sp.iret rfl rfl rfl rfl (fun _ _ h => h)
  · refine Sp.iteV (fun e2 => ?_) (fun e2 => ?_)
    · refine Sp.step rfl rfl rfl (go_sw (t := 61) (sw_of e2 rfl)) ?_
      refine Sp.step rfl rfl rfl rfl ?_
      refine Sp.step rfl rfl rfl (mg_I (f := 15) rfl rfl rfl) ?_
      exact Sp.iret rfl rfl rfl rfl (fun _ _ h => h)
    · refine Sp.iteV (fun e3 => ?_) (fun e3 => ?_)
      · refine Sp.step rfl rfl rfl (go_sw (t := 66) (sw_of e3 rfl)) ?_
        refine Sp.step rfl rfl rfl rfl ?_
        refine Sp.step rfl rfl rfl (mg_I (f := 37) rfl rfl rfl) ?_
        exact Sp.iret rfl rfl rfl rfl (fun _ _ h => h)
      · refine Sp.iteV (fun e4 => ?_) (fun e4 => ?_)
        · refine Sp.step rfl rfl rfl (go_sw (t := 71) (sw_of e4 rfl)) ?_
          refine Sp.step rfl rfl rfl rfl ?_
          refine Sp.step rfl rfl rfl (mg_L (f := 60) rfl rfl rfl) ?_
          refine Sp.step rfl rfl rfl rfl ?_
          exact Sp.iret rfl rfl rfl rfl (fun _ _ h => h)
        · refine Sp.iteV (fun e5 => ?_) (fun e5 => ?_)
          · refine Sp.step rfl rfl rfl (go_sw (t := 77) (sw_of e5 rfl)) ?_
            refine Sp.step rfl rfl rfl rfl ?_
            refine Sp.step rfl rfl rfl (mg_I (f := 61) rfl rfl rfl) ?_
            exact Sp.iret rfl rfl rfl rfl (fun _ _ h => h)
          · refine Sp.iteV (fun e6 => ?_) (fun e6 => ?_)
            · refine Sp.step rfl rfl rfl (go_sw (t := 82) (sw_of e6 rfl)) ?_
              refine Sp.step rfl rfl rfl rfl ?_
              refine Sp.step rfl rfl rfl (mg_I (f := 87) rfl rfl rfl) ?_
              exact Sp.iret rfl rfl rfl rfl (fun _ _ h => h)
            · refine Sp.iteV (fun e7 => ?_) (fun e7 => ?_)
              · refine Sp.step rfl rfl rfl (go_sw (t := 87) (sw_of e7 rfl)) ?_
                refine Sp.step rfl rfl rfl rfl ?_
                refine Sp.step rfl rfl rfl (mg_I (f := 88) rfl rfl rfl) ?_
                exact Sp.iret rfl rfl rfl rfl (fun _ _ h => h)
              · refine Sp.iteV (fun e8 => ?_) (fun e8 => ?_)
                · refine Sp.step rfl rfl rfl (go_sw (t := 92) (sw_of e8 rfl)) ?_
                  refine Sp.step rfl rfl rfl rfl ?_
                  refine Sp.step rfl rfl rfl (mg_I (f := 78) rfl rfl rfl) ?_
                  exact Sp.iret rfl rfl rfl rfl (fun _ _ h => h)
                · refine Sp.iteV (fun e9 => ?_) (fun e9 => ?_)
                  · refine Sp.step rfl rfl rfl (go_sw (t := 97) (sw_of e9 rfl)) ?_
                    refine Sp.step rfl rfl rfl rfl ?_
                    refine Sp.step rfl rfl rfl (mg_I (f := 76) rfl rfl rfl) ?_
                    exact Sp.iret rfl rfl rfl rfl (fun _ _ h => h)
                  · refine Sp.iteV (fun e10 => ?_) (fun e10 => ?_)
                    · refine Sp.step rfl rfl rfl (go_sw (t := 102) (sw_of e10 rfl)) ?_
                      refine Sp.step rfl rfl rfl rfl ?_
                      refine Sp.step rfl rfl rfl (mg_I (f := 42) rfl rfl rfl) ?_
                      exact Sp.iret rfl rfl rfl rfl (fun _ _ h => h)
                    · refine Sp.step rfl rfl rfl (go_sw (t := 107) (mjSw_out _ (by
                        intro q hq
                        simp only [List.mem_cons, List.not_mem_nil, or_false] at hq
                        rcases hq with rfl | rfl | rfl | rfl | rfl | rfl | rfl | rfl | rfl | rfl
                        · exact e1
                        · exact e2
                        · exact e3
                        · exact e4
                        · exact e5
                        · exact e6
                        · exact e7
                        · exact e8
                        · exact e9
                        · exact e10))) ?_
                      refine Sp.step rfl rfl rfl rfl ?_
                      exact Sp.iret rfl rfl rfl rfl (fun _ _ h => h)
