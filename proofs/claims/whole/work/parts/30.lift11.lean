/-! methods as functions, by program -/
def b26_M_link (x14 : (Int32 × MS)) : Option ((Int32 × MS) ⊕ ((Int32 × MS) ⊕ (Int32 × MS))) := (if x14.2.1 60 15 ≤ x14.1 then some (.inr (.inl (x14.1, x14.2))) else (if ixo x14.1 24 then (if x14.2.1 75 x14.1.toNatClampNeg = 0 then some (.inl (x14.1 + 1, x14.2)) else ((f_M_firstWrong x14.1 x14.2).bind fun x19 => (if x19.1 < 0 then some (.inl (x14.1 + 1, x19.2)) else some (.inr (.inr (((-1000) - (100 * x14.1)) - x19.1, x19.2)))))) else none))
def b82_M_link (x27 : (Int32 × MS)) : Option ((Int32 × MS) ⊕ (Int32 × MS)) := (if x27.2.1 60 39 ≤ x27.1 then some (.inr (x27.1, x27.2)) else (if ixo x27.1 8000 then (lt (mw x27.2 91 x27.1.toNatClampNeg (x27.2.1 92 x27.1.toNatClampNeg)) fun M30 => some (.inl (x27.1 + 1, M30))) else none))
def f_M_link (x : Int32) (M : MS) : Option (Int32 × MS) := ((f_M_isStatic x M).bind fun x1 => (if x1 = true then (if ixo x 24 then (if M.1 66 x.toNatClampNeg = 0 then ((f_M_reach x M).bind fun x6 => ((lp (b26_M_link) 10000 ((0 : Int32), x6)).bind fun s => sb s fun x21 => ((f_M_write x x21.2).bind fun x22 => ((lp (b82_M_link) 10000 ((0 : Int32), x22)).bind fun x31 => (lt (mw x31.2 60 37 (x31.2.1 60 39)) fun M32 => ((f_M_keep x M32).bind fun x33 => some (x33.1 60 37, x33))))))) else some ((-1), M)) else none) else some ((-1), M)))
set_option maxRecDepth 100000 in
set_option maxHeartbeats 4000000 in
theorem s_M_link {L : Nat} {xs : Nat → Int32} {X : XS} {M : MS} {x : Int32} : Sp (mjOO L xs) 52 0 [some (.ref 60), some (.int x), none, none] [] (hS X M) (f_M_link x M) (KEM X) := by
  unfold f_M_link
  refine Sp.step rfl rfl rfl rfl ?_
  refine Sp.step rfl rfl rfl rfl ?_
  refine Sp.call rfl rfl rfl (mrecv (by decide) (by decide +kernel)) s_M_isStatic (fun x1 => ⟨_, _, ⟨rfl, rfl⟩, ?_⟩)
  refine Sp.bool (fun e2 => ?_) (fun e2 => ?_)
  · refine Sp.id (pc := 5) (l := [some (.ref 60), some (.int x), none, none]) (st := [.int 1]) (h := hS X M) ?_
    refine Sp.step rfl rfl rfl rfl ?_
    refine Sp.step rfl rfl rfl rfl ?_
    refine Sp.step rfl rfl rfl (mg_F (f := 6) rfl rfl rfl rfl) ?_
    refine Sp.step rfl rfl rfl rfl ?_
    refine Sp.guard (fun e4 => ?_)
    refine Sp.step rfl rfl rfl (mld rfl rfl (by decide) e4) ?_
    refine Sp.if1 rfl rfl rfl rfl (fun e5 => ?_) (fun e5 => ?_)
    · refine Sp.step rfl rfl rfl rfl ?_
      refine Sp.step rfl rfl rfl rfl ?_
      refine Sp.call rfl rfl rfl (mrecv (by decide) (by decide +kernel)) s_M_reach (fun x6 => ⟨_, _, ⟨rfl, rfl⟩, ?_⟩)
      refine Sp.id (pc := 24) (l := [some (.ref 60), some (.int x), none, none]) (st := []) (h := hS X x6) ?_
      refine Sp.step rfl rfl rfl rfl ?_
      refine Sp.step rfl rfl rfl rfl ?_
      refine Sp.weak (l0 := [some (.ref 60), some (.int x), some (.int 0), none]) ⟨rfl, rfl, rfl, trivial⟩ ?_
      refine Sp.loopY (pe := 75) (mf := (fun (x14 : (Int32 × MS)) => [some (.ref 60), some (.int x), some (.int x14.1), none])) (hf := (fun (x14 : (Int32 × MS)) => hS X x14.2)) (fun x14 => ?_) (fun x21 => ?_) _ _
      · unfold b26_M_link
        refine Sp.step rfl rfl rfl rfl ?_
        refine Sp.step rfl rfl rfl rfl ?_
        refine Sp.step rfl rfl rfl (mg_I (f := 15) rfl rfl rfl) ?_
        refine Sp.if2 rfl rfl rfl rfl (fun e15 => ?_) (fun e15 => ?_)
        · exact Sp.jmp (l0 := [some (.ref 60), some (.int x), some (.int x14.1), none]) ⟨rfl, rfl, rfl, trivial⟩ (fun _ _ h => h)
        · refine Sp.step rfl rfl rfl rfl ?_
          refine Sp.step rfl rfl rfl (mg_F (f := 16) rfl rfl rfl rfl) ?_
          refine Sp.step rfl rfl rfl rfl ?_
          refine Sp.guard (fun e16 => ?_)
          refine Sp.step rfl rfl rfl (mld rfl rfl (by decide) e16) ?_
          refine Sp.if1 rfl rfl rfl rfl (fun e17 => ?_) (fun e17 => ?_)
          · refine Sp.step rfl rfl rfl rfl ?_
            refine Sp.step rfl rfl rfl rfl ?_
            refine Sp.step rfl rfl rfl rfl ?_
            refine Sp.step rfl rfl rfl rfl ?_
            refine Sp.step rfl rfl rfl rfl ?_
            refine Sp.step rfl rfl rfl rfl ?_
            exact Sp.jmp (l0 := [some (.ref 60), some (.int x), some (.int (x14.1 + 1)), none]) ⟨rfl, rfl, rfl, trivial⟩ (fun _ _ h => h)
          · refine Sp.step rfl rfl rfl rfl ?_
            refine Sp.step rfl rfl rfl rfl ?_
            refine Sp.call rfl rfl rfl (mrecv (by decide) (by decide +kernel)) s_M_firstWrong (fun x19 => ⟨_, _, ⟨rfl, rfl⟩, ?_⟩)
            refine Sp.id (pc := 48) (l := [some (.ref 60), some (.int x), some (.int x14.1), none]) (st := [.int x19.1]) (h := hS X x19.2) ?_
            refine Sp.step rfl rfl rfl rfl ?_
            refine Sp.step rfl rfl rfl rfl ?_
            refine Sp.step rfl rfl rfl rfl ?_
            refine Sp.if1 rfl rfl rfl rfl (fun e20 => ?_) (fun e20 => ?_)
            · refine Sp.step rfl rfl rfl rfl ?_
              refine Sp.step rfl rfl rfl rfl ?_
              exact Sp.jmp (l0 := [some (.ref 60), some (.int x), some (.int (x14.1 + 1)), none]) ⟨rfl, rfl, rfl, trivial⟩ (fun _ _ h => h)
            · refine Sp.step rfl rfl rfl rfl ?_
              refine Sp.step rfl rfl rfl rfl ?_
              refine Sp.step rfl rfl rfl rfl ?_
              refine Sp.step rfl rfl rfl rfl ?_
              refine Sp.step rfl rfl rfl rfl ?_
              refine Sp.step rfl rfl rfl rfl ?_
              refine Sp.step rfl rfl rfl rfl ?_
              exact Sp.iret rfl rfl rfl rfl (fun _ _ h => h)
      · refine Sp.step rfl rfl rfl rfl ?_
        refine Sp.step rfl rfl rfl rfl ?_
        refine Sp.call rfl rfl rfl (mrecv (by decide) (by decide +kernel)) s_M_write (fun x22 => ⟨_, _, ⟨rfl, rfl⟩, ?_⟩)
        refine Sp.id (pc := 80) (l := [some (.ref 60), some (.int x), some (.int x21.1), none]) (st := []) (h := hS X x22) ?_
        refine Sp.step rfl rfl rfl rfl ?_
        refine Sp.step rfl rfl rfl rfl ?_
        refine Sp.weak (l0 := [some (.ref 60), some (.int x), some (.int 0), none]) ⟨rfl, rfl, rfl, trivial⟩ ?_
        refine Sp.loopX (pe := 108) (mf := (fun (x27 : (Int32 × MS)) => [some (.ref 60), some (.int x), some (.int x27.1), none])) (hf := (fun (x27 : (Int32 × MS)) => hS X x27.2)) (fun x27 => ?_) (fun x31 => ?_) _ _
        · unfold b82_M_link
          refine Sp.step rfl rfl rfl rfl ?_
          refine Sp.step rfl rfl rfl rfl ?_
          refine Sp.step rfl rfl rfl (mg_I (f := 39) rfl rfl rfl) ?_
          refine Sp.if2 rfl rfl rfl rfl (fun e28 => ?_) (fun e28 => ?_)
          · exact Sp.jmp (l0 := [some (.ref 60), some (.int x), some (.int x27.1), none]) ⟨rfl, rfl, rfl, trivial⟩ (fun _ _ h => h)
          · refine Sp.step rfl rfl rfl rfl ?_
            refine Sp.step rfl rfl rfl (mg_F (f := 36) rfl rfl rfl rfl) ?_
            refine Sp.step rfl rfl rfl rfl ?_
            refine Sp.step rfl rfl rfl rfl ?_
            refine Sp.step rfl rfl rfl (mg_F (f := 38) rfl rfl rfl rfl) ?_
            refine Sp.step rfl rfl rfl rfl ?_
            refine Sp.guard (fun e29 => ?_)
            refine Sp.step rfl rfl rfl (mld rfl rfl (by decide) e29) ?_
            refine Sp.step rfl rfl rfl (mst rfl rfl (by decide) e29) ?_
            refine Sp.step rfl rfl rfl rfl ?_
            refine Sp.step rfl rfl rfl rfl ?_
            exact Sp.jmp (l0 := [some (.ref 60), some (.int x), some (.int (x27.1 + 1)), none]) ⟨rfl, rfl, rfl, trivial⟩ (fun _ _ h => h)
        · refine Sp.step rfl rfl rfl rfl ?_
          refine Sp.step rfl rfl rfl rfl ?_
          refine Sp.step rfl rfl rfl (mg_I (f := 39) rfl rfl rfl) ?_
          refine Sp.step rfl rfl rfl (mp_I (f := 37) rfl rfl rfl rfl) ?_
          refine Sp.step rfl rfl rfl rfl ?_
          refine Sp.step rfl rfl rfl rfl ?_
          refine Sp.call rfl rfl rfl (mrecv (by decide) (by decide +kernel)) s_M_keep (fun x33 => ⟨_, _, ⟨rfl, rfl⟩, ?_⟩)
          refine Sp.id (pc := 121) (l := [some (.ref 60), some (.int x), some (.int x31.1), none]) (st := []) (h := hS X x33) ?_
          refine Sp.step rfl rfl rfl rfl ?_
          refine Sp.step rfl rfl rfl (mg_I (f := 37) rfl rfl rfl) ?_
          exact Sp.iret rfl rfl rfl rfl (fun _ _ h => h)
    · refine Sp.step rfl rfl rfl rfl ?_
      exact Sp.iret rfl rfl rfl rfl (fun _ _ h => h)
  · refine Sp.id (pc := 5) (l := [some (.ref 60), some (.int x), none, none]) (st := [.int 0]) (h := hS X M) ?_
    refine Sp.step rfl rfl rfl rfl ?_
    refine Sp.step rfl rfl rfl rfl ?_
    exact Sp.iret rfl rfl rfl rfl (fun _ _ h => h)
def f_M_image (x : Int32) (M : MS) : Option Int32 := (if 0 ≤ x ∧ x ≤ (M.1 60 37) - 1 then (if ixo x 8000 then some (M.1 91 x.toNatClampNeg) else none) else some (-1))
set_option maxRecDepth 100000 in
set_option maxHeartbeats 4000000 in
theorem s_M_image {L : Nat} {xs : Nat → Int32} {X : XS} {M : MS} {x : Int32} : Sp (mjOO L xs) 53 0 [some (.ref 60), some (.int x)] [] (hS X M) (f_M_image x M) (KQ (hS X M)) := by
  unfold f_M_image
  refine Sp.step rfl rfl rfl rfl ?_
  refine Sp.step rfl rfl rfl rfl ?_
  refine Sp.step rfl rfl rfl rfl ?_
  refine Sp.step rfl rfl rfl (mg_I (f := 37) rfl rfl rfl) ?_
  refine Sp.step rfl rfl rfl rfl ?_
  refine Sp.step rfl rfl rfl rfl ?_
  refine Sp.callP rfl rfl rfl rfl s_isIn (fun e1 => ?_) (fun e1 => ?_)
  · refine Sp.id (pc := 11) (l := [some (.ref 60), some (.int x)]) (st := [.int 1]) (h := hS X M) ?_
    refine Sp.step rfl rfl rfl rfl ?_
    refine Sp.step rfl rfl rfl rfl ?_
    refine Sp.step rfl rfl rfl (mg_F (f := 36) rfl rfl rfl rfl) ?_
    refine Sp.step rfl rfl rfl rfl ?_
    refine Sp.guard (fun e3 => ?_)
    refine Sp.step rfl rfl rfl (mld rfl rfl (by decide) e3) ?_
    refine Sp.step rfl rfl rfl rfl ?_
    exact Sp.iret rfl rfl rfl rfl (fun _ _ h => h)
  · refine Sp.id (pc := 11) (l := [some (.ref 60), some (.int x)]) (st := [.int 0]) (h := hS X M) ?_
    refine Sp.step rfl rfl rfl rfl ?_
    refine Sp.step rfl rfl rfl rfl ?_
    exact Sp.iret rfl rfl rfl rfl (fun _ _ h => h)
def f_M_feed (x : Int32) (M : MS) : Option (Bool × MS) := (if 0 ≤ x ∧ x ≤ 255 then (if ¬ M.1 60 42 = 6000 then (if ixo (M.1 60 42) 6000 then (lt (mw M 94 (M.1 60 42).toNatClampNeg x) fun M5 => (lt (mw M5 60 42 ((M5.1 60 42) + 1)) fun M6 => some (true, M6))) else none) else some (false, M)) else some (false, M))
set_option maxRecDepth 100000 in
set_option maxHeartbeats 4000000 in
theorem s_M_feed {L : Nat} {xs : Nat → Int32} {X : XS} {M : MS} {x : Int32} : Sp (mjOO L xs) 54 0 [some (.ref 60), some (.int x)] [] (hS X M) (f_M_feed x M) (KBM X) := by
  unfold f_M_feed
  refine Sp.step rfl rfl rfl rfl ?_
  refine Sp.step rfl rfl rfl rfl ?_
  refine Sp.step rfl rfl rfl rfl ?_
  refine Sp.callP rfl rfl rfl rfl s_isIn (fun e1 => ?_) (fun e1 => ?_)
  · refine Sp.id (pc := 8) (l := [some (.ref 60), some (.int x)]) (st := [.int 1]) (h := hS X M) ?_
    refine Sp.step rfl rfl rfl rfl ?_
    refine Sp.step rfl rfl rfl rfl ?_
    refine Sp.step rfl rfl rfl (mg_I (f := 42) rfl rfl rfl) ?_
    refine Sp.step rfl rfl rfl rfl ?_
    refine Sp.if2 rfl rfl rfl rfl (fun e3 => ?_) (fun e3 => ?_)
    · refine Sp.step rfl rfl rfl rfl ?_
      refine Sp.step rfl rfl rfl (mg_F (f := 41) rfl rfl rfl rfl) ?_
      refine Sp.step rfl rfl rfl rfl ?_
      refine Sp.step rfl rfl rfl (mg_I (f := 42) rfl rfl rfl) ?_
      refine Sp.step rfl rfl rfl rfl ?_
      refine Sp.guard (fun e4 => ?_)
      refine Sp.step rfl rfl rfl (mst rfl rfl (by decide) e4) ?_
      refine Sp.step rfl rfl rfl rfl ?_
      refine Sp.step rfl rfl rfl rfl ?_
      refine Sp.step rfl rfl rfl (mg_I (f := 42) rfl rfl rfl) ?_
      refine Sp.step rfl rfl rfl rfl ?_
      refine Sp.step rfl rfl rfl rfl ?_
      refine Sp.step rfl rfl rfl (mp_I (f := 42) rfl rfl rfl rfl) ?_
      refine Sp.step rfl rfl rfl rfl ?_
      exact Sp.iret rfl rfl rfl rfl (fun _ _ h => h)
    · refine Sp.step rfl rfl rfl rfl ?_
      exact Sp.iret rfl rfl rfl rfl (fun _ _ h => h)
  · refine Sp.id (pc := 8) (l := [some (.ref 60), some (.int x)]) (st := [.int 0]) (h := hS X M) ?_
    refine Sp.step rfl rfl rfl rfl ?_
    refine Sp.step rfl rfl rfl rfl ?_
    exact Sp.iret rfl rfl rfl rfl (fun _ _ h => h)
def b68_M_check (M : MS) (M1 : MS) (x6 : (Int32 × Int32)) : Option ((Int32 × Int32) ⊕ (Int32 × Int32)) := (if M.1 60 42 ≤ x6.2 then some (.inr (x6.1, x6.2)) else (if x6.2 = 7 then some (.inl (x6.1 + 0, x6.2 + 1)) else (if ¬ x6.2 = 8 then (if ixo x6.2 6000 then some (.inl (x6.1 + (M1.1 94 x6.2.toNatClampNeg), x6.2 + 1)) else none) else some (.inl (x6.1 + 0, x6.2 + 1)))))
def b150_M_check (M : MS) (M1 : MS) (x14 : (Int32 × Int32)) : Option ((Int32 × Int32) ⊕ (Int32 × Int32)) := (if M.1 60 42 ≤ x14.2 then some (.inr (x14.1, x14.2)) else (if x14.1 = 0 then some (.inr (x14.1, x14.2)) else (if ixo x14.2 6000 then (if ixo x14.2 8000 then (if ¬ M1.1 94 x14.2.toNatClampNeg = M1.1 91 x14.2.toNatClampNeg then some (.inl (0, x14.2 + 1)) else some (.inl (1, x14.2 + 1))) else none) else none)))
def b150_M_check' (M : MS) (M1 : MS) (x22 : (Int32 × Int32)) : Option ((Int32 × Int32) ⊕ (Int32 × Int32)) := (if M.1 60 42 ≤ x22.2 then some (.inr (x22.1, x22.2)) else (if x22.1 = 0 then some (.inr (x22.1, x22.2)) else (if ixo x22.2 6000 then (if ixo x22.2 8000 then (if ¬ M1.1 94 x22.2.toNatClampNeg = M1.1 91 x22.2.toNatClampNeg then some (.inl (0, x22.2 + 1)) else some (.inl (1, x22.2 + 1))) else none) else none)))
def f_M_check (M : MS) : Option (Int32 × MS) := (lt (mw M 60 42 0) fun M1 => (if M.1 60 42 < 9 then some (1, M1) else (if ¬ M1.1 94 0 = 80 then some (1, M1) else (if M1.1 94 1 = 77 then (if M.1 60 42 = (256 * (M1.1 94 5)) + (M1.1 94 6) then ((lp (b68_M_check M M1) 10000 ((0 : Int32), (0 : Int32))).bind fun x11 => (if x11.1 &&& 65535 = (256 * (M1.1 94 7)) + (M1.1 94 8) then (if ¬ M.1 60 42 = M1.1 60 37 then ((lp (b150_M_check M M1) 10000 ((0 : Int32), (0 : Int32))).bind fun x20 => (if x20.1 = 0 then some (4, M1) else some (0, M1))) else ((lp (b150_M_check' M M1) 10000 ((1 : Int32), (0 : Int32))).bind fun x28 => (if x28.1 = 0 then some (4, M1) else some (0, M1)))) else some (3, M1))) else some (2, M1)) else some (1, M1)))))
set_option maxRecDepth 100000 in
set_option maxHeartbeats 4000000 in
theorem s_M_check {L : Nat} {xs : Nat → Int32} {X : XS} {M : MS} : Sp (mjOO L xs) 55 0 [some (.ref 60), none, none, none, none] [] (hS X M) (f_M_check M) (KEM X) := by
  unfold f_M_check
  refine Sp.step rfl rfl rfl rfl ?_
  refine Sp.step rfl rfl rfl (mg_I (f := 42) rfl rfl rfl) ?_
  refine Sp.step rfl rfl rfl rfl ?_
  refine Sp.step rfl rfl rfl rfl ?_
  refine Sp.step rfl rfl rfl rfl ?_
  refine Sp.step rfl rfl rfl (mp_I (f := 42) rfl rfl rfl rfl) ?_
  refine Sp.step rfl rfl rfl rfl ?_
  refine Sp.step rfl rfl rfl rfl ?_
  refine Sp.if2 rfl rfl rfl rfl (fun e2 => ?_) (fun e2 => ?_)
  · refine Sp.step rfl rfl rfl rfl ?_
    exact Sp.iret rfl rfl rfl rfl (fun _ _ h => h)
  · refine Sp.step rfl rfl rfl rfl ?_
    refine Sp.step rfl rfl rfl (mg_F (f := 41) rfl rfl rfl rfl) ?_
    refine Sp.step rfl rfl rfl rfl ?_
    refine Sp.step rfl rfl rfl (mld rfl rfl (by decide) (by decide)) ?_
    refine Sp.step rfl rfl rfl rfl ?_
    refine Sp.if2 rfl rfl rfl rfl (fun e3 => ?_) (fun e3 => ?_)
    · refine Sp.step rfl rfl rfl rfl ?_
      exact Sp.iret rfl rfl rfl rfl (fun _ _ h => h)
    · refine Sp.step rfl rfl rfl rfl ?_
      refine Sp.step rfl rfl rfl (mg_F (f := 41) rfl rfl rfl rfl) ?_
      refine Sp.step rfl rfl rfl rfl ?_
      refine Sp.step rfl rfl rfl (mld rfl rfl (by decide) (by decide)) ?_
      refine Sp.step rfl rfl rfl rfl ?_
      refine Sp.if2 rfl rfl rfl rfl (fun e4 => ?_) (fun e4 => ?_)
      · refine Sp.step rfl rfl rfl rfl ?_
        refine Sp.step rfl rfl rfl rfl ?_
        refine Sp.step rfl rfl rfl rfl ?_
        refine Sp.step rfl rfl rfl (mg_F (f := 41) rfl rfl rfl rfl) ?_
        refine Sp.step rfl rfl rfl rfl ?_
        refine Sp.step rfl rfl rfl (mld rfl rfl (by decide) (by decide)) ?_
        refine Sp.step rfl rfl rfl rfl ?_
        refine Sp.step rfl rfl rfl rfl ?_
        refine Sp.step rfl rfl rfl (mg_F (f := 41) rfl rfl rfl rfl) ?_
        refine Sp.step rfl rfl rfl rfl ?_
        refine Sp.step rfl rfl rfl (mld rfl rfl (by decide) (by decide)) ?_
        refine Sp.step rfl rfl rfl rfl ?_
        refine Sp.if2 rfl rfl rfl rfl (fun e5 => ?_) (fun e5 => ?_)
        · refine Sp.step rfl rfl rfl rfl ?_
          refine Sp.step rfl rfl rfl rfl ?_
          refine Sp.step rfl rfl rfl rfl ?_
          refine Sp.step rfl rfl rfl rfl ?_
          refine Sp.weak (l0 := [some (.ref 60), some (.int (M.1 60 42)), some (.int 0), some (.int 0), none]) ⟨rfl, rfl, rfl, rfl, trivial⟩ ?_
          refine Sp.loopX (pe := 104) (mf := (fun (x6 : (Int32 × Int32)) => [some (.ref 60), some (.int (M.1 60 42)), some (.int x6.1), some (.int x6.2), none])) (hf := (fun (x6 : (Int32 × Int32)) => hS X (mw M 60 42 0))) (fun x6 => ?_) (fun x11 => ?_) _ _
          · unfold b68_M_check
            refine Sp.step rfl rfl rfl rfl ?_
            refine Sp.step rfl rfl rfl rfl ?_
            refine Sp.if2 rfl rfl rfl rfl (fun e7 => ?_) (fun e7 => ?_)
            · exact Sp.jmp (l0 := [some (.ref 60), some (.int (M.1 60 42)), some (.int x6.1), some (.int x6.2), none]) ⟨rfl, rfl, rfl, rfl, trivial⟩ (fun _ _ h => h)
            · refine Sp.step rfl rfl rfl rfl ?_
              refine Sp.step rfl rfl rfl rfl ?_
              refine Sp.step rfl rfl rfl rfl ?_
              refine Sp.if2 rfl rfl rfl rfl (fun e8 => ?_) (fun e8 => ?_)
              · refine Sp.step rfl rfl rfl rfl ?_
                refine Sp.step rfl rfl rfl rfl ?_
                refine Sp.step rfl rfl rfl rfl ?_
                refine Sp.step rfl rfl rfl rfl ?_
                refine Sp.step rfl rfl rfl rfl ?_
                refine Sp.step rfl rfl rfl rfl ?_
                exact Sp.jmp (l0 := [some (.ref 60), some (.int (M.1 60 42)), some (.int (x6.1 + 0)), some (.int (x6.2 + 1)), none]) ⟨rfl, rfl, rfl, rfl, trivial⟩ (fun _ _ h => h)
              · refine Sp.step rfl rfl rfl rfl ?_
                refine Sp.step rfl rfl rfl rfl ?_
                refine Sp.if2 rfl rfl rfl rfl (fun e9 => ?_) (fun e9 => ?_)
                · refine Sp.step rfl rfl rfl rfl ?_
                  refine Sp.step rfl rfl rfl (mg_F (f := 41) rfl rfl rfl rfl) ?_
                  refine Sp.step rfl rfl rfl rfl ?_
                  refine Sp.guard (fun e10 => ?_)
                  refine Sp.step rfl rfl rfl (mld rfl rfl (by decide) e10) ?_
                  refine Sp.step rfl rfl rfl rfl ?_
                  refine Sp.step rfl rfl rfl rfl ?_
                  refine Sp.step rfl rfl rfl rfl ?_
                  refine Sp.step rfl rfl rfl rfl ?_
                  exact Sp.jmp (l0 := [some (.ref 60), some (.int (M.1 60 42)), some (.int (x6.1 + ((mw M 60 42 0).1 94 x6.2.toNatClampNeg))), some (.int (x6.2 + 1)), none]) ⟨rfl, rfl, rfl, rfl, trivial⟩ (fun _ _ h => h)
                · refine Sp.step rfl rfl rfl rfl ?_
                  refine Sp.step rfl rfl rfl rfl ?_
                  refine Sp.step rfl rfl rfl rfl ?_
                  refine Sp.step rfl rfl rfl rfl ?_
                  refine Sp.step rfl rfl rfl rfl ?_
                  refine Sp.step rfl rfl rfl rfl ?_
                  exact Sp.jmp (l0 := [some (.ref 60), some (.int (M.1 60 42)), some (.int (x6.1 + 0)), some (.int (x6.2 + 1)), none]) ⟨rfl, rfl, rfl, rfl, trivial⟩ (fun _ _ h => h)
          · refine Sp.step rfl rfl rfl rfl ?_
            refine Sp.step rfl rfl rfl rfl ?_
            refine Sp.step rfl rfl rfl rfl ?_
            refine Sp.step rfl rfl rfl rfl ?_
            refine Sp.step rfl rfl rfl rfl ?_
            refine Sp.step rfl rfl rfl (mg_F (f := 41) rfl rfl rfl rfl) ?_
            refine Sp.step rfl rfl rfl rfl ?_
            refine Sp.step rfl rfl rfl (mld rfl rfl (by decide) (by decide)) ?_
            refine Sp.step rfl rfl rfl rfl ?_
            refine Sp.step rfl rfl rfl rfl ?_
            refine Sp.step rfl rfl rfl (mg_F (f := 41) rfl rfl rfl rfl) ?_
            refine Sp.step rfl rfl rfl rfl ?_
            refine Sp.step rfl rfl rfl (mld rfl rfl (by decide) (by decide)) ?_
            refine Sp.step rfl rfl rfl rfl ?_
            refine Sp.if2 rfl rfl rfl rfl (fun e12 => ?_) (fun e12 => ?_)
            · refine Sp.step rfl rfl rfl rfl ?_
              refine Sp.step rfl rfl rfl rfl ?_
              refine Sp.step rfl rfl rfl (mg_I (f := 37) rfl rfl rfl) ?_
              refine Sp.if2 rfl rfl rfl rfl (fun e13 => ?_) (fun e13 => ?_)
              · refine Sp.step rfl rfl rfl rfl ?_
                refine Sp.step rfl rfl rfl rfl ?_
                refine Sp.step rfl rfl rfl rfl ?_
                refine Sp.step rfl rfl rfl rfl ?_
                refine Sp.weak (l0 := [some (.ref 60), some (.int (M.1 60 42)), none, some (.int 0), some (.int 0)]) ⟨rfl, rfl, rfl, rfl, trivial⟩ ?_
                refine Sp.loopX (pe := 189) (mf := (fun (x14 : (Int32 × Int32)) => [some (.ref 60), some (.int (M.1 60 42)), none, some (.int x14.1), some (.int x14.2)])) (hf := (fun (x14 : (Int32 × Int32)) => hS X (mw M 60 42 0))) (fun x14 => ?_) (fun x20 => ?_) _ _
                · unfold b150_M_check
                  refine Sp.step rfl rfl rfl rfl ?_
                  refine Sp.step rfl rfl rfl rfl ?_
                  refine Sp.if2 rfl rfl rfl rfl (fun e15 => ?_) (fun e15 => ?_)
                  · exact Sp.jmp (l0 := [some (.ref 60), some (.int (M.1 60 42)), none, some (.int x14.1), some (.int x14.2)]) ⟨rfl, rfl, rfl, rfl, trivial⟩ (fun _ _ h => h)
                  · refine Sp.step rfl rfl rfl rfl ?_
                    refine Sp.if1 rfl rfl rfl rfl (fun e16 => ?_) (fun e16 => ?_)
                    · exact Sp.jmp (l0 := [some (.ref 60), some (.int (M.1 60 42)), none, some (.int x14.1), some (.int x14.2)]) ⟨rfl, rfl, rfl, rfl, trivial⟩ (fun _ _ h => h)
                    · refine Sp.step rfl rfl rfl rfl ?_
                      refine Sp.step rfl rfl rfl (mg_F (f := 41) rfl rfl rfl rfl) ?_
                      refine Sp.step rfl rfl rfl rfl ?_
                      refine Sp.guard (fun e17 => ?_)
                      refine Sp.step rfl rfl rfl (mld rfl rfl (by decide) e17) ?_
                      refine Sp.step rfl rfl rfl rfl ?_
                      refine Sp.step rfl rfl rfl (mg_F (f := 36) rfl rfl rfl rfl) ?_
                      refine Sp.step rfl rfl rfl rfl ?_
                      refine Sp.guard (fun e18 => ?_)
                      refine Sp.step rfl rfl rfl (mld rfl rfl (by decide) e18) ?_
                      refine Sp.if2 rfl rfl rfl rfl (fun e19 => ?_) (fun e19 => ?_)
                      · refine Sp.step rfl rfl rfl rfl ?_
                        refine Sp.step rfl rfl rfl rfl ?_
                        refine Sp.step rfl rfl rfl rfl ?_
                        refine Sp.step rfl rfl rfl rfl ?_
                        exact Sp.jmp (l0 := [some (.ref 60), some (.int (M.1 60 42)), none, some (.int 0), some (.int (x14.2 + 1))]) ⟨rfl, rfl, rfl, rfl, trivial⟩ (fun _ _ h => h)
                      · refine Sp.step rfl rfl rfl rfl ?_
                        refine Sp.step rfl rfl rfl rfl ?_
                        refine Sp.step rfl rfl rfl rfl ?_
                        refine Sp.step rfl rfl rfl rfl ?_
                        refine Sp.step rfl rfl rfl rfl ?_
                        exact Sp.jmp (l0 := [some (.ref 60), some (.int (M.1 60 42)), none, some (.int 1), some (.int (x14.2 + 1))]) ⟨rfl, rfl, rfl, rfl, trivial⟩ (fun _ _ h => h)
                · refine Sp.step rfl rfl rfl rfl ?_
                  refine Sp.if1 rfl rfl rfl rfl (fun e21 => ?_) (fun e21 => ?_)
                  · refine Sp.step rfl rfl rfl rfl ?_
                    exact Sp.iret rfl rfl rfl rfl (fun _ _ h => h)
                  · refine Sp.step rfl rfl rfl rfl ?_
                    refine Sp.step rfl rfl rfl rfl ?_
                    exact Sp.iret rfl rfl rfl rfl (fun _ _ h => h)
              · refine Sp.step rfl rfl rfl rfl ?_
                refine Sp.step rfl rfl rfl rfl ?_
                refine Sp.step rfl rfl rfl rfl ?_
                refine Sp.step rfl rfl rfl rfl ?_
                refine Sp.step rfl rfl rfl rfl ?_
                refine Sp.weak (l0 := [some (.ref 60), some (.int (M.1 60 42)), none, some (.int 1), some (.int 0)]) ⟨rfl, rfl, rfl, rfl, trivial⟩ ?_
                refine Sp.loopX (pe := 189) (mf := (fun (x22 : (Int32 × Int32)) => [some (.ref 60), some (.int (M.1 60 42)), none, some (.int x22.1), some (.int x22.2)])) (hf := (fun (x22 : (Int32 × Int32)) => hS X (mw M 60 42 0))) (fun x22 => ?_) (fun x28 => ?_) _ _
                · unfold b150_M_check'
                  refine Sp.step rfl rfl rfl rfl ?_
                  refine Sp.step rfl rfl rfl rfl ?_
                  refine Sp.if2 rfl rfl rfl rfl (fun e23 => ?_) (fun e23 => ?_)
                  · exact Sp.jmp (l0 := [some (.ref 60), some (.int (M.1 60 42)), none, some (.int x22.1), some (.int x22.2)]) ⟨rfl, rfl, rfl, rfl, trivial⟩ (fun _ _ h => h)
                  · refine Sp.step rfl rfl rfl rfl ?_
                    refine Sp.if1 rfl rfl rfl rfl (fun e24 => ?_) (fun e24 => ?_)
                    · exact Sp.jmp (l0 := [some (.ref 60), some (.int (M.1 60 42)), none, some (.int x22.1), some (.int x22.2)]) ⟨rfl, rfl, rfl, rfl, trivial⟩ (fun _ _ h => h)
                    · refine Sp.step rfl rfl rfl rfl ?_
                      refine Sp.step rfl rfl rfl (mg_F (f := 41) rfl rfl rfl rfl) ?_
                      refine Sp.step rfl rfl rfl rfl ?_
                      refine Sp.guard (fun e25 => ?_)
                      refine Sp.step rfl rfl rfl (mld rfl rfl (by decide) e25) ?_
                      refine Sp.step rfl rfl rfl rfl ?_
                      refine Sp.step rfl rfl rfl (mg_F (f := 36) rfl rfl rfl rfl) ?_
                      refine Sp.step rfl rfl rfl rfl ?_
                      refine Sp.guard (fun e26 => ?_)
                      refine Sp.step rfl rfl rfl (mld rfl rfl (by decide) e26) ?_
                      refine Sp.if2 rfl rfl rfl rfl (fun e27 => ?_) (fun e27 => ?_)
                      · refine Sp.step rfl rfl rfl rfl ?_
                        refine Sp.step rfl rfl rfl rfl ?_
                        refine Sp.step rfl rfl rfl rfl ?_
                        refine Sp.step rfl rfl rfl rfl ?_
                        exact Sp.jmp (l0 := [some (.ref 60), some (.int (M.1 60 42)), none, some (.int 0), some (.int (x22.2 + 1))]) ⟨rfl, rfl, rfl, rfl, trivial⟩ (fun _ _ h => h)
                      · refine Sp.step rfl rfl rfl rfl ?_
                        refine Sp.step rfl rfl rfl rfl ?_
                        refine Sp.step rfl rfl rfl rfl ?_
                        refine Sp.step rfl rfl rfl rfl ?_
                        refine Sp.step rfl rfl rfl rfl ?_
                        exact Sp.jmp (l0 := [some (.ref 60), some (.int (M.1 60 42)), none, some (.int 1), some (.int (x22.2 + 1))]) ⟨rfl, rfl, rfl, rfl, trivial⟩ (fun _ _ h => h)
                · refine Sp.step rfl rfl rfl rfl ?_
                  refine Sp.if1 rfl rfl rfl rfl (fun e29 => ?_) (fun e29 => ?_)
                  · refine Sp.step rfl rfl rfl rfl ?_
                    exact Sp.iret rfl rfl rfl rfl (fun _ _ h => h)
                  · refine Sp.step rfl rfl rfl rfl ?_
                    refine Sp.step rfl rfl rfl rfl ?_
                    exact Sp.iret rfl rfl rfl rfl (fun _ _ h => h)
            · refine Sp.step rfl rfl rfl rfl ?_
              exact Sp.iret rfl rfl rfl rfl (fun _ _ h => h)
        · refine Sp.step rfl rfl rfl rfl ?_
          exact Sp.iret rfl rfl rfl rfl (fun _ _ h => h)
      · refine Sp.step rfl rfl rfl rfl ?_
        exact Sp.iret rfl rfl rfl rfl (fun _ _ h => h)
def b2_M_copy_95 (x : Int32) (x6 : (Int32 × MS)) : Option ((Int32 × MS) ⊕ (Int32 × MS)) := (if x ≤ x6.1 then some (.inr (x6.1, x6.2)) else (if ixo x6.1 20 then (if ixo (x + x6.1) 20 then (lt (mw x6.2 95 (x + x6.1).toNatClampNeg (x6.2.1 95 x6.1.toNatClampNeg)) fun M10 => some (.inl (x6.1 + 1, M10))) else none) else none))
def f_M_copy_95 (x : Int32) (M : MS) : Option MS := ((lp (b2_M_copy_95 x) 10000 ((0 : Int32), M)).bind fun x11 => some x11.2)
set_option maxRecDepth 100000 in
set_option maxHeartbeats 4000000 in
theorem s_M_copy_95 {L : Nat} {xs : Nat → Int32} {X : XS} {M : MS} {x : Int32} : Sp (mjOO L xs) 58 0 [some (.ref 95), some (.int x), none] [] (hS X M) (f_M_copy_95 x M) (KVM X) := by
  unfold f_M_copy_95
  refine Sp.step rfl rfl rfl rfl ?_
  refine Sp.step rfl rfl rfl rfl ?_
  refine Sp.weak (l0 := [some (.ref 95), some (.int x), some (.int 0)]) ⟨rfl, rfl, rfl, trivial⟩ ?_
  refine Sp.loopX (pe := 21) (mf := (fun (x6 : (Int32 × MS)) => [some (.ref 95), some (.int x), some (.int x6.1)])) (hf := (fun (x6 : (Int32 × MS)) => hS X x6.2)) (fun x6 => ?_) (fun x11 => ?_) _ _
  · unfold b2_M_copy_95
    refine Sp.step rfl rfl rfl rfl ?_
    refine Sp.step rfl rfl rfl rfl ?_
    refine Sp.if2 rfl rfl rfl rfl (fun e7 => ?_) (fun e7 => ?_)
    · exact Sp.jmp (l0 := [some (.ref 95), some (.int x), some (.int x6.1)]) ⟨rfl, rfl, rfl, trivial⟩ (fun _ _ h => h)
    · refine Sp.step rfl rfl rfl rfl ?_
      refine Sp.step rfl rfl rfl rfl ?_
      refine Sp.step rfl rfl rfl rfl ?_
      refine Sp.step rfl rfl rfl rfl ?_
      refine Sp.step rfl rfl rfl rfl ?_
      refine Sp.step rfl rfl rfl rfl ?_
      refine Sp.guard (fun e8 => ?_)
      refine Sp.step rfl rfl rfl (mld rfl rfl (by decide) e8) ?_
      refine Sp.guard (fun e9 => ?_)
      refine Sp.step rfl rfl rfl (mst rfl rfl (by decide) e9) ?_
      refine Sp.step rfl rfl rfl rfl ?_
      refine Sp.step rfl rfl rfl rfl ?_
      exact Sp.jmp (l0 := [some (.ref 95), some (.int x), some (.int (x6.1 + 1))]) ⟨rfl, rfl, rfl, trivial⟩ (fun _ _ h => h)
  · exact Sp.vret rfl rfl rfl (fun _ _ h => h)
def b2_M_copy_96 (x : Int32) (x6 : (Int32 × MS)) : Option ((Int32 × MS) ⊕ (Int32 × MS)) := (if x ≤ x6.1 then some (.inr (x6.1, x6.2)) else (if ixo x6.1 20 then (if ixo (x + x6.1) 20 then (lt (mw x6.2 96 (x + x6.1).toNatClampNeg (x6.2.1 96 x6.1.toNatClampNeg)) fun M10 => some (.inl (x6.1 + 1, M10))) else none) else none))
def f_M_copy_96 (x : Int32) (M : MS) : Option MS := ((lp (b2_M_copy_96 x) 10000 ((0 : Int32), M)).bind fun x11 => some x11.2)
set_option maxRecDepth 100000 in
set_option maxHeartbeats 4000000 in
theorem s_M_copy_96 {L : Nat} {xs : Nat → Int32} {X : XS} {M : MS} {x : Int32} : Sp (mjOO L xs) 58 0 [some (.ref 96), some (.int x), none] [] (hS X M) (f_M_copy_96 x M) (KVM X) := by
  unfold f_M_copy_96
  refine Sp.step rfl rfl rfl rfl ?_
  refine Sp.step rfl rfl rfl rfl ?_
  refine Sp.weak (l0 := [some (.ref 96), some (.int x), some (.int 0)]) ⟨rfl, rfl, rfl, trivial⟩ ?_
  refine Sp.loopX (pe := 21) (mf := (fun (x6 : (Int32 × MS)) => [some (.ref 96), some (.int x), some (.int x6.1)])) (hf := (fun (x6 : (Int32 × MS)) => hS X x6.2)) (fun x6 => ?_) (fun x11 => ?_) _ _
  · unfold b2_M_copy_96
    refine Sp.step rfl rfl rfl rfl ?_
    refine Sp.step rfl rfl rfl rfl ?_
    refine Sp.if2 rfl rfl rfl rfl (fun e7 => ?_) (fun e7 => ?_)
    · exact Sp.jmp (l0 := [some (.ref 96), some (.int x), some (.int x6.1)]) ⟨rfl, rfl, rfl, trivial⟩ (fun _ _ h => h)
    · refine Sp.step rfl rfl rfl rfl ?_
      refine Sp.step rfl rfl rfl rfl ?_
      refine Sp.step rfl rfl rfl rfl ?_
      refine Sp.step rfl rfl rfl rfl ?_
      refine Sp.step rfl rfl rfl rfl ?_
      refine Sp.step rfl rfl rfl rfl ?_
      refine Sp.guard (fun e8 => ?_)
      refine Sp.step rfl rfl rfl (mld rfl rfl (by decide) e8) ?_
      refine Sp.guard (fun e9 => ?_)
      refine Sp.step rfl rfl rfl (mst rfl rfl (by decide) e9) ?_
      refine Sp.step rfl rfl rfl rfl ?_
      refine Sp.step rfl rfl rfl rfl ?_
      exact Sp.jmp (l0 := [some (.ref 96), some (.int x), some (.int (x6.1 + 1))]) ⟨rfl, rfl, rfl, trivial⟩ (fun _ _ h => h)
  · exact Sp.vret rfl rfl rfl (fun _ _ h => h)
def b2_M_copy_97 (x : Int32) (x6 : (Int32 × MS)) : Option ((Int32 × MS) ⊕ (Int32 × MS)) := (if x ≤ x6.1 then some (.inr (x6.1, x6.2)) else (if ixo x6.1 20 then (if ixo (x + x6.1) 20 then (lt (mw x6.2 97 (x + x6.1).toNatClampNeg (x6.2.1 97 x6.1.toNatClampNeg)) fun M10 => some (.inl (x6.1 + 1, M10))) else none) else none))
def f_M_copy_97 (x : Int32) (M : MS) : Option MS := ((lp (b2_M_copy_97 x) 10000 ((0 : Int32), M)).bind fun x11 => some x11.2)
set_option maxRecDepth 100000 in
set_option maxHeartbeats 4000000 in
theorem s_M_copy_97 {L : Nat} {xs : Nat → Int32} {X : XS} {M : MS} {x : Int32} : Sp (mjOO L xs) 58 0 [some (.ref 97), some (.int x), none] [] (hS X M) (f_M_copy_97 x M) (KVM X) := by
  unfold f_M_copy_97
  refine Sp.step rfl rfl rfl rfl ?_
  refine Sp.step rfl rfl rfl rfl ?_
  refine Sp.weak (l0 := [some (.ref 97), some (.int x), some (.int 0)]) ⟨rfl, rfl, rfl, trivial⟩ ?_
  refine Sp.loopX (pe := 21) (mf := (fun (x6 : (Int32 × MS)) => [some (.ref 97), some (.int x), some (.int x6.1)])) (hf := (fun (x6 : (Int32 × MS)) => hS X x6.2)) (fun x6 => ?_) (fun x11 => ?_) _ _
  · unfold b2_M_copy_97
    refine Sp.step rfl rfl rfl rfl ?_
    refine Sp.step rfl rfl rfl rfl ?_
    refine Sp.if2 rfl rfl rfl rfl (fun e7 => ?_) (fun e7 => ?_)
    · exact Sp.jmp (l0 := [some (.ref 97), some (.int x), some (.int x6.1)]) ⟨rfl, rfl, rfl, trivial⟩ (fun _ _ h => h)
    · refine Sp.step rfl rfl rfl rfl ?_
      refine Sp.step rfl rfl rfl rfl ?_
      refine Sp.step rfl rfl rfl rfl ?_
      refine Sp.step rfl rfl rfl rfl ?_
      refine Sp.step rfl rfl rfl rfl ?_
      refine Sp.step rfl rfl rfl rfl ?_
      refine Sp.guard (fun e8 => ?_)
      refine Sp.step rfl rfl rfl (mld rfl rfl (by decide) e8) ?_
      refine Sp.guard (fun e9 => ?_)
      refine Sp.step rfl rfl rfl (mst rfl rfl (by decide) e9) ?_
      refine Sp.step rfl rfl rfl rfl ?_
      refine Sp.step rfl rfl rfl rfl ?_
      exact Sp.jmp (l0 := [some (.ref 97), some (.int x), some (.int (x6.1 + 1))]) ⟨rfl, rfl, rfl, trivial⟩ (fun _ _ h => h)
  · exact Sp.vret rfl rfl rfl (fun _ _ h => h)
def b2_M_copy_98 (x : Int32) (x6 : (Int32 × MS)) : Option ((Int32 × MS) ⊕ (Int32 × MS)) := (if x ≤ x6.1 then some (.inr (x6.1, x6.2)) else (if ixo x6.1 160 then (if ixo (x + x6.1) 160 then (lt (mw x6.2 98 (x + x6.1).toNatClampNeg (x6.2.1 98 x6.1.toNatClampNeg)) fun M10 => some (.inl (x6.1 + 1, M10))) else none) else none))
def f_M_copy_98 (x : Int32) (M : MS) : Option MS := ((lp (b2_M_copy_98 x) 10000 ((0 : Int32), M)).bind fun x11 => some x11.2)
set_option maxRecDepth 100000 in
set_option maxHeartbeats 4000000 in
theorem s_M_copy_98 {L : Nat} {xs : Nat → Int32} {X : XS} {M : MS} {x : Int32} : Sp (mjOO L xs) 58 0 [some (.ref 98), some (.int x), none] [] (hS X M) (f_M_copy_98 x M) (KVM X) := by
  unfold f_M_copy_98
  refine Sp.step rfl rfl rfl rfl ?_
  refine Sp.step rfl rfl rfl rfl ?_
  refine Sp.weak (l0 := [some (.ref 98), some (.int x), some (.int 0)]) ⟨rfl, rfl, rfl, trivial⟩ ?_
  refine Sp.loopX (pe := 21) (mf := (fun (x6 : (Int32 × MS)) => [some (.ref 98), some (.int x), some (.int x6.1)])) (hf := (fun (x6 : (Int32 × MS)) => hS X x6.2)) (fun x6 => ?_) (fun x11 => ?_) _ _
  · unfold b2_M_copy_98
    refine Sp.step rfl rfl rfl rfl ?_
    refine Sp.step rfl rfl rfl rfl ?_
    refine Sp.if2 rfl rfl rfl rfl (fun e7 => ?_) (fun e7 => ?_)
    · exact Sp.jmp (l0 := [some (.ref 98), some (.int x), some (.int x6.1)]) ⟨rfl, rfl, rfl, trivial⟩ (fun _ _ h => h)
    · refine Sp.step rfl rfl rfl rfl ?_
      refine Sp.step rfl rfl rfl rfl ?_
      refine Sp.step rfl rfl rfl rfl ?_
      refine Sp.step rfl rfl rfl rfl ?_
      refine Sp.step rfl rfl rfl rfl ?_
      refine Sp.step rfl rfl rfl rfl ?_
      refine Sp.guard (fun e8 => ?_)
      refine Sp.step rfl rfl rfl (mld rfl rfl (by decide) e8) ?_
      refine Sp.guard (fun e9 => ?_)
      refine Sp.step rfl rfl rfl (mst rfl rfl (by decide) e9) ?_
      refine Sp.step rfl rfl rfl rfl ?_
      refine Sp.step rfl rfl rfl rfl ?_
      exact Sp.jmp (l0 := [some (.ref 98), some (.int x), some (.int (x6.1 + 1))]) ⟨rfl, rfl, rfl, trivial⟩ (fun _ _ h => h)
  · exact Sp.vret rfl rfl rfl (fun _ _ h => h)
def b2_M_copy_99 (x : Int32) (x6 : (Int32 × MS)) : Option ((Int32 × MS) ⊕ (Int32 × MS)) := (if x ≤ x6.1 then some (.inr (x6.1, x6.2)) else (if ixo x6.1 48 then (if ixo (x + x6.1) 48 then (lt (mw x6.2 99 (x + x6.1).toNatClampNeg (x6.2.1 99 x6.1.toNatClampNeg)) fun M10 => some (.inl (x6.1 + 1, M10))) else none) else none))
def f_M_copy_99 (x : Int32) (M : MS) : Option MS := ((lp (b2_M_copy_99 x) 10000 ((0 : Int32), M)).bind fun x11 => some x11.2)
set_option maxRecDepth 100000 in
set_option maxHeartbeats 4000000 in
theorem s_M_copy_99 {L : Nat} {xs : Nat → Int32} {X : XS} {M : MS} {x : Int32} : Sp (mjOO L xs) 58 0 [some (.ref 99), some (.int x), none] [] (hS X M) (f_M_copy_99 x M) (KVM X) := by
  unfold f_M_copy_99
  refine Sp.step rfl rfl rfl rfl ?_
  refine Sp.step rfl rfl rfl rfl ?_
  refine Sp.weak (l0 := [some (.ref 99), some (.int x), some (.int 0)]) ⟨rfl, rfl, rfl, trivial⟩ ?_
  refine Sp.loopX (pe := 21) (mf := (fun (x6 : (Int32 × MS)) => [some (.ref 99), some (.int x), some (.int x6.1)])) (hf := (fun (x6 : (Int32 × MS)) => hS X x6.2)) (fun x6 => ?_) (fun x11 => ?_) _ _
  · unfold b2_M_copy_99
    refine Sp.step rfl rfl rfl rfl ?_
    refine Sp.step rfl rfl rfl rfl ?_
    refine Sp.if2 rfl rfl rfl rfl (fun e7 => ?_) (fun e7 => ?_)
    · exact Sp.jmp (l0 := [some (.ref 99), some (.int x), some (.int x6.1)]) ⟨rfl, rfl, rfl, trivial⟩ (fun _ _ h => h)
    · refine Sp.step rfl rfl rfl rfl ?_
      refine Sp.step rfl rfl rfl rfl ?_
      refine Sp.step rfl rfl rfl rfl ?_
      refine Sp.step rfl rfl rfl rfl ?_
      refine Sp.step rfl rfl rfl rfl ?_
      refine Sp.step rfl rfl rfl rfl ?_
      refine Sp.guard (fun e8 => ?_)
      refine Sp.step rfl rfl rfl (mld rfl rfl (by decide) e8) ?_
      refine Sp.guard (fun e9 => ?_)
      refine Sp.step rfl rfl rfl (mst rfl rfl (by decide) e9) ?_
      refine Sp.step rfl rfl rfl rfl ?_
      refine Sp.step rfl rfl rfl rfl ?_
      exact Sp.jmp (l0 := [some (.ref 99), some (.int x), some (.int (x6.1 + 1))]) ⟨rfl, rfl, rfl, trivial⟩ (fun _ _ h => h)
  · exact Sp.vret rfl rfl rfl (fun _ _ h => h)
def b2_M_copy_100 (x : Int32) (x6 : (Int32 × MS)) : Option ((Int32 × MS) ⊕ (Int32 × MS)) := (if x ≤ x6.1 then some (.inr (x6.1, x6.2)) else (if ixo x6.1 48 then (if ixo (x + x6.1) 48 then (lt (mw x6.2 100 (x + x6.1).toNatClampNeg (x6.2.1 100 x6.1.toNatClampNeg)) fun M10 => some (.inl (x6.1 + 1, M10))) else none) else none))
def f_M_copy_100 (x : Int32) (M : MS) : Option MS := ((lp (b2_M_copy_100 x) 10000 ((0 : Int32), M)).bind fun x11 => some x11.2)
set_option maxRecDepth 100000 in
set_option maxHeartbeats 4000000 in
theorem s_M_copy_100 {L : Nat} {xs : Nat → Int32} {X : XS} {M : MS} {x : Int32} : Sp (mjOO L xs) 58 0 [some (.ref 100), some (.int x), none] [] (hS X M) (f_M_copy_100 x M) (KVM X) := by
  unfold f_M_copy_100
  refine Sp.step rfl rfl rfl rfl ?_
  refine Sp.step rfl rfl rfl rfl ?_
  refine Sp.weak (l0 := [some (.ref 100), some (.int x), some (.int 0)]) ⟨rfl, rfl, rfl, trivial⟩ ?_
  refine Sp.loopX (pe := 21) (mf := (fun (x6 : (Int32 × MS)) => [some (.ref 100), some (.int x), some (.int x6.1)])) (hf := (fun (x6 : (Int32 × MS)) => hS X x6.2)) (fun x6 => ?_) (fun x11 => ?_) _ _
  · unfold b2_M_copy_100
    refine Sp.step rfl rfl rfl rfl ?_
    refine Sp.step rfl rfl rfl rfl ?_
    refine Sp.if2 rfl rfl rfl rfl (fun e7 => ?_) (fun e7 => ?_)
    · exact Sp.jmp (l0 := [some (.ref 100), some (.int x), some (.int x6.1)]) ⟨rfl, rfl, rfl, trivial⟩ (fun _ _ h => h)
    · refine Sp.step rfl rfl rfl rfl ?_
      refine Sp.step rfl rfl rfl rfl ?_
      refine Sp.step rfl rfl rfl rfl ?_
      refine Sp.step rfl rfl rfl rfl ?_
      refine Sp.step rfl rfl rfl rfl ?_
      refine Sp.step rfl rfl rfl rfl ?_
      refine Sp.guard (fun e8 => ?_)
      refine Sp.step rfl rfl rfl (mld rfl rfl (by decide) e8) ?_
      refine Sp.guard (fun e9 => ?_)
      refine Sp.step rfl rfl rfl (mst rfl rfl (by decide) e9) ?_
      refine Sp.step rfl rfl rfl rfl ?_
      refine Sp.step rfl rfl rfl rfl ?_
      exact Sp.jmp (l0 := [some (.ref 100), some (.int x), some (.int (x6.1 + 1))]) ⟨rfl, rfl, rfl, trivial⟩ (fun _ _ h => h)
  · exact Sp.vret rfl rfl rfl (fun _ _ h => h)
def b2_M_copy_101 (x : Int32) (x6 : (Int32 × MS)) : Option ((Int32 × MS) ⊕ (Int32 × MS)) := (if x ≤ x6.1 then some (.inr (x6.1, x6.2)) else (if ixo x6.1 48 then (if ixo (x + x6.1) 48 then (lt (mw x6.2 101 (x + x6.1).toNatClampNeg (x6.2.1 101 x6.1.toNatClampNeg)) fun M10 => some (.inl (x6.1 + 1, M10))) else none) else none))
def f_M_copy_101 (x : Int32) (M : MS) : Option MS := ((lp (b2_M_copy_101 x) 10000 ((0 : Int32), M)).bind fun x11 => some x11.2)
set_option maxRecDepth 100000 in
set_option maxHeartbeats 4000000 in
theorem s_M_copy_101 {L : Nat} {xs : Nat → Int32} {X : XS} {M : MS} {x : Int32} : Sp (mjOO L xs) 58 0 [some (.ref 101), some (.int x), none] [] (hS X M) (f_M_copy_101 x M) (KVM X) := by
  unfold f_M_copy_101
  refine Sp.step rfl rfl rfl rfl ?_
  refine Sp.step rfl rfl rfl rfl ?_
  refine Sp.weak (l0 := [some (.ref 101), some (.int x), some (.int 0)]) ⟨rfl, rfl, rfl, trivial⟩ ?_
  refine Sp.loopX (pe := 21) (mf := (fun (x6 : (Int32 × MS)) => [some (.ref 101), some (.int x), some (.int x6.1)])) (hf := (fun (x6 : (Int32 × MS)) => hS X x6.2)) (fun x6 => ?_) (fun x11 => ?_) _ _
  · unfold b2_M_copy_101
    refine Sp.step rfl rfl rfl rfl ?_
    refine Sp.step rfl rfl rfl rfl ?_
    refine Sp.if2 rfl rfl rfl rfl (fun e7 => ?_) (fun e7 => ?_)
    · exact Sp.jmp (l0 := [some (.ref 101), some (.int x), some (.int x6.1)]) ⟨rfl, rfl, rfl, trivial⟩ (fun _ _ h => h)
    · refine Sp.step rfl rfl rfl rfl ?_
      refine Sp.step rfl rfl rfl rfl ?_
      refine Sp.step rfl rfl rfl rfl ?_
      refine Sp.step rfl rfl rfl rfl ?_
      refine Sp.step rfl rfl rfl rfl ?_
      refine Sp.step rfl rfl rfl rfl ?_
      refine Sp.guard (fun e8 => ?_)
      refine Sp.step rfl rfl rfl (mld rfl rfl (by decide) e8) ?_
      refine Sp.guard (fun e9 => ?_)
      refine Sp.step rfl rfl rfl (mst rfl rfl (by decide) e9) ?_
      refine Sp.step rfl rfl rfl rfl ?_
      refine Sp.step rfl rfl rfl rfl ?_
      exact Sp.jmp (l0 := [some (.ref 101), some (.int x), some (.int (x6.1 + 1))]) ⟨rfl, rfl, rfl, trivial⟩ (fun _ _ h => h)
  · exact Sp.vret rfl rfl rfl (fun _ _ h => h)
def b2_M_copy_102 (x : Int32) (x6 : (Int32 × MS)) : Option ((Int32 × MS) ⊕ (Int32 × MS)) := (if x ≤ x6.1 then some (.inr (x6.1, x6.2)) else (if ixo x6.1 48 then (if ixo (x + x6.1) 48 then (lt (mw x6.2 102 (x + x6.1).toNatClampNeg (x6.2.1 102 x6.1.toNatClampNeg)) fun M10 => some (.inl (x6.1 + 1, M10))) else none) else none))
def f_M_copy_102 (x : Int32) (M : MS) : Option MS := ((lp (b2_M_copy_102 x) 10000 ((0 : Int32), M)).bind fun x11 => some x11.2)
set_option maxRecDepth 100000 in
set_option maxHeartbeats 4000000 in
theorem s_M_copy_102 {L : Nat} {xs : Nat → Int32} {X : XS} {M : MS} {x : Int32} : Sp (mjOO L xs) 58 0 [some (.ref 102), some (.int x), none] [] (hS X M) (f_M_copy_102 x M) (KVM X) := by
  unfold f_M_copy_102
  refine Sp.step rfl rfl rfl rfl ?_
  refine Sp.step rfl rfl rfl rfl ?_
  refine Sp.weak (l0 := [some (.ref 102), some (.int x), some (.int 0)]) ⟨rfl, rfl, rfl, trivial⟩ ?_
  refine Sp.loopX (pe := 21) (mf := (fun (x6 : (Int32 × MS)) => [some (.ref 102), some (.int x), some (.int x6.1)])) (hf := (fun (x6 : (Int32 × MS)) => hS X x6.2)) (fun x6 => ?_) (fun x11 => ?_) _ _
  · unfold b2_M_copy_102
    refine Sp.step rfl rfl rfl rfl ?_
    refine Sp.step rfl rfl rfl rfl ?_
    refine Sp.if2 rfl rfl rfl rfl (fun e7 => ?_) (fun e7 => ?_)
    · exact Sp.jmp (l0 := [some (.ref 102), some (.int x), some (.int x6.1)]) ⟨rfl, rfl, rfl, trivial⟩ (fun _ _ h => h)
    · refine Sp.step rfl rfl rfl rfl ?_
      refine Sp.step rfl rfl rfl rfl ?_
      refine Sp.step rfl rfl rfl rfl ?_
      refine Sp.step rfl rfl rfl rfl ?_
      refine Sp.step rfl rfl rfl rfl ?_
      refine Sp.step rfl rfl rfl rfl ?_
      refine Sp.guard (fun e8 => ?_)
      refine Sp.step rfl rfl rfl (mld rfl rfl (by decide) e8) ?_
      refine Sp.guard (fun e9 => ?_)
      refine Sp.step rfl rfl rfl (mst rfl rfl (by decide) e9) ?_
      refine Sp.step rfl rfl rfl rfl ?_
      refine Sp.step rfl rfl rfl rfl ?_
      exact Sp.jmp (l0 := [some (.ref 102), some (.int x), some (.int (x6.1 + 1))]) ⟨rfl, rfl, rfl, trivial⟩ (fun _ _ h => h)
  · exact Sp.vret rfl rfl rfl (fun _ _ h => h)
def b2_M_copy_103 (x : Int32) (x6 : (Int32 × MS)) : Option ((Int32 × MS) ⊕ (Int32 × MS)) := (if x ≤ x6.1 then some (.inr (x6.1, x6.2)) else (if ixo x6.1 2880 then (if ixo (x + x6.1) 2880 then (lt (mw x6.2 103 (x + x6.1).toNatClampNeg (x6.2.1 103 x6.1.toNatClampNeg)) fun M10 => some (.inl (x6.1 + 1, M10))) else none) else none))
def f_M_copy_103 (x : Int32) (M : MS) : Option MS := ((lp (b2_M_copy_103 x) 10000 ((0 : Int32), M)).bind fun x11 => some x11.2)
set_option maxRecDepth 100000 in
set_option maxHeartbeats 4000000 in
theorem s_M_copy_103 {L : Nat} {xs : Nat → Int32} {X : XS} {M : MS} {x : Int32} : Sp (mjOO L xs) 58 0 [some (.ref 103), some (.int x), none] [] (hS X M) (f_M_copy_103 x M) (KVM X) := by
  unfold f_M_copy_103
  refine Sp.step rfl rfl rfl rfl ?_
  refine Sp.step rfl rfl rfl rfl ?_
  refine Sp.weak (l0 := [some (.ref 103), some (.int x), some (.int 0)]) ⟨rfl, rfl, rfl, trivial⟩ ?_
  refine Sp.loopX (pe := 21) (mf := (fun (x6 : (Int32 × MS)) => [some (.ref 103), some (.int x), some (.int x6.1)])) (hf := (fun (x6 : (Int32 × MS)) => hS X x6.2)) (fun x6 => ?_) (fun x11 => ?_) _ _
  · unfold b2_M_copy_103
    refine Sp.step rfl rfl rfl rfl ?_
    refine Sp.step rfl rfl rfl rfl ?_
    refine Sp.if2 rfl rfl rfl rfl (fun e7 => ?_) (fun e7 => ?_)
    · exact Sp.jmp (l0 := [some (.ref 103), some (.int x), some (.int x6.1)]) ⟨rfl, rfl, rfl, trivial⟩ (fun _ _ h => h)
    · refine Sp.step rfl rfl rfl rfl ?_
      refine Sp.step rfl rfl rfl rfl ?_
      refine Sp.step rfl rfl rfl rfl ?_
      refine Sp.step rfl rfl rfl rfl ?_
      refine Sp.step rfl rfl rfl rfl ?_
      refine Sp.step rfl rfl rfl rfl ?_
      refine Sp.guard (fun e8 => ?_)
      refine Sp.step rfl rfl rfl (mld rfl rfl (by decide) e8) ?_
      refine Sp.guard (fun e9 => ?_)
      refine Sp.step rfl rfl rfl (mst rfl rfl (by decide) e9) ?_
      refine Sp.step rfl rfl rfl rfl ?_
      refine Sp.step rfl rfl rfl rfl ?_
      exact Sp.jmp (l0 := [some (.ref 103), some (.int x), some (.int (x6.1 + 1))]) ⟨rfl, rfl, rfl, trivial⟩ (fun _ _ h => h)
  · exact Sp.vret rfl rfl rfl (fun _ _ h => h)
def b2_M_copy_104 (x : Int32) (x6 : (Int32 × MS)) : Option ((Int32 × MS) ⊕ (Int32 × MS)) := (if x ≤ x6.1 then some (.inr (x6.1, x6.2)) else (if ixo x6.1 2880 then (if ixo (x + x6.1) 2880 then (lt (mw x6.2 104 (x + x6.1).toNatClampNeg (x6.2.1 104 x6.1.toNatClampNeg)) fun M10 => some (.inl (x6.1 + 1, M10))) else none) else none))
def f_M_copy_104 (x : Int32) (M : MS) : Option MS := ((lp (b2_M_copy_104 x) 10000 ((0 : Int32), M)).bind fun x11 => some x11.2)
set_option maxRecDepth 100000 in
set_option maxHeartbeats 4000000 in
theorem s_M_copy_104 {L : Nat} {xs : Nat → Int32} {X : XS} {M : MS} {x : Int32} : Sp (mjOO L xs) 58 0 [some (.ref 104), some (.int x), none] [] (hS X M) (f_M_copy_104 x M) (KVM X) := by
  unfold f_M_copy_104
  refine Sp.step rfl rfl rfl rfl ?_
  refine Sp.step rfl rfl rfl rfl ?_
  refine Sp.weak (l0 := [some (.ref 104), some (.int x), some (.int 0)]) ⟨rfl, rfl, rfl, trivial⟩ ?_
  refine Sp.loopX (pe := 21) (mf := (fun (x6 : (Int32 × MS)) => [some (.ref 104), some (.int x), some (.int x6.1)])) (hf := (fun (x6 : (Int32 × MS)) => hS X x6.2)) (fun x6 => ?_) (fun x11 => ?_) _ _
  · unfold b2_M_copy_104
    refine Sp.step rfl rfl rfl rfl ?_
    refine Sp.step rfl rfl rfl rfl ?_
    refine Sp.if2 rfl rfl rfl rfl (fun e7 => ?_) (fun e7 => ?_)
    · exact Sp.jmp (l0 := [some (.ref 104), some (.int x), some (.int x6.1)]) ⟨rfl, rfl, rfl, trivial⟩ (fun _ _ h => h)
    · refine Sp.step rfl rfl rfl rfl ?_
      refine Sp.step rfl rfl rfl rfl ?_
      refine Sp.step rfl rfl rfl rfl ?_
      refine Sp.step rfl rfl rfl rfl ?_
      refine Sp.step rfl rfl rfl rfl ?_
      refine Sp.step rfl rfl rfl rfl ?_
      refine Sp.guard (fun e8 => ?_)
      refine Sp.step rfl rfl rfl (mld rfl rfl (by decide) e8) ?_
      refine Sp.guard (fun e9 => ?_)
      refine Sp.step rfl rfl rfl (mst rfl rfl (by decide) e9) ?_
      refine Sp.step rfl rfl rfl rfl ?_
      refine Sp.step rfl rfl rfl rfl ?_
      exact Sp.jmp (l0 := [some (.ref 104), some (.int x), some (.int (x6.1 + 1))]) ⟨rfl, rfl, rfl, trivial⟩ (fun _ _ h => h)
  · exact Sp.vret rfl rfl rfl (fun _ _ h => h)
def b2_M_copy_108 (x : Int32) (x6 : (Int32 × MS)) : Option ((Int32 × MS) ⊕ (Int32 × MS)) := (if x ≤ x6.1 then some (.inr (x6.1, x6.2)) else (if ixo x6.1 2880 then (if ixo (x + x6.1) 2880 then (lt (mw x6.2 108 (x + x6.1).toNatClampNeg (x6.2.1 108 x6.1.toNatClampNeg)) fun M10 => some (.inl (x6.1 + 1, M10))) else none) else none))
def f_M_copy_108 (x : Int32) (M : MS) : Option MS := ((lp (b2_M_copy_108 x) 10000 ((0 : Int32), M)).bind fun x11 => some x11.2)
set_option maxRecDepth 100000 in
set_option maxHeartbeats 4000000 in
theorem s_M_copy_108 {L : Nat} {xs : Nat → Int32} {X : XS} {M : MS} {x : Int32} : Sp (mjOO L xs) 58 0 [some (.ref 108), some (.int x), none] [] (hS X M) (f_M_copy_108 x M) (KVM X) := by
  unfold f_M_copy_108
  refine Sp.step rfl rfl rfl rfl ?_
  refine Sp.step rfl rfl rfl rfl ?_
  refine Sp.weak (l0 := [some (.ref 108), some (.int x), some (.int 0)]) ⟨rfl, rfl, rfl, trivial⟩ ?_
  refine Sp.loopX (pe := 21) (mf := (fun (x6 : (Int32 × MS)) => [some (.ref 108), some (.int x), some (.int x6.1)])) (hf := (fun (x6 : (Int32 × MS)) => hS X x6.2)) (fun x6 => ?_) (fun x11 => ?_) _ _
  · unfold b2_M_copy_108
    refine Sp.step rfl rfl rfl rfl ?_
    refine Sp.step rfl rfl rfl rfl ?_
    refine Sp.if2 rfl rfl rfl rfl (fun e7 => ?_) (fun e7 => ?_)
    · exact Sp.jmp (l0 := [some (.ref 108), some (.int x), some (.int x6.1)]) ⟨rfl, rfl, rfl, trivial⟩ (fun _ _ h => h)
    · refine Sp.step rfl rfl rfl rfl ?_
      refine Sp.step rfl rfl rfl rfl ?_
      refine Sp.step rfl rfl rfl rfl ?_
      refine Sp.step rfl rfl rfl rfl ?_
      refine Sp.step rfl rfl rfl rfl ?_
      refine Sp.step rfl rfl rfl rfl ?_
      refine Sp.guard (fun e8 => ?_)
      refine Sp.step rfl rfl rfl (mld rfl rfl (by decide) e8) ?_
      refine Sp.guard (fun e9 => ?_)
      refine Sp.step rfl rfl rfl (mst rfl rfl (by decide) e9) ?_
      refine Sp.step rfl rfl rfl rfl ?_
      refine Sp.step rfl rfl rfl rfl ?_
      exact Sp.jmp (l0 := [some (.ref 108), some (.int x), some (.int (x6.1 + 1))]) ⟨rfl, rfl, rfl, trivial⟩ (fun _ _ h => h)
  · exact Sp.vret rfl rfl rfl (fun _ _ h => h)
def b2_M_copy_105 (x : Int32) (x6 : (Int32 × MS)) : Option ((Int32 × MS) ⊕ (Int32 × MS)) := (if x ≤ x6.1 then some (.inr (x6.1, x6.2)) else (if ixo x6.1 48 then (if ixo (x + x6.1) 48 then (lt (mw x6.2 105 (x + x6.1).toNatClampNeg (x6.2.1 105 x6.1.toNatClampNeg)) fun M10 => some (.inl (x6.1 + 1, M10))) else none) else none))
def f_M_copy_105 (x : Int32) (M : MS) : Option MS := ((lp (b2_M_copy_105 x) 10000 ((0 : Int32), M)).bind fun x11 => some x11.2)
set_option maxRecDepth 100000 in
set_option maxHeartbeats 4000000 in
theorem s_M_copy_105 {L : Nat} {xs : Nat → Int32} {X : XS} {M : MS} {x : Int32} : Sp (mjOO L xs) 58 0 [some (.ref 105), some (.int x), none] [] (hS X M) (f_M_copy_105 x M) (KVM X) := by
  unfold f_M_copy_105
  refine Sp.step rfl rfl rfl rfl ?_
  refine Sp.step rfl rfl rfl rfl ?_
  refine Sp.weak (l0 := [some (.ref 105), some (.int x), some (.int 0)]) ⟨rfl, rfl, rfl, trivial⟩ ?_
  refine Sp.loopX (pe := 21) (mf := (fun (x6 : (Int32 × MS)) => [some (.ref 105), some (.int x), some (.int x6.1)])) (hf := (fun (x6 : (Int32 × MS)) => hS X x6.2)) (fun x6 => ?_) (fun x11 => ?_) _ _
  · unfold b2_M_copy_105
    refine Sp.step rfl rfl rfl rfl ?_
    refine Sp.step rfl rfl rfl rfl ?_
    refine Sp.if2 rfl rfl rfl rfl (fun e7 => ?_) (fun e7 => ?_)
    · exact Sp.jmp (l0 := [some (.ref 105), some (.int x), some (.int x6.1)]) ⟨rfl, rfl, rfl, trivial⟩ (fun _ _ h => h)
    · refine Sp.step rfl rfl rfl rfl ?_
      refine Sp.step rfl rfl rfl rfl ?_
      refine Sp.step rfl rfl rfl rfl ?_
      refine Sp.step rfl rfl rfl rfl ?_
      refine Sp.step rfl rfl rfl rfl ?_
      refine Sp.step rfl rfl rfl rfl ?_
      refine Sp.guard (fun e8 => ?_)
      refine Sp.step rfl rfl rfl (mld rfl rfl (by decide) e8) ?_
      refine Sp.guard (fun e9 => ?_)
      refine Sp.step rfl rfl rfl (mst rfl rfl (by decide) e9) ?_
      refine Sp.step rfl rfl rfl rfl ?_
      refine Sp.step rfl rfl rfl rfl ?_
      exact Sp.jmp (l0 := [some (.ref 105), some (.int x), some (.int (x6.1 + 1))]) ⟨rfl, rfl, rfl, trivial⟩ (fun _ _ h => h)
  · exact Sp.vret rfl rfl rfl (fun _ _ h => h)
def b2_M_copy_106 (x : Int32) (x6 : (Int32 × MS)) : Option ((Int32 × MS) ⊕ (Int32 × MS)) := (if x ≤ x6.1 then some (.inr (x6.1, x6.2)) else (if ixo x6.1 1152 then (if ixo (x + x6.1) 1152 then (lt (mw x6.2 106 (x + x6.1).toNatClampNeg (x6.2.1 106 x6.1.toNatClampNeg)) fun M10 => some (.inl (x6.1 + 1, M10))) else none) else none))
def f_M_copy_106 (x : Int32) (M : MS) : Option MS := ((lp (b2_M_copy_106 x) 10000 ((0 : Int32), M)).bind fun x11 => some x11.2)
set_option maxRecDepth 100000 in
set_option maxHeartbeats 4000000 in
theorem s_M_copy_106 {L : Nat} {xs : Nat → Int32} {X : XS} {M : MS} {x : Int32} : Sp (mjOO L xs) 58 0 [some (.ref 106), some (.int x), none] [] (hS X M) (f_M_copy_106 x M) (KVM X) := by
  unfold f_M_copy_106
  refine Sp.step rfl rfl rfl rfl ?_
  refine Sp.step rfl rfl rfl rfl ?_
  refine Sp.weak (l0 := [some (.ref 106), some (.int x), some (.int 0)]) ⟨rfl, rfl, rfl, trivial⟩ ?_
  refine Sp.loopX (pe := 21) (mf := (fun (x6 : (Int32 × MS)) => [some (.ref 106), some (.int x), some (.int x6.1)])) (hf := (fun (x6 : (Int32 × MS)) => hS X x6.2)) (fun x6 => ?_) (fun x11 => ?_) _ _
  · unfold b2_M_copy_106
    refine Sp.step rfl rfl rfl rfl ?_
    refine Sp.step rfl rfl rfl rfl ?_
    refine Sp.if2 rfl rfl rfl rfl (fun e7 => ?_) (fun e7 => ?_)
    · exact Sp.jmp (l0 := [some (.ref 106), some (.int x), some (.int x6.1)]) ⟨rfl, rfl, rfl, trivial⟩ (fun _ _ h => h)
    · refine Sp.step rfl rfl rfl rfl ?_
      refine Sp.step rfl rfl rfl rfl ?_
      refine Sp.step rfl rfl rfl rfl ?_
      refine Sp.step rfl rfl rfl rfl ?_
      refine Sp.step rfl rfl rfl rfl ?_
      refine Sp.step rfl rfl rfl rfl ?_
      refine Sp.guard (fun e8 => ?_)
      refine Sp.step rfl rfl rfl (mld rfl rfl (by decide) e8) ?_
      refine Sp.guard (fun e9 => ?_)
      refine Sp.step rfl rfl rfl (mst rfl rfl (by decide) e9) ?_
      refine Sp.step rfl rfl rfl rfl ?_
      refine Sp.step rfl rfl rfl rfl ?_
      exact Sp.jmp (l0 := [some (.ref 106), some (.int x), some (.int (x6.1 + 1))]) ⟨rfl, rfl, rfl, trivial⟩ (fun _ _ h => h)
  · exact Sp.vret rfl rfl rfl (fun _ _ h => h)
def b2_M_copy_107 (x : Int32) (x6 : (Int32 × MS)) : Option ((Int32 × MS) ⊕ (Int32 × MS)) := (if x ≤ x6.1 then some (.inr (x6.1, x6.2)) else (if ixo x6.1 2 then (if ixo (x + x6.1) 2 then (lt (mw x6.2 107 (x + x6.1).toNatClampNeg (x6.2.1 107 x6.1.toNatClampNeg)) fun M10 => some (.inl (x6.1 + 1, M10))) else none) else none))
def f_M_copy_107 (x : Int32) (M : MS) : Option MS := ((lp (b2_M_copy_107 x) 10000 ((0 : Int32), M)).bind fun x11 => some x11.2)
set_option maxRecDepth 100000 in
set_option maxHeartbeats 4000000 in
theorem s_M_copy_107 {L : Nat} {xs : Nat → Int32} {X : XS} {M : MS} {x : Int32} : Sp (mjOO L xs) 58 0 [some (.ref 107), some (.int x), none] [] (hS X M) (f_M_copy_107 x M) (KVM X) := by
  unfold f_M_copy_107
  refine Sp.step rfl rfl rfl rfl ?_
  refine Sp.step rfl rfl rfl rfl ?_
  refine Sp.weak (l0 := [some (.ref 107), some (.int x), some (.int 0)]) ⟨rfl, rfl, rfl, trivial⟩ ?_
  refine Sp.loopX (pe := 21) (mf := (fun (x6 : (Int32 × MS)) => [some (.ref 107), some (.int x), some (.int x6.1)])) (hf := (fun (x6 : (Int32 × MS)) => hS X x6.2)) (fun x6 => ?_) (fun x11 => ?_) _ _
  · unfold b2_M_copy_107
    refine Sp.step rfl rfl rfl rfl ?_
    refine Sp.step rfl rfl rfl rfl ?_
    refine Sp.if2 rfl rfl rfl rfl (fun e7 => ?_) (fun e7 => ?_)
    · exact Sp.jmp (l0 := [some (.ref 107), some (.int x), some (.int x6.1)]) ⟨rfl, rfl, rfl, trivial⟩ (fun _ _ h => h)
    · refine Sp.step rfl rfl rfl rfl ?_
      refine Sp.step rfl rfl rfl rfl ?_
      refine Sp.step rfl rfl rfl rfl ?_
      refine Sp.step rfl rfl rfl rfl ?_
      refine Sp.step rfl rfl rfl rfl ?_
      refine Sp.step rfl rfl rfl rfl ?_
      refine Sp.guard (fun e8 => ?_)
      refine Sp.step rfl rfl rfl (mld rfl rfl (by decide) e8) ?_
      refine Sp.guard (fun e9 => ?_)
      refine Sp.step rfl rfl rfl (mst rfl rfl (by decide) e9) ?_
      refine Sp.step rfl rfl rfl rfl ?_
      refine Sp.step rfl rfl rfl rfl ?_
      exact Sp.jmp (l0 := [some (.ref 107), some (.int x), some (.int (x6.1 + 1))]) ⟨rfl, rfl, rfl, trivial⟩ (fun _ _ h => h)
  · exact Sp.vret rfl rfl rfl (fun _ _ h => h)
def f_M_begin (M : MS) : Option MS := ((f_M_copy_95 10 M).bind fun x1 => ((f_M_copy_96 10 x1).bind fun x2 => ((f_M_copy_97 10 x2).bind fun x3 => ((f_M_copy_98 80 x3).bind fun x4 => ((f_M_copy_99 24 x4).bind fun x5 => ((f_M_copy_100 24 x5).bind fun x6 => ((f_M_copy_101 24 x6).bind fun x7 => ((f_M_copy_102 24 x7).bind fun x8 => ((f_M_copy_103 1440 x8).bind fun x9 => ((f_M_copy_104 1440 x9).bind fun x10 => ((f_M_copy_108 1440 x10).bind fun x11 => ((f_M_copy_105 24 x11).bind fun x12 => ((f_M_copy_106 576 x12).bind fun x13 => ((f_M_copy_107 1 x13).bind fun x14 => some x14))))))))))))))
set_option maxRecDepth 100000 in
set_option maxHeartbeats 4000000 in
theorem s_M_begin {L : Nat} {xs : Nat → Int32} {X : XS} {M : MS} : Sp (mjOO L xs) 57 0 [some (.ref 60)] [] (hS X M) (f_M_begin M) (KVM X) := by
  unfold f_M_begin
  refine Sp.step rfl rfl rfl rfl ?_
  refine Sp.step rfl rfl rfl (mg_F (f := 43) rfl rfl rfl rfl) ?_
  refine Sp.step rfl rfl rfl rfl ?_
  refine Sp.call rfl rfl rfl rfl s_M_copy_95 (fun x1 => ⟨_, _, ⟨rfl, rfl⟩, ?_⟩)
  refine Sp.id (pc := 9) (l := [some (.ref 60)]) (st := []) (h := hS X x1) ?_
  refine Sp.step rfl rfl rfl rfl ?_
  refine Sp.step rfl rfl rfl (mg_F (f := 44) rfl rfl rfl rfl) ?_
  refine Sp.step rfl rfl rfl rfl ?_
  refine Sp.call rfl rfl rfl rfl s_M_copy_96 (fun x2 => ⟨_, _, ⟨rfl, rfl⟩, ?_⟩)
  refine Sp.id (pc := 18) (l := [some (.ref 60)]) (st := []) (h := hS X x2) ?_
  refine Sp.step rfl rfl rfl rfl ?_
  refine Sp.step rfl rfl rfl (mg_F (f := 45) rfl rfl rfl rfl) ?_
  refine Sp.step rfl rfl rfl rfl ?_
  refine Sp.call rfl rfl rfl rfl s_M_copy_97 (fun x3 => ⟨_, _, ⟨rfl, rfl⟩, ?_⟩)
  refine Sp.id (pc := 27) (l := [some (.ref 60)]) (st := []) (h := hS X x3) ?_
  refine Sp.step rfl rfl rfl rfl ?_
  refine Sp.step rfl rfl rfl (mg_F (f := 46) rfl rfl rfl rfl) ?_
  refine Sp.step rfl rfl rfl rfl ?_
  refine Sp.call rfl rfl rfl rfl s_M_copy_98 (fun x4 => ⟨_, _, ⟨rfl, rfl⟩, ?_⟩)
  refine Sp.id (pc := 36) (l := [some (.ref 60)]) (st := []) (h := hS X x4) ?_
  refine Sp.step rfl rfl rfl rfl ?_
  refine Sp.step rfl rfl rfl (mg_F (f := 47) rfl rfl rfl rfl) ?_
  refine Sp.step rfl rfl rfl rfl ?_
  refine Sp.call rfl rfl rfl rfl s_M_copy_99 (fun x5 => ⟨_, _, ⟨rfl, rfl⟩, ?_⟩)
  refine Sp.id (pc := 45) (l := [some (.ref 60)]) (st := []) (h := hS X x5) ?_
  refine Sp.step rfl rfl rfl rfl ?_
  refine Sp.step rfl rfl rfl (mg_F (f := 48) rfl rfl rfl rfl) ?_
  refine Sp.step rfl rfl rfl rfl ?_
  refine Sp.call rfl rfl rfl rfl s_M_copy_100 (fun x6 => ⟨_, _, ⟨rfl, rfl⟩, ?_⟩)
  refine Sp.id (pc := 54) (l := [some (.ref 60)]) (st := []) (h := hS X x6) ?_
  refine Sp.step rfl rfl rfl rfl ?_
  refine Sp.step rfl rfl rfl (mg_F (f := 49) rfl rfl rfl rfl) ?_
  refine Sp.step rfl rfl rfl rfl ?_
  refine Sp.call rfl rfl rfl rfl s_M_copy_101 (fun x7 => ⟨_, _, ⟨rfl, rfl⟩, ?_⟩)
  refine Sp.id (pc := 63) (l := [some (.ref 60)]) (st := []) (h := hS X x7) ?_
  refine Sp.step rfl rfl rfl rfl ?_
  refine Sp.step rfl rfl rfl (mg_F (f := 50) rfl rfl rfl rfl) ?_
  refine Sp.step rfl rfl rfl rfl ?_
  refine Sp.call rfl rfl rfl rfl s_M_copy_102 (fun x8 => ⟨_, _, ⟨rfl, rfl⟩, ?_⟩)
  refine Sp.id (pc := 72) (l := [some (.ref 60)]) (st := []) (h := hS X x8) ?_
  refine Sp.step rfl rfl rfl rfl ?_
  refine Sp.step rfl rfl rfl (mg_F (f := 51) rfl rfl rfl rfl) ?_
  refine Sp.step rfl rfl rfl rfl ?_
  refine Sp.call rfl rfl rfl rfl s_M_copy_103 (fun x9 => ⟨_, _, ⟨rfl, rfl⟩, ?_⟩)
  refine Sp.id (pc := 82) (l := [some (.ref 60)]) (st := []) (h := hS X x9) ?_
  refine Sp.step rfl rfl rfl rfl ?_
  refine Sp.step rfl rfl rfl (mg_F (f := 52) rfl rfl rfl rfl) ?_
  refine Sp.step rfl rfl rfl rfl ?_
  refine Sp.call rfl rfl rfl rfl s_M_copy_104 (fun x10 => ⟨_, _, ⟨rfl, rfl⟩, ?_⟩)
  refine Sp.id (pc := 92) (l := [some (.ref 60)]) (st := []) (h := hS X x10) ?_
  refine Sp.step rfl rfl rfl rfl ?_
  refine Sp.step rfl rfl rfl (mg_F (f := 56) rfl rfl rfl rfl) ?_
  refine Sp.step rfl rfl rfl rfl ?_
  refine Sp.call rfl rfl rfl rfl s_M_copy_108 (fun x11 => ⟨_, _, ⟨rfl, rfl⟩, ?_⟩)
  refine Sp.id (pc := 102) (l := [some (.ref 60)]) (st := []) (h := hS X x11) ?_
  refine Sp.step rfl rfl rfl rfl ?_
  refine Sp.step rfl rfl rfl (mg_F (f := 53) rfl rfl rfl rfl) ?_
  refine Sp.step rfl rfl rfl rfl ?_
  refine Sp.call rfl rfl rfl rfl s_M_copy_105 (fun x12 => ⟨_, _, ⟨rfl, rfl⟩, ?_⟩)
  refine Sp.id (pc := 111) (l := [some (.ref 60)]) (st := []) (h := hS X x12) ?_
  refine Sp.step rfl rfl rfl rfl ?_
  refine Sp.step rfl rfl rfl (mg_F (f := 54) rfl rfl rfl rfl) ?_
  refine Sp.step rfl rfl rfl rfl ?_
  refine Sp.call rfl rfl rfl rfl s_M_copy_106 (fun x13 => ⟨_, _, ⟨rfl, rfl⟩, ?_⟩)
  refine Sp.id (pc := 121) (l := [some (.ref 60)]) (st := []) (h := hS X x13) ?_
  refine Sp.step rfl rfl rfl rfl ?_
  refine Sp.step rfl rfl rfl (mg_F (f := 55) rfl rfl rfl rfl) ?_
  refine Sp.step rfl rfl rfl rfl ?_
  refine Sp.call rfl rfl rfl rfl s_M_copy_107 (fun x14 => ⟨_, _, ⟨rfl, rfl⟩, ?_⟩)
  refine Sp.id (pc := 129) (l := [some (.ref 60)]) (st := []) (h := hS X x14) ?_
  exact Sp.vret rfl rfl rfl (fun _ _ h => h)
def b46_M_beginFrame (x : Int32) (M : MS) (x12 : (Int32 × MS)) : Option ((Int32 × MS) ⊕ (Int32 × MS)) := (if 22 ≤ x12.1 then some (.inr (x12.1, x12.2)) else (if ixo ((22 * ((20 * x) + (M.1 109 x.toNatClampNeg))) + x12.1) 2640 then (lt (mw x12.2 115 ((22 * ((20 * x) + (M.1 109 x.toNatClampNeg))) + x12.1).toNatClampNeg 0) fun M15 => (lt (mw M15 116 ((22 * ((20 * x) + (M.1 109 x.toNatClampNeg))) + x12.1).toNatClampNeg 0) fun M16 => some (.inl (x12.1 + 1, M16)))) else none))
def f_M_beginFrame (x : Int32) (y : Int32) (M : MS) : Option (Int32 × MS) := (if ixo x 6 then (lt (mw M 109 x.toNatClampNeg ((M.1 109 x.toNatClampNeg) + 1)) fun M2 => (if ixo ((20 * x) + (M.1 109 x.toNatClampNeg)) 120 then (lt (mw M2 112 ((20 * x) + (M.1 109 x.toNatClampNeg)).toNatClampNeg y) fun M4 => (lt (mw M4 113 ((20 * x) + (M.1 109 x.toNatClampNeg)).toNatClampNeg 0) fun M5 => (lt (mw M5 114 ((20 * x) + (M.1 109 x.toNatClampNeg)).toNatClampNeg 0) fun M6 => ((lp (b46_M_beginFrame x M) 10000 ((0 : Int32), M6)).bind fun x17 => some ((20 * x) + (M.1 109 x.toNatClampNeg), x17.2))))) else none)) else none)
set_option maxRecDepth 100000 in
set_option maxHeartbeats 4000000 in
theorem s_M_beginFrame {L : Nat} {xs : Nat → Int32} {X : XS} {M : MS} {x : Int32} {y : Int32} : Sp (mjOO L xs) 61 0 [some (.ref 60), some (.int x), some (.int y), none, none] [] (hS X M) (f_M_beginFrame x y M) (KEM X) := by
  unfold f_M_beginFrame
  refine Sp.step rfl rfl rfl rfl ?_
  refine Sp.step rfl rfl rfl rfl ?_
  refine Sp.step rfl rfl rfl rfl ?_
  refine Sp.step rfl rfl rfl rfl ?_
  refine Sp.step rfl rfl rfl (mg_F (f := 65) rfl rfl rfl rfl) ?_
  refine Sp.step rfl rfl rfl rfl ?_
  refine Sp.guard (fun e1 => ?_)
  refine Sp.step rfl rfl rfl (mld rfl rfl (by decide) e1) ?_
  refine Sp.step rfl rfl rfl rfl ?_
  refine Sp.step rfl rfl rfl rfl ?_
  refine Sp.step rfl rfl rfl rfl ?_
  refine Sp.step rfl rfl rfl (mg_F (f := 65) rfl rfl rfl rfl) ?_
  refine Sp.step rfl rfl rfl rfl ?_
  refine Sp.step rfl rfl rfl rfl ?_
  refine Sp.step rfl rfl rfl (mld rfl rfl (by decide) e1) ?_
  refine Sp.step rfl rfl rfl rfl ?_
  refine Sp.step rfl rfl rfl rfl ?_
  refine Sp.step rfl rfl rfl (mst rfl rfl (by decide) e1) ?_
  refine Sp.step rfl rfl rfl rfl ?_
  refine Sp.step rfl rfl rfl (mg_F (f := 68) rfl rfl rfl rfl) ?_
  refine Sp.step rfl rfl rfl rfl ?_
  refine Sp.step rfl rfl rfl rfl ?_
  refine Sp.guard (fun e3 => ?_)
  refine Sp.step rfl rfl rfl (mst rfl rfl (by decide) e3) ?_
  refine Sp.step rfl rfl rfl rfl ?_
  refine Sp.step rfl rfl rfl (mg_F (f := 69) rfl rfl rfl rfl) ?_
  refine Sp.step rfl rfl rfl rfl ?_
  refine Sp.step rfl rfl rfl rfl ?_
  refine Sp.step rfl rfl rfl (mst rfl rfl (by decide) e3) ?_
  refine Sp.step rfl rfl rfl rfl ?_
  refine Sp.step rfl rfl rfl (mg_F (f := 70) rfl rfl rfl rfl) ?_
  refine Sp.step rfl rfl rfl rfl ?_
  refine Sp.step rfl rfl rfl rfl ?_
  refine Sp.step rfl rfl rfl (mst rfl rfl (by decide) e3) ?_
  refine Sp.step rfl rfl rfl rfl ?_
  refine Sp.step rfl rfl rfl rfl ?_
  refine Sp.weak (l0 := [some (.ref 60), none, none, some (.int ((20 * x) + (M.1 109 x.toNatClampNeg))), some (.int 0)]) ⟨rfl, rfl, rfl, trivial⟩ ?_
  refine Sp.loopX (pe := 85) (mf := (fun (x12 : (Int32 × MS)) => [some (.ref 60), none, none, some (.int ((20 * x) + (M.1 109 x.toNatClampNeg))), some (.int x12.1)])) (hf := (fun (x12 : (Int32 × MS)) => hS X x12.2)) (fun x12 => ?_) (fun x17 => ?_) _ _
  · unfold b46_M_beginFrame
    refine Sp.step rfl rfl rfl rfl ?_
    refine Sp.step rfl rfl rfl rfl ?_
    refine Sp.if2 rfl rfl rfl rfl (fun e13 => ?_) (fun e13 => ?_)
    · exact Sp.jmp (l0 := [some (.ref 60), none, none, some (.int ((20 * x) + (M.1 109 x.toNatClampNeg))), some (.int x12.1)]) ⟨rfl, rfl, rfl, trivial⟩ (fun _ _ h => h)
    · refine Sp.step rfl rfl rfl rfl ?_
      refine Sp.step rfl rfl rfl (mg_F (f := 71) rfl rfl rfl rfl) ?_
      refine Sp.step rfl rfl rfl rfl ?_
      refine Sp.step rfl rfl rfl rfl ?_
      refine Sp.step rfl rfl rfl rfl ?_
      refine Sp.step rfl rfl rfl rfl ?_
      refine Sp.step rfl rfl rfl rfl ?_
      refine Sp.step rfl rfl rfl rfl ?_
      refine Sp.guard (fun e14 => ?_)
      refine Sp.step rfl rfl rfl (mst rfl rfl (by decide) e14) ?_
      refine Sp.step rfl rfl rfl rfl ?_
      refine Sp.step rfl rfl rfl (mg_F (f := 72) rfl rfl rfl rfl) ?_
      refine Sp.step rfl rfl rfl rfl ?_
      refine Sp.step rfl rfl rfl rfl ?_
      refine Sp.step rfl rfl rfl rfl ?_
      refine Sp.step rfl rfl rfl rfl ?_
      refine Sp.step rfl rfl rfl rfl ?_
      refine Sp.step rfl rfl rfl rfl ?_
      refine Sp.step rfl rfl rfl (mst0 rfl rfl e14) ?_
      refine Sp.step rfl rfl rfl rfl ?_
      refine Sp.step rfl rfl rfl rfl ?_
      exact Sp.jmp (l0 := [some (.ref 60), none, none, some (.int ((20 * x) + (M.1 109 x.toNatClampNeg))), some (.int (x12.1 + 1))]) ⟨rfl, rfl, rfl, trivial⟩ (fun _ _ h => h)
  · refine Sp.step rfl rfl rfl rfl ?_
    exact Sp.iret rfl rfl rfl rfl (fun _ _ h => h)
def f_M_beginThread (x : Int32) (y : Int32) (M : MS) : Option MS := (if ixo (M.1 60 61) 6 then (lt (mw M 109 (M.1 60 61).toNatClampNeg 0) fun M2 => (if ixo (M2.1 60 61) 6 then (lt (mw M2 110 (M2.1 60 61).toNatClampNeg 0) fun M4 => (if ixo (M4.1 60 61) 6 then (lt (mw M4 111 (M4.1 60 61).toNatClampNeg 0) fun M6 => ((f_M_beginFrame (M6.1 60 61) x M6).bind fun x7 => (if y ≤ 0 then (lt (mw x7.2 60 61 ((x7.2.1 60 61) + 1)) fun M9 => some M9) else (if ixo (440 * (x7.2.1 60 61)) 2640 then (lt (mw x7.2 115 (440 * (x7.2.1 60 61)).toNatClampNeg y) fun M11 => (if ixo (440 * (M11.1 60 61)) 2640 then (lt (mw M11 116 (440 * (M11.1 60 61)).toNatClampNeg 1) fun M13 => (lt (mw M13 60 61 ((M13.1 60 61) + 1)) fun M14 => some M14)) else none)) else none)))) else none)) else none)) else none)
set_option maxRecDepth 100000 in
set_option maxHeartbeats 4000000 in
theorem s_M_beginThread {L : Nat} {xs : Nat → Int32} {X : XS} {M : MS} {x : Int32} {y : Int32} : Sp (mjOO L xs) 60 0 [some (.ref 60), some (.int x), some (.int y)] [] (hS X M) (f_M_beginThread x y M) (KVM X) := by
  unfold f_M_beginThread
  refine Sp.step rfl rfl rfl rfl ?_
  refine Sp.step rfl rfl rfl (mg_F (f := 65) rfl rfl rfl rfl) ?_
  refine Sp.step rfl rfl rfl rfl ?_
  refine Sp.step rfl rfl rfl (mg_I (f := 61) rfl rfl rfl) ?_
  refine Sp.step rfl rfl rfl rfl ?_
  refine Sp.guard (fun e1 => ?_)
  refine Sp.step rfl rfl rfl (mst rfl rfl (by decide) e1) ?_
  refine Sp.step rfl rfl rfl rfl ?_
  refine Sp.step rfl rfl rfl (mg_F (f := 66) rfl rfl rfl rfl) ?_
  refine Sp.step rfl rfl rfl rfl ?_
  refine Sp.step rfl rfl rfl (mg_I (f := 61) rfl rfl rfl) ?_
  refine Sp.step rfl rfl rfl rfl ?_
  refine Sp.guard (fun e3 => ?_)
  refine Sp.step rfl rfl rfl (mst rfl rfl (by decide) e3) ?_
  refine Sp.step rfl rfl rfl rfl ?_
  refine Sp.step rfl rfl rfl (mg_F (f := 67) rfl rfl rfl rfl) ?_
  refine Sp.step rfl rfl rfl rfl ?_
  refine Sp.step rfl rfl rfl (mg_I (f := 61) rfl rfl rfl) ?_
  refine Sp.step rfl rfl rfl rfl ?_
  refine Sp.guard (fun e5 => ?_)
  refine Sp.step rfl rfl rfl (mst rfl rfl (by decide) e5) ?_
  refine Sp.step rfl rfl rfl rfl ?_
  refine Sp.step rfl rfl rfl rfl ?_
  refine Sp.step rfl rfl rfl (mg_I (f := 61) rfl rfl rfl) ?_
  refine Sp.step rfl rfl rfl rfl ?_
  refine Sp.call rfl rfl rfl (mrecv (by decide) (by decide +kernel)) s_M_beginFrame (fun x7 => ⟨_, _, ⟨rfl, rfl⟩, ?_⟩)
  refine Sp.id (pc := 39) (l := [some (.ref 60), some (.int x), some (.int y)]) (st := [.int x7.1]) (h := hS X x7.2) ?_
  refine Sp.step rfl rfl rfl rfl ?_
  refine Sp.step rfl rfl rfl rfl ?_
  refine Sp.if1 rfl rfl rfl rfl (fun e8 => ?_) (fun e8 => ?_)
  · refine Sp.step rfl rfl rfl rfl ?_
    refine Sp.step rfl rfl rfl rfl ?_
    refine Sp.step rfl rfl rfl (mg_I (f := 61) rfl rfl rfl) ?_
    refine Sp.step rfl rfl rfl rfl ?_
    refine Sp.step rfl rfl rfl rfl ?_
    refine Sp.step rfl rfl rfl (mp_I (f := 61) rfl rfl rfl rfl) ?_
    exact Sp.vret rfl rfl rfl (fun _ _ h => h)
  · refine Sp.step rfl rfl rfl rfl ?_
    refine Sp.step rfl rfl rfl (mg_F (f := 71) rfl rfl rfl rfl) ?_
    refine Sp.step rfl rfl rfl rfl ?_
    refine Sp.step rfl rfl rfl rfl ?_
    refine Sp.step rfl rfl rfl (mg_I (f := 61) rfl rfl rfl) ?_
    refine Sp.step rfl rfl rfl rfl ?_
    refine Sp.step rfl rfl rfl rfl ?_
    refine Sp.guard (fun e10 => ?_)
    refine Sp.step rfl rfl rfl (mst rfl rfl (by decide) e10) ?_
    refine Sp.step rfl rfl rfl rfl ?_
    refine Sp.step rfl rfl rfl (mg_F (f := 72) rfl rfl rfl rfl) ?_
    refine Sp.step rfl rfl rfl rfl ?_
    refine Sp.step rfl rfl rfl rfl ?_
    refine Sp.step rfl rfl rfl (mg_I (f := 61) rfl rfl rfl) ?_
    refine Sp.step rfl rfl rfl rfl ?_
    refine Sp.step rfl rfl rfl rfl ?_
    refine Sp.guard (fun e12 => ?_)
    refine Sp.step rfl rfl rfl (mst1 rfl rfl e12) ?_
    refine Sp.step rfl rfl rfl rfl ?_
    refine Sp.step rfl rfl rfl rfl ?_
    refine Sp.step rfl rfl rfl (mg_I (f := 61) rfl rfl rfl) ?_
    refine Sp.step rfl rfl rfl rfl ?_
    refine Sp.step rfl rfl rfl rfl ?_
    refine Sp.step rfl rfl rfl (mp_I (f := 61) rfl rfl rfl rfl) ?_
    exact Sp.vret rfl rfl rfl (fun _ _ h => h)
def b57_M_boot (x16 : (Int32 × MS)) : Option ((Int32 × MS) ⊕ (Int32 × MS)) := (if 8 ≤ x16.1 then some (.inr (x16.1, x16.2)) else (if ixo x16.1 8 then (lt (mw x16.2 117 x16.1.toNatClampNeg 0) fun M19 => (lt (mw M19 118 x16.1.toNatClampNeg 0) fun M20 => some (.inl (x16.1 + 1, M20)))) else none))
def b85_M_boot (x26 : (Int32 × MS)) : Option ((Int32 × MS) ⊕ (Int32 × MS)) := (if 1002 ≤ x26.1 then some (.inr (x26.1, x26.2)) else (if ixo x26.1 1002 then (lt (mw x26.2 121 x26.1.toNatClampNeg (-1)) fun M29 => some (.inl (x26.1 + 1, M29))) else none))
def f_M_boot (x : Int32) (y : Int32) (M : MS) : Option (Bool × MS) := (if 1 ≤ x ∧ x ≤ 50 then (if 50 ≤ y ∧ y ≤ 8000 then (if ¬ M.1 60 37 = 0 then ((f_M_begin M).bind fun x6 => (lt (mw x6 60 57 1) fun M7 => (lt (mw M7 60 58 x) fun M8 => (lt (mw M8 60 59 y) fun M9 => (lt (mlg M9 (Int64.ofNat 0)) fun M10 => ((lp (b57_M_boot) 10000 ((0 : Int32), M10)).bind fun x21 => ((lp (b85_M_boot) 10000 ((0 : Int32), x21.2)).bind fun x30 => (lt (mw x30.2 60 95 0) fun M31 => (lt (mw M31 60 86 0) fun M32 => (lt (mw M32 60 87 0) fun M33 => (lt (mw M33 60 88 0) fun M34 => (lt (mw M34 60 76 0) fun M35 => (lt (mw M35 60 78 0) fun M36 => (lt (mw M36 60 61 0) fun M37 => (lt (mw M37 60 62 (-2)) fun M38 => (lt (mw M38 60 63 0) fun M39 => (lt (mw M39 60 64 (-1)) fun M40 => ((f_M_beginThread (M40.1 107 1) 0 M40).bind fun x41 => some (true, x41))))))))))))))))))) else some (false, M)) else some (false, M)) else some (false, M))
set_option maxRecDepth 100000 in
set_option maxHeartbeats 4000000 in
theorem s_M_boot {L : Nat} {xs : Nat → Int32} {X : XS} {M : MS} {x : Int32} {y : Int32} : Sp (mjOO L xs) 59 0 [some (.ref 60), some (.int x), some (.int y), none] [] (hS X M) (f_M_boot x y M) (KBM X) := by
  unfold f_M_boot
  refine Sp.step rfl rfl rfl rfl ?_
  refine Sp.step rfl rfl rfl rfl ?_
  refine Sp.step rfl rfl rfl rfl ?_
  refine Sp.callP rfl rfl rfl rfl s_isIn (fun e1 => ?_) (fun e1 => ?_)
  · refine Sp.id (pc := 7) (l := [some (.ref 60), some (.int x), some (.int y), none]) (st := [.int 1]) (h := hS X M) ?_
    refine Sp.step rfl rfl rfl rfl ?_
    refine Sp.step rfl rfl rfl rfl ?_
    refine Sp.step rfl rfl rfl rfl ?_
    refine Sp.step rfl rfl rfl rfl ?_
    refine Sp.callP rfl rfl rfl rfl s_isIn (fun e3 => ?_) (fun e3 => ?_)
    · refine Sp.id (pc := 19) (l := [some (.ref 60), some (.int x), some (.int y), none]) (st := [.int 1]) (h := hS X M) ?_
      refine Sp.step rfl rfl rfl rfl ?_
      refine Sp.step rfl rfl rfl rfl ?_
      refine Sp.step rfl rfl rfl (mg_I (f := 37) rfl rfl rfl) ?_
      refine Sp.if1 rfl rfl rfl rfl (fun e5 => ?_) (fun e5 => ?_)
      · refine Sp.step rfl rfl rfl rfl ?_
        refine Sp.call rfl rfl rfl (mrecv (by decide) (by decide +kernel)) s_M_begin (fun x6 => ⟨_, _, ⟨rfl, rfl⟩, ?_⟩)
        refine Sp.id (pc := 35) (l := [some (.ref 60), some (.int x), some (.int y), none]) (st := []) (h := hS X x6) ?_
        refine Sp.step rfl rfl rfl rfl ?_
        refine Sp.step rfl rfl rfl rfl ?_
        refine Sp.step rfl rfl rfl (mp_I (f := 57) rfl rfl rfl rfl) ?_
        refine Sp.step rfl rfl rfl rfl ?_
        refine Sp.step rfl rfl rfl rfl ?_
        refine Sp.step rfl rfl rfl (mp_I (f := 58) rfl rfl rfl rfl) ?_
        refine Sp.step rfl rfl rfl rfl ?_
        refine Sp.step rfl rfl rfl rfl ?_
        refine Sp.step rfl rfl rfl (mp_I (f := 59) rfl rfl rfl rfl) ?_
        refine Sp.step rfl rfl rfl rfl ?_
        refine Sp.step rfl rfl rfl rfl ?_
        refine Sp.step rfl rfl rfl (mp_L rfl rfl) ?_
        refine Sp.step rfl rfl rfl rfl ?_
        refine Sp.step rfl rfl rfl rfl ?_
        refine Sp.weak (l0 := [some (.ref 60), none, none, some (.int 0)]) ⟨rfl, rfl, trivial⟩ ?_
        refine Sp.loopX (pe := 83) (mf := (fun (x16 : (Int32 × MS)) => [some (.ref 60), none, none, some (.int x16.1)])) (hf := (fun (x16 : (Int32 × MS)) => hS X x16.2)) (fun x16 => ?_) (fun x21 => ?_) _ _
        · unfold b57_M_boot
          refine Sp.step rfl rfl rfl rfl ?_
          refine Sp.step rfl rfl rfl rfl ?_
          refine Sp.if2 rfl rfl rfl rfl (fun e17 => ?_) (fun e17 => ?_)
          · exact Sp.jmp (l0 := [some (.ref 60), none, none, some (.int x16.1)]) ⟨rfl, rfl, trivial⟩ (fun _ _ h => h)
          · refine Sp.step rfl rfl rfl rfl ?_
            refine Sp.step rfl rfl rfl (mg_F (f := 73) rfl rfl rfl rfl) ?_
            refine Sp.step rfl rfl rfl rfl ?_
            refine Sp.step rfl rfl rfl rfl ?_
            refine Sp.guard (fun e18 => ?_)
            refine Sp.step rfl rfl rfl (mst rfl rfl (by decide) e18) ?_
            refine Sp.step rfl rfl rfl rfl ?_
            refine Sp.step rfl rfl rfl (mg_F (f := 74) rfl rfl rfl rfl) ?_
            refine Sp.step rfl rfl rfl rfl ?_
            refine Sp.step rfl rfl rfl rfl ?_
            refine Sp.step rfl rfl rfl (mst rfl rfl (by decide) e18) ?_
            refine Sp.step rfl rfl rfl rfl ?_
            refine Sp.step rfl rfl rfl rfl ?_
            exact Sp.jmp (l0 := [some (.ref 60), none, none, some (.int (x16.1 + 1))]) ⟨rfl, rfl, trivial⟩ (fun _ _ h => h)
        · refine Sp.step rfl rfl rfl rfl ?_
          refine Sp.step rfl rfl rfl rfl ?_
          refine Sp.weak (l0 := [some (.ref 60), none, none, some (.int 0)]) ⟨rfl, rfl, trivial⟩ ?_
          refine Sp.loopX (pe := 105) (mf := (fun (x26 : (Int32 × MS)) => [some (.ref 60), none, none, some (.int x26.1)])) (hf := (fun (x26 : (Int32 × MS)) => hS X x26.2)) (fun x26 => ?_) (fun x30 => ?_) _ _
          · unfold b85_M_boot
            refine Sp.step rfl rfl rfl rfl ?_
            refine Sp.step rfl rfl rfl rfl ?_
            refine Sp.if2 rfl rfl rfl rfl (fun e27 => ?_) (fun e27 => ?_)
            · exact Sp.jmp (l0 := [some (.ref 60), none, none, some (.int x26.1)]) ⟨rfl, rfl, trivial⟩ (fun _ _ h => h)
            · refine Sp.step rfl rfl rfl rfl ?_
              refine Sp.step rfl rfl rfl (mg_F (f := 79) rfl rfl rfl rfl) ?_
              refine Sp.step rfl rfl rfl rfl ?_
              refine Sp.step rfl rfl rfl rfl ?_
              refine Sp.guard (fun e28 => ?_)
              refine Sp.step rfl rfl rfl (mst rfl rfl (by decide) e28) ?_
              refine Sp.step rfl rfl rfl rfl ?_
              refine Sp.step rfl rfl rfl rfl ?_
              exact Sp.jmp (l0 := [some (.ref 60), none, none, some (.int (x26.1 + 1))]) ⟨rfl, rfl, trivial⟩ (fun _ _ h => h)
          · refine Sp.step rfl rfl rfl rfl ?_
            refine Sp.step rfl rfl rfl rfl ?_
            refine Sp.step rfl rfl rfl (mp_I (f := 95) rfl rfl rfl rfl) ?_
            refine Sp.step rfl rfl rfl rfl ?_
            refine Sp.step rfl rfl rfl rfl ?_
            refine Sp.step rfl rfl rfl (mp_I (f := 86) rfl rfl rfl rfl) ?_
            refine Sp.step rfl rfl rfl rfl ?_
            refine Sp.step rfl rfl rfl rfl ?_
            refine Sp.step rfl rfl rfl (mp_I (f := 87) rfl rfl rfl rfl) ?_
            refine Sp.step rfl rfl rfl rfl ?_
            refine Sp.step rfl rfl rfl rfl ?_
            refine Sp.step rfl rfl rfl (mp_I (f := 88) rfl rfl rfl rfl) ?_
            refine Sp.step rfl rfl rfl rfl ?_
            refine Sp.step rfl rfl rfl rfl ?_
            refine Sp.step rfl rfl rfl (mp_I (f := 76) rfl rfl rfl rfl) ?_
            refine Sp.step rfl rfl rfl rfl ?_
            refine Sp.step rfl rfl rfl rfl ?_
            refine Sp.step rfl rfl rfl (mp_I (f := 78) rfl rfl rfl rfl) ?_
            refine Sp.step rfl rfl rfl rfl ?_
            refine Sp.step rfl rfl rfl rfl ?_
            refine Sp.step rfl rfl rfl (mp_I (f := 61) rfl rfl rfl rfl) ?_
            refine Sp.step rfl rfl rfl rfl ?_
            refine Sp.step rfl rfl rfl rfl ?_
            refine Sp.step rfl rfl rfl (mp_I (f := 62) rfl rfl rfl rfl) ?_
            refine Sp.step rfl rfl rfl rfl ?_
            refine Sp.step rfl rfl rfl rfl ?_
            refine Sp.step rfl rfl rfl (mp_I (f := 63) rfl rfl rfl rfl) ?_
            refine Sp.step rfl rfl rfl rfl ?_
            refine Sp.step rfl rfl rfl rfl ?_
            refine Sp.step rfl rfl rfl (mp_I (f := 64) rfl rfl rfl rfl) ?_
            refine Sp.step rfl rfl rfl rfl ?_
            refine Sp.step rfl rfl rfl rfl ?_
            refine Sp.step rfl rfl rfl (mg_F (f := 55) rfl rfl rfl rfl) ?_
            refine Sp.step rfl rfl rfl rfl ?_
            refine Sp.step rfl rfl rfl (mld rfl rfl (by decide) (by decide)) ?_
            refine Sp.step rfl rfl rfl rfl ?_
            refine Sp.call rfl rfl rfl (mrecv (by decide) (by decide +kernel)) s_M_beginThread (fun x41 => ⟨_, _, ⟨rfl, rfl⟩, ?_⟩)
            refine Sp.id (pc := 167) (l := [some (.ref 60), none, none, some (.int x30.1)]) (st := []) (h := hS X x41) ?_
            refine Sp.step rfl rfl rfl rfl ?_
            exact Sp.iret rfl rfl rfl rfl (fun _ _ h => h)
      · refine Sp.step rfl rfl rfl rfl ?_
        exact Sp.iret rfl rfl rfl rfl (fun _ _ h => h)
    · refine Sp.id (pc := 19) (l := [some (.ref 60), some (.int x), some (.int y), none]) (st := [.int 0]) (h := hS X M) ?_
      refine Sp.step rfl rfl rfl rfl ?_
      refine Sp.step rfl rfl rfl rfl ?_
      exact Sp.iret rfl rfl rfl rfl (fun _ _ h => h)
  · refine Sp.id (pc := 7) (l := [some (.ref 60), some (.int x), some (.int y), none]) (st := [.int 0]) (h := hS X M) ?_
    refine Sp.step rfl rfl rfl rfl ?_
    refine Sp.step rfl rfl rfl rfl ?_
    exact Sp.iret rfl rfl rfl rfl (fun _ _ h => h)
def f_M_input (x : Int32) (M : MS) : Option (Bool × MS) := (if M.1 60 57 = 0 then some (false, M) else (if ¬ M.1 60 76 = 100 then (if ixo (M.1 60 76) 100 then (lt (mw M 119 (M.1 60 76).toNatClampNeg x) fun M4 => (lt (mw M4 60 76 ((M4.1 60 76) + 1)) fun M5 => some (true, M5))) else none) else some (false, M)))
set_option maxRecDepth 100000 in
set_option maxHeartbeats 4000000 in
theorem s_M_input {L : Nat} {xs : Nat → Int32} {X : XS} {M : MS} {x : Int32} : Sp (mjOO L xs) 62 0 [some (.ref 60), some (.int x)] [] (hS X M) (f_M_input x M) (KBM X) := by
  unfold f_M_input
  refine Sp.step rfl rfl rfl rfl ?_
  refine Sp.step rfl rfl rfl (mg_I (f := 57) rfl rfl rfl) ?_
  refine Sp.if1 rfl rfl rfl rfl (fun e1 => ?_) (fun e1 => ?_)
  · refine Sp.step rfl rfl rfl rfl ?_
    exact Sp.iret rfl rfl rfl rfl (fun _ _ h => h)
  · refine Sp.step rfl rfl rfl rfl ?_
    refine Sp.step rfl rfl rfl (mg_I (f := 76) rfl rfl rfl) ?_
    refine Sp.step rfl rfl rfl rfl ?_
    refine Sp.if2 rfl rfl rfl rfl (fun e2 => ?_) (fun e2 => ?_)
    · refine Sp.step rfl rfl rfl rfl ?_
      refine Sp.step rfl rfl rfl (mg_F (f := 75) rfl rfl rfl rfl) ?_
      refine Sp.step rfl rfl rfl rfl ?_
      refine Sp.step rfl rfl rfl (mg_I (f := 76) rfl rfl rfl) ?_
      refine Sp.step rfl rfl rfl rfl ?_
      refine Sp.guard (fun e3 => ?_)
      refine Sp.step rfl rfl rfl (mst rfl rfl (by decide) e3) ?_
      refine Sp.step rfl rfl rfl rfl ?_
      refine Sp.step rfl rfl rfl rfl ?_
      refine Sp.step rfl rfl rfl (mg_I (f := 76) rfl rfl rfl) ?_
      refine Sp.step rfl rfl rfl rfl ?_
      refine Sp.step rfl rfl rfl rfl ?_
      refine Sp.step rfl rfl rfl (mp_I (f := 76) rfl rfl rfl rfl) ?_
      refine Sp.step rfl rfl rfl rfl ?_
      exact Sp.iret rfl rfl rfl rfl (fun _ _ h => h)
    · refine Sp.step rfl rfl rfl rfl ?_
      exact Sp.iret rfl rfl rfl rfl (fun _ _ h => h)
def f_M_op (x : Int32) (M : MS) : Option Int32 := (if ixo x 120 then (if ixo ((1440 + (60 * (M.1 112 x.toNatClampNeg))) + (M.1 113 x.toNatClampNeg)) 2880 then some (M.1 103 ((1440 + (60 * (M.1 112 x.toNatClampNeg))) + (M.1 113 x.toNatClampNeg)).toNatClampNeg) else none) else none)
set_option maxRecDepth 100000 in
set_option maxHeartbeats 4000000 in
theorem s_M_op {L : Nat} {xs : Nat → Int32} {X : XS} {M : MS} {x : Int32} : Sp (mjOO L xs) 68 0 [some (.ref 60), some (.int x)] [] (hS X M) (f_M_op x M) (KQ (hS X M)) := by
  unfold f_M_op
  refine Sp.step rfl rfl rfl rfl ?_
  refine Sp.step rfl rfl rfl (mg_F (f := 51) rfl rfl rfl rfl) ?_
  refine Sp.step rfl rfl rfl rfl ?_
  refine Sp.step rfl rfl rfl rfl ?_
  refine Sp.step rfl rfl rfl rfl ?_
  refine Sp.step rfl rfl rfl (mg_F (f := 68) rfl rfl rfl rfl) ?_
  refine Sp.step rfl rfl rfl rfl ?_
  refine Sp.guard (fun e1 => ?_)
  refine Sp.step rfl rfl rfl (mld rfl rfl (by decide) e1) ?_
  refine Sp.step rfl rfl rfl rfl ?_
  refine Sp.step rfl rfl rfl rfl ?_
  refine Sp.step rfl rfl rfl rfl ?_
  refine Sp.step rfl rfl rfl (mg_F (f := 69) rfl rfl rfl rfl) ?_
  refine Sp.step rfl rfl rfl rfl ?_
  refine Sp.step rfl rfl rfl (mld rfl rfl (by decide) e1) ?_
  refine Sp.step rfl rfl rfl rfl ?_
  refine Sp.guard (fun e2 => ?_)
  refine Sp.step rfl rfl rfl (mld rfl rfl (by decide) e2) ?_
  exact Sp.iret rfl rfl rfl rfl (fun _ _ h => h)
def f_M_waits (x : Int32) (M : MS) : Option Bool := (if ixo x 6 then (if M.1 110 x.toNatClampNeg ≤ 0 then ((f_M_op (((20 * x) + (M.1 109 x.toNatClampNeg)) - 1) M).bind fun x3 => (if x3 = 49 then (if ixo (((20 * x) + (M.1 109 x.toNatClampNeg)) - 1) 120 then (if ixo ((((22 * (((20 * x) + (M.1 109 x.toNatClampNeg)) - 1)) + 12) + (M.1 114 (((20 * x) + (M.1 109 x.toNatClampNeg)) - 1).toNatClampNeg)) - 1) 2640 then (if M.1 115 ((((22 * (((20 * x) + (M.1 109 x.toNatClampNeg)) - 1)) + 12) + (M.1 114 (((20 * x) + (M.1 109 x.toNatClampNeg)) - 1).toNatClampNeg)) - 1).toNatClampNeg ≤ 0 then some false else (if ixo (M.1 115 ((((22 * (((20 * x) + (M.1 109 x.toNatClampNeg)) - 1)) + 12) + (M.1 114 (((20 * x) + (M.1 109 x.toNatClampNeg)) - 1).toNatClampNeg)) - 1).toNatClampNeg) 1002 then (if M.1 125 (M.1 115 ((((22 * (((20 * x) + (M.1 109 x.toNatClampNeg)) - 1)) + 12) + (M.1 114 (((20 * x) + (M.1 109 x.toNatClampNeg)) - 1).toNatClampNeg)) - 1).toNatClampNeg).toNatClampNeg ≤ 0 then some false else (if M.1 124 (M.1 115 ((((22 * (((20 * x) + (M.1 109 x.toNatClampNeg)) - 1)) + 12) + (M.1 114 (((20 * x) + (M.1 109 x.toNatClampNeg)) - 1).toNatClampNeg)) - 1).toNatClampNeg).toNatClampNeg = x then some false else some true)) else none)) else none) else none) else some false)) else some false) else none)
set_option maxRecDepth 100000 in
set_option maxHeartbeats 4000000 in
theorem s_M_waits {L : Nat} {xs : Nat → Int32} {X : XS} {M : MS} {x : Int32} : Sp (mjOO L xs) 70 0 [some (.ref 60), some (.int x), none, none] [] (hS X M) (f_M_waits x M) (KB (hS X M)) := by
  unfold f_M_waits
  refine Sp.step rfl rfl rfl rfl ?_
  refine Sp.step rfl rfl rfl (mg_F (f := 66) rfl rfl rfl rfl) ?_
  refine Sp.step rfl rfl rfl rfl ?_
  refine Sp.guard (fun e1 => ?_)
  refine Sp.step rfl rfl rfl (mld rfl rfl (by decide) e1) ?_
  refine Sp.if1 rfl rfl rfl rfl (fun e2 => ?_) (fun e2 => ?_)
  · refine Sp.step rfl rfl rfl rfl ?_
    refine Sp.step rfl rfl rfl rfl ?_
    refine Sp.step rfl rfl rfl rfl ?_
    refine Sp.step rfl rfl rfl rfl ?_
    refine Sp.step rfl rfl rfl (mg_F (f := 65) rfl rfl rfl rfl) ?_
    refine Sp.step rfl rfl rfl rfl ?_
    refine Sp.step rfl rfl rfl (mld rfl rfl (by decide) e1) ?_
    refine Sp.step rfl rfl rfl rfl ?_
    refine Sp.step rfl rfl rfl rfl ?_
    refine Sp.step rfl rfl rfl rfl ?_
    refine Sp.step rfl rfl rfl rfl ?_
    refine Sp.step rfl rfl rfl rfl ?_
    refine Sp.step rfl rfl rfl rfl ?_
    refine Sp.call rfl rfl rfl (mrecv (by decide) (by decide +kernel)) s_M_op (fun x3 => ⟨_, _, ⟨rfl, rfl⟩, ?_⟩)
    refine Sp.id (pc := 30) (l := [some (.ref 60), some (.int x), some (.int (((20 * x) + (M.1 109 x.toNatClampNeg)) - 1)), none]) (st := [.int x3]) (h := hS X M) ?_
    refine Sp.step rfl rfl rfl rfl ?_
    refine Sp.if2 rfl rfl rfl rfl (fun e4 => ?_) (fun e4 => ?_)
    · refine Sp.step rfl rfl rfl rfl ?_
      refine Sp.step rfl rfl rfl (mg_F (f := 71) rfl rfl rfl rfl) ?_
      refine Sp.step rfl rfl rfl rfl ?_
      refine Sp.step rfl rfl rfl rfl ?_
      refine Sp.step rfl rfl rfl rfl ?_
      refine Sp.step rfl rfl rfl rfl ?_
      refine Sp.step rfl rfl rfl rfl ?_
      refine Sp.step rfl rfl rfl rfl ?_
      refine Sp.step rfl rfl rfl (mg_F (f := 70) rfl rfl rfl rfl) ?_
      refine Sp.step rfl rfl rfl rfl ?_
      refine Sp.guard (fun e5 => ?_)
      refine Sp.step rfl rfl rfl (mld rfl rfl (by decide) e5) ?_
      refine Sp.step rfl rfl rfl rfl ?_
      refine Sp.step rfl rfl rfl rfl ?_
      refine Sp.step rfl rfl rfl rfl ?_
      refine Sp.guard (fun e6 => ?_)
      refine Sp.step rfl rfl rfl (mld rfl rfl (by decide) e6) ?_
      refine Sp.step rfl rfl rfl rfl ?_
      refine Sp.step rfl rfl rfl rfl ?_
      refine Sp.if1 rfl rfl rfl rfl (fun e7 => ?_) (fun e7 => ?_)
      · refine Sp.step rfl rfl rfl rfl ?_
        exact Sp.iret rfl rfl rfl rfl (fun _ _ h => h)
      · refine Sp.step rfl rfl rfl rfl ?_
        refine Sp.step rfl rfl rfl (mg_F (f := 83) rfl rfl rfl rfl) ?_
        refine Sp.step rfl rfl rfl rfl ?_
        refine Sp.guard (fun e8 => ?_)
        refine Sp.step rfl rfl rfl (mld rfl rfl (by decide) e8) ?_
        refine Sp.if1 rfl rfl rfl rfl (fun e9 => ?_) (fun e9 => ?_)
        · refine Sp.step rfl rfl rfl rfl ?_
          exact Sp.iret rfl rfl rfl rfl (fun _ _ h => h)
        · refine Sp.step rfl rfl rfl rfl ?_
          refine Sp.step rfl rfl rfl (mg_F (f := 82) rfl rfl rfl rfl) ?_
          refine Sp.step rfl rfl rfl rfl ?_
          refine Sp.step rfl rfl rfl (mld rfl rfl (by decide) e8) ?_
          refine Sp.step rfl rfl rfl rfl ?_
          refine Sp.if2 rfl rfl rfl rfl (fun e10 => ?_) (fun e10 => ?_)
          · refine Sp.step rfl rfl rfl rfl ?_
            exact Sp.iret rfl rfl rfl rfl (fun _ _ h => h)
          · refine Sp.step rfl rfl rfl rfl ?_
            refine Sp.step rfl rfl rfl rfl ?_
            exact Sp.iret rfl rfl rfl rfl (fun _ _ h => h)
    · refine Sp.step rfl rfl rfl rfl ?_
      exact Sp.iret rfl rfl rfl rfl (fun _ _ h => h)
  · refine Sp.step rfl rfl rfl rfl ?_
    exact Sp.iret rfl rfl rfl rfl (fun _ _ h => h)
def b44_M_turn (M : MS) (x2 : Int32) : Option (Int32 ⊕ (Int32 × MS)) := (if M.1 60 61 < x2 then some (.inr ((-2), M)) else (if ¬ M.1 60 61 = 0 then (if ixo (((M.1 60 64) + x2) - ((M.1 60 64) + x2) / (M.1 60 61) * (M.1 60 61)) 6 then (if ¬ M.1 110 (((M.1 60 64) + x2) - ((M.1 60 64) + x2) / (M.1 60 61) * (M.1 60 61)).toNatClampNeg = 0 then some (.inl (x2 + 1)) else ((f_M_waits (((M.1 60 64) + x2) - ((M.1 60 64) + x2) / (M.1 60 61) * (M.1 60 61)) M).bind fun x7 => (if x7 = true then some (.inl (x2 + 1)) else (lt (mw M 60 62 (((M.1 60 64) + x2) - ((M.1 60 64) + x2) / (M.1 60 61) * (M.1 60 61))) fun M11 => (lt (mw M11 60 64 (((M.1 60 64) + x2) - ((M.1 60 64) + x2) / (M.1 60 61) * (M.1 60 61))) fun M12 => (lt (mw M12 60 63 (M12.1 60 58)) fun M13 => some (.inr (((M.1 60 64) + x2) - ((M.1 60 64) + x2) / (M.1 60 61) * (M.1 60 61), M13)))))))) else none) else none))
def f_M_turn (M : MS) : Option (Int32 × MS) := (if M.1 60 62 < 0 then (lp (b44_M_turn M) 10000 (1 : Int32)) else (if M.1 60 63 ≤ 0 then (lp (b44_M_turn M) 10000 (1 : Int32)) else (if ixo (M.1 60 62) 6 then (if ¬ M.1 110 (M.1 60 62).toNatClampNeg = 0 then (lp (b44_M_turn M) 10000 (1 : Int32)) else ((f_M_waits (M.1 60 62) M).bind fun x41 => (if x41 = true then (lp (b44_M_turn M) 10000 (1 : Int32)) else some (M.1 60 62, M)))) else none)))
set_option maxRecDepth 100000 in
set_option maxHeartbeats 4000000 in
theorem s_M_turn {L : Nat} {xs : Nat → Int32} {X : XS} {M : MS} : Sp (mjOO L xs) 97 0 [some (.ref 60), none, none] [] (hS X M) (f_M_turn M) (KEM X) := by
  unfold f_M_turn
  refine Sp.step rfl rfl rfl rfl ?_
  refine Sp.step rfl rfl rfl (mg_I (f := 62) rfl rfl rfl) ?_
  refine Sp.if1 rfl rfl rfl rfl (fun e1 => ?_) (fun e1 => ?_)
  · refine Sp.step rfl rfl rfl rfl ?_
    refine Sp.step rfl rfl rfl rfl ?_
    refine Sp.weak (l0 := [some (.ref 60), some (.int 1), none]) ⟨rfl, rfl, trivial⟩ ?_
    refine Sp.loopL (mf := (fun (x2 : Int32) => [some (.ref 60), some (.int x2), none])) (hf := (fun (x2 : Int32) => hS X M)) (fun x2 => ?_) _ _
    unfold b44_M_turn
    refine Sp.step rfl rfl rfl rfl ?_
    refine Sp.step rfl rfl rfl rfl ?_
    refine Sp.step rfl rfl rfl (mg_I (f := 61) rfl rfl rfl) ?_
    refine Sp.if2 rfl rfl rfl rfl (fun e3 => ?_) (fun e3 => ?_)
    · refine Sp.step rfl rfl rfl rfl ?_
      exact Sp.iret rfl rfl rfl rfl (fun _ _ h => h)
    · refine Sp.step rfl rfl rfl rfl ?_
      refine Sp.step rfl rfl rfl (mg_I (f := 64) rfl rfl rfl) ?_
      refine Sp.step rfl rfl rfl rfl ?_
      refine Sp.step rfl rfl rfl rfl ?_
      refine Sp.step rfl rfl rfl rfl ?_
      refine Sp.step rfl rfl rfl (mg_I (f := 61) rfl rfl rfl) ?_
      refine Sp.guard (fun e4 => ?_)
      refine Sp.step rfl rfl rfl (go_div e4) ?_
      refine Sp.step rfl rfl rfl rfl ?_
      refine Sp.step rfl rfl rfl rfl ?_
      refine Sp.step rfl rfl rfl (mg_F (f := 66) rfl rfl rfl rfl) ?_
      refine Sp.step rfl rfl rfl rfl ?_
      refine Sp.guard (fun e5 => ?_)
      refine Sp.step rfl rfl rfl (mld rfl rfl (by decide) e5) ?_
      refine Sp.if1 rfl rfl rfl rfl (fun e6 => ?_) (fun e6 => ?_)
      · refine Sp.step rfl rfl rfl rfl ?_
        refine Sp.step rfl rfl rfl rfl ?_
        exact Sp.jmp (l0 := [some (.ref 60), some (.int (x2 + 1)), none]) ⟨rfl, rfl, trivial⟩ (fun _ _ h => h)
      · refine Sp.step rfl rfl rfl rfl ?_
        refine Sp.step rfl rfl rfl rfl ?_
        refine Sp.call rfl rfl rfl (mrecv (by decide) (by decide +kernel)) s_M_waits (fun x7 => ⟨_, _, ⟨rfl, rfl⟩, ?_⟩)
        refine Sp.bool (fun e8 => ?_) (fun e8 => ?_)
        · refine Sp.id (pc := 78) (l := [some (.ref 60), some (.int x2), some (.int (((M.1 60 64) + x2) - ((M.1 60 64) + x2) / (M.1 60 61) * (M.1 60 61)))]) (st := [.int 1]) (h := hS X M) ?_
          refine Sp.step rfl rfl rfl rfl ?_
          refine Sp.step rfl rfl rfl rfl ?_
          refine Sp.step rfl rfl rfl rfl ?_
          exact Sp.jmp (l0 := [some (.ref 60), some (.int (x2 + 1)), none]) ⟨rfl, rfl, trivial⟩ (fun _ _ h => h)
        · refine Sp.id (pc := 78) (l := [some (.ref 60), some (.int x2), some (.int (((M.1 60 64) + x2) - ((M.1 60 64) + x2) / (M.1 60 61) * (M.1 60 61)))]) (st := [.int 0]) (h := hS X M) ?_
          refine Sp.step rfl rfl rfl rfl ?_
          refine Sp.step rfl rfl rfl rfl ?_
          refine Sp.step rfl rfl rfl rfl ?_
          refine Sp.step rfl rfl rfl (mp_I (f := 62) rfl rfl rfl rfl) ?_
          refine Sp.step rfl rfl rfl rfl ?_
          refine Sp.step rfl rfl rfl rfl ?_
          refine Sp.step rfl rfl rfl (mp_I (f := 64) rfl rfl rfl rfl) ?_
          refine Sp.step rfl rfl rfl rfl ?_
          refine Sp.step rfl rfl rfl rfl ?_
          refine Sp.step rfl rfl rfl (mg_I (f := 58) rfl rfl rfl) ?_
          refine Sp.step rfl rfl rfl (mp_I (f := 63) rfl rfl rfl rfl) ?_
          refine Sp.step rfl rfl rfl rfl ?_
          exact Sp.iret rfl rfl rfl rfl (fun _ _ h => h)
  · refine Sp.step rfl rfl rfl rfl ?_
    refine Sp.step rfl rfl rfl (mg_I (f := 63) rfl rfl rfl) ?_
    refine Sp.if1 rfl rfl rfl rfl (fun e14 => ?_) (fun e14 => ?_)
    · refine Sp.step rfl rfl rfl rfl ?_
      refine Sp.step rfl rfl rfl rfl ?_
      refine Sp.weak (l0 := [some (.ref 60), some (.int 1), none]) ⟨rfl, rfl, trivial⟩ ?_
      refine Sp.loopL (mf := (fun (x15 : Int32) => [some (.ref 60), some (.int x15), none])) (hf := (fun (x15 : Int32) => hS X M)) (fun x15 => ?_) _ _
      unfold b44_M_turn
      refine Sp.step rfl rfl rfl rfl ?_
      refine Sp.step rfl rfl rfl rfl ?_
      refine Sp.step rfl rfl rfl (mg_I (f := 61) rfl rfl rfl) ?_
      refine Sp.if2 rfl rfl rfl rfl (fun e16 => ?_) (fun e16 => ?_)
      · refine Sp.step rfl rfl rfl rfl ?_
        exact Sp.iret rfl rfl rfl rfl (fun _ _ h => h)
      · refine Sp.step rfl rfl rfl rfl ?_
        refine Sp.step rfl rfl rfl (mg_I (f := 64) rfl rfl rfl) ?_
        refine Sp.step rfl rfl rfl rfl ?_
        refine Sp.step rfl rfl rfl rfl ?_
        refine Sp.step rfl rfl rfl rfl ?_
        refine Sp.step rfl rfl rfl (mg_I (f := 61) rfl rfl rfl) ?_
        refine Sp.guard (fun e17 => ?_)
        refine Sp.step rfl rfl rfl (go_div e17) ?_
        refine Sp.step rfl rfl rfl rfl ?_
        refine Sp.step rfl rfl rfl rfl ?_
        refine Sp.step rfl rfl rfl (mg_F (f := 66) rfl rfl rfl rfl) ?_
        refine Sp.step rfl rfl rfl rfl ?_
        refine Sp.guard (fun e18 => ?_)
        refine Sp.step rfl rfl rfl (mld rfl rfl (by decide) e18) ?_
        refine Sp.if1 rfl rfl rfl rfl (fun e19 => ?_) (fun e19 => ?_)
        · refine Sp.step rfl rfl rfl rfl ?_
          refine Sp.step rfl rfl rfl rfl ?_
          exact Sp.jmp (l0 := [some (.ref 60), some (.int (x15 + 1)), none]) ⟨rfl, rfl, trivial⟩ (fun _ _ h => h)
        · refine Sp.step rfl rfl rfl rfl ?_
          refine Sp.step rfl rfl rfl rfl ?_
          refine Sp.call rfl rfl rfl (mrecv (by decide) (by decide +kernel)) s_M_waits (fun x20 => ⟨_, _, ⟨rfl, rfl⟩, ?_⟩)
          refine Sp.bool (fun e21 => ?_) (fun e21 => ?_)
          · refine Sp.id (pc := 78) (l := [some (.ref 60), some (.int x15), some (.int (((M.1 60 64) + x15) - ((M.1 60 64) + x15) / (M.1 60 61) * (M.1 60 61)))]) (st := [.int 1]) (h := hS X M) ?_
            refine Sp.step rfl rfl rfl rfl ?_
            refine Sp.step rfl rfl rfl rfl ?_
            refine Sp.step rfl rfl rfl rfl ?_
            exact Sp.jmp (l0 := [some (.ref 60), some (.int (x15 + 1)), none]) ⟨rfl, rfl, trivial⟩ (fun _ _ h => h)
          · refine Sp.id (pc := 78) (l := [some (.ref 60), some (.int x15), some (.int (((M.1 60 64) + x15) - ((M.1 60 64) + x15) / (M.1 60 61) * (M.1 60 61)))]) (st := [.int 0]) (h := hS X M) ?_
            refine Sp.step rfl rfl rfl rfl ?_
            refine Sp.step rfl rfl rfl rfl ?_
            refine Sp.step rfl rfl rfl rfl ?_
            refine Sp.step rfl rfl rfl (mp_I (f := 62) rfl rfl rfl rfl) ?_
            refine Sp.step rfl rfl rfl rfl ?_
            refine Sp.step rfl rfl rfl rfl ?_
            refine Sp.step rfl rfl rfl (mp_I (f := 64) rfl rfl rfl rfl) ?_
            refine Sp.step rfl rfl rfl rfl ?_
            refine Sp.step rfl rfl rfl rfl ?_
            refine Sp.step rfl rfl rfl (mg_I (f := 58) rfl rfl rfl) ?_
            refine Sp.step rfl rfl rfl (mp_I (f := 63) rfl rfl rfl rfl) ?_
            refine Sp.step rfl rfl rfl rfl ?_
            exact Sp.iret rfl rfl rfl rfl (fun _ _ h => h)
    · refine Sp.step rfl rfl rfl rfl ?_
      refine Sp.step rfl rfl rfl (mg_F (f := 66) rfl rfl rfl rfl) ?_
      refine Sp.step rfl rfl rfl rfl ?_
      refine Sp.step rfl rfl rfl (mg_I (f := 62) rfl rfl rfl) ?_
      refine Sp.guard (fun e27 => ?_)
      refine Sp.step rfl rfl rfl (mld rfl rfl (by decide) e27) ?_
      refine Sp.if1 rfl rfl rfl rfl (fun e28 => ?_) (fun e28 => ?_)
      · refine Sp.step rfl rfl rfl rfl ?_
        refine Sp.step rfl rfl rfl rfl ?_
        refine Sp.weak (l0 := [some (.ref 60), some (.int 1), none]) ⟨rfl, rfl, trivial⟩ ?_
        refine Sp.loopL (mf := (fun (x29 : Int32) => [some (.ref 60), some (.int x29), none])) (hf := (fun (x29 : Int32) => hS X M)) (fun x29 => ?_) _ _
        unfold b44_M_turn
        refine Sp.step rfl rfl rfl rfl ?_
        refine Sp.step rfl rfl rfl rfl ?_
        refine Sp.step rfl rfl rfl (mg_I (f := 61) rfl rfl rfl) ?_
        refine Sp.if2 rfl rfl rfl rfl (fun e30 => ?_) (fun e30 => ?_)
        · refine Sp.step rfl rfl rfl rfl ?_
          exact Sp.iret rfl rfl rfl rfl (fun _ _ h => h)
        · refine Sp.step rfl rfl rfl rfl ?_
          refine Sp.step rfl rfl rfl (mg_I (f := 64) rfl rfl rfl) ?_
          refine Sp.step rfl rfl rfl rfl ?_
          refine Sp.step rfl rfl rfl rfl ?_
          refine Sp.step rfl rfl rfl rfl ?_
          refine Sp.step rfl rfl rfl (mg_I (f := 61) rfl rfl rfl) ?_
          refine Sp.guard (fun e31 => ?_)
          refine Sp.step rfl rfl rfl (go_div e31) ?_
          refine Sp.step rfl rfl rfl rfl ?_
          refine Sp.step rfl rfl rfl rfl ?_
          refine Sp.step rfl rfl rfl (mg_F (f := 66) rfl rfl rfl rfl) ?_
          refine Sp.step rfl rfl rfl rfl ?_
          refine Sp.guard (fun e32 => ?_)
          refine Sp.step rfl rfl rfl (mld rfl rfl (by decide) e32) ?_
          refine Sp.if1 rfl rfl rfl rfl (fun e33 => ?_) (fun e33 => ?_)
          · refine Sp.step rfl rfl rfl rfl ?_
            refine Sp.step rfl rfl rfl rfl ?_
            exact Sp.jmp (l0 := [some (.ref 60), some (.int (x29 + 1)), none]) ⟨rfl, rfl, trivial⟩ (fun _ _ h => h)
          · refine Sp.step rfl rfl rfl rfl ?_
            refine Sp.step rfl rfl rfl rfl ?_
            refine Sp.call rfl rfl rfl (mrecv (by decide) (by decide +kernel)) s_M_waits (fun x34 => ⟨_, _, ⟨rfl, rfl⟩, ?_⟩)
            refine Sp.bool (fun e35 => ?_) (fun e35 => ?_)
            · refine Sp.id (pc := 78) (l := [some (.ref 60), some (.int x29), some (.int (((M.1 60 64) + x29) - ((M.1 60 64) + x29) / (M.1 60 61) * (M.1 60 61)))]) (st := [.int 1]) (h := hS X M) ?_
              refine Sp.step rfl rfl rfl rfl ?_
              refine Sp.step rfl rfl rfl rfl ?_
              refine Sp.step rfl rfl rfl rfl ?_
              exact Sp.jmp (l0 := [some (.ref 60), some (.int (x29 + 1)), none]) ⟨rfl, rfl, trivial⟩ (fun _ _ h => h)
            · refine Sp.id (pc := 78) (l := [some (.ref 60), some (.int x29), some (.int (((M.1 60 64) + x29) - ((M.1 60 64) + x29) / (M.1 60 61) * (M.1 60 61)))]) (st := [.int 0]) (h := hS X M) ?_
              refine Sp.step rfl rfl rfl rfl ?_
              refine Sp.step rfl rfl rfl rfl ?_
              refine Sp.step rfl rfl rfl rfl ?_
              refine Sp.step rfl rfl rfl (mp_I (f := 62) rfl rfl rfl rfl) ?_
              refine Sp.step rfl rfl rfl rfl ?_
              refine Sp.step rfl rfl rfl rfl ?_
              refine Sp.step rfl rfl rfl (mp_I (f := 64) rfl rfl rfl rfl) ?_
              refine Sp.step rfl rfl rfl rfl ?_
              refine Sp.step rfl rfl rfl rfl ?_
              refine Sp.step rfl rfl rfl (mg_I (f := 58) rfl rfl rfl) ?_
              refine Sp.step rfl rfl rfl (mp_I (f := 63) rfl rfl rfl rfl) ?_
              refine Sp.step rfl rfl rfl rfl ?_
              exact Sp.iret rfl rfl rfl rfl (fun _ _ h => h)
      · refine Sp.step rfl rfl rfl rfl ?_
        refine Sp.step rfl rfl rfl rfl ?_
        refine Sp.step rfl rfl rfl (mg_I (f := 62) rfl rfl rfl) ?_
        refine Sp.call rfl rfl rfl (mrecv (by decide) (by decide +kernel)) s_M_waits (fun x41 => ⟨_, _, ⟨rfl, rfl⟩, ?_⟩)
        refine Sp.bool (fun e42 => ?_) (fun e42 => ?_)
        · refine Sp.id (pc := 34) (l := [some (.ref 60), none, none]) (st := [.int 1]) (h := hS X M) ?_
          refine Sp.step rfl rfl rfl rfl ?_
          refine Sp.step rfl rfl rfl rfl ?_
          refine Sp.step rfl rfl rfl rfl ?_
          refine Sp.weak (l0 := [some (.ref 60), some (.int 1), none]) ⟨rfl, rfl, trivial⟩ ?_
          refine Sp.loopL (mf := (fun (x44 : Int32) => [some (.ref 60), some (.int x44), none])) (hf := (fun (x44 : Int32) => hS X M)) (fun x44 => ?_) _ _
          unfold b44_M_turn
          refine Sp.step rfl rfl rfl rfl ?_
          refine Sp.step rfl rfl rfl rfl ?_
          refine Sp.step rfl rfl rfl (mg_I (f := 61) rfl rfl rfl) ?_
          refine Sp.if2 rfl rfl rfl rfl (fun e45 => ?_) (fun e45 => ?_)
          · refine Sp.step rfl rfl rfl rfl ?_
            exact Sp.iret rfl rfl rfl rfl (fun _ _ h => h)
          · refine Sp.step rfl rfl rfl rfl ?_
            refine Sp.step rfl rfl rfl (mg_I (f := 64) rfl rfl rfl) ?_
            refine Sp.step rfl rfl rfl rfl ?_
            refine Sp.step rfl rfl rfl rfl ?_
            refine Sp.step rfl rfl rfl rfl ?_
            refine Sp.step rfl rfl rfl (mg_I (f := 61) rfl rfl rfl) ?_
            refine Sp.guard (fun e46 => ?_)
            refine Sp.step rfl rfl rfl (go_div e46) ?_
            refine Sp.step rfl rfl rfl rfl ?_
            refine Sp.step rfl rfl rfl rfl ?_
            refine Sp.step rfl rfl rfl (mg_F (f := 66) rfl rfl rfl rfl) ?_
            refine Sp.step rfl rfl rfl rfl ?_
            refine Sp.guard (fun e47 => ?_)
            refine Sp.step rfl rfl rfl (mld rfl rfl (by decide) e47) ?_
            refine Sp.if1 rfl rfl rfl rfl (fun e48 => ?_) (fun e48 => ?_)
            · refine Sp.step rfl rfl rfl rfl ?_
              refine Sp.step rfl rfl rfl rfl ?_
              exact Sp.jmp (l0 := [some (.ref 60), some (.int (x44 + 1)), none]) ⟨rfl, rfl, trivial⟩ (fun _ _ h => h)
            · refine Sp.step rfl rfl rfl rfl ?_
              refine Sp.step rfl rfl rfl rfl ?_
              refine Sp.call rfl rfl rfl (mrecv (by decide) (by decide +kernel)) s_M_waits (fun x49 => ⟨_, _, ⟨rfl, rfl⟩, ?_⟩)
              refine Sp.bool (fun e50 => ?_) (fun e50 => ?_)
              · refine Sp.id (pc := 78) (l := [some (.ref 60), some (.int x44), some (.int (((M.1 60 64) + x44) - ((M.1 60 64) + x44) / (M.1 60 61) * (M.1 60 61)))]) (st := [.int 1]) (h := hS X M) ?_
                refine Sp.step rfl rfl rfl rfl ?_
                refine Sp.step rfl rfl rfl rfl ?_
                refine Sp.step rfl rfl rfl rfl ?_
                exact Sp.jmp (l0 := [some (.ref 60), some (.int (x44 + 1)), none]) ⟨rfl, rfl, trivial⟩ (fun _ _ h => h)
              · refine Sp.id (pc := 78) (l := [some (.ref 60), some (.int x44), some (.int (((M.1 60 64) + x44) - ((M.1 60 64) + x44) / (M.1 60 61) * (M.1 60 61)))]) (st := [.int 0]) (h := hS X M) ?_
                refine Sp.step rfl rfl rfl rfl ?_
                refine Sp.step rfl rfl rfl rfl ?_
                refine Sp.step rfl rfl rfl rfl ?_
                refine Sp.step rfl rfl rfl (mp_I (f := 62) rfl rfl rfl rfl) ?_
                refine Sp.step rfl rfl rfl rfl ?_
                refine Sp.step rfl rfl rfl rfl ?_
                refine Sp.step rfl rfl rfl (mp_I (f := 64) rfl rfl rfl rfl) ?_
                refine Sp.step rfl rfl rfl rfl ?_
                refine Sp.step rfl rfl rfl rfl ?_
                refine Sp.step rfl rfl rfl (mg_I (f := 58) rfl rfl rfl) ?_
                refine Sp.step rfl rfl rfl (mp_I (f := 63) rfl rfl rfl rfl) ?_
                refine Sp.step rfl rfl rfl rfl ?_
                exact Sp.iret rfl rfl rfl rfl (fun _ _ h => h)
        · refine Sp.id (pc := 34) (l := [some (.ref 60), none, none]) (st := [.int 0]) (h := hS X M) ?_
          refine Sp.step rfl rfl rfl rfl ?_
          refine Sp.step rfl rfl rfl rfl ?_
          refine Sp.step rfl rfl rfl (mg_I (f := 62) rfl rfl rfl) ?_
          exact Sp.iret rfl rfl rfl rfl (fun _ _ h => h)
def f_M_operand (x : Int32) (M : MS) : Option Int32 := (if ixo x 120 then (if ixo ((1440 + (60 * (M.1 112 x.toNatClampNeg))) + (M.1 113 x.toNatClampNeg)) 2880 then some (M.1 104 ((1440 + (60 * (M.1 112 x.toNatClampNeg))) + (M.1 113 x.toNatClampNeg)).toNatClampNeg) else none) else none)
set_option maxRecDepth 100000 in
set_option maxHeartbeats 4000000 in
theorem s_M_operand {L : Nat} {xs : Nat → Int32} {X : XS} {M : MS} {x : Int32} : Sp (mjOO L xs) 69 0 [some (.ref 60), some (.int x)] [] (hS X M) (f_M_operand x M) (KQ (hS X M)) := by
  unfold f_M_operand
  refine Sp.step rfl rfl rfl rfl ?_
  refine Sp.step rfl rfl rfl (mg_F (f := 52) rfl rfl rfl rfl) ?_
  refine Sp.step rfl rfl rfl rfl ?_
  refine Sp.step rfl rfl rfl rfl ?_
  refine Sp.step rfl rfl rfl rfl ?_
  refine Sp.step rfl rfl rfl (mg_F (f := 68) rfl rfl rfl rfl) ?_
  refine Sp.step rfl rfl rfl rfl ?_
  refine Sp.guard (fun e1 => ?_)
  refine Sp.step rfl rfl rfl (mld rfl rfl (by decide) e1) ?_
  refine Sp.step rfl rfl rfl rfl ?_
  refine Sp.step rfl rfl rfl rfl ?_
  refine Sp.step rfl rfl rfl rfl ?_
  refine Sp.step rfl rfl rfl (mg_F (f := 69) rfl rfl rfl rfl) ?_
  refine Sp.step rfl rfl rfl rfl ?_
  refine Sp.step rfl rfl rfl (mld rfl rfl (by decide) e1) ?_
  refine Sp.step rfl rfl rfl rfl ?_
  refine Sp.guard (fun e2 => ?_)
  refine Sp.step rfl rfl rfl (mld rfl rfl (by decide) e2) ?_
  exact Sp.iret rfl rfl rfl rfl (fun _ _ h => h)
