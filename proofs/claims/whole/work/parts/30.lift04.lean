/-! methods as functions, by program -/
def b5_Arrays_fill_562 (x : Int32) (x5 : (Int32 × XS)) : Option ((Int32 × XS) ⊕ (Int32 × XS)) := (if 8 ≤ x5.1 then some (.inr (x5.1, x5.2)) else (if ixo x5.1 8 then (lt (xw x5.2 56 x5.1.toNatClampNeg x) fun X8 => some (.inl (x5.1 + 1, X8))) else none))
def f_Arrays_fill_562 (x : Int32) (X : XS) : Option XS := ((lp (b5_Arrays_fill_562 x) 10000 ((0 : Int32), X)).bind fun x9 => some x9.2)
set_option maxRecDepth 100000 in
set_option maxHeartbeats 4000000 in
theorem s_Arrays_fill_562 {L : Nat} {xs : Nat → Int32} {X : XS} {M : MS} {x : Int32} : Sp (mjOO L xs) 306 0 [some (.ref 56), some (.int x), none, none] [] (hS X M) (f_Arrays_fill_562 x X) (KVX M) := by
  unfold f_Arrays_fill_562
  refine Sp.step rfl rfl rfl rfl ?_
  refine Sp.step rfl rfl rfl rfl ?_
  refine Sp.step rfl rfl rfl rfl ?_
  refine Sp.step rfl rfl rfl (xlen rfl (by decide)) ?_
  refine Sp.step rfl rfl rfl rfl ?_
  refine Sp.weak (l0 := [some (.ref 56), some (.int x), some (.int 0), some (.int 8)]) ⟨rfl, rfl, rfl, rfl, trivial⟩ ?_
  refine Sp.loopX (pe := 20) (mf := (fun (x5 : (Int32 × XS)) => [some (.ref 56), some (.int x), some (.int x5.1), some (.int 8)])) (hf := (fun (x5 : (Int32 × XS)) => hS x5.2 M)) (fun x5 => ?_) (fun x9 => ?_) _ _
  · unfold b5_Arrays_fill_562
    refine Sp.step rfl rfl rfl rfl ?_
    refine Sp.step rfl rfl rfl rfl ?_
    refine Sp.if2 rfl rfl rfl rfl (fun e6 => ?_) (fun e6 => ?_)
    · exact Sp.jmp (l0 := [some (.ref 56), some (.int x), some (.int x5.1), some (.int 8)]) ⟨rfl, rfl, rfl, rfl, trivial⟩ (fun _ _ h => h)
    · refine Sp.step rfl rfl rfl rfl ?_
      refine Sp.step rfl rfl rfl rfl ?_
      refine Sp.step rfl rfl rfl rfl ?_
      refine Sp.guard (fun e7 => ?_)
      refine Sp.step rfl rfl rfl (xst rfl (by decide) e7) ?_
      refine Sp.step rfl rfl rfl rfl ?_
      refine Sp.step rfl rfl rfl rfl ?_
      exact Sp.jmp (l0 := [some (.ref 56), some (.int x), some (.int (x5.1 + 1)), some (.int 8)]) ⟨rfl, rfl, rfl, rfl, trivial⟩ (fun _ _ h => h)
  · exact Sp.vret rfl rfl rfl (fun _ _ h => h)
def b5_Arrays_fill_572 (x : Int32) (x5 : (Int32 × XS)) : Option ((Int32 × XS) ⊕ (Int32 × XS)) := (if 8 ≤ x5.1 then some (.inr (x5.1, x5.2)) else (if ixo x5.1 8 then (lt (xw x5.2 57 x5.1.toNatClampNeg x) fun X8 => some (.inl (x5.1 + 1, X8))) else none))
def f_Arrays_fill_572 (x : Int32) (X : XS) : Option XS := ((lp (b5_Arrays_fill_572 x) 10000 ((0 : Int32), X)).bind fun x9 => some x9.2)
set_option maxRecDepth 100000 in
set_option maxHeartbeats 4000000 in
theorem s_Arrays_fill_572 {L : Nat} {xs : Nat → Int32} {X : XS} {M : MS} {x : Int32} : Sp (mjOO L xs) 306 0 [some (.ref 57), some (.int x), none, none] [] (hS X M) (f_Arrays_fill_572 x X) (KVX M) := by
  unfold f_Arrays_fill_572
  refine Sp.step rfl rfl rfl rfl ?_
  refine Sp.step rfl rfl rfl rfl ?_
  refine Sp.step rfl rfl rfl rfl ?_
  refine Sp.step rfl rfl rfl (xlen rfl (by decide)) ?_
  refine Sp.step rfl rfl rfl rfl ?_
  refine Sp.weak (l0 := [some (.ref 57), some (.int x), some (.int 0), some (.int 8)]) ⟨rfl, rfl, rfl, rfl, trivial⟩ ?_
  refine Sp.loopX (pe := 20) (mf := (fun (x5 : (Int32 × XS)) => [some (.ref 57), some (.int x), some (.int x5.1), some (.int 8)])) (hf := (fun (x5 : (Int32 × XS)) => hS x5.2 M)) (fun x5 => ?_) (fun x9 => ?_) _ _
  · unfold b5_Arrays_fill_572
    refine Sp.step rfl rfl rfl rfl ?_
    refine Sp.step rfl rfl rfl rfl ?_
    refine Sp.if2 rfl rfl rfl rfl (fun e6 => ?_) (fun e6 => ?_)
    · exact Sp.jmp (l0 := [some (.ref 57), some (.int x), some (.int x5.1), some (.int 8)]) ⟨rfl, rfl, rfl, rfl, trivial⟩ (fun _ _ h => h)
    · refine Sp.step rfl rfl rfl rfl ?_
      refine Sp.step rfl rfl rfl rfl ?_
      refine Sp.step rfl rfl rfl rfl ?_
      refine Sp.guard (fun e7 => ?_)
      refine Sp.step rfl rfl rfl (xst rfl (by decide) e7) ?_
      refine Sp.step rfl rfl rfl rfl ?_
      refine Sp.step rfl rfl rfl rfl ?_
      exact Sp.jmp (l0 := [some (.ref 57), some (.int x), some (.int (x5.1 + 1)), some (.int 8)]) ⟨rfl, rfl, rfl, rfl, trivial⟩ (fun _ _ h => h)
  · exact Sp.vret rfl rfl rfl (fun _ _ h => h)
def f_Image_main_51 (X : XS) : Option Int32 := ((f_Image_at_51 4 X).bind fun x1 => some x1)
set_option maxRecDepth 100000 in
set_option maxHeartbeats 4000000 in
theorem s_Image_main_51 {L : Nat} {xs : Nat → Int32} {X : XS} {M : MS} : Sp (mjOO L xs) 169 0 [some (.ref 51)] [] (hS X M) (f_Image_main_51 X) (KQ (hS X M)) := by
  unfold f_Image_main_51
  refine Sp.step rfl rfl rfl rfl ?_
  refine Sp.step rfl rfl rfl rfl ?_
  refine Sp.call rfl rfl rfl (xrecv (c := 2) (by decide) rfl (by decide +kernel)) s_Image_at_51 (fun x1 => ⟨_, _, ⟨rfl, rfl⟩, ?_⟩)
  refine Sp.id (pc := 5) (l := [some (.ref 51)]) (st := [.int x1]) (h := hS X M) ?_
  exact Sp.iret rfl rfl rfl rfl (fun _ _ h => h)
def f_Strand_init (x : Nat) (X : XS) : Option XS := (lt (xn X 0 440) fun X1 => (if (xT X1 x = some (14, 0)) then (lt (xp X1 x 5 (some (xA X))) fun X3 => (lt (xn X3 0 440) fun X4 => (if (xT X4 x = some (14, 0)) then (lt (xp X4 x 6 (some (xA X3))) fun X6 => (lt (xn X6 0 20) fun X7 => (if (xT X7 x = some (14, 0)) then (lt (xp X7 x 9 (some (xA X6))) fun X9 => (lt (xn X9 0 20) fun X10 => (if (xT X10 x = some (14, 0)) then (lt (xp X10 x 10 (some (xA X9))) fun X12 => (lt (xn X12 0 20) fun X13 => (if (xT X13 x = some (14, 0)) then (lt (xp X13 x 11 (some (xA X12))) fun X15 => some X15) else none))) else none))) else none))) else none))) else none))
set_option maxRecDepth 100000 in
set_option maxHeartbeats 4000000 in
theorem s_Strand_init {L : Nat} {xs : Nat → Int32} {X : XS} {M : MS} {x : Nat} : Sp (mjOO L xs) 281 0 [some (.ref x)] [] (hS X M) (f_Strand_init x X) (KVX M) := by
  unfold f_Strand_init
  refine Sp.step rfl rfl rfl rfl ?_
  refine Sp.oinit rfl rfl ⟨by decide, by decide, rfl⟩ ?_
  refine Sp.step rfl rfl rfl rfl ?_
  refine Sp.step rfl rfl rfl rfl ?_
  refine Sp.step rfl rfl rfl (xnewK (t := 0) (n := 440) (k := 440) rfl (by decide) rfl (by decide)) ?_
  refine Sp.guard (fun e2 => ?_)
  refine Sp.step rfl rfl rfl (xp_R (c := 9) (f := 5) rfl rfl e2 rfl (fxP_big (dyn_of (c := 9) e2 rfl)) rfl) ?_
  refine Sp.step rfl rfl rfl rfl ?_
  refine Sp.step rfl rfl rfl rfl ?_
  refine Sp.step rfl rfl rfl (xnewK (t := 0) (n := 440) (k := 440) rfl (by decide) rfl (by decide)) ?_
  refine Sp.guard (fun e5 => ?_)
  refine Sp.step rfl rfl rfl (xp_R (c := 9) (f := 6) rfl rfl e5 rfl (fxP_big (dyn_of (c := 9) e5 rfl)) rfl) ?_
  refine Sp.step rfl rfl rfl rfl ?_
  refine Sp.step rfl rfl rfl rfl ?_
  refine Sp.step rfl rfl rfl (xnewK (t := 0) (n := 20) (k := 20) rfl (by decide) rfl (by decide)) ?_
  refine Sp.guard (fun e8 => ?_)
  refine Sp.step rfl rfl rfl (xp_R (c := 9) (f := 9) rfl rfl e8 rfl (fxP_big (dyn_of (c := 9) e8 rfl)) rfl) ?_
  refine Sp.step rfl rfl rfl rfl ?_
  refine Sp.step rfl rfl rfl rfl ?_
  refine Sp.step rfl rfl rfl (xnewK (t := 0) (n := 20) (k := 20) rfl (by decide) rfl (by decide)) ?_
  refine Sp.guard (fun e11 => ?_)
  refine Sp.step rfl rfl rfl (xp_R (c := 9) (f := 10) rfl rfl e11 rfl (fxP_big (dyn_of (c := 9) e11 rfl)) rfl) ?_
  refine Sp.step rfl rfl rfl rfl ?_
  refine Sp.step rfl rfl rfl rfl ?_
  refine Sp.step rfl rfl rfl (xnewK (t := 0) (n := 20) (k := 20) rfl (by decide) rfl (by decide)) ?_
  refine Sp.guard (fun e14 => ?_)
  refine Sp.step rfl rfl rfl (xp_R (c := 9) (f := 11) rfl rfl e14 rfl (fxP_big (dyn_of (c := 9) e14 rfl)) rfl) ?_
  exact Sp.vret rfl rfl rfl (fun _ _ h => h)
def f_Image_headAt_51 (x : Int32) (X : XS) : Int32 := (if 0 ≤ x ∧ x ≤ 23 then X.1 53 x.toNatClampNeg else 0)
set_option maxRecDepth 100000 in
set_option maxHeartbeats 4000000 in
theorem s_Image_headAt_51 {L : Nat} {xs : Nat → Int32} {X : XS} {M : MS} {x : Int32} : Sp (mjOO L xs) 170 0 [some (.ref 51), some (.int x)] [] (hS X M) (some (f_Image_headAt_51 x X)) (KQ (hS X M)) := by
  unfold f_Image_headAt_51
  refine Sp.step rfl rfl rfl rfl ?_
  refine Sp.step rfl rfl rfl rfl ?_
  refine Sp.step rfl rfl rfl rfl ?_
  refine Sp.callPV rfl rfl rfl rfl s_within (fun e1 => ?_) (fun e1 => ?_)
  · refine Sp.id (pc := 7) (l := [some (.ref 51), some (.int x)]) (st := [.int 1]) (h := hS X M) ?_
    refine Sp.step rfl rfl rfl rfl ?_
    refine Sp.step rfl rfl rfl rfl ?_
    refine Sp.step rfl rfl rfl (xg_F (c := 2) (f := 3) rfl rfl rfl rfl rfl) ?_
    refine Sp.step rfl rfl rfl rfl ?_
    refine Sp.step rfl rfl rfl (xld rfl (by decide) (ix_le (N := 23) rfl e1.1 e1.2)) ?_
    refine Sp.step rfl rfl rfl rfl ?_
    exact Sp.iret rfl rfl rfl rfl (fun _ _ h => h)
  · refine Sp.id (pc := 7) (l := [some (.ref 51), some (.int x)]) (st := [.int 0]) (h := hS X M) ?_
    refine Sp.step rfl rfl rfl rfl ?_
    refine Sp.step rfl rfl rfl rfl ?_
    exact Sp.iret rfl rfl rfl rfl (fun _ _ h => h)
def f_Image_two_51 (x : Int32) (X : XS) : Option Int32 := ((f_Image_at_51 x X).bind fun x1 => ((f_Image_at_51 (x + 1) X).bind fun x2 => some (((x1 : Int32) <<< ((8 : Int32) &&& 31)) ||| x2)))
set_option maxRecDepth 100000 in
set_option maxHeartbeats 4000000 in
theorem s_Image_two_51 {L : Nat} {xs : Nat → Int32} {X : XS} {M : MS} {x : Int32} : Sp (mjOO L xs) 167 0 [some (.ref 51), some (.int x)] [] (hS X M) (f_Image_two_51 x X) (KQ (hS X M)) := by
  unfold f_Image_two_51
  refine Sp.step rfl rfl rfl rfl ?_
  refine Sp.step rfl rfl rfl rfl ?_
  refine Sp.call rfl rfl rfl (xrecv (c := 2) (by decide) rfl (by decide +kernel)) s_Image_at_51 (fun x1 => ⟨_, _, ⟨rfl, rfl⟩, ?_⟩)
  refine Sp.id (pc := 5) (l := [some (.ref 51), some (.int x)]) (st := [.int x1]) (h := hS X M) ?_
  refine Sp.step rfl rfl rfl rfl ?_
  refine Sp.step rfl rfl rfl rfl ?_
  refine Sp.step rfl rfl rfl rfl ?_
  refine Sp.step rfl rfl rfl rfl ?_
  refine Sp.step rfl rfl rfl rfl ?_
  refine Sp.step rfl rfl rfl rfl ?_
  refine Sp.call rfl rfl rfl (xrecv (c := 2) (by decide) rfl (by decide +kernel)) s_Image_at_51 (fun x2 => ⟨_, _, ⟨rfl, rfl⟩, ?_⟩)
  refine Sp.id (pc := 15) (l := [some (.ref 51), some (.int x)]) (st := [.int x2, .int ((x1 : Int32) <<< ((8 : Int32) &&& 31))]) (h := hS X M) ?_
  refine Sp.step rfl rfl rfl rfl ?_
  exact Sp.iret rfl rfl rfl rfl (fun _ _ h => h)
def f_Image_codeAt_51 (x : Int32) (X : XS) : Option Int32 := ((f_Image_two_51 (f_Image_headAt_51 x X) X).bind fun x1 => some x1)
set_option maxRecDepth 100000 in
set_option maxHeartbeats 4000000 in
theorem s_Image_codeAt_51 {L : Nat} {xs : Nat → Int32} {X : XS} {M : MS} {x : Int32} : Sp (mjOO L xs) 171 0 [some (.ref 51), some (.int x)] [] (hS X M) (f_Image_codeAt_51 x X) (KQ (hS X M)) := by
  unfold f_Image_codeAt_51
  refine Sp.step rfl rfl rfl rfl ?_
  refine Sp.step rfl rfl rfl rfl ?_
  refine Sp.step rfl rfl rfl rfl ?_
  refine Sp.callS rfl rfl rfl (xrecv (c := 2) (by decide) rfl (by decide +kernel)) s_Image_headAt_51 ⟨rfl, rfl⟩ ?_
  refine Sp.id (pc := 6) (l := [some (.ref 51), some (.int x)]) (st := [.int (f_Image_headAt_51 x X), .ref 51]) (h := hS X M) ?_
  refine Sp.call rfl rfl rfl (xrecv (c := 2) (by decide) rfl (by decide +kernel)) s_Image_two_51 (fun x1 => ⟨_, _, ⟨rfl, rfl⟩, ?_⟩)
  refine Sp.id (pc := 9) (l := [some (.ref 51), some (.int x)]) (st := [.int x1]) (h := hS X M) ?_
  exact Sp.iret rfl rfl rfl rfl (fun _ _ h => h)
def f_Arrays_rangeCheck (x : Int32) (y : Int32) (z : Int32) : Option Unit := (if y ≤ z then (if 0 ≤ y then (if z ≤ x then some () else none) else none) else none)
set_option maxRecDepth 100000 in
set_option maxHeartbeats 4000000 in
theorem s_Arrays_rangeCheck {L : Nat} {xs : Nat → Int32} {X : XS} {M : MS} {x : Int32} {y : Int32} {z : Int32} : Sp (mjOO L xs) 308 0 [some (.int x), some (.int y), some (.int z)] [] (hS X M) (f_Arrays_rangeCheck x y z) (KU (hS X M)) := by
  unfold f_Arrays_rangeCheck
  refine Sp.step rfl rfl rfl rfl ?_
  refine Sp.step rfl rfl rfl rfl ?_
  refine Sp.if2 rfl rfl rfl rfl (fun e1 => ?_) (fun e1 => ?_)
  · refine Sp.step rfl rfl rfl rfl ?_
    refine Sp.if1 rfl rfl rfl rfl (fun e2 => ?_) (fun e2 => ?_)
    · refine Sp.step rfl rfl rfl rfl ?_
      refine Sp.step rfl rfl rfl rfl ?_
      refine Sp.if2 rfl rfl rfl rfl (fun e3 => ?_) (fun e3 => ?_)
      · exact Sp.vret rfl rfl rfl (fun _ _ h => h)
      · exact Sp.none
    · exact Sp.none
  · exact Sp.none
def b10_Arrays_fill4 (x : Nat) (z : Int32) (u : Int32) (x8 : (Int32 × XS)) : Option ((Int32 × XS) ⊕ (Int32 × XS)) := (if z ≤ x8.1 then some (.inr (x8.1, x8.2)) else (ocz (xL x8.2 0 x) none (fun n10 => (if ixo x8.1 n10 then (lt (xw x8.2 x x8.1.toNatClampNeg u) fun X13 => some (.inl (x8.1 + 1, X13))) else none))))
def f_Arrays_fill4 (x : Nat) (y : Int32) (z : Int32) (u : Int32) (X : XS) : Option XS := (ocz (xL X 0 x) none (fun n1 => ((f_Arrays_rangeCheck (Int32.ofNat n1) y z).bind fun x3 => ((lp (b10_Arrays_fill4 x z u) 10000 (y, X)).bind fun x14 => some x14.2))))
set_option maxRecDepth 100000 in
set_option maxHeartbeats 4000000 in
theorem s_Arrays_fill4 {L : Nat} {xs : Nat → Int32} {X : XS} {M : MS} {x : Nat} {y : Int32} {z : Int32} {u : Int32} : Sp (mjOO L xs) 307 0 [some (.ref x), some (.int y), some (.int z), some (.int u), none] [] (hS X M) (f_Arrays_fill4 x y z u X) (KVX M) := by
  unfold f_Arrays_fill4
  refine Sp.step rfl rfl rfl rfl ?_
  refine Sp.ocn (fun n1 e2 => ?_)
  refine Sp.step rfl rfl rfl (xlen (xL_ok e2) (by decide)) ?_
  refine Sp.step rfl rfl rfl rfl ?_
  refine Sp.step rfl rfl rfl rfl ?_
  refine Sp.call rfl rfl rfl rfl s_Arrays_rangeCheck (fun x3 => ⟨_, _, ⟨rfl, rfl⟩, ?_⟩)
  refine Sp.id (pc := 7) (l := [some (.ref x), some (.int y), some (.int z), some (.int u), none]) (st := []) (h := hS X M) ?_
  refine Sp.step rfl rfl rfl rfl ?_
  refine Sp.step rfl rfl rfl rfl ?_
  refine Sp.weak (l0 := [some (.ref x), none, some (.int z), some (.int u), some (.int y)]) ⟨rfl, rfl, rfl, rfl, trivial⟩ ?_
  refine Sp.loopX (pe := 27) (mf := (fun (x8 : (Int32 × XS)) => [some (.ref x), none, some (.int z), some (.int u), some (.int x8.1)])) (hf := (fun (x8 : (Int32 × XS)) => hS x8.2 M)) (fun x8 => ?_) (fun x14 => ?_) _ _
  · unfold b10_Arrays_fill4
    refine Sp.step rfl rfl rfl rfl ?_
    refine Sp.step rfl rfl rfl rfl ?_
    refine Sp.if2 rfl rfl rfl rfl (fun e9 => ?_) (fun e9 => ?_)
    · exact Sp.jmp (l0 := [some (.ref x), none, some (.int z), some (.int u), some (.int x8.1)]) ⟨rfl, rfl, rfl, rfl, trivial⟩ (fun _ _ h => h)
    · refine Sp.step rfl rfl rfl rfl ?_
      refine Sp.step rfl rfl rfl rfl ?_
      refine Sp.step rfl rfl rfl rfl ?_
      refine Sp.ocn (fun n10 e11 => ?_)
      refine Sp.guard (fun e12 => ?_)
      refine Sp.step rfl rfl rfl (xst (xL_ok e11) (by decide) e12) ?_
      refine Sp.step rfl rfl rfl rfl ?_
      refine Sp.step rfl rfl rfl rfl ?_
      exact Sp.jmp (l0 := [some (.ref x), none, some (.int z), some (.int u), some (.int (x8.1 + 1))]) ⟨rfl, rfl, rfl, rfl, trivial⟩ (fun _ _ h => h)
  · exact Sp.vret rfl rfl rfl (fun _ _ h => h)
def f_Strand_enter (x : Nat) (y : Int32) (z : Int32) (X : XS) : Option XS := (if (xT X x = some (14, 0)) then (if X.1 x 2 < 0 then some X else (if X.1 x 2 < 20 then (((if X.1 x 2 ≤ 0 then some X else (ocz (X.2.1 x 9) none (fun a5 => (ocz (xL X 0 a5) none (fun n7 => (if ixo ((X.1 x 2) - 1) n7 then (lt (xw X a5 ((X.1 x 2) - 1).toNatClampNeg (X.1 x 3)) fun X10 => (ocz (X10.2.1 x 10) none (fun a11 => (ocz (xL X10 0 a11) none (fun n13 => (if ixo ((X10.1 x 2) - 1) n13 then (lt (xw X10 a11 ((X10.1 x 2) - 1).toNatClampNeg (X10.1 x 4)) fun X16 => (ocz (X16.2.1 x 11) none (fun a17 => (ocz (xL X16 0 a17) none (fun n19 => (if ixo ((X16.1 x 2) - 1) n19 then (lt (xw X16 a17 ((X16.1 x 2) - 1).toNatClampNeg (X16.1 x 8)) fun X22 => some X22) else none)))))) else none)))))) else none)))))) : Option (XS)).bind fun x23 => (if (xT x23 x = some (14, 0)) then (ocz (x23.2.1 x 5) none (fun a25 => ((f_Arrays_fill4 a25 ((x23.1 x 2) * 22) (((x23.1 x 2) * 22) + 22) 0 x23).bind fun x27 => (if (xT x27 x = some (14, 0)) then (ocz (x27.2.1 x 6) none (fun a29 => ((f_Arrays_fill4 a29 ((x27.1 x 2) * 22) (((x27.1 x 2) * 22) + 22) 0 x27).bind fun x31 => (if (xT x31 x = some (14, 0)) then (lt (xw x31 x 3 y) fun X33 => (lt (xw X33 x 4 z) fun X34 => (lt (xw X34 x 7 (((X34.1 x 2) * 22) + 12)) fun X35 => (lt (xw X35 x 8 0) fun X36 => (lt (xw X36 x 2 ((X36.1 x 2) + 1)) fun X37 => some X37))))) else none)))) else none)))) else none)) else some X)) else none)
set_option maxRecDepth 100000 in
set_option maxHeartbeats 4000000 in
theorem s_Strand_enter {L : Nat} {xs : Nat → Int32} {X : XS} {M : MS} {x : Nat} {y : Int32} {z : Int32} : Sp (mjOO L xs) 284 0 [some (.ref x), some (.int y), some (.int z)] [] (hS X M) (f_Strand_enter x y z X) (KVX M) := by
  unfold f_Strand_enter
  refine Sp.step rfl rfl rfl rfl ?_
  refine Sp.guard (fun e1 => ?_)
  refine Sp.step rfl rfl rfl (xg_I (c := 9) (f := 2) rfl rfl e1 rfl) ?_
  refine Sp.if1 rfl rfl rfl rfl (fun e2 => ?_) (fun e2 => ?_)
  · exact Sp.vret rfl rfl rfl (fun _ _ h => h)
  · refine Sp.step rfl rfl rfl rfl ?_
    refine Sp.step rfl rfl rfl (xg_I (c := 9) (f := 2) rfl rfl e1 rfl) ?_
    refine Sp.step rfl rfl rfl rfl ?_
    refine Sp.if2 rfl rfl rfl rfl (fun e3 => ?_) (fun e3 => ?_)
    · refine Sp.step rfl rfl rfl rfl ?_
      refine Sp.step rfl rfl rfl (xg_I (c := 9) (f := 2) rfl rfl e1 rfl) ?_
      refine Sp.piece (pe := 69) (mf := (fun (x23 : XS) => [some (.ref x), some (.int y), some (.int z)])) (sf := (fun (x23 : XS) => [])) (hf := (fun (x23 : XS) => hS x23 M)) ?_ (fun x23 => ?_)
      · refine Sp.if1 rfl rfl rfl rfl (fun e4 => ?_) (fun e4 => ?_)
        · exact Sp.jmp (l0 := [some (.ref x), some (.int y), some (.int z)]) ⟨rfl, rfl, rfl, trivial⟩ (fun _ _ h => h)
        · refine Sp.step rfl rfl rfl rfl ?_
          refine Sp.step rfl rfl rfl (xg_D (c := 9) (f := 9) rfl rfl e1 rfl (fxP_big (dyn_of (c := 9) e1 rfl))) ?_
          refine Sp.ocrn (fun a5 e6 => ?_)
          refine Sp.step rfl rfl rfl rfl ?_
          refine Sp.step rfl rfl rfl (xg_I (c := 9) (f := 2) rfl rfl e1 rfl) ?_
          refine Sp.step rfl rfl rfl rfl ?_
          refine Sp.step rfl rfl rfl rfl ?_
          refine Sp.step rfl rfl rfl rfl ?_
          refine Sp.step rfl rfl rfl (xg_I (c := 9) (f := 3) rfl rfl e1 rfl) ?_
          refine Sp.ocn (fun n7 e8 => ?_)
          refine Sp.guard (fun e9 => ?_)
          refine Sp.step rfl rfl rfl (xst (xL_ok e8) (by decide) e9) ?_
          refine Sp.step rfl rfl rfl rfl ?_
          refine Sp.step rfl rfl rfl (xg_D (c := 9) (f := 10) rfl rfl e1 rfl (fxP_big (dyn_of (c := 9) e1 rfl))) ?_
          refine Sp.ocrn (fun a11 e12 => ?_)
          refine Sp.step rfl rfl rfl rfl ?_
          refine Sp.step rfl rfl rfl (xg_I (c := 9) (f := 2) rfl rfl e1 rfl) ?_
          refine Sp.step rfl rfl rfl rfl ?_
          refine Sp.step rfl rfl rfl rfl ?_
          refine Sp.step rfl rfl rfl rfl ?_
          refine Sp.step rfl rfl rfl (xg_I (c := 9) (f := 4) rfl rfl e1 rfl) ?_
          refine Sp.ocn (fun n13 e14 => ?_)
          refine Sp.guard (fun e15 => ?_)
          refine Sp.step rfl rfl rfl (xst (xL_ok e14) (by decide) e15) ?_
          refine Sp.step rfl rfl rfl rfl ?_
          refine Sp.step rfl rfl rfl (xg_D (c := 9) (f := 11) rfl rfl e1 rfl (fxP_big (dyn_of (c := 9) e1 rfl))) ?_
          refine Sp.ocrn (fun a17 e18 => ?_)
          refine Sp.step rfl rfl rfl rfl ?_
          refine Sp.step rfl rfl rfl (xg_I (c := 9) (f := 2) rfl rfl e1 rfl) ?_
          refine Sp.step rfl rfl rfl rfl ?_
          refine Sp.step rfl rfl rfl rfl ?_
          refine Sp.step rfl rfl rfl rfl ?_
          refine Sp.step rfl rfl rfl (xg_I (c := 9) (f := 8) rfl rfl e1 rfl) ?_
          refine Sp.ocn (fun n19 e20 => ?_)
          refine Sp.guard (fun e21 => ?_)
          refine Sp.step rfl rfl rfl (xst (xL_ok e20) (by decide) e21) ?_
          exact Sp.jmp (l0 := [some (.ref x), some (.int y), some (.int z)]) ⟨rfl, rfl, rfl, trivial⟩ (fun _ _ h => h)
      · refine Sp.step rfl rfl rfl rfl ?_
        refine Sp.guard (fun e24 => ?_)
        refine Sp.step rfl rfl rfl (xg_D (c := 9) (f := 5) rfl rfl e24 rfl (fxP_big (dyn_of (c := 9) e24 rfl))) ?_
        refine Sp.ocrn (fun a25 e26 => ?_)
        refine Sp.step rfl rfl rfl rfl ?_
        refine Sp.step rfl rfl rfl (xg_I (c := 9) (f := 2) rfl rfl e24 rfl) ?_
        refine Sp.step rfl rfl rfl rfl ?_
        refine Sp.step rfl rfl rfl rfl ?_
        refine Sp.step rfl rfl rfl rfl ?_
        refine Sp.step rfl rfl rfl (xg_I (c := 9) (f := 2) rfl rfl e24 rfl) ?_
        refine Sp.step rfl rfl rfl rfl ?_
        refine Sp.step rfl rfl rfl rfl ?_
        refine Sp.step rfl rfl rfl rfl ?_
        refine Sp.step rfl rfl rfl rfl ?_
        refine Sp.step rfl rfl rfl rfl ?_
        refine Sp.call rfl rfl rfl rfl s_Arrays_fill4 (fun x27 => ⟨_, _, ⟨rfl, rfl⟩, ?_⟩)
        refine Sp.id (pc := 94) (l := [some (.ref x), some (.int y), some (.int z)]) (st := []) (h := hS x27 M) ?_
        refine Sp.step rfl rfl rfl rfl ?_
        refine Sp.guard (fun e28 => ?_)
        refine Sp.step rfl rfl rfl (xg_D (c := 9) (f := 6) rfl rfl e28 rfl (fxP_big (dyn_of (c := 9) e28 rfl))) ?_
        refine Sp.ocrn (fun a29 e30 => ?_)
        refine Sp.step rfl rfl rfl rfl ?_
        refine Sp.step rfl rfl rfl (xg_I (c := 9) (f := 2) rfl rfl e28 rfl) ?_
        refine Sp.step rfl rfl rfl rfl ?_
        refine Sp.step rfl rfl rfl rfl ?_
        refine Sp.step rfl rfl rfl rfl ?_
        refine Sp.step rfl rfl rfl (xg_I (c := 9) (f := 2) rfl rfl e28 rfl) ?_
        refine Sp.step rfl rfl rfl rfl ?_
        refine Sp.step rfl rfl rfl rfl ?_
        refine Sp.step rfl rfl rfl rfl ?_
        refine Sp.step rfl rfl rfl rfl ?_
        refine Sp.step rfl rfl rfl rfl ?_
        refine Sp.call rfl rfl rfl rfl s_Arrays_fill4 (fun x31 => ⟨_, _, ⟨rfl, rfl⟩, ?_⟩)
        refine Sp.id (pc := 119) (l := [some (.ref x), some (.int y), some (.int z)]) (st := []) (h := hS x31 M) ?_
        refine Sp.step rfl rfl rfl rfl ?_
        refine Sp.step rfl rfl rfl rfl ?_
        refine Sp.guard (fun e32 => ?_)
        refine Sp.step rfl rfl rfl (xp_I (c := 9) (f := 3) rfl rfl e32 rfl rfl) ?_
        refine Sp.step rfl rfl rfl rfl ?_
        refine Sp.step rfl rfl rfl rfl ?_
        refine Sp.step rfl rfl rfl (xp_I (c := 9) (f := 4) rfl rfl e32 rfl rfl) ?_
        refine Sp.step rfl rfl rfl rfl ?_
        refine Sp.step rfl rfl rfl rfl ?_
        refine Sp.step rfl rfl rfl (xg_I (c := 9) (f := 2) rfl rfl e32 rfl) ?_
        refine Sp.step rfl rfl rfl rfl ?_
        refine Sp.step rfl rfl rfl rfl ?_
        refine Sp.step rfl rfl rfl rfl ?_
        refine Sp.step rfl rfl rfl rfl ?_
        refine Sp.step rfl rfl rfl (xp_I (c := 9) (f := 7) rfl rfl e32 rfl rfl) ?_
        refine Sp.step rfl rfl rfl rfl ?_
        refine Sp.step rfl rfl rfl rfl ?_
        refine Sp.step rfl rfl rfl (xp_I (c := 9) (f := 8) rfl rfl e32 rfl rfl) ?_
        refine Sp.step rfl rfl rfl rfl ?_
        refine Sp.step rfl rfl rfl rfl ?_
        refine Sp.step rfl rfl rfl (xg_I (c := 9) (f := 2) rfl rfl e32 rfl) ?_
        refine Sp.step rfl rfl rfl rfl ?_
        refine Sp.step rfl rfl rfl rfl ?_
        refine Sp.step rfl rfl rfl (xp_I (c := 9) (f := 2) rfl rfl e32 rfl rfl) ?_
        exact Sp.vret rfl rfl rfl (fun _ _ h => h)
    · exact Sp.vret rfl rfl rfl (fun _ _ h => h)
def f_Strand_start (x : Nat) (y : Int32) (z : Int32) (u : Int32) (v : Int32) (X : XS) : Option XS := (if (xT X x = some (14, 0)) then (lt (xw X x 0 0) fun X2 => (lt (xw X2 x 1 0) fun X3 => (lt (xw X3 x 2 0) fun X4 => ((f_Strand_enter x y z X4).bind fun x5 => (if (xT x5 x = some (14, 0)) then (ocz (x5.2.1 x 5) none (fun a7 => (ocz (xL x5 0 a7) none (fun n9 => (if ixo 0 n9 then (lt (xw x5 a7 0 u) fun X12 => (ocz (X12.2.1 x 6) none (fun a13 => (ocz (xL X12 0 a13) none (fun n15 => (if ixo 0 n15 then (lt (xw X12 a13 0 v) fun X18 => some X18) else none)))))) else none))))) else none))))) else none)
set_option maxRecDepth 100000 in
set_option maxHeartbeats 4000000 in
theorem s_Strand_start {L : Nat} {xs : Nat → Int32} {X : XS} {M : MS} {x : Nat} {y : Int32} {z : Int32} {u : Int32} {v : Int32} : Sp (mjOO L xs) 282 0 [some (.ref x), some (.int y), some (.int z), some (.int u), some (.int v)] [] (hS X M) (f_Strand_start x y z u v X) (KVX M) := by
  unfold f_Strand_start
  refine Sp.step rfl rfl rfl rfl ?_
  refine Sp.step rfl rfl rfl rfl ?_
  refine Sp.guard (fun e1 => ?_)
  refine Sp.step rfl rfl rfl (xp_I (c := 9) (f := 0) rfl rfl e1 rfl rfl) ?_
  refine Sp.step rfl rfl rfl rfl ?_
  refine Sp.step rfl rfl rfl rfl ?_
  refine Sp.step rfl rfl rfl (xp_I (c := 9) (f := 1) rfl rfl e1 rfl rfl) ?_
  refine Sp.step rfl rfl rfl rfl ?_
  refine Sp.step rfl rfl rfl rfl ?_
  refine Sp.step rfl rfl rfl (xp_I (c := 9) (f := 2) rfl rfl e1 rfl rfl) ?_
  refine Sp.step rfl rfl rfl rfl ?_
  refine Sp.step rfl rfl rfl rfl ?_
  refine Sp.step rfl rfl rfl rfl ?_
  refine Sp.call rfl rfl rfl (xrecv (c := 9) (by decide) e1 (by decide +kernel)) s_Strand_enter (fun x5 => ⟨_, _, ⟨rfl, rfl⟩, ?_⟩)
  refine Sp.id (pc := 21) (l := [some (.ref x), some (.int y), some (.int z), some (.int u), some (.int v)]) (st := []) (h := hS x5 M) ?_
  refine Sp.step rfl rfl rfl rfl ?_
  refine Sp.guard (fun e6 => ?_)
  refine Sp.step rfl rfl rfl (xg_D (c := 9) (f := 5) rfl rfl e6 rfl (fxP_big (dyn_of (c := 9) e6 rfl))) ?_
  refine Sp.ocrn (fun a7 e8 => ?_)
  refine Sp.step rfl rfl rfl rfl ?_
  refine Sp.step rfl rfl rfl rfl ?_
  refine Sp.ocn (fun n9 e10 => ?_)
  refine Sp.guard (fun e11 => ?_)
  refine Sp.step rfl rfl rfl (xst (xL_ok e10) (by decide) e11) ?_
  refine Sp.step rfl rfl rfl rfl ?_
  refine Sp.step rfl rfl rfl (xg_D (c := 9) (f := 6) rfl rfl e6 rfl (fxP_big (dyn_of (c := 9) e6 rfl))) ?_
  refine Sp.ocrn (fun a13 e14 => ?_)
  refine Sp.step rfl rfl rfl rfl ?_
  refine Sp.step rfl rfl rfl rfl ?_
  refine Sp.ocn (fun n15 e16 => ?_)
  refine Sp.guard (fun e17 => ?_)
  refine Sp.step rfl rfl rfl (xst (xL_ok e16) (by decide) e17) ?_
  exact Sp.vret rfl rfl rfl (fun _ _ h => h)
def f_Engine_beginStrand (x : Int32) (y : Int32) (z : Int32) (X : XS) : Option XS := (if 0 ≤ X.1 40 2 ∧ X.1 40 2 ≤ 5 then (ocz (X.2.1 50 (X.1 40 2).toNatClampNeg) (lt (xn X 14 0) fun X5 => (if (xT X5 (xA X) = some (14, 0)) then ((f_Strand_init (xA X) X5).bind fun x7 => (if (xT x7 (xA X) = some (14, 0)) then (lt (xp x7 50 (X.1 40 2).toNatClampNeg (some (xA X))) fun X9 => (if ixo (X9.1 40 2) 6 then (ocz (X9.2.1 50 (X9.1 40 2).toNatClampNeg) ((f_Image_codeAt_51 x X9).bind fun x13 => none) (fun a11 => ((f_Image_codeAt_51 x X9).bind fun x14 => (if (xT X9 a11 = some (14, 0)) then ((f_Strand_start a11 x x14 y z X9).bind fun x16 => (lt (xw x16 40 2 ((x16.1 40 2) + 1)) fun X17 => some X17)) else none)))) else none)) else none)) else none)) (fun a3 => (ocz (X.2.1 50 (X.1 40 2).toNatClampNeg) ((f_Image_codeAt_51 x X).bind fun x20 => none) (fun a18 => ((f_Image_codeAt_51 x X).bind fun x21 => (if (xT X a18 = some (14, 0)) then ((f_Strand_start a18 x x21 y z X).bind fun x23 => (lt (xw x23 40 2 ((x23.1 40 2) + 1)) fun X24 => some X24)) else none)))))) else some X)
set_option maxRecDepth 100000 in
set_option maxHeartbeats 4000000 in
theorem s_Engine_beginStrand {L : Nat} {xs : Nat → Int32} {X : XS} {M : MS} {x : Int32} {y : Int32} {z : Int32} : Sp (mjOO L xs) 105 0 [some (.ref 40), some (.int x), some (.int y), some (.int z)] [] (hS X M) (f_Engine_beginStrand x y z X) (KVX M) := by
  unfold f_Engine_beginStrand
  refine Sp.step rfl rfl rfl rfl ?_
  refine Sp.step rfl rfl rfl (xg_I (c := 0) (f := 2) rfl rfl rfl rfl) ?_
  refine Sp.step rfl rfl rfl rfl ?_
  refine Sp.step rfl rfl rfl rfl ?_
  refine Sp.callP rfl rfl rfl rfl s_within (fun e1 => ?_) (fun e1 => ?_)
  · refine Sp.id (pc := 9) (l := [some (.ref 40), some (.int x), some (.int y), some (.int z)]) (st := [.int 1]) (h := hS X M) ?_
    refine Sp.step rfl rfl rfl rfl ?_
    refine Sp.step rfl rfl rfl rfl ?_
    refine Sp.step rfl rfl rfl (xg_F (c := 0) (f := 5) rfl rfl rfl rfl rfl) ?_
    refine Sp.step rfl rfl rfl rfl ?_
    refine Sp.step rfl rfl rfl (xg_I (c := 0) (f := 2) rfl rfl rfl rfl) ?_
    refine Sp.step rfl rfl rfl (xald (t := 4) rfl (by decide) (fun _ => rfl) (ix_le (N := 5) rfl e1.1 e1.2)) ?_
    refine Sp.ocr (fun e4 => ?_) (fun a3 e4 => ?_)
    · refine Sp.step rfl rfl rfl rfl ?_
      refine Sp.step rfl rfl rfl rfl ?_
      refine Sp.step rfl rfl rfl (xg_F (c := 0) (f := 5) rfl rfl rfl rfl rfl) ?_
      refine Sp.step rfl rfl rfl rfl ?_
      refine Sp.step rfl rfl rfl (xg_I (c := 0) (f := 2) rfl rfl rfl rfl) ?_
      refine Sp.step rfl rfl rfl (xnewO (c := 9) rfl (fun _ => rfl)) ?_
      refine Sp.step rfl rfl rfl rfl ?_
      refine Sp.guard (fun e6 => ?_)
      refine Sp.call rfl rfl rfl (xrecv (c := 9) (by decide) e6 (by decide +kernel)) s_Strand_init (fun x7 => ⟨_, _, ⟨rfl, rfl⟩, ?_⟩)
      refine Sp.id (pc := 40) (l := [some (.ref 40), some (.int x), some (.int y), some (.int z)]) (st := [.ref (xA X), .int (X.1 40 2), .ref 50]) (h := hS x7 M) ?_
      refine Sp.guard (fun e8 => ?_)
      refine Sp.step rfl rfl rfl (xast (t := 4) (c := 9) rfl (by decide) (fun _ => rfl) (ix_le (N := 5) rfl e1.1 e1.2) e8 (by decide +kernel)) ?_
      refine Sp.step rfl rfl rfl rfl ?_
      refine Sp.step rfl rfl rfl (xg_F (c := 0) (f := 5) rfl rfl rfl rfl rfl) ?_
      refine Sp.step rfl rfl rfl rfl ?_
      refine Sp.step rfl rfl rfl (xg_I (c := 0) (f := 2) rfl rfl rfl rfl) ?_
      refine Sp.guard (fun e10 => ?_)
      refine Sp.step rfl rfl rfl (xald (t := 4) rfl (by decide) (fun _ => rfl) e10) ?_
      refine Sp.ocr (fun e12 => ?_) (fun a11 e12 => ?_)
      · refine Sp.step rfl rfl rfl rfl ?_
        refine Sp.step rfl rfl rfl rfl ?_
        refine Sp.step rfl rfl rfl (xg_F (c := 0) (f := 6) rfl rfl rfl rfl rfl) ?_
        refine Sp.step rfl rfl rfl rfl ?_
        refine Sp.call rfl rfl rfl (xrecv (c := 2) (by decide) rfl (by decide +kernel)) s_Image_codeAt_51 (fun x13 => ⟨_, _, ⟨rfl, rfl⟩, ?_⟩)
        refine Sp.id (pc := 59) (l := [some (.ref 40), some (.int x), some (.int y), some (.int z)]) (st := [.int x13, .int x, .null]) (h := hS (xp x7 50 (X.1 40 2).toNatClampNeg (some (xA X))) M) ?_
        refine Sp.step rfl rfl rfl rfl ?_
        refine Sp.step rfl rfl rfl rfl ?_
        exact Sp.none
      · refine Sp.step rfl rfl rfl rfl ?_
        refine Sp.step rfl rfl rfl rfl ?_
        refine Sp.step rfl rfl rfl (xg_F (c := 0) (f := 6) rfl rfl rfl rfl rfl) ?_
        refine Sp.step rfl rfl rfl rfl ?_
        refine Sp.call rfl rfl rfl (xrecv (c := 2) (by decide) rfl (by decide +kernel)) s_Image_codeAt_51 (fun x14 => ⟨_, _, ⟨rfl, rfl⟩, ?_⟩)
        refine Sp.id (pc := 59) (l := [some (.ref 40), some (.int x), some (.int y), some (.int z)]) (st := [.int x14, .int x, .ref a11]) (h := hS (xp x7 50 (X.1 40 2).toNatClampNeg (some (xA X))) M) ?_
        refine Sp.step rfl rfl rfl rfl ?_
        refine Sp.step rfl rfl rfl rfl ?_
        refine Sp.guard (fun e15 => ?_)
        refine Sp.call rfl rfl rfl (xrecv (c := 9) (by decide) e15 (by decide +kernel)) s_Strand_start (fun x16 => ⟨_, _, ⟨rfl, rfl⟩, ?_⟩)
        refine Sp.id (pc := 64) (l := [some (.ref 40), some (.int x), some (.int y), some (.int z)]) (st := []) (h := hS x16 M) ?_
        refine Sp.step rfl rfl rfl rfl ?_
        refine Sp.step rfl rfl rfl rfl ?_
        refine Sp.step rfl rfl rfl (xg_I (c := 0) (f := 2) rfl rfl rfl rfl) ?_
        refine Sp.step rfl rfl rfl rfl ?_
        refine Sp.step rfl rfl rfl rfl ?_
        refine Sp.step rfl rfl rfl (xp_I (c := 0) (f := 2) rfl rfl rfl rfl rfl) ?_
        exact Sp.vret rfl rfl rfl (fun _ _ h => h)
    · refine Sp.step rfl rfl rfl rfl ?_
      refine Sp.step rfl rfl rfl rfl ?_
      refine Sp.step rfl rfl rfl (xg_F (c := 0) (f := 5) rfl rfl rfl rfl rfl) ?_
      refine Sp.step rfl rfl rfl rfl ?_
      refine Sp.step rfl rfl rfl (xg_I (c := 0) (f := 2) rfl rfl rfl rfl) ?_
      refine Sp.step rfl rfl rfl (xald (t := 4) rfl (by decide) (fun _ => rfl) (ix_le (N := 5) rfl e1.1 e1.2)) ?_
      refine Sp.ocr (fun e19 => ?_) (fun a18 e19 => ?_)
      · refine Sp.step rfl rfl rfl rfl ?_
        refine Sp.step rfl rfl rfl rfl ?_
        refine Sp.step rfl rfl rfl (xg_F (c := 0) (f := 6) rfl rfl rfl rfl rfl) ?_
        refine Sp.step rfl rfl rfl rfl ?_
        refine Sp.call rfl rfl rfl (xrecv (c := 2) (by decide) rfl (by decide +kernel)) s_Image_codeAt_51 (fun x20 => ⟨_, _, ⟨rfl, rfl⟩, ?_⟩)
        refine Sp.id (pc := 59) (l := [some (.ref 40), some (.int x), some (.int y), some (.int z)]) (st := [.int x20, .int x, .null]) (h := hS X M) ?_
        refine Sp.step rfl rfl rfl rfl ?_
        refine Sp.step rfl rfl rfl rfl ?_
        exact Sp.none
      · refine Sp.step rfl rfl rfl rfl ?_
        refine Sp.step rfl rfl rfl rfl ?_
        refine Sp.step rfl rfl rfl (xg_F (c := 0) (f := 6) rfl rfl rfl rfl rfl) ?_
        refine Sp.step rfl rfl rfl rfl ?_
        refine Sp.call rfl rfl rfl (xrecv (c := 2) (by decide) rfl (by decide +kernel)) s_Image_codeAt_51 (fun x21 => ⟨_, _, ⟨rfl, rfl⟩, ?_⟩)
        refine Sp.id (pc := 59) (l := [some (.ref 40), some (.int x), some (.int y), some (.int z)]) (st := [.int x21, .int x, .ref a18]) (h := hS X M) ?_
        refine Sp.step rfl rfl rfl rfl ?_
        refine Sp.step rfl rfl rfl rfl ?_
        refine Sp.guard (fun e22 => ?_)
        refine Sp.call rfl rfl rfl (xrecv (c := 9) (by decide) e22 (by decide +kernel)) s_Strand_start (fun x23 => ⟨_, _, ⟨rfl, rfl⟩, ?_⟩)
        refine Sp.id (pc := 64) (l := [some (.ref 40), some (.int x), some (.int y), some (.int z)]) (st := []) (h := hS x23 M) ?_
        refine Sp.step rfl rfl rfl rfl ?_
        refine Sp.step rfl rfl rfl rfl ?_
        refine Sp.step rfl rfl rfl (xg_I (c := 0) (f := 2) rfl rfl rfl rfl) ?_
        refine Sp.step rfl rfl rfl rfl ?_
        refine Sp.step rfl rfl rfl rfl ?_
        refine Sp.step rfl rfl rfl (xp_I (c := 0) (f := 2) rfl rfl rfl rfl rfl) ?_
        exact Sp.vret rfl rfl rfl (fun _ _ h => h)
  · refine Sp.id (pc := 9) (l := [some (.ref 40), some (.int x), some (.int y), some (.int z)]) (st := [.int 0]) (h := hS X M) ?_
    refine Sp.step rfl rfl rfl rfl ?_
    exact Sp.vret rfl rfl rfl (fun _ _ h => h)
def f_Engine_start_30 (x : Int32) (X : XS) : Option XS := ((f_Image_copyFrom_51_30 X).bind fun x1 => ((f_Memory_start_51 x x1).bind fun x2 => ((f_Ports_clear x2).bind fun x3 => ((f_Arrays_fill_562 0 x3).bind fun x4 => ((f_Arrays_fill_572 0 x4).bind fun x5 => (lt (xw x5 40 0 1) fun X6 => (lt (xw X6 40 10 0) fun X7 => (lt (xw X7 40 2 0) fun X8 => ((f_Image_main_51 X8).bind fun x9 => ((f_Engine_beginStrand x9 0 0 X8).bind fun x10 => some x10))))))))))
set_option maxRecDepth 100000 in
set_option maxHeartbeats 4000000 in
theorem s_Engine_start_30 {L : Nat} {xs : Nat → Int32} {X : XS} {M : MS} {x : Int32} : Sp (mjOO L xs) 104 0 [some (.ref 40), some (.ref 30), some (.int x)] [] (hS X M) (f_Engine_start_30 x X) (KVX M) := by
  unfold f_Engine_start_30
  refine Sp.step rfl rfl rfl rfl ?_
  refine Sp.step rfl rfl rfl (xg_F (c := 0) (f := 6) rfl rfl rfl rfl rfl) ?_
  refine Sp.step rfl rfl rfl rfl ?_
  refine Sp.call rfl rfl rfl (xrecv (c := 2) (by decide) rfl (by decide +kernel)) s_Image_copyFrom_51_30 (fun x1 => ⟨_, _, ⟨rfl, rfl⟩, ?_⟩)
  refine Sp.id (pc := 8) (l := [some (.ref 40), some (.ref 30), some (.int x)]) (st := []) (h := hS x1 M) ?_
  refine Sp.step rfl rfl rfl rfl ?_
  refine Sp.step rfl rfl rfl (xg_F (c := 0) (f := 3) rfl rfl rfl rfl rfl) ?_
  refine Sp.step rfl rfl rfl rfl ?_
  refine Sp.step rfl rfl rfl (xg_F (c := 0) (f := 6) rfl rfl rfl rfl rfl) ?_
  refine Sp.step rfl rfl rfl rfl ?_
  refine Sp.call rfl rfl rfl (xrecv (c := 4) (by decide) rfl (by decide +kernel)) s_Memory_start_51 (fun x2 => ⟨_, _, ⟨rfl, rfl⟩, ?_⟩)
  refine Sp.id (pc := 20) (l := [some (.ref 40), some (.ref 30), some (.int x)]) (st := []) (h := hS x2 M) ?_
  refine Sp.step rfl rfl rfl rfl ?_
  refine Sp.step rfl rfl rfl (xg_F (c := 0) (f := 4) rfl rfl rfl rfl rfl) ?_
  refine Sp.call rfl rfl rfl (xrecv (c := 5) (by decide) rfl (by decide +kernel)) s_Ports_clear (fun x3 => ⟨_, _, ⟨rfl, rfl⟩, ?_⟩)
  refine Sp.id (pc := 27) (l := [some (.ref 40), some (.ref 30), some (.int x)]) (st := []) (h := hS x3 M) ?_
  refine Sp.step rfl rfl rfl rfl ?_
  refine Sp.step rfl rfl rfl (xg_F (c := 0) (f := 7) rfl rfl rfl rfl rfl) ?_
  refine Sp.step rfl rfl rfl rfl ?_
  refine Sp.call rfl rfl rfl rfl s_Arrays_fill_562 (fun x4 => ⟨_, _, ⟨rfl, rfl⟩, ?_⟩)
  refine Sp.id (pc := 35) (l := [some (.ref 40), some (.ref 30), some (.int x)]) (st := []) (h := hS x4 M) ?_
  refine Sp.step rfl rfl rfl rfl ?_
  refine Sp.step rfl rfl rfl (xg_F (c := 0) (f := 8) rfl rfl rfl rfl rfl) ?_
  refine Sp.step rfl rfl rfl rfl ?_
  refine Sp.call rfl rfl rfl rfl s_Arrays_fill_572 (fun x5 => ⟨_, _, ⟨rfl, rfl⟩, ?_⟩)
  refine Sp.id (pc := 43) (l := [some (.ref 40), some (.ref 30), some (.int x)]) (st := []) (h := hS x5 M) ?_
  refine Sp.step rfl rfl rfl rfl ?_
  refine Sp.step rfl rfl rfl rfl ?_
  refine Sp.step rfl rfl rfl (xp_I (c := 0) (f := 0) rfl rfl rfl rfl rfl) ?_
  refine Sp.step rfl rfl rfl rfl ?_
  refine Sp.step rfl rfl rfl rfl ?_
  refine Sp.step rfl rfl rfl (xp_I (c := 0) (f := 10) rfl rfl rfl rfl rfl) ?_
  refine Sp.step rfl rfl rfl rfl ?_
  refine Sp.step rfl rfl rfl rfl ?_
  refine Sp.step rfl rfl rfl (xp_I (c := 0) (f := 2) rfl rfl rfl rfl rfl) ?_
  refine Sp.step rfl rfl rfl rfl ?_
  refine Sp.step rfl rfl rfl rfl ?_
  refine Sp.step rfl rfl rfl (xg_F (c := 0) (f := 6) rfl rfl rfl rfl rfl) ?_
  refine Sp.call rfl rfl rfl (xrecv (c := 2) (by decide) rfl (by decide +kernel)) s_Image_main_51 (fun x9 => ⟨_, _, ⟨rfl, rfl⟩, ?_⟩)
  refine Sp.id (pc := 66) (l := [some (.ref 40), some (.ref 30), some (.int x)]) (st := [.int x9, .ref 40]) (h := hS (xw (xw (xw x5 40 0 1) 40 10 0) 40 2 0) M) ?_
  refine Sp.step rfl rfl rfl rfl ?_
  refine Sp.step rfl rfl rfl rfl ?_
  refine Sp.call rfl rfl rfl (xrecv (c := 0) (by decide) rfl (by decide +kernel)) s_Engine_beginStrand (fun x10 => ⟨_, _, ⟨rfl, rfl⟩, ?_⟩)
  refine Sp.id (pc := 71) (l := [some (.ref 40), some (.ref 30), some (.int x)]) (st := []) (h := hS x10 M) ?_
  exact Sp.vret rfl rfl rfl (fun _ _ h => h)
def f_Turns_start (x : Int32) (X : XS) : Option XS := (lt (xw X 59 4 x) fun X1 => (lt (xw X1 59 3 x) fun X2 => (lt (xw X2 59 2 0) fun X3 => (lt (xw X3 59 0 0) fun X4 => some X4))))
set_option maxRecDepth 100000 in
set_option maxHeartbeats 4000000 in
theorem s_Turns_start {L : Nat} {xs : Nat → Int32} {X : XS} {M : MS} {x : Int32} : Sp (mjOO L xs) 301 0 [some (.ref 59), some (.int x)] [] (hS X M) (f_Turns_start x X) (KVX M) := by
  unfold f_Turns_start
  refine Sp.step rfl rfl rfl rfl ?_
  refine Sp.step rfl rfl rfl rfl ?_
  refine Sp.step rfl rfl rfl (xp_I (c := 10) (f := 4) rfl rfl rfl rfl rfl) ?_
  refine Sp.step rfl rfl rfl rfl ?_
  refine Sp.step rfl rfl rfl rfl ?_
  refine Sp.step rfl rfl rfl (xp_I (c := 10) (f := 3) rfl rfl rfl rfl rfl) ?_
  refine Sp.step rfl rfl rfl rfl ?_
  refine Sp.step rfl rfl rfl rfl ?_
  refine Sp.step rfl rfl rfl (xp_I (c := 10) (f := 2) rfl rfl rfl rfl rfl) ?_
  refine Sp.step rfl rfl rfl rfl ?_
  refine Sp.step rfl rfl rfl rfl ?_
  refine Sp.step rfl rfl rfl (xp_I (c := 10) (f := 0) rfl rfl rfl rfl rfl) ?_
  exact Sp.vret rfl rfl rfl (fun _ _ h => h)
def f_P_boot (x : Int32) (y : Int32) (X : XS) : Option (Bool × XS) := (if X.1 30 0 = 0 then some (false, X) else (if 1 ≤ x ∧ x ≤ 50 then (if 50 ≤ y ∧ y ≤ 8000 then ((f_Engine_start_30 y X).bind fun x6 => ((f_Turns_start x x6).bind fun x7 => some (true, x7))) else some (false, X)) else some (false, X)))
set_option maxRecDepth 100000 in
set_option maxHeartbeats 4000000 in
theorem s_P_boot {L : Nat} {xs : Nat → Int32} {X : XS} {M : MS} {x : Int32} {y : Int32} : Sp (mjOO L xs) 9 0 [some (.ref 0), some (.int x), some (.int y)] [] (hS X M) (f_P_boot x y X) (KBX M) := by
  unfold f_P_boot
  refine Sp.step rfl rfl rfl rfl ?_
  refine Sp.step rfl rfl rfl (xg_F (c := 11) (f := 2) rfl rfl rfl rfl rfl) ?_
  refine Sp.step rfl rfl rfl (xg_I (c := 2) (f := 0) rfl rfl rfl rfl) ?_
  refine Sp.if1 rfl rfl rfl rfl (fun e1 => ?_) (fun e1 => ?_)
  · refine Sp.step rfl rfl rfl rfl ?_
    exact Sp.iret rfl rfl rfl rfl (fun _ _ h => h)
  · refine Sp.step rfl rfl rfl rfl ?_
    refine Sp.step rfl rfl rfl rfl ?_
    refine Sp.step rfl rfl rfl rfl ?_
    refine Sp.callP rfl rfl rfl rfl s_within (fun e2 => ?_) (fun e2 => ?_)
    · refine Sp.id (pc := 17) (l := [some (.ref 0), some (.int x), some (.int y)]) (st := [.int 1]) (h := hS X M) ?_
      refine Sp.step rfl rfl rfl rfl ?_
      refine Sp.step rfl rfl rfl rfl ?_
      refine Sp.step rfl rfl rfl rfl ?_
      refine Sp.step rfl rfl rfl rfl ?_
      refine Sp.callP rfl rfl rfl rfl s_within (fun e4 => ?_) (fun e4 => ?_)
      · refine Sp.id (pc := 29) (l := [some (.ref 0), some (.int x), some (.int y)]) (st := [.int 1]) (h := hS X M) ?_
        refine Sp.step rfl rfl rfl rfl ?_
        refine Sp.step rfl rfl rfl rfl ?_
        refine Sp.step rfl rfl rfl (xg_F (c := 11) (f := 4) rfl rfl rfl rfl rfl) ?_
        refine Sp.step rfl rfl rfl rfl ?_
        refine Sp.step rfl rfl rfl (xg_F (c := 11) (f := 2) rfl rfl rfl rfl rfl) ?_
        refine Sp.step rfl rfl rfl rfl ?_
        refine Sp.call rfl rfl rfl (xrecv (c := 0) (by decide) rfl (by decide +kernel)) s_Engine_start_30 (fun x6 => ⟨_, _, ⟨rfl, rfl⟩, ?_⟩)
        refine Sp.id (pc := 46) (l := [some (.ref 0), some (.int x), some (.int y)]) (st := []) (h := hS x6 M) ?_
        refine Sp.step rfl rfl rfl rfl ?_
        refine Sp.step rfl rfl rfl (xg_F (c := 11) (f := 5) rfl rfl rfl rfl rfl) ?_
        refine Sp.step rfl rfl rfl rfl ?_
        refine Sp.call rfl rfl rfl (xrecv (c := 10) (by decide) rfl (by decide +kernel)) s_Turns_start (fun x7 => ⟨_, _, ⟨rfl, rfl⟩, ?_⟩)
        refine Sp.id (pc := 54) (l := [some (.ref 0), some (.int x), some (.int y)]) (st := []) (h := hS x7 M) ?_
        refine Sp.step rfl rfl rfl rfl ?_
        exact Sp.iret rfl rfl rfl rfl (fun _ _ h => h)
      · refine Sp.id (pc := 29) (l := [some (.ref 0), some (.int x), some (.int y)]) (st := [.int 0]) (h := hS X M) ?_
        refine Sp.step rfl rfl rfl rfl ?_
        refine Sp.step rfl rfl rfl rfl ?_
        exact Sp.iret rfl rfl rfl rfl (fun _ _ h => h)
    · refine Sp.id (pc := 17) (l := [some (.ref 0), some (.int x), some (.int y)]) (st := [.int 0]) (h := hS X M) ?_
      refine Sp.step rfl rfl rfl rfl ?_
      refine Sp.step rfl rfl rfl rfl ?_
      exact Sp.iret rfl rfl rfl rfl (fun _ _ h => h)
def f_Ports_offer (x : Int32) (X : XS) : Option (Bool × XS) := (if X.1 47 0 < 100 then (((if 100 ≤ (X.1 47 2) + (X.1 47 0) then some (((X.1 47 2) + (X.1 47 0)) - 100) else some ((X.1 47 2) + (X.1 47 0))) : Option (Int32)).bind fun x3 => (if 0 ≤ x3 ∧ x3 ≤ 99 then (lt (xw X 48 x3.toNatClampNeg x) fun X6 => (lt (xw X6 47 0 ((X6.1 47 0) + 1)) fun X7 => some (true, X7))) else (lt (xw X 47 0 ((X.1 47 0) + 1)) fun X9 => some (true, X9)))) else some (false, X))
set_option maxRecDepth 100000 in
set_option maxHeartbeats 4000000 in
theorem s_Ports_offer {L : Nat} {xs : Nat → Int32} {X : XS} {M : MS} {x : Int32} : Sp (mjOO L xs) 236 0 [some (.ref 47), some (.int x), none] [] (hS X M) (f_Ports_offer x X) (KBX M) := by
  unfold f_Ports_offer
  refine Sp.step rfl rfl rfl rfl ?_
  refine Sp.step rfl rfl rfl (xg_I (c := 5) (f := 0) rfl rfl rfl rfl) ?_
  refine Sp.step rfl rfl rfl rfl ?_
  refine Sp.if2 rfl rfl rfl rfl (fun e1 => ?_) (fun e1 => ?_)
  · refine Sp.step rfl rfl rfl rfl ?_
    refine Sp.step rfl rfl rfl (xg_I (c := 5) (f := 2) rfl rfl rfl rfl) ?_
    refine Sp.step rfl rfl rfl rfl ?_
    refine Sp.step rfl rfl rfl (xg_I (c := 5) (f := 0) rfl rfl rfl rfl) ?_
    refine Sp.step rfl rfl rfl rfl ?_
    refine Sp.step rfl rfl rfl rfl ?_
    refine Sp.step rfl rfl rfl rfl ?_
    refine Sp.step rfl rfl rfl rfl ?_
    refine Sp.piece (pe := 35) (mf := (fun (x3 : Int32) => [some (.ref 47), some (.int x), none])) (sf := (fun (x3 : Int32) => [.int x3])) (hf := (fun (x3 : Int32) => hS X M)) ?_ (fun x3 => ?_)
    · refine Sp.if2 rfl rfl rfl rfl (fun e2 => ?_) (fun e2 => ?_)
      · refine Sp.step rfl rfl rfl rfl ?_
        refine Sp.step rfl rfl rfl rfl ?_
        refine Sp.step rfl rfl rfl rfl ?_
        exact Sp.jmp (l0 := [some (.ref 47), some (.int x), none]) ⟨rfl, rfl, trivial⟩ (fun _ _ h => h)
      · refine Sp.step rfl rfl rfl rfl ?_
        refine Sp.step rfl rfl rfl rfl ?_
        exact Sp.jmp (l0 := [some (.ref 47), some (.int x), none]) ⟨rfl, rfl, trivial⟩ (fun _ _ h => h)
    · refine Sp.step rfl rfl rfl rfl ?_
      refine Sp.step rfl rfl rfl rfl ?_
      refine Sp.step rfl rfl rfl rfl ?_
      refine Sp.step rfl rfl rfl rfl ?_
      refine Sp.callP rfl rfl rfl rfl s_within (fun e4 => ?_) (fun e4 => ?_)
      · refine Sp.id (pc := 43) (l := [some (.ref 47), some (.int x), some (.int x3)]) (st := [.int 1]) (h := hS X M) ?_
        refine Sp.step rfl rfl rfl rfl ?_
        refine Sp.step rfl rfl rfl rfl ?_
        refine Sp.step rfl rfl rfl (xg_F (c := 5) (f := 3) rfl rfl rfl rfl rfl) ?_
        refine Sp.step rfl rfl rfl rfl ?_
        refine Sp.step rfl rfl rfl rfl ?_
        refine Sp.step rfl rfl rfl (xst rfl (by decide) (ix_le (N := 99) rfl e4.1 e4.2)) ?_
        refine Sp.step rfl rfl rfl rfl ?_
        refine Sp.step rfl rfl rfl rfl ?_
        refine Sp.step rfl rfl rfl (xg_I (c := 5) (f := 0) rfl rfl rfl rfl) ?_
        refine Sp.step rfl rfl rfl rfl ?_
        refine Sp.step rfl rfl rfl rfl ?_
        refine Sp.step rfl rfl rfl (xp_I (c := 5) (f := 0) rfl rfl rfl rfl rfl) ?_
        refine Sp.step rfl rfl rfl rfl ?_
        exact Sp.iret rfl rfl rfl rfl (fun _ _ h => h)
      · refine Sp.id (pc := 43) (l := [some (.ref 47), some (.int x), some (.int x3)]) (st := [.int 0]) (h := hS X M) ?_
        refine Sp.step rfl rfl rfl rfl ?_
        refine Sp.step rfl rfl rfl rfl ?_
        refine Sp.step rfl rfl rfl rfl ?_
        refine Sp.step rfl rfl rfl (xg_I (c := 5) (f := 0) rfl rfl rfl rfl) ?_
        refine Sp.step rfl rfl rfl rfl ?_
        refine Sp.step rfl rfl rfl rfl ?_
        refine Sp.step rfl rfl rfl (xp_I (c := 5) (f := 0) rfl rfl rfl rfl rfl) ?_
        refine Sp.step rfl rfl rfl rfl ?_
        exact Sp.iret rfl rfl rfl rfl (fun _ _ h => h)
  · refine Sp.step rfl rfl rfl rfl ?_
    exact Sp.iret rfl rfl rfl rfl (fun _ _ h => h)
def f_P_input (x : Int32) (X : XS) : Option (Bool × XS) := (if X.1 40 0 = 0 then some (false, X) else ((f_Ports_offer x X).bind fun x2 => (if x2.1 = true then some (true, x2.2) else some (false, x2.2))))
set_option maxRecDepth 100000 in
set_option maxHeartbeats 4000000 in
theorem s_P_input {L : Nat} {xs : Nat → Int32} {X : XS} {M : MS} {x : Int32} : Sp (mjOO L xs) 10 0 [some (.ref 0), some (.int x)] [] (hS X M) (f_P_input x X) (KBX M) := by
  unfold f_P_input
  refine Sp.step rfl rfl rfl rfl ?_
  refine Sp.step rfl rfl rfl (xg_F (c := 11) (f := 4) rfl rfl rfl rfl rfl) ?_
  refine Sp.step rfl rfl rfl (xg_I (c := 0) (f := 0) rfl rfl rfl rfl) ?_
  refine Sp.if1 rfl rfl rfl rfl (fun e1 => ?_) (fun e1 => ?_)
  · refine Sp.step rfl rfl rfl rfl ?_
    exact Sp.iret rfl rfl rfl rfl (fun _ _ h => h)
  · refine Sp.step rfl rfl rfl rfl ?_
    refine Sp.step rfl rfl rfl (xg_F (c := 11) (f := 4) rfl rfl rfl rfl rfl) ?_
    refine Sp.step rfl rfl rfl (xg_F (c := 0) (f := 4) rfl rfl rfl rfl rfl) ?_
    refine Sp.step rfl rfl rfl rfl ?_
    refine Sp.call rfl rfl rfl (xrecv (c := 5) (by decide) rfl (by decide +kernel)) s_Ports_offer (fun x2 => ⟨_, _, ⟨rfl, rfl⟩, ?_⟩)
    refine Sp.bool (fun e3 => ?_) (fun e3 => ?_)
    · refine Sp.id (pc := 21) (l := [some (.ref 0), some (.int x)]) (st := [.int 1]) (h := hS x2.2 M) ?_
      refine Sp.step rfl rfl rfl rfl ?_
      refine Sp.step rfl rfl rfl rfl ?_
      refine Sp.step rfl rfl rfl rfl ?_
      exact Sp.iret rfl rfl rfl rfl (fun _ _ h => h)
    · refine Sp.id (pc := 21) (l := [some (.ref 0), some (.int x)]) (st := [.int 0]) (h := hS x2.2 M) ?_
      refine Sp.step rfl rfl rfl rfl ?_
      refine Sp.step rfl rfl rfl rfl ?_
      exact Sp.iret rfl rfl rfl rfl (fun _ _ h => h)
def f_Engine_isStrand (x : Int32) (X : XS) : Bool := (if x < 0 then false else (if X.1 40 2 ≤ x then false else (if 6 ≤ x then false else (ocz (X.2.1 50 x.toNatClampNeg) false (fun a4 => true)))))
set_option maxRecDepth 100000 in
set_option maxHeartbeats 4000000 in
theorem s_Engine_isStrand {L : Nat} {xs : Nat → Int32} {X : XS} {M : MS} {x : Int32} : Sp (mjOO L xs) 106 0 [some (.ref 40), some (.int x)] [] (hS X M) (some (f_Engine_isStrand x X)) (KB (hS X M)) := by
  unfold f_Engine_isStrand
  refine Sp.step rfl rfl rfl rfl ?_
  refine Sp.if1V rfl rfl rfl rfl (fun e1 => ?_) (fun e1 => ?_)
  · refine Sp.step rfl rfl rfl rfl ?_
    exact Sp.iret rfl rfl rfl rfl (fun _ _ h => h)
  · refine Sp.step rfl rfl rfl rfl ?_
    refine Sp.step rfl rfl rfl rfl ?_
    refine Sp.step rfl rfl rfl (xg_I (c := 0) (f := 2) rfl rfl rfl rfl) ?_
    refine Sp.if2V rfl rfl rfl rfl (fun e2 => ?_) (fun e2 => ?_)
    · refine Sp.step rfl rfl rfl rfl ?_
      exact Sp.iret rfl rfl rfl rfl (fun _ _ h => h)
    · refine Sp.step rfl rfl rfl rfl ?_
      refine Sp.step rfl rfl rfl rfl ?_
      refine Sp.if2V rfl rfl rfl rfl (fun e3 => ?_) (fun e3 => ?_)
      · refine Sp.step rfl rfl rfl rfl ?_
        exact Sp.iret rfl rfl rfl rfl (fun _ _ h => h)
      · refine Sp.step rfl rfl rfl rfl ?_
        refine Sp.step rfl rfl rfl (xg_F (c := 0) (f := 5) rfl rfl rfl rfl rfl) ?_
        refine Sp.step rfl rfl rfl rfl ?_
        refine Sp.step rfl rfl rfl (xald (t := 4) rfl (by decide) (fun _ => rfl) (ix_ok (N := 6) (n := 6) rfl (Int32.not_lt.mp e1) (Int32.not_le.mp e3))) ?_
        refine Sp.ocrV (fun e5 => ?_) (fun a4 e5 => ?_)
        · refine Sp.step rfl rfl rfl rfl ?_
          refine Sp.step rfl rfl rfl rfl ?_
          exact Sp.iret rfl rfl rfl rfl (fun _ _ h => h)
        · refine Sp.step rfl rfl rfl rfl ?_
          refine Sp.step rfl rfl rfl rfl ?_
          refine Sp.step rfl rfl rfl rfl ?_
          exact Sp.iret rfl rfl rfl rfl (fun _ _ h => h)
theorem isStrand_ix {x : Int32} {X : XS} (h : f_Engine_isStrand x X = true) : ixo x 6 := by
  unfold f_Engine_isStrand at h
  by_cases c0 : x < 0
  · rw [if_pos c0] at h; cases h
  · rw [if_neg c0] at h
    by_cases c1 : X.1 40 2 ≤ x
    · rw [if_pos c1] at h; cases h
    · rw [if_neg c1] at h
      by_cases c2 : 6 ≤ x
      · rw [if_pos c2] at h; cases h
      · exact ix_ok (N := 6) (n := 6) rfl (Int32.not_lt.mp c0) (Int32.not_le.mp c2)
def f_Strand_slotUnder (x : Nat) (y : Int32) (X : XS) : Option Int32 := (if (xT X x = some (14, 0)) then (if y < 0 then some (-1) else (if X.1 x 8 ≤ y then some (-1) else (if 440 ≤ (((X.1 x 7) + (X.1 x 8)) - 1) - y then some (-1) else some ((((X.1 x 7) + (X.1 x 8)) - 1) - y)))) else none)
set_option maxRecDepth 100000 in
set_option maxHeartbeats 4000000 in
theorem s_Strand_slotUnder {L : Nat} {xs : Nat → Int32} {X : XS} {M : MS} {x : Nat} {y : Int32} : Sp (mjOO L xs) 288 0 [some (.ref x), some (.int y), none] [] (hS X M) (f_Strand_slotUnder x y X) (KQ (hS X M)) := by
  unfold f_Strand_slotUnder
  refine Sp.step rfl rfl rfl rfl ?_
  refine Sp.guard (fun e1 => ?_)
  refine Sp.step rfl rfl rfl (xg_I (c := 9) (f := 7) rfl rfl e1 rfl) ?_
  refine Sp.step rfl rfl rfl rfl ?_
  refine Sp.step rfl rfl rfl (xg_I (c := 9) (f := 8) rfl rfl e1 rfl) ?_
  refine Sp.step rfl rfl rfl rfl ?_
  refine Sp.step rfl rfl rfl rfl ?_
  refine Sp.step rfl rfl rfl rfl ?_
  refine Sp.step rfl rfl rfl rfl ?_
  refine Sp.step rfl rfl rfl rfl ?_
  refine Sp.step rfl rfl rfl rfl ?_
  refine Sp.step rfl rfl rfl rfl ?_
  refine Sp.if1 rfl rfl rfl rfl (fun e2 => ?_) (fun e2 => ?_)
  · refine Sp.step rfl rfl rfl rfl ?_
    exact Sp.iret rfl rfl rfl rfl (fun _ _ h => h)
  · refine Sp.step rfl rfl rfl rfl ?_
    refine Sp.step rfl rfl rfl rfl ?_
    refine Sp.step rfl rfl rfl (xg_I (c := 9) (f := 8) rfl rfl e1 rfl) ?_
    refine Sp.if2 rfl rfl rfl rfl (fun e3 => ?_) (fun e3 => ?_)
    · refine Sp.step rfl rfl rfl rfl ?_
      exact Sp.iret rfl rfl rfl rfl (fun _ _ h => h)
    · refine Sp.step rfl rfl rfl rfl ?_
      refine Sp.step rfl rfl rfl rfl ?_
      refine Sp.if2 rfl rfl rfl rfl (fun e4 => ?_) (fun e4 => ?_)
      · refine Sp.step rfl rfl rfl rfl ?_
        exact Sp.iret rfl rfl rfl rfl (fun _ _ h => h)
      · refine Sp.step rfl rfl rfl rfl ?_
        refine Sp.step rfl rfl rfl rfl ?_
        exact Sp.iret rfl rfl rfl rfl (fun _ _ h => h)
def f_Strand_peek (x : Nat) (y : Int32) (X : XS) : Option Int32 := (if (xT X x = some (14, 0)) then ((f_Strand_slotUnder x y X).bind fun x2 => (if 0 ≤ x2 then (ocz (X.2.1 x 5) none (fun a4 => (ocz (xL X 0 a4) none (fun n6 => (if ixo x2 n6 then some (X.1 a4 x2.toNatClampNeg) else none))))) else some 0)) else none)
set_option maxRecDepth 100000 in
set_option maxHeartbeats 4000000 in
theorem s_Strand_peek {L : Nat} {xs : Nat → Int32} {X : XS} {M : MS} {x : Nat} {y : Int32} : Sp (mjOO L xs) 290 0 [some (.ref x), some (.int y), none] [] (hS X M) (f_Strand_peek x y X) (KQ (hS X M)) := by
  unfold f_Strand_peek
  refine Sp.step rfl rfl rfl rfl ?_
  refine Sp.step rfl rfl rfl rfl ?_
  refine Sp.guard (fun e1 => ?_)
  refine Sp.call rfl rfl rfl (xrecv (c := 9) (by decide) e1 (by decide +kernel)) s_Strand_slotUnder (fun x2 => ⟨_, _, ⟨rfl, rfl⟩, ?_⟩)
  refine Sp.id (pc := 5) (l := [some (.ref x), some (.int y), none]) (st := [.int x2]) (h := hS X M) ?_
  refine Sp.step rfl rfl rfl rfl ?_
  refine Sp.step rfl rfl rfl rfl ?_
  refine Sp.if1 rfl rfl rfl rfl (fun e3 => ?_) (fun e3 => ?_)
  · refine Sp.step rfl rfl rfl rfl ?_
    refine Sp.step rfl rfl rfl (xg_D (c := 9) (f := 5) rfl rfl e1 rfl (fxP_big (dyn_of (c := 9) e1 rfl))) ?_
    refine Sp.ocrn (fun a4 e5 => ?_)
    refine Sp.step rfl rfl rfl rfl ?_
    refine Sp.ocn (fun n6 e7 => ?_)
    refine Sp.guard (fun e8 => ?_)
    refine Sp.step rfl rfl rfl (xld (xL_ok e7) (by decide) e8) ?_
    exact Sp.iret rfl rfl rfl rfl (fun _ _ h => h)
  · refine Sp.step rfl rfl rfl rfl ?_
    refine Sp.step rfl rfl rfl rfl ?_
    exact Sp.iret rfl rfl rfl rfl (fun _ _ h => h)
def f_Memory_word (x : Int32) (X : XS) : Option Int32 := (if x < 0 then some 0 else (ocz (X.2.1 41 1) none (fun a2 => (ocz (xL X 2 a2) none (fun n4 => (if Int32.ofNat n4 ≤ x then some 0 else (ocz (X.2.1 41 1) none (fun a7 => (ocz (xL X 2 a7) none (fun n9 => (if ixo x n9 then some (X.1 a7 x.toNatClampNeg) else none)))))))))))
set_option maxRecDepth 100000 in
set_option maxHeartbeats 4000000 in
theorem s_Memory_word {L : Nat} {xs : Nat → Int32} {X : XS} {M : MS} {x : Int32} : Sp (mjOO L xs) 201 0 [some (.ref 41), some (.int x)] [] (hS X M) (f_Memory_word x X) (KQ (hS X M)) := by
  unfold f_Memory_word
  refine Sp.step rfl rfl rfl rfl ?_
  refine Sp.if1 rfl rfl rfl rfl (fun e1 => ?_) (fun e1 => ?_)
  · refine Sp.step rfl rfl rfl rfl ?_
    exact Sp.iret rfl rfl rfl rfl (fun _ _ h => h)
  · refine Sp.step rfl rfl rfl rfl ?_
    refine Sp.step rfl rfl rfl rfl ?_
    refine Sp.step rfl rfl rfl (xg_D (c := 4) (f := 1) rfl rfl rfl rfl rfl) ?_
    refine Sp.ocrn (fun a2 e3 => ?_)
    refine Sp.ocn (fun n4 e5 => ?_)
    refine Sp.step rfl rfl rfl (xlen (xL_ok e5) (by decide)) ?_
    refine Sp.if2 rfl rfl rfl rfl (fun e6 => ?_) (fun e6 => ?_)
    · refine Sp.step rfl rfl rfl rfl ?_
      exact Sp.iret rfl rfl rfl rfl (fun _ _ h => h)
    · refine Sp.step rfl rfl rfl rfl ?_
      refine Sp.step rfl rfl rfl (xg_D (c := 4) (f := 1) rfl rfl rfl rfl rfl) ?_
      refine Sp.ocrn (fun a7 e8 => ?_)
      refine Sp.step rfl rfl rfl rfl ?_
      refine Sp.ocn (fun n9 e10 => ?_)
      refine Sp.guard (fun e11 => ?_)
      refine Sp.step rfl rfl rfl (xld (xL_ok e10) (by decide) e11) ?_
      refine Sp.step rfl rfl rfl rfl ?_
      exact Sp.iret rfl rfl rfl rfl (fun _ _ h => h)
def f_Memory_ownerOf (x : Int32) (X : XS) : Option Int32 := ((f_Memory_word (x + 1) X).bind fun x1 => some x1)
set_option maxRecDepth 100000 in
set_option maxHeartbeats 4000000 in
theorem s_Memory_ownerOf {L : Nat} {xs : Nat → Int32} {X : XS} {M : MS} {x : Int32} : Sp (mjOO L xs) 216 0 [some (.ref 41), some (.int x)] [] (hS X M) (f_Memory_ownerOf x X) (KQ (hS X M)) := by
  unfold f_Memory_ownerOf
  refine Sp.step rfl rfl rfl rfl ?_
  refine Sp.step rfl rfl rfl rfl ?_
  refine Sp.step rfl rfl rfl rfl ?_
  refine Sp.step rfl rfl rfl rfl ?_
  refine Sp.call rfl rfl rfl (xrecv (c := 4) (by decide) rfl (by decide +kernel)) s_Memory_word (fun x1 => ⟨_, _, ⟨rfl, rfl⟩, ?_⟩)
  refine Sp.id (pc := 7) (l := [some (.ref 41), some (.int x)]) (st := [.int x1]) (h := hS X M) ?_
  exact Sp.iret rfl rfl rfl rfl (fun _ _ h => h)
def f_Engine_waits (x : Nat) (y : Int32) (X : XS) : Option Bool := (if (xT X x = some (14, 0)) then ((f_Image_at_51 (X.1 x 4) X).bind fun x2 => (if x2 = 49 then ((f_Strand_peek x 0 X).bind fun x4 => (if ¬ x4 = 0 then ((f_Memory_ownerOf x4 X).bind fun x6 => (if x6 = 0 then some false else (if x6 = y then some false else some true))) else some false)) else some false)) else none)
set_option maxRecDepth 100000 in
set_option maxHeartbeats 4000000 in
theorem s_Engine_waits {L : Nat} {xs : Nat → Int32} {X : XS} {M : MS} {x : Nat} {y : Int32} : Sp (mjOO L xs) 108 0 [some (.ref 40), some (.ref x), some (.int y), none, none] [] (hS X M) (f_Engine_waits x y X) (KB (hS X M)) := by
  unfold f_Engine_waits
  refine Sp.step rfl rfl rfl rfl ?_
  refine Sp.step rfl rfl rfl (xg_F (c := 0) (f := 6) rfl rfl rfl rfl rfl) ?_
  refine Sp.step rfl rfl rfl rfl ?_
  refine Sp.guard (fun e1 => ?_)
  refine Sp.step rfl rfl rfl (xg_I (c := 9) (f := 4) rfl rfl e1 rfl) ?_
  refine Sp.call rfl rfl rfl (xrecv (c := 2) (by decide) rfl (by decide +kernel)) s_Image_at_51 (fun x2 => ⟨_, _, ⟨rfl, rfl⟩, ?_⟩)
  refine Sp.id (pc := 11) (l := [some (.ref 40), some (.ref x), some (.int y), none, none]) (st := [.int x2]) (h := hS X M) ?_
  refine Sp.step rfl rfl rfl rfl ?_
  refine Sp.if2 rfl rfl rfl rfl (fun e3 => ?_) (fun e3 => ?_)
  · refine Sp.step rfl rfl rfl rfl ?_
    refine Sp.step rfl rfl rfl rfl ?_
    refine Sp.call rfl rfl rfl (xrecv (c := 9) (by decide) e1 (by decide +kernel)) s_Strand_peek (fun x4 => ⟨_, _, ⟨rfl, rfl⟩, ?_⟩)
    refine Sp.id (pc := 23) (l := [some (.ref 40), some (.ref x), some (.int y), none, none]) (st := [.int x4]) (h := hS X M) ?_
    refine Sp.step rfl rfl rfl rfl ?_
    refine Sp.step rfl rfl rfl rfl ?_
    refine Sp.if1 rfl rfl rfl rfl (fun e5 => ?_) (fun e5 => ?_)
    · refine Sp.step rfl rfl rfl rfl ?_
      refine Sp.step rfl rfl rfl (xg_F (c := 0) (f := 3) rfl rfl rfl rfl rfl) ?_
      refine Sp.step rfl rfl rfl rfl ?_
      refine Sp.call rfl rfl rfl (xrecv (c := 4) (by decide) rfl (by decide +kernel)) s_Memory_ownerOf (fun x6 => ⟨_, _, ⟨rfl, rfl⟩, ?_⟩)
      refine Sp.id (pc := 40) (l := [some (.ref 40), some (.ref x), some (.int y), some (.int x4), none]) (st := [.int x6]) (h := hS X M) ?_
      refine Sp.step rfl rfl rfl rfl ?_
      refine Sp.step rfl rfl rfl rfl ?_
      refine Sp.if1 rfl rfl rfl rfl (fun e7 => ?_) (fun e7 => ?_)
      · refine Sp.step rfl rfl rfl rfl ?_
        exact Sp.iret rfl rfl rfl rfl (fun _ _ h => h)
      · refine Sp.step rfl rfl rfl rfl ?_
        refine Sp.step rfl rfl rfl rfl ?_
        refine Sp.if2 rfl rfl rfl rfl (fun e8 => ?_) (fun e8 => ?_)
        · refine Sp.step rfl rfl rfl rfl ?_
          exact Sp.iret rfl rfl rfl rfl (fun _ _ h => h)
        · refine Sp.step rfl rfl rfl rfl ?_
          refine Sp.step rfl rfl rfl rfl ?_
          exact Sp.iret rfl rfl rfl rfl (fun _ _ h => h)
    · refine Sp.step rfl rfl rfl rfl ?_
      refine Sp.step rfl rfl rfl rfl ?_
      refine Sp.step rfl rfl rfl rfl ?_
      refine Sp.step rfl rfl rfl rfl ?_
      refine Sp.step rfl rfl rfl rfl ?_
      refine Sp.step rfl rfl rfl rfl ?_
      exact Sp.iret rfl rfl rfl rfl (fun _ _ h => h)
  · refine Sp.step rfl rfl rfl rfl ?_
    exact Sp.iret rfl rfl rfl rfl (fun _ _ h => h)
def f_Engine_canGo (x : Int32) (X : XS) : Option Bool := (if f_Engine_isStrand x X = true then (ocz (X.2.1 50 x.toNatClampNeg) none (fun a3 => (if (xT X a3 = some (14, 0)) then (if ¬ X.1 a3 0 = 0 then some false else (ocz (X.2.1 50 x.toNatClampNeg) none (fun a7 => ((f_Engine_waits a7 (x + 1) X).bind fun x9 => (if x9 = true then some false else some true))))) else none))) else some false)
set_option maxRecDepth 100000 in
set_option maxHeartbeats 4000000 in
theorem s_Engine_canGo {L : Nat} {xs : Nat → Int32} {X : XS} {M : MS} {x : Int32} : Sp (mjOO L xs) 107 0 [some (.ref 40), some (.int x)] [] (hS X M) (f_Engine_canGo x X) (KB (hS X M)) := by
  unfold f_Engine_canGo
  refine Sp.step rfl rfl rfl rfl ?_
  refine Sp.step rfl rfl rfl rfl ?_
  refine Sp.callS rfl rfl rfl (xrecv (c := 0) (by decide) rfl (by decide +kernel)) s_Engine_isStrand ⟨rfl, rfl⟩ ?_
  refine Sp.bool (fun e1 => ?_) (fun e1 => ?_)
  · refine Sp.id (pc := 5) (l := [some (.ref 40), some (.int x)]) (st := [.int 1]) (h := hS X M) ?_
    refine Sp.step rfl rfl rfl rfl ?_
    refine Sp.step rfl rfl rfl rfl ?_
    refine Sp.step rfl rfl rfl (xg_F (c := 0) (f := 5) rfl rfl rfl rfl rfl) ?_
    refine Sp.step rfl rfl rfl rfl ?_
    refine Sp.step rfl rfl rfl (xald (t := 4) rfl (by decide) (fun _ => rfl) (isStrand_ix e1)) ?_
    refine Sp.ocrn (fun a3 e4 => ?_)
    refine Sp.guard (fun e5 => ?_)
    refine Sp.step rfl rfl rfl (xg_I (c := 9) (f := 0) rfl rfl e5 rfl) ?_
    refine Sp.if1 rfl rfl rfl rfl (fun e6 => ?_) (fun e6 => ?_)
    · refine Sp.step rfl rfl rfl rfl ?_
      exact Sp.iret rfl rfl rfl rfl (fun _ _ h => h)
    · refine Sp.step rfl rfl rfl rfl ?_
      refine Sp.step rfl rfl rfl rfl ?_
      refine Sp.step rfl rfl rfl (xg_F (c := 0) (f := 5) rfl rfl rfl rfl rfl) ?_
      refine Sp.step rfl rfl rfl rfl ?_
      refine Sp.step rfl rfl rfl (xald (t := 4) rfl (by decide) (fun _ => rfl) (isStrand_ix e1)) ?_
      refine Sp.ocrn (fun a7 e8 => ?_)
      refine Sp.step rfl rfl rfl rfl ?_
      refine Sp.step rfl rfl rfl rfl ?_
      refine Sp.step rfl rfl rfl rfl ?_
      refine Sp.call rfl rfl rfl (xrecv (c := 0) (by decide) rfl (by decide +kernel)) s_Engine_waits (fun x9 => ⟨_, _, ⟨rfl, rfl⟩, ?_⟩)
      refine Sp.bool (fun e10 => ?_) (fun e10 => ?_)
      · refine Sp.id (pc := 33) (l := [some (.ref 40), some (.int x)]) (st := [.int 1]) (h := hS X M) ?_
        refine Sp.step rfl rfl rfl rfl ?_
        refine Sp.step rfl rfl rfl rfl ?_
        exact Sp.iret rfl rfl rfl rfl (fun _ _ h => h)
      · refine Sp.id (pc := 33) (l := [some (.ref 40), some (.int x)]) (st := [.int 0]) (h := hS X M) ?_
        refine Sp.step rfl rfl rfl rfl ?_
        refine Sp.step rfl rfl rfl rfl ?_
        refine Sp.step rfl rfl rfl rfl ?_
        exact Sp.iret rfl rfl rfl rfl (fun _ _ h => h)
  · refine Sp.id (pc := 5) (l := [some (.ref 40), some (.int x)]) (st := [.int 0]) (h := hS X M) ?_
    refine Sp.step rfl rfl rfl rfl ?_
    refine Sp.step rfl rfl rfl rfl ?_
    exact Sp.iret rfl rfl rfl rfl (fun _ _ h => h)
def f_Turns_goesOn (X : XS) : Option Bool := (if X.1 59 3 ≤ 0 then some false else ((f_Engine_canGo (X.1 59 2) X).bind fun x2 => (if x2 = true then some true else some false)))
set_option maxRecDepth 100000 in
set_option maxHeartbeats 4000000 in
theorem s_Turns_goesOn {L : Nat} {xs : Nat → Int32} {X : XS} {M : MS} : Sp (mjOO L xs) 303 0 [some (.ref 59)] [] (hS X M) (f_Turns_goesOn X) (KB (hS X M)) := by
  unfold f_Turns_goesOn
  refine Sp.step rfl rfl rfl rfl ?_
  refine Sp.step rfl rfl rfl (xg_I (c := 10) (f := 3) rfl rfl rfl rfl) ?_
  refine Sp.if1 rfl rfl rfl rfl (fun e1 => ?_) (fun e1 => ?_)
  · refine Sp.step rfl rfl rfl rfl ?_
    exact Sp.iret rfl rfl rfl rfl (fun _ _ h => h)
  · refine Sp.step rfl rfl rfl rfl ?_
    refine Sp.step rfl rfl rfl (xg_F (c := 10) (f := 1) rfl rfl rfl rfl rfl) ?_
    refine Sp.step rfl rfl rfl rfl ?_
    refine Sp.step rfl rfl rfl (xg_I (c := 10) (f := 2) rfl rfl rfl rfl) ?_
    refine Sp.call rfl rfl rfl (xrecv (c := 0) (by decide) rfl (by decide +kernel)) s_Engine_canGo (fun x2 => ⟨_, _, ⟨rfl, rfl⟩, ?_⟩)
    refine Sp.bool (fun e3 => ?_) (fun e3 => ?_)
    · refine Sp.id (pc := 18) (l := [some (.ref 59)]) (st := [.int 1]) (h := hS X M) ?_
      refine Sp.step rfl rfl rfl rfl ?_
      refine Sp.step rfl rfl rfl rfl ?_
      refine Sp.step rfl rfl rfl rfl ?_
      exact Sp.iret rfl rfl rfl rfl (fun _ _ h => h)
    · refine Sp.id (pc := 18) (l := [some (.ref 59)]) (st := [.int 0]) (h := hS X M) ?_
      refine Sp.step rfl rfl rfl rfl ?_
      refine Sp.step rfl rfl rfl rfl ?_
      exact Sp.iret rfl rfl rfl rfl (fun _ _ h => h)
def f_Strand_pop (x : Nat) (X : XS) : Option (Int32 × XS) := (if (xT X x = some (14, 0)) then ((f_Strand_slotUnder x 0 X).bind fun x2 => (if 0 ≤ x2 then (lt (xw X x 8 ((X.1 x 8) - 1)) fun X4 => (ocz (X4.2.1 x 6) none (fun a5 => (ocz (xL X4 0 a5) none (fun n7 => (if ixo x2 n7 then (lt (xw X4 a5 x2.toNatClampNeg 0) fun X10 => (ocz (X10.2.1 x 5) none (fun a11 => (ocz (xL X10 0 a11) none (fun n13 => (if ixo x2 n13 then some (X10.1 a11 x2.toNatClampNeg, X10) else none)))))) else none)))))) else some (0, X))) else none)
set_option maxRecDepth 100000 in
set_option maxHeartbeats 4000000 in
theorem s_Strand_pop {L : Nat} {xs : Nat → Int32} {X : XS} {M : MS} {x : Nat} : Sp (mjOO L xs) 291 0 [some (.ref x), none] [] (hS X M) (f_Strand_pop x X) (KEX M) := by
  unfold f_Strand_pop
  refine Sp.step rfl rfl rfl rfl ?_
  refine Sp.step rfl rfl rfl rfl ?_
  refine Sp.guard (fun e1 => ?_)
  refine Sp.call rfl rfl rfl (xrecv (c := 9) (by decide) e1 (by decide +kernel)) s_Strand_slotUnder (fun x2 => ⟨_, _, ⟨rfl, rfl⟩, ?_⟩)
  refine Sp.id (pc := 5) (l := [some (.ref x), none]) (st := [.int x2]) (h := hS X M) ?_
  refine Sp.step rfl rfl rfl rfl ?_
  refine Sp.step rfl rfl rfl rfl ?_
  refine Sp.if1 rfl rfl rfl rfl (fun e3 => ?_) (fun e3 => ?_)
  · refine Sp.step rfl rfl rfl rfl ?_
    refine Sp.step rfl rfl rfl rfl ?_
    refine Sp.step rfl rfl rfl (xg_I (c := 9) (f := 8) rfl rfl e1 rfl) ?_
    refine Sp.step rfl rfl rfl rfl ?_
    refine Sp.step rfl rfl rfl rfl ?_
    refine Sp.step rfl rfl rfl (xp_I (c := 9) (f := 8) rfl rfl e1 rfl rfl) ?_
    refine Sp.step rfl rfl rfl rfl ?_
    refine Sp.step rfl rfl rfl (xg_D (c := 9) (f := 6) rfl rfl e1 rfl (fxP_big (dyn_of (c := 9) e1 rfl))) ?_
    refine Sp.ocrn (fun a5 e6 => ?_)
    refine Sp.step rfl rfl rfl rfl ?_
    refine Sp.step rfl rfl rfl rfl ?_
    refine Sp.ocn (fun n7 e8 => ?_)
    refine Sp.guard (fun e9 => ?_)
    refine Sp.step rfl rfl rfl (xst (xL_ok e8) (by decide) e9) ?_
    refine Sp.step rfl rfl rfl rfl ?_
    refine Sp.step rfl rfl rfl (xg_D (c := 9) (f := 5) rfl rfl e1 rfl (fxP_big (dyn_of (c := 9) e1 rfl))) ?_
    refine Sp.ocrn (fun a11 e12 => ?_)
    refine Sp.step rfl rfl rfl rfl ?_
    refine Sp.ocn (fun n13 e14 => ?_)
    refine Sp.guard (fun e15 => ?_)
    refine Sp.step rfl rfl rfl (xld (xL_ok e14) (by decide) e15) ?_
    exact Sp.iret rfl rfl rfl rfl (fun _ _ h => h)
  · refine Sp.step rfl rfl rfl rfl ?_
    exact Sp.iret rfl rfl rfl rfl (fun _ _ h => h)
def f_Engine_jumpsNow (x : Nat) (y : Int32) (X : XS) : Option (Bool × XS) := (if ¬ y = 19 then (if (xT X x = some (14, 0)) then ((f_Strand_pop x X).bind fun x3 => (if (y = 20 ∨ y = 23) then (if ¬ x3.1 = 0 then some (false, x3.2) else some (true, x3.2)) else (if y = 21 then (if 0 ≤ x3.1 then some (false, x3.2) else some (true, x3.2)) else (if y = 22 then (if x3.1 ≤ 0 then some (false, x3.2) else some (true, x3.2)) else (if y = 24 then (if (xT x3.2 x = some (14, 0)) then ((f_Strand_pop x x3.2).bind fun x12 => (if ¬ x12.1 = x3.1 then some (false, x12.2) else some (true, x12.2))) else none) else (if y = 25 then (if (xT x3.2 x = some (14, 0)) then ((f_Strand_pop x x3.2).bind fun x16 => (if x3.1 ≤ x16.1 then some (false, x16.2) else some (true, x16.2))) else none) else some (false, x3.2))))))) else none) else some (true, X))
set_option maxRecDepth 100000 in
set_option maxHeartbeats 4000000 in
theorem s_Engine_jumpsNow {L : Nat} {xs : Nat → Int32} {X : XS} {M : MS} {x : Nat} {y : Int32} : Sp (mjOO L xs) 114 0 [some (.ref 40), some (.ref x), some (.int y), none] [] (hS X M) (f_Engine_jumpsNow x y X) (KBX M) := by
  unfold f_Engine_jumpsNow
  refine Sp.step rfl rfl rfl rfl ?_
  refine Sp.step rfl rfl rfl rfl ?_
  refine Sp.if2 rfl rfl rfl rfl (fun e1 => ?_) (fun e1 => ?_)
  · refine Sp.step rfl rfl rfl rfl ?_
    refine Sp.guard (fun e2 => ?_)
    refine Sp.call rfl rfl rfl (xrecv (c := 9) (by decide) e2 (by decide +kernel)) s_Strand_pop (fun x3 => ⟨_, _, ⟨rfl, rfl⟩, ?_⟩)
    refine Sp.id (pc := 12) (l := [some (.ref 40), some (.ref x), some (.int y), none]) (st := [.int x3.1]) (h := hS x3.2 M) ?_
    refine Sp.step rfl rfl rfl rfl ?_
    refine Sp.step rfl rfl rfl rfl ?_
    refine Sp.ite (fun e4 => ?_) (fun e4 => ?_)
    · refine Sp.step rfl rfl rfl (go_sw (t := 52) (by rcases e4 with e | e <;> exact sw_of e rfl)) ?_
      refine Sp.step rfl rfl rfl rfl ?_
      refine Sp.if1 rfl rfl rfl rfl (fun e5 => ?_) (fun e5 => ?_)
      · refine Sp.step rfl rfl rfl rfl ?_
        exact Sp.iret rfl rfl rfl rfl (fun _ _ h => h)
      · refine Sp.step rfl rfl rfl rfl ?_
        refine Sp.step rfl rfl rfl rfl ?_
        exact Sp.iret rfl rfl rfl rfl (fun _ _ h => h)
    · refine Sp.ite (fun e6 => ?_) (fun e6 => ?_)
      · refine Sp.step rfl rfl rfl (go_sw (t := 62) (sw_of e6 rfl)) ?_
        refine Sp.step rfl rfl rfl rfl ?_
        refine Sp.if1 rfl rfl rfl rfl (fun e7 => ?_) (fun e7 => ?_)
        · refine Sp.step rfl rfl rfl rfl ?_
          exact Sp.iret rfl rfl rfl rfl (fun _ _ h => h)
        · refine Sp.step rfl rfl rfl rfl ?_
          refine Sp.step rfl rfl rfl rfl ?_
          exact Sp.iret rfl rfl rfl rfl (fun _ _ h => h)
      · refine Sp.ite (fun e8 => ?_) (fun e8 => ?_)
        · refine Sp.step rfl rfl rfl (go_sw (t := 72) (sw_of e8 rfl)) ?_
          refine Sp.step rfl rfl rfl rfl ?_
          refine Sp.if1 rfl rfl rfl rfl (fun e9 => ?_) (fun e9 => ?_)
          · refine Sp.step rfl rfl rfl rfl ?_
            exact Sp.iret rfl rfl rfl rfl (fun _ _ h => h)
          · refine Sp.step rfl rfl rfl rfl ?_
            refine Sp.step rfl rfl rfl rfl ?_
            exact Sp.iret rfl rfl rfl rfl (fun _ _ h => h)
        · refine Sp.ite (fun e10 => ?_) (fun e10 => ?_)
          · refine Sp.step rfl rfl rfl (go_sw (t := 82) (sw_of e10 rfl)) ?_
            refine Sp.step rfl rfl rfl rfl ?_
            refine Sp.guard (fun e11 => ?_)
            refine Sp.call rfl rfl rfl (xrecv (c := 9) (by decide) e11 (by decide +kernel)) s_Strand_pop (fun x12 => ⟨_, _, ⟨rfl, rfl⟩, ?_⟩)
            refine Sp.id (pc := 86) (l := [some (.ref 40), some (.ref x), some (.int y), some (.int x3.1)]) (st := [.int x12.1]) (h := hS x12.2 M) ?_
            refine Sp.step rfl rfl rfl rfl ?_
            refine Sp.if2 rfl rfl rfl rfl (fun e13 => ?_) (fun e13 => ?_)
            · refine Sp.step rfl rfl rfl rfl ?_
              exact Sp.iret rfl rfl rfl rfl (fun _ _ h => h)
            · refine Sp.step rfl rfl rfl rfl ?_
              refine Sp.step rfl rfl rfl rfl ?_
              exact Sp.iret rfl rfl rfl rfl (fun _ _ h => h)
          · refine Sp.ite (fun e14 => ?_) (fun e14 => ?_)
            · refine Sp.step rfl rfl rfl (go_sw (t := 96) (sw_of e14 rfl)) ?_
              refine Sp.step rfl rfl rfl rfl ?_
              refine Sp.guard (fun e15 => ?_)
              refine Sp.call rfl rfl rfl (xrecv (c := 9) (by decide) e15 (by decide +kernel)) s_Strand_pop (fun x16 => ⟨_, _, ⟨rfl, rfl⟩, ?_⟩)
              refine Sp.id (pc := 100) (l := [some (.ref 40), some (.ref x), some (.int y), some (.int x3.1)]) (st := [.int x16.1]) (h := hS x16.2 M) ?_
              refine Sp.step rfl rfl rfl rfl ?_
              refine Sp.if2 rfl rfl rfl rfl (fun e17 => ?_) (fun e17 => ?_)
              · refine Sp.step rfl rfl rfl rfl ?_
                exact Sp.iret rfl rfl rfl rfl (fun _ _ h => h)
              · refine Sp.step rfl rfl rfl rfl ?_
                refine Sp.step rfl rfl rfl rfl ?_
                exact Sp.iret rfl rfl rfl rfl (fun _ _ h => h)
            · refine Sp.step rfl rfl rfl (go_sw (t := 110) (mjSw_dflt _ (by
                intro q hq
                simp only [List.mem_cons, List.not_mem_nil, or_false] at hq
                rcases hq with rfl | rfl | rfl | rfl | rfl | rfl
                · exact fun h => absurd h (fun h => e4 (Or.inl h))
                · exact fun h => absurd h (fun h => e6 h)
                · exact fun h => absurd h (fun h => e8 h)
                · exact fun h => absurd h (fun h => e4 (Or.inr h))
                · exact fun h => absurd h (fun h => e10 h)
                · exact fun h => absurd h (fun h => e14 h)))) ?_
              refine Sp.step rfl rfl rfl rfl ?_
              exact Sp.iret rfl rfl rfl rfl (fun _ _ h => h)
  · refine Sp.step rfl rfl rfl rfl ?_
    exact Sp.iret rfl rfl rfl rfl (fun _ _ h => h)
def f_Engine_doJump (x : Nat) (y : Int32) (z : Int32) (X : XS) : Option (Int32 × XS) := ((f_Engine_jumpsNow x y X).bind fun x1 => (if x1.1 = true then (if (xT x1.2 x = some (14, 0)) then ((f_Image_codeAt_51 (x1.2.1 x 3) x1.2).bind fun x5 => ((f_Image_two_51 (z + 1) x1.2).bind fun x6 => (lt (xw x1.2 x 4 (x5 + x6)) fun X7 => some ((-1), X7)))) else none) else some (0, x1.2)))
set_option maxRecDepth 100000 in
set_option maxHeartbeats 4000000 in
theorem s_Engine_doJump {L : Nat} {xs : Nat → Int32} {X : XS} {M : MS} {x : Nat} {y : Int32} {z : Int32} : Sp (mjOO L xs) 113 0 [some (.ref 40), some (.ref x), some (.int y), some (.int z)] [] (hS X M) (f_Engine_doJump x y z X) (KEX M) := by
  unfold f_Engine_doJump
  refine Sp.step rfl rfl rfl rfl ?_
  refine Sp.step rfl rfl rfl rfl ?_
  refine Sp.step rfl rfl rfl rfl ?_
  refine Sp.call rfl rfl rfl (xrecv (c := 0) (by decide) rfl (by decide +kernel)) s_Engine_jumpsNow (fun x1 => ⟨_, _, ⟨rfl, rfl⟩, ?_⟩)
  refine Sp.bool (fun e2 => ?_) (fun e2 => ?_)
  · refine Sp.id (pc := 6) (l := [some (.ref 40), some (.ref x), some (.int y), some (.int z)]) (st := [.int 1]) (h := hS x1.2 M) ?_
    refine Sp.step rfl rfl rfl rfl ?_
    refine Sp.step rfl rfl rfl rfl ?_
    refine Sp.step rfl rfl rfl rfl ?_
    refine Sp.step rfl rfl rfl (xg_F (c := 0) (f := 6) rfl rfl rfl rfl rfl) ?_
    refine Sp.step rfl rfl rfl rfl ?_
    refine Sp.guard (fun e4 => ?_)
    refine Sp.step rfl rfl rfl (xg_I (c := 9) (f := 3) rfl rfl e4 rfl) ?_
    refine Sp.call rfl rfl rfl (xrecv (c := 2) (by decide) rfl (by decide +kernel)) s_Image_codeAt_51 (fun x5 => ⟨_, _, ⟨rfl, rfl⟩, ?_⟩)
    refine Sp.id (pc := 23) (l := [some (.ref 40), some (.ref x), some (.int y), some (.int z)]) (st := [.int x5, .ref x]) (h := hS x1.2 M) ?_
    refine Sp.step rfl rfl rfl rfl ?_
    refine Sp.step rfl rfl rfl (xg_F (c := 0) (f := 6) rfl rfl rfl rfl rfl) ?_
    refine Sp.step rfl rfl rfl rfl ?_
    refine Sp.step rfl rfl rfl rfl ?_
    refine Sp.step rfl rfl rfl rfl ?_
    refine Sp.call rfl rfl rfl (xrecv (c := 2) (by decide) rfl (by decide +kernel)) s_Image_two_51 (fun x6 => ⟨_, _, ⟨rfl, rfl⟩, ?_⟩)
    refine Sp.id (pc := 33) (l := [some (.ref 40), some (.ref x), some (.int y), some (.int z)]) (st := [.int x6, .int x5, .ref x]) (h := hS x1.2 M) ?_
    refine Sp.step rfl rfl rfl rfl ?_
    refine Sp.step rfl rfl rfl (xp_I (c := 9) (f := 4) rfl rfl e4 rfl rfl) ?_
    refine Sp.step rfl rfl rfl rfl ?_
    exact Sp.iret rfl rfl rfl rfl (fun _ _ h => h)
  · refine Sp.id (pc := 6) (l := [some (.ref 40), some (.ref x), some (.int y), some (.int z)]) (st := [.int 0]) (h := hS x1.2 M) ?_
    refine Sp.step rfl rfl rfl rfl ?_
    refine Sp.step rfl rfl rfl rfl ?_
    exact Sp.iret rfl rfl rfl rfl (fun _ _ h => h)
def f_Memory_wordsFor (x : Int32) (y : Int32) (X : XS) : Int32 := (if x < 0 then (if ¬ x = 254 then 5 + y else 5 + (2 * y)) else (if 10 ≤ x then (if ¬ x = 254 then 5 + y else 5 + (2 * y)) else (4 + (2 * (X.1 45 x.toNatClampNeg))) + (X.1 46 x.toNatClampNeg)))
set_option maxRecDepth 100000 in
set_option maxHeartbeats 4000000 in
theorem s_Memory_wordsFor {L : Nat} {xs : Nat → Int32} {X : XS} {M : MS} {x : Int32} {y : Int32} : Sp (mjOO L xs) 198 0 [some (.ref 41), some (.int x), some (.int y)] [] (hS X M) (some (f_Memory_wordsFor x y X)) (KQ (hS X M)) := by
  unfold f_Memory_wordsFor
  refine Sp.step rfl rfl rfl rfl ?_
  refine Sp.if1V rfl rfl rfl rfl (fun e1 => ?_) (fun e1 => ?_)
  · refine Sp.step rfl rfl rfl rfl ?_
    refine Sp.step rfl rfl rfl rfl ?_
    refine Sp.step rfl rfl rfl rfl ?_
    refine Sp.if2V rfl rfl rfl rfl (fun e2 => ?_) (fun e2 => ?_)
    · refine Sp.step rfl rfl rfl rfl ?_
      refine Sp.step rfl rfl rfl rfl ?_
      exact Sp.iret rfl rfl rfl rfl (fun _ _ h => h)
    · refine Sp.step rfl rfl rfl rfl ?_
      refine Sp.step rfl rfl rfl rfl ?_
      refine Sp.step rfl rfl rfl rfl ?_
      refine Sp.step rfl rfl rfl rfl ?_
      refine Sp.step rfl rfl rfl rfl ?_
      exact Sp.iret rfl rfl rfl rfl (fun _ _ h => h)
  · refine Sp.step rfl rfl rfl rfl ?_
    refine Sp.step rfl rfl rfl rfl ?_
    refine Sp.if2V rfl rfl rfl rfl (fun e3 => ?_) (fun e3 => ?_)
    · refine Sp.step rfl rfl rfl rfl ?_
      refine Sp.step rfl rfl rfl rfl ?_
      refine Sp.step rfl rfl rfl rfl ?_
      refine Sp.if2V rfl rfl rfl rfl (fun e4 => ?_) (fun e4 => ?_)
      · refine Sp.step rfl rfl rfl rfl ?_
        refine Sp.step rfl rfl rfl rfl ?_
        exact Sp.iret rfl rfl rfl rfl (fun _ _ h => h)
      · refine Sp.step rfl rfl rfl rfl ?_
        refine Sp.step rfl rfl rfl rfl ?_
        refine Sp.step rfl rfl rfl rfl ?_
        refine Sp.step rfl rfl rfl rfl ?_
        refine Sp.step rfl rfl rfl rfl ?_
        exact Sp.iret rfl rfl rfl rfl (fun _ _ h => h)
    · refine Sp.step rfl rfl rfl rfl ?_
      refine Sp.step rfl rfl rfl rfl ?_
      refine Sp.step rfl rfl rfl rfl ?_
      refine Sp.step rfl rfl rfl (xg_F (c := 4) (f := 4) rfl rfl rfl rfl rfl) ?_
      refine Sp.step rfl rfl rfl rfl ?_
      refine Sp.step rfl rfl rfl (xld rfl (by decide) (ix_ok (N := 10) (n := 10) rfl (Int32.not_lt.mp e1) (Int32.not_le.mp e3))) ?_
      refine Sp.step rfl rfl rfl rfl ?_
      refine Sp.step rfl rfl rfl rfl ?_
      refine Sp.step rfl rfl rfl rfl ?_
      refine Sp.step rfl rfl rfl (xg_F (c := 4) (f := 5) rfl rfl rfl rfl rfl) ?_
      refine Sp.step rfl rfl rfl rfl ?_
      refine Sp.step rfl rfl rfl (xld rfl (by decide) (ix_ok (N := 10) (n := 10) rfl (Int32.not_lt.mp e1) (Int32.not_le.mp e3))) ?_
      refine Sp.step rfl rfl rfl rfl ?_
      exact Sp.iret rfl rfl rfl rfl (fun _ _ h => h)
def f_Memory_bytesFor (x : Int32) (y : Int32) (X : XS) : Int32 := 2 * (f_Memory_wordsFor x y X)
set_option maxRecDepth 100000 in
set_option maxHeartbeats 4000000 in
theorem s_Memory_bytesFor {L : Nat} {xs : Nat → Int32} {X : XS} {M : MS} {x : Int32} {y : Int32} : Sp (mjOO L xs) 197 0 [some (.ref 41), some (.int x), some (.int y)] [] (hS X M) (some (f_Memory_bytesFor x y X)) (KQ (hS X M)) := by
  unfold f_Memory_bytesFor
  refine Sp.step rfl rfl rfl rfl ?_
  refine Sp.step rfl rfl rfl rfl ?_
  refine Sp.step rfl rfl rfl rfl ?_
  refine Sp.step rfl rfl rfl rfl ?_
  refine Sp.callS rfl rfl rfl (xrecv (c := 4) (by decide) rfl (by decide +kernel)) s_Memory_wordsFor ⟨rfl, rfl⟩ ?_
  refine Sp.id (pc := 7) (l := [some (.ref 41), some (.int x), some (.int y)]) (st := [.int (f_Memory_wordsFor x y X), .int 2]) (h := hS X M) ?_
  refine Sp.step rfl rfl rfl rfl ?_
  exact Sp.iret rfl rfl rfl rfl (fun _ _ h => h)
def f_Memory_used (X : XS) : Int32 := 2 * ((X.1 41 7) - 1)
set_option maxRecDepth 100000 in
set_option maxHeartbeats 4000000 in
theorem s_Memory_used {L : Nat} {xs : Nat → Int32} {X : XS} {M : MS} : Sp (mjOO L xs) 196 0 [some (.ref 41)] [] (hS X M) (some (f_Memory_used X)) (KQ (hS X M)) := by
  unfold f_Memory_used
  refine Sp.step rfl rfl rfl rfl ?_
  refine Sp.step rfl rfl rfl rfl ?_
  refine Sp.step rfl rfl rfl (xg_I (c := 4) (f := 7) rfl rfl rfl rfl) ?_
  refine Sp.step rfl rfl rfl rfl ?_
  refine Sp.step rfl rfl rfl rfl ?_
  refine Sp.step rfl rfl rfl rfl ?_
  exact Sp.iret rfl rfl rfl rfl (fun _ _ h => h)
def f_Memory_hasRoomFor (x : Int32) (X : XS) : Bool := (if X.1 41 8 < (f_Memory_used X) + x then false else true)
set_option maxRecDepth 100000 in
set_option maxHeartbeats 4000000 in
theorem s_Memory_hasRoomFor {L : Nat} {xs : Nat → Int32} {X : XS} {M : MS} {x : Int32} : Sp (mjOO L xs) 199 0 [some (.ref 41), some (.int x)] [] (hS X M) (some (f_Memory_hasRoomFor x X)) (KB (hS X M)) := by
  unfold f_Memory_hasRoomFor
  refine Sp.step rfl rfl rfl rfl ?_
  refine Sp.callS rfl rfl rfl (xrecv (c := 4) (by decide) rfl (by decide +kernel)) s_Memory_used ⟨rfl, rfl⟩ ?_
  refine Sp.id (pc := 4) (l := [some (.ref 41), some (.int x)]) (st := [.int (f_Memory_used X)]) (h := hS X M) ?_
  refine Sp.step rfl rfl rfl rfl ?_
  refine Sp.step rfl rfl rfl rfl ?_
  refine Sp.step rfl rfl rfl rfl ?_
  refine Sp.step rfl rfl rfl (xg_I (c := 4) (f := 8) rfl rfl rfl rfl) ?_
  refine Sp.if2V rfl rfl rfl rfl (fun e1 => ?_) (fun e1 => ?_)
  · refine Sp.step rfl rfl rfl rfl ?_
    exact Sp.iret rfl rfl rfl rfl (fun _ _ h => h)
  · refine Sp.step rfl rfl rfl rfl ?_
    refine Sp.step rfl rfl rfl rfl ?_
    exact Sp.iret rfl rfl rfl rfl (fun _ _ h => h)
def f_Memory_setWord (x : Int32) (y : Int32) (X : XS) : Option XS := (if x < 1 then some X else (ocz (X.2.1 41 1) none (fun a2 => (ocz (xL X 2 a2) none (fun n4 => (if Int32.ofNat n4 ≤ x then some X else (ocz (X.2.1 41 1) none (fun a7 => (ocz (xL X 2 a7) none (fun n9 => (if ixo x n9 then (lt (xw X a7 x.toNatClampNeg (vp_nar .char (((y : Int32).toUInt32 % 65536).toInt32))) fun X12 => some X12) else none)))))))))))
set_option maxRecDepth 100000 in
set_option maxHeartbeats 4000000 in
theorem s_Memory_setWord {L : Nat} {xs : Nat → Int32} {X : XS} {M : MS} {x : Int32} {y : Int32} : Sp (mjOO L xs) 202 0 [some (.ref 41), some (.int x), some (.int y)] [] (hS X M) (f_Memory_setWord x y X) (KVX M) := by
  unfold f_Memory_setWord
  refine Sp.step rfl rfl rfl rfl ?_
  refine Sp.step rfl rfl rfl rfl ?_
  refine Sp.if2 rfl rfl rfl rfl (fun e1 => ?_) (fun e1 => ?_)
  · exact Sp.vret rfl rfl rfl (fun _ _ h => h)
  · refine Sp.step rfl rfl rfl rfl ?_
    refine Sp.step rfl rfl rfl rfl ?_
    refine Sp.step rfl rfl rfl (xg_D (c := 4) (f := 1) rfl rfl rfl rfl rfl) ?_
    refine Sp.ocrn (fun a2 e3 => ?_)
    refine Sp.ocn (fun n4 e5 => ?_)
    refine Sp.step rfl rfl rfl (xlen (xL_ok e5) (by decide)) ?_
    refine Sp.if2 rfl rfl rfl rfl (fun e6 => ?_) (fun e6 => ?_)
    · exact Sp.vret rfl rfl rfl (fun _ _ h => h)
    · refine Sp.step rfl rfl rfl rfl ?_
      refine Sp.step rfl rfl rfl (xg_D (c := 4) (f := 1) rfl rfl rfl rfl rfl) ?_
      refine Sp.ocrn (fun a7 e8 => ?_)
      refine Sp.step rfl rfl rfl rfl ?_
      refine Sp.step rfl rfl rfl rfl ?_
      refine Sp.step rfl rfl rfl rfl ?_
      refine Sp.ocn (fun n9 e10 => ?_)
      refine Sp.guard (fun e11 => ?_)
      refine Sp.step rfl rfl rfl (xst (xL_ok e10) (by decide) e11) ?_
      exact Sp.vret rfl rfl rfl (fun _ _ h => h)
def b38_Memory_place (x : Int32) (y : Int32) (X : XS) (x15 : (Int32 × XS)) : Option ((Int32 × XS) ⊕ (Int32 × XS)) := (if (X.1 41 7) + (f_Memory_wordsFor x y X) ≤ x15.1 then some (.inr (x15.1, x15.2)) else (ocz (x15.2.2.1 41 1) none (fun a17 => (ocz (xL x15.2 2 a17) none (fun n19 => (if ixo x15.1 n19 then (lt (xw x15.2 a17 x15.1.toNatClampNeg (vp_nar .char 0)) fun X22 => some (.inl (x15.1 + 1, X22))) else none))))))
def f_Memory_place (x : Int32) (y : Int32) (X : XS) : Option (Int32 × XS) := (if f_Memory_wordsFor x y X < 4 then some (0, X) else (ocz (X.2.1 41 1) none (fun a2 => (ocz (xL X 2 a2) none (fun n4 => (if (X.1 41 7) + (f_Memory_wordsFor x y X) ≤ Int32.ofNat n4 then ((lp (b38_Memory_place x y X) 10000 (X.1 41 7, X)).bind fun x23 => (ocz (x23.2.2.1 41 1) none (fun a24 => (ocz (xL x23.2 2 a24) none (fun n26 => (if ixo (X.1 41 7) n26 then (lt (xw x23.2 a24 (X.1 41 7).toNatClampNeg (vp_nar .char (((x : Int32).toUInt32 % 65536).toInt32))) fun X29 => (if x = 254 then ((f_Memory_setWord ((X.1 41 7) + 4) y X29).bind fun x31 => (lt (xw x31 41 7 ((x31.1 41 7) + (f_Memory_wordsFor x y X))) fun X32 => some (X.1 41 7, X32))) else (if ¬ x = 255 then (lt (xw X29 41 7 ((X29.1 41 7) + (f_Memory_wordsFor x y X))) fun X34 => some (X.1 41 7, X34)) else ((f_Memory_setWord ((X.1 41 7) + 4) y X29).bind fun x35 => (lt (xw x35 41 7 ((x35.1 41 7) + (f_Memory_wordsFor x y X))) fun X36 => some (X.1 41 7, X36)))))) else none)))))) else some (0, X)))))))
set_option maxRecDepth 100000 in
set_option maxHeartbeats 4000000 in
theorem s_Memory_place {L : Nat} {xs : Nat → Int32} {X : XS} {M : MS} {x : Int32} {y : Int32} : Sp (mjOO L xs) 200 0 [some (.ref 41), some (.int x), some (.int y), none, none, none] [] (hS X M) (f_Memory_place x y X) (KEX M) := by
  unfold f_Memory_place
  refine Sp.step rfl rfl rfl rfl ?_
  refine Sp.step rfl rfl rfl rfl ?_
  refine Sp.step rfl rfl rfl rfl ?_
  refine Sp.callS rfl rfl rfl (xrecv (c := 4) (by decide) rfl (by decide +kernel)) s_Memory_wordsFor ⟨rfl, rfl⟩ ?_
  refine Sp.id (pc := 6) (l := [some (.ref 41), some (.int x), some (.int y), none, none, none]) (st := [.int (f_Memory_wordsFor x y X)]) (h := hS X M) ?_
  refine Sp.step rfl rfl rfl rfl ?_
  refine Sp.step rfl rfl rfl rfl ?_
  refine Sp.step rfl rfl rfl rfl ?_
  refine Sp.if2 rfl rfl rfl rfl (fun e1 => ?_) (fun e1 => ?_)
  · refine Sp.step rfl rfl rfl rfl ?_
    exact Sp.iret rfl rfl rfl rfl (fun _ _ h => h)
  · refine Sp.step rfl rfl rfl rfl ?_
    refine Sp.step rfl rfl rfl (xg_I (c := 4) (f := 7) rfl rfl rfl rfl) ?_
    refine Sp.step rfl rfl rfl rfl ?_
    refine Sp.step rfl rfl rfl rfl ?_
    refine Sp.step rfl rfl rfl rfl ?_
    refine Sp.step rfl rfl rfl (xg_D (c := 4) (f := 1) rfl rfl rfl rfl rfl) ?_
    refine Sp.ocrn (fun a2 e3 => ?_)
    refine Sp.ocn (fun n4 e5 => ?_)
    refine Sp.step rfl rfl rfl (xlen (xL_ok e5) (by decide)) ?_
    refine Sp.if2 rfl rfl rfl rfl (fun e6 => ?_) (fun e6 => ?_)
    · refine Sp.step rfl rfl rfl rfl ?_
      refine Sp.step rfl rfl rfl (xg_I (c := 4) (f := 7) rfl rfl rfl rfl) ?_
      refine Sp.step rfl rfl rfl rfl ?_
      refine Sp.step rfl rfl rfl rfl ?_
      refine Sp.step rfl rfl rfl rfl ?_
      refine Sp.weak (l0 := [some (.ref 41), some (.int x), some (.int y), some (.int (f_Memory_wordsFor x y X)), some (.int (X.1 41 7)), some (.int (X.1 41 7))]) ⟨rfl, rfl, rfl, rfl, rfl, rfl, trivial⟩ ?_
      refine Sp.loopX (pe := 61) (mf := (fun (x15 : (Int32 × XS)) => [some (.ref 41), some (.int x), some (.int y), some (.int (f_Memory_wordsFor x y X)), some (.int (X.1 41 7)), some (.int x15.1)])) (hf := (fun (x15 : (Int32 × XS)) => hS x15.2 M)) (fun x15 => ?_) (fun x23 => ?_) _ _
      · unfold b38_Memory_place
        refine Sp.step rfl rfl rfl rfl ?_
        refine Sp.step rfl rfl rfl rfl ?_
        refine Sp.step rfl rfl rfl rfl ?_
        refine Sp.step rfl rfl rfl rfl ?_
        refine Sp.if2 rfl rfl rfl rfl (fun e16 => ?_) (fun e16 => ?_)
        · exact Sp.jmp (l0 := [some (.ref 41), some (.int x), some (.int y), some (.int (f_Memory_wordsFor x y X)), some (.int (X.1 41 7)), some (.int x15.1)]) ⟨rfl, rfl, rfl, rfl, rfl, rfl, trivial⟩ (fun _ _ h => h)
        · refine Sp.step rfl rfl rfl rfl ?_
          refine Sp.step rfl rfl rfl (xg_D (c := 4) (f := 1) rfl rfl rfl rfl rfl) ?_
          refine Sp.ocrn (fun a17 e18 => ?_)
          refine Sp.step rfl rfl rfl rfl ?_
          refine Sp.step rfl rfl rfl rfl ?_
          refine Sp.ocn (fun n19 e20 => ?_)
          refine Sp.guard (fun e21 => ?_)
          refine Sp.step rfl rfl rfl (xst (xL_ok e20) (by decide) e21) ?_
          refine Sp.step rfl rfl rfl rfl ?_
          refine Sp.step rfl rfl rfl rfl ?_
          exact Sp.jmp (l0 := [some (.ref 41), some (.int x), some (.int y), some (.int (f_Memory_wordsFor x y X)), some (.int (X.1 41 7)), some (.int (x15.1 + 1))]) ⟨rfl, rfl, rfl, rfl, rfl, rfl, trivial⟩ (fun _ _ h => h)
      · refine Sp.step rfl rfl rfl rfl ?_
        refine Sp.step rfl rfl rfl (xg_D (c := 4) (f := 1) rfl rfl rfl rfl rfl) ?_
        refine Sp.ocrn (fun a24 e25 => ?_)
        refine Sp.step rfl rfl rfl rfl ?_
        refine Sp.step rfl rfl rfl rfl ?_
        refine Sp.step rfl rfl rfl rfl ?_
        refine Sp.ocn (fun n26 e27 => ?_)
        refine Sp.guard (fun e28 => ?_)
        refine Sp.step rfl rfl rfl (xst (xL_ok e27) (by decide) e28) ?_
        refine Sp.step rfl rfl rfl rfl ?_
        refine Sp.step rfl rfl rfl rfl ?_
        refine Sp.if2 rfl rfl rfl rfl (fun e30 => ?_) (fun e30 => ?_)
        · refine Sp.step rfl rfl rfl rfl ?_
          refine Sp.step rfl rfl rfl rfl ?_
          refine Sp.step rfl rfl rfl rfl ?_
          refine Sp.step rfl rfl rfl rfl ?_
          refine Sp.step rfl rfl rfl rfl ?_
          refine Sp.call rfl rfl rfl (xrecv (c := 4) (by decide) rfl (by decide +kernel)) s_Memory_setWord (fun x31 => ⟨_, _, ⟨rfl, rfl⟩, ?_⟩)
          refine Sp.id (pc := 93) (l := [some (.ref 41), some (.int x), some (.int y), some (.int (f_Memory_wordsFor x y X)), some (.int (X.1 41 7)), some (.int x23.1)]) (st := []) (h := hS x31 M) ?_
          refine Sp.step rfl rfl rfl rfl ?_
          refine Sp.step rfl rfl rfl rfl ?_
          refine Sp.step rfl rfl rfl (xg_I (c := 4) (f := 7) rfl rfl rfl rfl) ?_
          refine Sp.step rfl rfl rfl rfl ?_
          refine Sp.step rfl rfl rfl rfl ?_
          refine Sp.step rfl rfl rfl (xp_I (c := 4) (f := 7) rfl rfl rfl rfl rfl) ?_
          refine Sp.step rfl rfl rfl rfl ?_
          exact Sp.iret rfl rfl rfl rfl (fun _ _ h => h)
        · refine Sp.step rfl rfl rfl rfl ?_
          refine Sp.step rfl rfl rfl rfl ?_
          refine Sp.if2 rfl rfl rfl rfl (fun e33 => ?_) (fun e33 => ?_)
          · refine Sp.step rfl rfl rfl rfl ?_
            refine Sp.step rfl rfl rfl rfl ?_
            refine Sp.step rfl rfl rfl (xg_I (c := 4) (f := 7) rfl rfl rfl rfl) ?_
            refine Sp.step rfl rfl rfl rfl ?_
            refine Sp.step rfl rfl rfl rfl ?_
            refine Sp.step rfl rfl rfl (xp_I (c := 4) (f := 7) rfl rfl rfl rfl rfl) ?_
            refine Sp.step rfl rfl rfl rfl ?_
            exact Sp.iret rfl rfl rfl rfl (fun _ _ h => h)
          · refine Sp.step rfl rfl rfl rfl ?_
            refine Sp.step rfl rfl rfl rfl ?_
            refine Sp.step rfl rfl rfl rfl ?_
            refine Sp.step rfl rfl rfl rfl ?_
            refine Sp.step rfl rfl rfl rfl ?_
            refine Sp.call rfl rfl rfl (xrecv (c := 4) (by decide) rfl (by decide +kernel)) s_Memory_setWord (fun x35 => ⟨_, _, ⟨rfl, rfl⟩, ?_⟩)
            refine Sp.id (pc := 93) (l := [some (.ref 41), some (.int x), some (.int y), some (.int (f_Memory_wordsFor x y X)), some (.int (X.1 41 7)), some (.int x23.1)]) (st := []) (h := hS x35 M) ?_
            refine Sp.step rfl rfl rfl rfl ?_
            refine Sp.step rfl rfl rfl rfl ?_
            refine Sp.step rfl rfl rfl (xg_I (c := 4) (f := 7) rfl rfl rfl rfl) ?_
            refine Sp.step rfl rfl rfl rfl ?_
            refine Sp.step rfl rfl rfl rfl ?_
            refine Sp.step rfl rfl rfl (xp_I (c := 4) (f := 7) rfl rfl rfl rfl rfl) ?_
            refine Sp.step rfl rfl rfl rfl ?_
            exact Sp.iret rfl rfl rfl rfl (fun _ _ h => h)
    · refine Sp.step rfl rfl rfl rfl ?_
      exact Sp.iret rfl rfl rfl rfl (fun _ _ h => h)
def f_Strand_pushMarked (x : Nat) (y : Int32) (z : Int32) (X : XS) : Option XS := (if (xT X x = some (14, 0)) then (if X.1 x 8 < 0 then some X else (if 10 ≤ X.1 x 8 then some X else (if 440 ≤ (X.1 x 7) + (X.1 x 8) then some X else (ocz (X.2.1 x 5) none (fun a5 => (ocz (xL X 0 a5) none (fun n7 => (if ixo ((X.1 x 7) + (X.1 x 8)) n7 then (lt (xw X a5 ((X.1 x 7) + (X.1 x 8)).toNatClampNeg y) fun X10 => (ocz (X10.2.1 x 6) none (fun a11 => (ocz (xL X10 0 a11) none (fun n13 => (if ixo ((X.1 x 7) + (X.1 x 8)) n13 then (lt (xw X10 a11 ((X.1 x 7) + (X.1 x 8)).toNatClampNeg z) fun X16 => (lt (xw X16 x 8 ((X16.1 x 8) + 1)) fun X17 => some X17)) else none)))))) else none)))))))) else none)
set_option maxRecDepth 100000 in
set_option maxHeartbeats 4000000 in
theorem s_Strand_pushMarked {L : Nat} {xs : Nat → Int32} {X : XS} {M : MS} {x : Nat} {y : Int32} {z : Int32} : Sp (mjOO L xs) 294 0 [some (.ref x), some (.int y), some (.int z), none] [] (hS X M) (f_Strand_pushMarked x y z X) (KVX M) := by
  unfold f_Strand_pushMarked
  refine Sp.step rfl rfl rfl rfl ?_
  refine Sp.guard (fun e1 => ?_)
  refine Sp.step rfl rfl rfl (xg_I (c := 9) (f := 7) rfl rfl e1 rfl) ?_
  refine Sp.step rfl rfl rfl rfl ?_
  refine Sp.step rfl rfl rfl (xg_I (c := 9) (f := 8) rfl rfl e1 rfl) ?_
  refine Sp.step rfl rfl rfl rfl ?_
  refine Sp.step rfl rfl rfl rfl ?_
  refine Sp.step rfl rfl rfl rfl ?_
  refine Sp.step rfl rfl rfl (xg_I (c := 9) (f := 8) rfl rfl e1 rfl) ?_
  refine Sp.if1 rfl rfl rfl rfl (fun e2 => ?_) (fun e2 => ?_)
  · exact Sp.vret rfl rfl rfl (fun _ _ h => h)
  · refine Sp.step rfl rfl rfl rfl ?_
    refine Sp.step rfl rfl rfl (xg_I (c := 9) (f := 8) rfl rfl e1 rfl) ?_
    refine Sp.step rfl rfl rfl rfl ?_
    refine Sp.if2 rfl rfl rfl rfl (fun e3 => ?_) (fun e3 => ?_)
    · exact Sp.vret rfl rfl rfl (fun _ _ h => h)
    · refine Sp.step rfl rfl rfl rfl ?_
      refine Sp.step rfl rfl rfl rfl ?_
      refine Sp.if2 rfl rfl rfl rfl (fun e4 => ?_) (fun e4 => ?_)
      · exact Sp.vret rfl rfl rfl (fun _ _ h => h)
      · refine Sp.step rfl rfl rfl rfl ?_
        refine Sp.step rfl rfl rfl (xg_D (c := 9) (f := 5) rfl rfl e1 rfl (fxP_big (dyn_of (c := 9) e1 rfl))) ?_
        refine Sp.ocrn (fun a5 e6 => ?_)
        refine Sp.step rfl rfl rfl rfl ?_
        refine Sp.step rfl rfl rfl rfl ?_
        refine Sp.ocn (fun n7 e8 => ?_)
        refine Sp.guard (fun e9 => ?_)
        refine Sp.step rfl rfl rfl (xst (xL_ok e8) (by decide) e9) ?_
        refine Sp.step rfl rfl rfl rfl ?_
        refine Sp.step rfl rfl rfl (xg_D (c := 9) (f := 6) rfl rfl e1 rfl (fxP_big (dyn_of (c := 9) e1 rfl))) ?_
        refine Sp.ocrn (fun a11 e12 => ?_)
        refine Sp.step rfl rfl rfl rfl ?_
        refine Sp.step rfl rfl rfl rfl ?_
        refine Sp.ocn (fun n13 e14 => ?_)
        refine Sp.guard (fun e15 => ?_)
        refine Sp.step rfl rfl rfl (xst (xL_ok e14) (by decide) e15) ?_
        refine Sp.step rfl rfl rfl rfl ?_
        refine Sp.step rfl rfl rfl rfl ?_
        refine Sp.step rfl rfl rfl (xg_I (c := 9) (f := 8) rfl rfl e1 rfl) ?_
        refine Sp.step rfl rfl rfl rfl ?_
        refine Sp.step rfl rfl rfl rfl ?_
        refine Sp.step rfl rfl rfl (xp_I (c := 9) (f := 8) rfl rfl e1 rfl rfl) ?_
        exact Sp.vret rfl rfl rfl (fun _ _ h => h)
def f_Strand_pushRef (x : Nat) (y : Int32) (X : XS) : Option XS := (if (xT X x = some (14, 0)) then ((f_Strand_pushMarked x y 1 X).bind fun x2 => some x2) else none)
set_option maxRecDepth 100000 in
set_option maxHeartbeats 4000000 in
theorem s_Strand_pushRef {L : Nat} {xs : Nat → Int32} {X : XS} {M : MS} {x : Nat} {y : Int32} : Sp (mjOO L xs) 293 0 [some (.ref x), some (.int y)] [] (hS X M) (f_Strand_pushRef x y X) (KVX M) := by
  unfold f_Strand_pushRef
  refine Sp.step rfl rfl rfl rfl ?_
  refine Sp.step rfl rfl rfl rfl ?_
  refine Sp.step rfl rfl rfl rfl ?_
  refine Sp.guard (fun e1 => ?_)
  refine Sp.call rfl rfl rfl (xrecv (c := 9) (by decide) e1 (by decide +kernel)) s_Strand_pushMarked (fun x2 => ⟨_, _, ⟨rfl, rfl⟩, ?_⟩)
  refine Sp.id (pc := 6) (l := [some (.ref x), some (.int y)]) (st := []) (h := hS x2 M) ?_
  exact Sp.vret rfl rfl rfl (fun _ _ h => h)
def f_Memory_beginMarking (X : XS) : Option XS := (lt (xw X 41 6 0) fun X1 => some X1)
set_option maxRecDepth 100000 in
set_option maxHeartbeats 4000000 in
theorem s_Memory_beginMarking {L : Nat} {xs : Nat → Int32} {X : XS} {M : MS} : Sp (mjOO L xs) 222 0 [some (.ref 41)] [] (hS X M) (f_Memory_beginMarking X) (KVX M) := by
  unfold f_Memory_beginMarking
  refine Sp.step rfl rfl rfl rfl ?_
  refine Sp.step rfl rfl rfl rfl ?_
  refine Sp.step rfl rfl rfl (xp_I (c := 4) (f := 6) rfl rfl rfl rfl rfl) ?_
  exact Sp.vret rfl rfl rfl (fun _ _ h => h)
def f_Memory_mark (x : Int32) (X : XS) : Option XS := (if x < 1 then some X else (if X.1 41 7 < x + 4 then some X else ((f_Memory_word (x + 3) X).bind fun x3 => (if ¬ x3 = 0 then some X else (ocz (X.2.1 41 2) none (fun a5 => (ocz (xL X 0 a5) none (fun n7 => (if X.1 41 6 < Int32.ofNat n7 then ((f_Memory_setWord (x + 3) 1 X).bind fun x10 => (ocz (x10.2.1 41 2) none (fun a11 => (ocz (xL x10 0 a11) none (fun n13 => (if ixo (x10.1 41 6) n13 then (lt (xw x10 a11 (x10.1 41 6).toNatClampNeg x) fun X16 => (lt (xw X16 41 6 ((X16.1 41 6) + 1)) fun X17 => some X17)) else none)))))) else some X)))))))))
set_option maxRecDepth 100000 in
set_option maxHeartbeats 4000000 in
theorem s_Memory_mark {L : Nat} {xs : Nat → Int32} {X : XS} {M : MS} {x : Int32} : Sp (mjOO L xs) 224 0 [some (.ref 41), some (.int x)] [] (hS X M) (f_Memory_mark x X) (KVX M) := by
  unfold f_Memory_mark
  refine Sp.step rfl rfl rfl rfl ?_
  refine Sp.step rfl rfl rfl rfl ?_
  refine Sp.if2 rfl rfl rfl rfl (fun e1 => ?_) (fun e1 => ?_)
  · exact Sp.vret rfl rfl rfl (fun _ _ h => h)
  · refine Sp.step rfl rfl rfl rfl ?_
    refine Sp.step rfl rfl rfl rfl ?_
    refine Sp.step rfl rfl rfl rfl ?_
    refine Sp.step rfl rfl rfl rfl ?_
    refine Sp.step rfl rfl rfl (xg_I (c := 4) (f := 7) rfl rfl rfl rfl) ?_
    refine Sp.if2 rfl rfl rfl rfl (fun e2 => ?_) (fun e2 => ?_)
    · exact Sp.vret rfl rfl rfl (fun _ _ h => h)
    · refine Sp.step rfl rfl rfl rfl ?_
      refine Sp.step rfl rfl rfl rfl ?_
      refine Sp.step rfl rfl rfl rfl ?_
      refine Sp.step rfl rfl rfl rfl ?_
      refine Sp.call rfl rfl rfl (xrecv (c := 4) (by decide) rfl (by decide +kernel)) s_Memory_word (fun x3 => ⟨_, _, ⟨rfl, rfl⟩, ?_⟩)
      refine Sp.id (pc := 22) (l := [some (.ref 41), some (.int x)]) (st := [.int x3]) (h := hS X M) ?_
      refine Sp.if1 rfl rfl rfl rfl (fun e4 => ?_) (fun e4 => ?_)
      · exact Sp.vret rfl rfl rfl (fun _ _ h => h)
      · refine Sp.step rfl rfl rfl rfl ?_
        refine Sp.step rfl rfl rfl (xg_I (c := 4) (f := 6) rfl rfl rfl rfl) ?_
        refine Sp.step rfl rfl rfl rfl ?_
        refine Sp.step rfl rfl rfl (xg_D (c := 4) (f := 2) rfl rfl rfl rfl rfl) ?_
        refine Sp.ocrn (fun a5 e6 => ?_)
        refine Sp.ocn (fun n7 e8 => ?_)
        refine Sp.step rfl rfl rfl (xlen (xL_ok e8) (by decide)) ?_
        refine Sp.if2 rfl rfl rfl rfl (fun e9 => ?_) (fun e9 => ?_)
        · refine Sp.step rfl rfl rfl rfl ?_
          refine Sp.step rfl rfl rfl rfl ?_
          refine Sp.step rfl rfl rfl rfl ?_
          refine Sp.step rfl rfl rfl rfl ?_
          refine Sp.step rfl rfl rfl rfl ?_
          refine Sp.call rfl rfl rfl (xrecv (c := 4) (by decide) rfl (by decide +kernel)) s_Memory_setWord (fun x10 => ⟨_, _, ⟨rfl, rfl⟩, ?_⟩)
          refine Sp.id (pc := 46) (l := [some (.ref 41), some (.int x)]) (st := []) (h := hS x10 M) ?_
          refine Sp.step rfl rfl rfl rfl ?_
          refine Sp.step rfl rfl rfl (xg_D (c := 4) (f := 2) rfl rfl rfl rfl rfl) ?_
          refine Sp.ocrn (fun a11 e12 => ?_)
          refine Sp.step rfl rfl rfl rfl ?_
          refine Sp.step rfl rfl rfl (xg_I (c := 4) (f := 6) rfl rfl rfl rfl) ?_
          refine Sp.step rfl rfl rfl rfl ?_
          refine Sp.ocn (fun n13 e14 => ?_)
          refine Sp.guard (fun e15 => ?_)
          refine Sp.step rfl rfl rfl (xst (xL_ok e14) (by decide) e15) ?_
          refine Sp.step rfl rfl rfl rfl ?_
          refine Sp.step rfl rfl rfl rfl ?_
          refine Sp.step rfl rfl rfl (xg_I (c := 4) (f := 6) rfl rfl rfl rfl) ?_
          refine Sp.step rfl rfl rfl rfl ?_
          refine Sp.step rfl rfl rfl rfl ?_
          refine Sp.step rfl rfl rfl (xp_I (c := 4) (f := 6) rfl rfl rfl rfl rfl) ?_
          exact Sp.vret rfl rfl rfl (fun _ _ h => h)
        · exact Sp.vret rfl rfl rfl (fun _ _ h => h)
def b3_Memory_markRow_57_58 (x : Int32) (x8 : (Int32 × XS)) : Option ((Int32 × XS) ⊕ (Int32 × XS)) := (if x ≤ x8.1 then some (.inr (x8.1, x8.2)) else (if 8 ≤ x8.1 then some (.inr (x8.1, x8.2)) else (if ixo x8.1 8 then (if x8.2.1 58 x8.1.toNatClampNeg = 0 then some (.inl (x8.1 + 1, x8.2)) else ((f_Memory_mark (x8.2.1 57 x8.1.toNatClampNeg) x8.2).bind fun x14 => some (.inl (x8.1 + 1, x14)))) else none)))
def f_Memory_markRow_57_58 (x : Int32) (X : XS) : Option XS := ((lp (b3_Memory_markRow_57_58 x) 10000 ((0 : Int32), X)).bind fun x15 => some x15.2)
set_option maxRecDepth 100000 in
set_option maxHeartbeats 4000000 in
theorem s_Memory_markRow_57_58 {L : Nat} {xs : Nat → Int32} {X : XS} {M : MS} {x : Int32} : Sp (mjOO L xs) 223 0 [some (.ref 41), some (.ref 57), some (.ref 58), some (.int x), none] [] (hS X M) (f_Memory_markRow_57_58 x X) (KVX M) := by
  unfold f_Memory_markRow_57_58
  refine Sp.step rfl rfl rfl rfl ?_
  refine Sp.step rfl rfl rfl rfl ?_
  refine Sp.weak (l0 := [some (.ref 41), some (.ref 57), some (.ref 58), some (.int x), some (.int 0)]) ⟨rfl, rfl, rfl, rfl, rfl, trivial⟩ ?_
  refine Sp.loopX (pe := 44) (mf := (fun (x8 : (Int32 × XS)) => [some (.ref 41), some (.ref 57), some (.ref 58), some (.int x), some (.int x8.1)])) (hf := (fun (x8 : (Int32 × XS)) => hS x8.2 M)) (fun x8 => ?_) (fun x15 => ?_) _ _
  · unfold b3_Memory_markRow_57_58
    refine Sp.step rfl rfl rfl rfl ?_
    refine Sp.step rfl rfl rfl rfl ?_
    refine Sp.if2 rfl rfl rfl rfl (fun e9 => ?_) (fun e9 => ?_)
    · exact Sp.jmp (l0 := [some (.ref 41), some (.ref 57), some (.ref 58), some (.int x), some (.int x8.1)]) ⟨rfl, rfl, rfl, rfl, rfl, trivial⟩ (fun _ _ h => h)
    · refine Sp.step rfl rfl rfl rfl ?_
      refine Sp.step rfl rfl rfl rfl ?_
      refine Sp.step rfl rfl rfl (xlen rfl (by decide)) ?_
      refine Sp.if2 rfl rfl rfl rfl (fun e10 => ?_) (fun e10 => ?_)
      · exact Sp.jmp (l0 := [some (.ref 41), some (.ref 57), some (.ref 58), some (.int x), some (.int x8.1)]) ⟨rfl, rfl, rfl, rfl, rfl, trivial⟩ (fun _ _ h => h)
      · refine Sp.step rfl rfl rfl rfl ?_
        refine Sp.step rfl rfl rfl rfl ?_
        refine Sp.step rfl rfl rfl (xlen rfl (by decide)) ?_
        refine Sp.prune (c := 8 ≤ x8.1) ?_
        refine Sp.if2 rfl rfl rfl rfl (fun e11 => absurd e11 e10) (fun e11 => ?_)
        refine Sp.step rfl rfl rfl rfl ?_
        refine Sp.step rfl rfl rfl rfl ?_
        refine Sp.guard (fun e12 => ?_)
        refine Sp.step rfl rfl rfl (xld rfl (by decide) e12) ?_
        refine Sp.if1 rfl rfl rfl rfl (fun e13 => ?_) (fun e13 => ?_)
        · refine Sp.step rfl rfl rfl rfl ?_
          refine Sp.step rfl rfl rfl rfl ?_
          exact Sp.jmp (l0 := [some (.ref 41), some (.ref 57), some (.ref 58), some (.int x), some (.int (x8.1 + 1))]) ⟨rfl, rfl, rfl, rfl, rfl, trivial⟩ (fun _ _ h => h)
        · refine Sp.step rfl rfl rfl rfl ?_
          refine Sp.step rfl rfl rfl rfl ?_
          refine Sp.step rfl rfl rfl rfl ?_
          refine Sp.step rfl rfl rfl (xld rfl (by decide) e12) ?_
          refine Sp.call rfl rfl rfl (xrecv (c := 4) (by decide) rfl (by decide +kernel)) s_Memory_mark (fun x14 => ⟨_, _, ⟨rfl, rfl⟩, ?_⟩)
          refine Sp.id (pc := 38) (l := [some (.ref 41), some (.ref 57), some (.ref 58), some (.int x), some (.int x8.1)]) (st := []) (h := hS x14 M) ?_
          refine Sp.step rfl rfl rfl rfl ?_
          refine Sp.step rfl rfl rfl rfl ?_
          exact Sp.jmp (l0 := [some (.ref 41), some (.ref 57), some (.ref 58), some (.int x), some (.int (x8.1 + 1))]) ⟨rfl, rfl, rfl, rfl, rfl, trivial⟩ (fun _ _ h => h)
  · exact Sp.vret rfl rfl rfl (fun _ _ h => h)
def f_Strand_slots (x : Nat) (X : XS) : Option Int32 := (if (xT X x = some (14, 0)) then some ((X.1 x 2) * 22) else none)
set_option maxRecDepth 100000 in
set_option maxHeartbeats 4000000 in
theorem s_Strand_slots {L : Nat} {xs : Nat → Int32} {X : XS} {M : MS} {x : Nat} : Sp (mjOO L xs) 283 0 [some (.ref x)] [] (hS X M) (f_Strand_slots x X) (KQ (hS X M)) := by
  unfold f_Strand_slots
  refine Sp.step rfl rfl rfl rfl ?_
  refine Sp.guard (fun e1 => ?_)
  refine Sp.step rfl rfl rfl (xg_I (c := 9) (f := 2) rfl rfl e1 rfl) ?_
  refine Sp.step rfl rfl rfl rfl ?_
  refine Sp.step rfl rfl rfl rfl ?_
  exact Sp.iret rfl rfl rfl rfl (fun _ _ h => h)
def b3_Memory_markRow (x : Nat) (y : Nat) (z : Int32) (x13 : (Int32 × XS)) : Option ((Int32 × XS) ⊕ (Int32 × XS)) := (if z ≤ x13.1 then some (.inr (x13.1, x13.2)) else (ocz (xL x13.2 0 x) none (fun n15 => (if Int32.ofNat n15 ≤ x13.1 then some (.inr (x13.1, x13.2)) else (ocz (xL x13.2 0 y) none (fun n18 => (if Int32.ofNat n18 ≤ x13.1 then some (.inr (x13.1, x13.2)) else (if ixo x13.1 n18 then (if x13.2.1 y x13.1.toNatClampNeg = 0 then some (.inl (x13.1 + 1, x13.2)) else (if ixo x13.1 n15 then ((f_Memory_mark (x13.2.1 x x13.1.toNatClampNeg) x13.2).bind fun x24 => some (.inl (x13.1 + 1, x24))) else none)) else none))))))))
def f_Memory_markRow (x : Nat) (y : Nat) (z : Int32) (X : XS) : Option XS := ((lp (b3_Memory_markRow x y z) 10000 ((0 : Int32), X)).bind fun x25 => some x25.2)
set_option maxRecDepth 100000 in
set_option maxHeartbeats 4000000 in
theorem s_Memory_markRow {L : Nat} {xs : Nat → Int32} {X : XS} {M : MS} {x : Nat} {y : Nat} {z : Int32} : Sp (mjOO L xs) 223 0 [some (.ref 41), some (.ref x), some (.ref y), some (.int z), none] [] (hS X M) (f_Memory_markRow x y z X) (KVX M) := by
  unfold f_Memory_markRow
  refine Sp.step rfl rfl rfl rfl ?_
  refine Sp.step rfl rfl rfl rfl ?_
  refine Sp.weak (l0 := [some (.ref 41), some (.ref x), some (.ref y), some (.int z), some (.int 0)]) ⟨rfl, rfl, rfl, rfl, rfl, trivial⟩ ?_
  refine Sp.loopX (pe := 44) (mf := (fun (x13 : (Int32 × XS)) => [some (.ref 41), some (.ref x), some (.ref y), some (.int z), some (.int x13.1)])) (hf := (fun (x13 : (Int32 × XS)) => hS x13.2 M)) (fun x13 => ?_) (fun x25 => ?_) _ _
  · unfold b3_Memory_markRow
    refine Sp.step rfl rfl rfl rfl ?_
    refine Sp.step rfl rfl rfl rfl ?_
    refine Sp.if2 rfl rfl rfl rfl (fun e14 => ?_) (fun e14 => ?_)
    · exact Sp.jmp (l0 := [some (.ref 41), some (.ref x), some (.ref y), some (.int z), some (.int x13.1)]) ⟨rfl, rfl, rfl, rfl, rfl, trivial⟩ (fun _ _ h => h)
    · refine Sp.step rfl rfl rfl rfl ?_
      refine Sp.step rfl rfl rfl rfl ?_
      refine Sp.ocn (fun n15 e16 => ?_)
      refine Sp.step rfl rfl rfl (xlen (xL_ok e16) (by decide)) ?_
      refine Sp.if2 rfl rfl rfl rfl (fun e17 => ?_) (fun e17 => ?_)
      · exact Sp.jmp (l0 := [some (.ref 41), some (.ref x), some (.ref y), some (.int z), some (.int x13.1)]) ⟨rfl, rfl, rfl, rfl, rfl, trivial⟩ (fun _ _ h => h)
      · refine Sp.step rfl rfl rfl rfl ?_
        refine Sp.step rfl rfl rfl rfl ?_
        refine Sp.ocn (fun n18 e19 => ?_)
        refine Sp.step rfl rfl rfl (xlen (xL_ok e19) (by decide)) ?_
        refine Sp.if2 rfl rfl rfl rfl (fun e20 => ?_) (fun e20 => ?_)
        · exact Sp.jmp (l0 := [some (.ref 41), some (.ref x), some (.ref y), some (.int z), some (.int x13.1)]) ⟨rfl, rfl, rfl, rfl, rfl, trivial⟩ (fun _ _ h => h)
        · refine Sp.step rfl rfl rfl rfl ?_
          refine Sp.step rfl rfl rfl rfl ?_
          refine Sp.guard (fun e21 => ?_)
          refine Sp.step rfl rfl rfl (xld (xL_ok e19) (by decide) e21) ?_
          refine Sp.if1 rfl rfl rfl rfl (fun e22 => ?_) (fun e22 => ?_)
          · refine Sp.step rfl rfl rfl rfl ?_
            refine Sp.step rfl rfl rfl rfl ?_
            exact Sp.jmp (l0 := [some (.ref 41), some (.ref x), some (.ref y), some (.int z), some (.int (x13.1 + 1))]) ⟨rfl, rfl, rfl, rfl, rfl, trivial⟩ (fun _ _ h => h)
          · refine Sp.step rfl rfl rfl rfl ?_
            refine Sp.step rfl rfl rfl rfl ?_
            refine Sp.step rfl rfl rfl rfl ?_
            refine Sp.guard (fun e23 => ?_)
            refine Sp.step rfl rfl rfl (xld (xL_ok e16) (by decide) e23) ?_
            refine Sp.call rfl rfl rfl (xrecv (c := 4) (by decide) rfl (by decide +kernel)) s_Memory_mark (fun x24 => ⟨_, _, ⟨rfl, rfl⟩, ?_⟩)
            refine Sp.id (pc := 38) (l := [some (.ref 41), some (.ref x), some (.ref y), some (.int z), some (.int x13.1)]) (st := []) (h := hS x24 M) ?_
            refine Sp.step rfl rfl rfl rfl ?_
            refine Sp.step rfl rfl rfl rfl ?_
            exact Sp.jmp (l0 := [some (.ref 41), some (.ref x), some (.ref y), some (.int z), some (.int (x13.1 + 1))]) ⟨rfl, rfl, rfl, rfl, rfl, trivial⟩ (fun _ _ h => h)
  · exact Sp.vret rfl rfl rfl (fun _ _ h => h)
